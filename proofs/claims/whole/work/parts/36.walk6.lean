section GEN
variable {p : Program} {l : Launch} {e : Env} {s : State} {m : MethodId} {args : Array Value} {below : List Frame} {meth : Method} {c : Code} {D : va_G} {ad : Nat → Nat} {ca : Nat → ClassId} {b0 : Nat}
set_option maxHeartbeats 4000000 in
set_option maxRecDepth 100000 in
theorem w_X7_findWays_8 {N : nb_M} {M' : nb_M} (had : nb_AD ad b0) (X : nb_X p s m args meth c cX7_findWays 7 RX7 none wsX7_findWays D ca b0) : ∀ (n : Nat) (M : nb_M) (x1 : Int32) (x2 : Int32) (x3 : Int32), f_X7_findWays_8 n M x1 x2 x3 = some (M') → ∀ (H : Heap) (locs : List Loc), va_P D vwCl (nb_w ad ca N M) H → va_S (fun q => b0 ≤ q) s.heap H locs → ∀ ls : Array Slot, lv_has ls 7 [(0, .ref (ad 52)), (1, .int x1), (2, .int x2), (3, .int x3)] → W p l e (nb_R 5) s m args below meth c H locs 0 0 (nb_Q below args s D ad ca b0 none N M') (F0 m 8 ls []) := by
  obtain ⟨hx, hb, hml, hown, hts, hr, hlk, hK, hZ⟩ := id X
  have w_1 := hts (.fieldLink RX7 194 "NineBreakagesModel" "all" "J") (by decide +kernel)
  have in7 : ∀ w ∈ u_ws RX7 TX7 21, w ∈ wsX7_findWays := fun w q => List.mem_cons_of_mem _ (List.mem_append_right _ q)
  have w_3 := hts (.fieldLink RX7 40 "NineBreakagesModel" "ways" "[J") (by decide +kernel)
  intro n
  induction n with
  | zero =>
    intro M x1 x2 x3 h
    rw [f_X7_findWays_8] at h
    cases h
  | succ n ih =>
    intro M x1 x2 x3 h H locs hP hS ls hl
    rw [f_X7_findWays_8] at h
    refine lv_iload_n hx hb dX7_findWays_8 rfl (lv_at hl 3 rfl) ?_
    refine lv_bipush (v := (9 : Int32)) hx hb dX7_findWays_9 (by decide) ?_
    refine lv_icmp_gt (tgt := 35) hx hb dX7_findWays_11 (by decide) (fun c_2 => ?_) (fun c_2 => ?_)
    · have h := nb_t c_2 h
      refine lv_aload_n hx hb dX7_findWays_35 rfl (lv_at hl 0 rfl) ?_
      refine lv_lconst (v := (1 : Int64)) hx hb dX7_findWays_36 (by decide) ?_
      refine nb_put (C := RX7) (T := TX7) (NN := 21) hx hb had hts in7 tyX7 tyX7_ok nmX7 hown hK hP hS nb_a52 rfl 17 (by decide) w_1 rfl (ty := .long) (by decide +kernel) rfl rfl (Nat.le_of_ble_eq_true rfl) (nb_p52_17 _) dX7_findWays_37 (fun H locs hP hS => ?_)
      obtain ⟨M_3, e_3, h⟩ := nb_nE h
      rw [e_3] at hP
      refine lv_iconst (v := (0 : Int32)) hx hb dX7_findWays_40 (by decide) ?_
      refine lv_istore_n (lv' := [(3, .int (0 : Int32)), (0, .ref (ad 52)), (1, .int x1), (2, .int x2)]) hx hb dX7_findWays_41 rfl hl (by decide) rfl (fun ls hl => ?_)
      exact w_X7_findWays_42 had X nb_F _ _ _ _ h _ _ hP hS _ (lv_sub hl [1, 2, 3, 0] rfl)
    · have h := nb_f c_2 h
      refine lv_aload_n hx hb dX7_findWays_14 rfl (lv_at hl 0 rfl) ?_
      refine va_get (v := .ref (ad 63)) (C := RX7) (T := TX7) (N := 21) hx hb hts in7 hown hK.1 hP 52 nb_a52 rfl 16 (by decide) w_3 (fun _ h9 => h9) rfl dX7_findWays_15 ?_
      refine lv_iload_n hx hb dX7_findWays_18 rfl (lv_at hl 3 rfl) ?_
      refine lv_iload_n hx hb dX7_findWays_19 rfl (lv_at hl 3 rfl) ?_
      refine lv_if_ne (tgt := 27) hx hb dX7_findWays_20 (by decide) (fun c_40 => ?_) (fun c_40 => ?_)
      · have h := nb_f c_40 h
        refine lv_lconst (v := (0 : Int64)) hx hb dX7_findWays_27 (by decide) ?_
        obtain ⟨c_41, h⟩ := nb_c h
        refine nb_last hx hb had hK hP hS nb_a63 c_41 (nb_s63 _ _) dX7_findWays_28 (fun H locs hP hS => ?_)
        obtain ⟨M_42, e_42, h⟩ := nb_nE h
        rw [e_42] at hP
        refine lv_iinc (v := x3 + 1) (lv' := [(3, .int (x3 + 1)), (0, .ref (ad 52)), (1, .int x1), (2, .int x2)]) hx hb dX7_findWays_29 hl (k := 3) rfl (congrArg (HAdd.hAdd x3) (by decide)) (by decide) rfl (fun ls hl => ?_)
        refine lv_goto (tgt := 8) hx hb dX7_findWays_32 (by decide) ?_
        exact ih _ _ _ _ h _ _ hP hS _ (lv_sub hl [1, 2, 3, 0] rfl)
      · have h := nb_t c_40 h
        refine lv_lconst (v := (1 : Int64)) hx hb dX7_findWays_23 (by decide) ?_
        refine lv_goto (tgt := 28) hx hb dX7_findWays_24 (by decide) ?_
        obtain ⟨c_43, h⟩ := nb_c h
        refine nb_last hx hb had hK hP hS nb_a63 c_43 (nb_s63 _ _) dX7_findWays_28 (fun H locs hP hS => ?_)
        obtain ⟨M_44, e_44, h⟩ := nb_nE h
        rw [e_44] at hP
        refine lv_iinc (v := x3 + 1) (lv' := [(3, .int (x3 + 1)), (0, .ref (ad 52)), (1, .int x1), (2, .int x2)]) hx hb dX7_findWays_29 hl (k := 3) rfl (congrArg (HAdd.hAdd x3) (by decide)) (by decide) rfl (fun ls hl => ?_)
        refine lv_goto (tgt := 8) hx hb dX7_findWays_32 (by decide) ?_
        exact ih _ _ _ _ h _ _ hP hS _ (lv_sub hl [1, 2, 3, 0] rfl)
set_option maxHeartbeats 4000000 in
set_option maxRecDepth 100000 in
theorem k_X7_findWays {M' : nb_M} (had : nb_AD ad b0) (M N : nb_M) (p0 : Int32) (h : f_X7_findWays M p0 = some (M')) : nb_C l D ad ca b0 yX7_findWays wsX7_findWays 5 [.ref (ad 52), .int p0] N M none N M' := by
  refine nb_of (cc := cX7_findWays) (maxL := 7) (ret := none) (own := RX7) (by decide +kernel) rfl rfl (Nat.le_of_ble_eq_true rfl) ?_
  intro p e s m args below meth c ls X hP hS hl
  have hl : lv_has ls 7 [(0, .ref (ad 52)), (1, .int p0)] := hl
  obtain ⟨hx, hb, hml, hown, hts, hr, hlk, hK, hZ⟩ := id X
  unfold f_X7_findWays at h
  refine lv_aload_n hx hb dX7_findWays_0 rfl (lv_at hl 0 rfl) ?_
  refine lv_iload_n hx hb dX7_findWays_1 rfl (lv_at hl 1 rfl) ?_
  obtain ⟨r_1, e_1, h⟩ := nb_oE h
  refine nb_callV (n := 1) (As := [.int p0]) (rest := []) hx hb hml hown hts hK hZ hP hS (k_X7_leftOf had M N p0 e_1) gX7_findWays_X7_leftOf rfl (by decide +kernel) (nb_rm (Nat.le_of_ble_eq_true rfl) (Nat.le_of_ble_eq_true rfl)) nb_a52 rfl rfl rfl hl.1 rfl (Nat.le_of_ble_eq_true rfl) dX7_findWays_2 (fun H locs hP hS => ?_)
  refine W.eq (g2 := F0 m 5 ls [.int r_1]) rfl ?_
  refine lv_istore_n (lv' := [(2, .int r_1), (0, .ref (ad 52)), (1, .int p0)]) hx hb dX7_findWays_5 rfl hl (by decide) rfl (fun ls hl => ?_)
  refine lv_iconst (v := (0 : Int32)) hx hb dX7_findWays_6 (by decide) ?_
  refine lv_istore_n (lv' := [(3, .int (0 : Int32)), (2, .int r_1), (0, .ref (ad 52)), (1, .int p0)]) hx hb dX7_findWays_7 rfl hl (by decide) rfl (fun ls hl => ?_)
  exact w_X7_findWays_8 had X nb_F _ _ _ _ h _ _ hP hS _ (lv_sub hl [2, 3, 1, 0] rfl)
set_option maxHeartbeats 4000000 in
set_option maxRecDepth 100000 in
theorem w_X7_partOf_6 {N : nb_M} {M : nb_M} {r : Int64} (had : nb_AD ad b0) (X : nb_X p s m args meth c cX7_partOf 11 RX7 (some .long) wsX7_partOf D ca b0) : ∀ (n : Nat) (x0 : Int64) (x2 : Int64) (x4 : Int32) (x5 : Int64) (x7 : Int64), f_X7_partOf_6 n x0 x2 x4 x5 x7 = some r → ∀ (H : Heap) (locs : List Loc), va_P D vwCl (nb_w ad ca N M) H → va_S (fun q => b0 ≤ q) s.heap H locs → ∀ ls : Array Slot, lv_has ls 11 [(0, .long x0), (2, .long x2), (4, .int x4), (5, .long x5), (7, .long x7)] → W p l e (nb_R 0) s m args below meth c H locs 0 0 (nb_Q below args s D ad ca b0 (some (.long r)) N M) (F0 m 6 ls []) := by
  obtain ⟨hx, hb, hml, hown, hts, hr, hlk, hK, hZ⟩ := id X
  intro n
  induction n with
  | zero =>
    intro x0 x2 x4 x5 x7 h
    rw [f_X7_partOf_6] at h
    cases h
  | succ n ih =>
    intro x0 x2 x4 x5 x7 h H locs hP hS ls hl
    rw [f_X7_partOf_6] at h
    refine lv_lload hx hb dX7_partOf_6 (lv_at hl 3 rfl) ?_
    refine lv_lconst (v := (0 : Int64)) hx hb dX7_partOf_8 (by decide) ?_
    refine W.lcmp hx hb dX7_partOf_9 ?_
    refine lv_if_eq (tgt := 31) hx hb dX7_partOf_10 (by decide) (fun c_1 => ?_) (fun c_1 => ?_)
    · have h := nb_t c_1 h
      refine lv_iload hx hb dX7_partOf_31 (lv_at hl 2 rfl) ?_
      refine lv_if_ne (tgt := 43) hx hb dX7_partOf_33 (by decide) (fun c_2 => ?_) (fun c_2 => ?_)
      · have h := nb_f c_2 h
        refine lv_lload_n hx hb dX7_partOf_43 rfl (lv_at hl 1 rfl) ?_
        refine lv_lload hx hb dX7_partOf_44 (lv_at hl 4 rfl) ?_
        obtain ⟨c_3, h⟩ := nb_c h
        refine lv_ldiv hx hb dX7_partOf_46 c_3 ?_
        obtain rfl := nb_e1 h
        exact nb_lret hx hb hr hlk hP hS dX7_partOf_47
      · have h := nb_t c_2 h
        refine lv_lload_n hx hb dX7_partOf_36 rfl (lv_at hl 0 rfl) ?_
        refine lv_lload hx hb dX7_partOf_37 (lv_at hl 4 rfl) ?_
        obtain ⟨c_4, h⟩ := nb_c h
        refine lv_ldiv hx hb dX7_partOf_39 c_4 ?_
        refine lv_goto (tgt := 47) hx hb dX7_partOf_40 (by decide) ?_
        obtain rfl := nb_e1 h
        exact nb_lret hx hb hr hlk hP hS dX7_partOf_47
    · have h := nb_f c_1 h
      refine lv_lload hx hb dX7_partOf_13 (lv_at hl 4 rfl) ?_
      refine lv_lload hx hb dX7_partOf_15 (lv_at hl 3 rfl) ?_
      obtain ⟨c_5, h⟩ := nb_c h
      refine lv_lrem hx hb dX7_partOf_17 c_5 ?_
      refine lv_topl (fun v_6 e_6 => ?_)
      have h := nb_nA e_6 h
      refine lv_lstore (lv' := [(9, .long v_6), (0, .long x0), (2, .long x2), (4, .int x4), (5, .long x5), (7, .long x7)]) hx hb dX7_partOf_18 hl (by decide) rfl (fun ls hl => ?_)
      refine lv_lload hx hb dX7_partOf_20 (lv_at hl 4 rfl) ?_
      refine lv_lstore (lv' := [(7, .long x5), (9, .long v_6), (0, .long x0), (2, .long x2), (4, .int x4), (5, .long x5)]) hx hb dX7_partOf_22 hl (by decide) rfl (fun ls hl => ?_)
      refine lv_lload hx hb dX7_partOf_24 (lv_at hl 1 rfl) ?_
      refine lv_lstore (lv' := [(5, .long v_6), (7, .long x5), (9, .long v_6), (0, .long x0), (2, .long x2), (4, .int x4)]) hx hb dX7_partOf_26 hl (by decide) rfl (fun ls hl => ?_)
      refine lv_goto (tgt := 6) hx hb dX7_partOf_28 (by decide) ?_
      exact ih _ _ _ _ _ h _ _ hP hS _ (lv_sub hl [3, 4, 5, 0, 1] rfl)
set_option maxHeartbeats 4000000 in
set_option maxRecDepth 100000 in
theorem k_X7_partOf {r : Int64} (had : nb_AD ad b0) (M N : nb_M) (p0 : Int64) (p1 : Int64) (p2 : Int32) (h : f_X7_partOf p0 p1 p2 = some r) : nb_C l D ad ca b0 yX7_partOf wsX7_partOf 0 [.long p0, .long p1, .int p2] N M (some (.long r)) N M := by
  refine nb_of (cc := cX7_partOf) (maxL := 11) (ret := (some .long)) (own := RX7) (by decide +kernel) rfl rfl (Nat.le_of_ble_eq_true rfl) ?_
  intro p e s m args below meth c ls X hP hS hl
  have hl : lv_has ls 11 [(0, .long p0), (2, .long p1), (4, .int p2)] := hl
  obtain ⟨hx, hb, hml, hown, hts, hr, hlk, hK, hZ⟩ := id X
  unfold f_X7_partOf at h
  refine lv_lload_n hx hb dX7_partOf_0 rfl (lv_at hl 0 rfl) ?_
  refine lv_lstore (lv' := [(5, .long p0), (0, .long p0), (2, .long p1), (4, .int p2)]) hx hb dX7_partOf_1 hl (by decide) rfl (fun ls hl => ?_)
  refine lv_lload_n hx hb dX7_partOf_3 rfl (lv_at hl 2 rfl) ?_
  refine lv_lstore (lv' := [(7, .long p1), (5, .long p0), (0, .long p0), (2, .long p1), (4, .int p2)]) hx hb dX7_partOf_4 hl (by decide) rfl (fun ls hl => ?_)
  exact w_X7_partOf_6 had X nb_F _ _ _ _ _ h _ _ hP hS _ (lv_sub hl [2, 3, 4, 1, 0] rfl)
set_option maxHeartbeats 4000000 in
set_option maxRecDepth 100000 in
theorem k_X7_odds {r : Int64} {M' : nb_M} (had : nb_AD ad b0) (M N : nb_M) (p0 : Int32) (p1 : Int32) (p2 : Int32) (h : f_X7_odds M p0 p1 p2 = some (r, M')) : nb_C l D ad ca b0 yX7_odds wsX7_odds 6 [.ref (ad 52), .int p0, .int p1, .int p2] N M (some (.long r)) N M' := by
  refine nb_of (cc := cX7_odds) (maxL := 4) (ret := (some .long)) (own := RX7) (by decide +kernel) rfl rfl (Nat.le_of_ble_eq_true rfl) ?_
  intro p e s m args below meth c ls X hP hS hl
  have hl : lv_has ls 4 [(0, .ref (ad 52)), (1, .int p0), (2, .int p1), (3, .int p2)] := hl
  obtain ⟨hx, hb, hml, hown, hts, hr, hlk, hK, hZ⟩ := id X
  have w_1 := hts (.constant RX7 77 (-1000000001)) (by decide +kernel)
  have w_2 := hts (.fieldLink RX7 40 "NineBreakagesModel" "ways" "[J") (by decide +kernel)
  have in7 : ∀ w ∈ u_ws RX7 TX7 21, w ∈ wsX7_odds := fun w q => List.mem_cons_of_mem _ (List.mem_append_right _ q)
  have w_4 := hts (.fieldLink RX7 194 "NineBreakagesModel" "all" "J") (by decide +kernel)
  unfold f_X7_odds at h
  refine lv_aload_n hx hb dX7_odds_0 rfl (lv_at hl 0 rfl) ?_
  refine lv_iload_n hx hb dX7_odds_1 rfl (lv_at hl 1 rfl) ?_
  refine nb_callV (n := 1) (As := [.int p0]) (rest := []) hx hb hml hown hts hK hZ hP hS (k_X7_isPerson had M N p0) gX7_odds_X7_isPerson rfl (by decide +kernel) (nb_rm (Nat.le_of_ble_eq_true rfl) (Nat.le_of_ble_eq_true rfl)) nb_a52 rfl rfl rfl hl.1 rfl (Nat.le_of_ble_eq_true rfl) dX7_odds_2 (fun H locs hP hS => ?_)
  refine W.eq (g2 := F0 m 5 ls [.int (f_X7_isPerson M p0)]) rfl ?_
  refine lv_if_eq (tgt := 27) hx hb dX7_odds_5 (by decide) (fun c_2 => ?_) (fun c_2 => ?_)
  · have h := nb_t c_2 h
    refine lv_aload_n hx hb dX7_odds_27 rfl (lv_at hl 0 rfl) ?_
    refine lv_ldc (v := (-1000000001 : Int32)) hx hb hown w_1 dX7_odds_28 ?_
    obtain ⟨r_3, M_3, e_3, h⟩ := nb_pE h
    refine nb_callV (n := 1) (As := [.int (-1000000001 : Int32)]) (rest := []) hx hb hml hown hts hK hZ hP hS (k_X7_error had M N (-1000000001 : Int32) e_3) gX7_odds_X7_error rfl (by decide +kernel) (nb_rm (Nat.le_of_ble_eq_true rfl) (Nat.le_of_ble_eq_true rfl)) nb_a52 rfl rfl rfl hl.1 rfl (Nat.le_of_ble_eq_true rfl) dX7_odds_30 (fun H locs hP hS => ?_)
    refine W.eq (g2 := F0 m 33 ls [.int r_3]) rfl ?_
    refine lv_i2l hx hb dX7_odds_33 rfl ?_
    obtain ⟨rfl, rfl⟩ := nb_e2 h
    exact nb_lret hx hb hr hlk hP hS dX7_odds_34
  · have h := nb_f c_2 h
    refine lv_iload_n hx hb dX7_odds_8 rfl (lv_at hl 2 rfl) ?_
    refine lv_iconst (v := (0 : Int32)) hx hb dX7_odds_9 (by decide) ?_
    refine lv_bipush (v := (9 : Int32)) hx hb dX7_odds_10 (by decide) ?_
    refine nb_callS (n := 3) (As := [.int p1, .int (0 : Int32), .int (9 : Int32)]) (rest := []) hx hb hml hown hts hK hZ hP hS (k_X7_in had M N p1 (0 : Int32) (9 : Int32)) gX7_odds_X7_in rfl (by decide +kernel) (nb_rm (Nat.le_of_ble_eq_true rfl) (Nat.le_of_ble_eq_true rfl)) rfl hl.1 rfl (Nat.le_of_ble_eq_true rfl) dX7_odds_12 (fun H locs hP hS => ?_)
    refine W.eq (g2 := F0 m 15 ls [.int (f_X7_in p1 (0 : Int32) (9 : Int32))]) rfl ?_
    refine lv_if_eq (tgt := 27) hx hb dX7_odds_15 (by decide) (fun c_5 => ?_) (fun c_5 => ?_)
    · have h := nb_t c_5 h
      refine lv_aload_n hx hb dX7_odds_27 rfl (lv_at hl 0 rfl) ?_
      refine lv_ldc (v := (-1000000001 : Int32)) hx hb hown w_1 dX7_odds_28 ?_
      obtain ⟨r_6, M_6, e_6, h⟩ := nb_pE h
      refine nb_callV (n := 1) (As := [.int (-1000000001 : Int32)]) (rest := []) hx hb hml hown hts hK hZ hP hS (k_X7_error had M N (-1000000001 : Int32) e_6) gX7_odds_X7_error rfl (by decide +kernel) (nb_rm (Nat.le_of_ble_eq_true rfl) (Nat.le_of_ble_eq_true rfl)) nb_a52 rfl rfl rfl hl.1 rfl (Nat.le_of_ble_eq_true rfl) dX7_odds_30 (fun H locs hP hS => ?_)
      refine W.eq (g2 := F0 m 33 ls [.int r_6]) rfl ?_
      refine lv_i2l hx hb dX7_odds_33 rfl ?_
      obtain ⟨rfl, rfl⟩ := nb_e2 h
      exact nb_lret hx hb hr hlk hP hS dX7_odds_34
    · have h := nb_f c_5 h
      refine lv_iload_n hx hb dX7_odds_18 rfl (lv_at hl 3 rfl) ?_
      refine lv_iconst (v := (0 : Int32)) hx hb dX7_odds_19 (by decide) ?_
      refine lv_iconst (v := (1 : Int32)) hx hb dX7_odds_20 (by decide) ?_
      refine nb_callS (n := 3) (As := [.int p2, .int (0 : Int32), .int (1 : Int32)]) (rest := []) hx hb hml hown hts hK hZ hP hS (k_X7_in had M N p2 (0 : Int32) (1 : Int32)) gX7_odds_X7_in rfl (by decide +kernel) (nb_rm (Nat.le_of_ble_eq_true rfl) (Nat.le_of_ble_eq_true rfl)) rfl hl.1 rfl (Nat.le_of_ble_eq_true rfl) dX7_odds_21 (fun H locs hP hS => ?_)
      refine W.eq (g2 := F0 m 24 ls [.int (f_X7_in p2 (0 : Int32) (1 : Int32))]) rfl ?_
      refine lv_if_ne (tgt := 35) hx hb dX7_odds_24 (by decide) (fun c_8 => ?_) (fun c_8 => ?_)
      · have h := nb_f c_8 h
        refine lv_aload_n hx hb dX7_odds_35 rfl (lv_at hl 0 rfl) ?_
        refine lv_iload_n hx hb dX7_odds_36 rfl (lv_at hl 1 rfl) ?_
        obtain ⟨M_9, e_9, h⟩ := nb_oE h
        refine nb_callV (n := 1) (As := [.int p0]) (rest := []) hx hb hml hown hts hK hZ hP hS (k_X7_findWays had M N p0 e_9) gX7_odds_X7_findWays rfl (by decide +kernel) (nb_rm (Nat.le_of_ble_eq_true rfl) (Nat.le_of_ble_eq_true rfl)) nb_a52 rfl rfl rfl hl.1 rfl (Nat.le_of_ble_eq_true rfl) dX7_odds_37 (fun H locs hP hS => ?_)
        refine W.eq (g2 := F0 m 40 ls []) rfl ?_
        refine lv_aload_n hx hb dX7_odds_40 rfl (lv_at hl 0 rfl) ?_
        refine va_get (v := .ref (ad 63)) (C := RX7) (T := TX7) (N := 21) hx hb hts in7 hown hK.1 hP 52 nb_a52 rfl 16 (by decide) w_2 (fun _ h9 => h9) rfl dX7_odds_41 ?_
        refine lv_iload_n hx hb dX7_odds_44 rfl (lv_at hl 2 rfl) ?_
        obtain ⟨c_10, h⟩ := nb_c h
        refine va_lald hx hb hK.1 hP 63 1 nb_a63 rfl c_10 dX7_odds_45 ?_
        refine lv_aload_n hx hb dX7_odds_46 rfl (lv_at hl 0 rfl) ?_
        refine va_get (v := .long (M_9.2 0 17)) (C := RX7) (T := TX7) (N := 21) hx hb hts in7 hown hK.1 hP 52 nb_a52 rfl 17 (by decide) w_4 (fun _ h9 => h9) rfl dX7_odds_47 ?_
        refine lv_iload_n hx hb dX7_odds_50 rfl (lv_at hl 3 rfl) ?_
        obtain ⟨r_11, e_11, h⟩ := nb_oE h
        refine nb_callS (n := 3) (As := [.long (M_9.2 11 p1.toNatClampNeg), .long (M_9.2 0 17), .int p2]) (rest := []) hx hb hml hown hts hK hZ hP hS (k_X7_partOf had M_9 N (M_9.2 11 p1.toNatClampNeg) (M_9.2 0 17) p2 e_11) gX7_odds_X7_partOf rfl (by decide +kernel) (nb_rm (Nat.le_of_ble_eq_true rfl) (Nat.le_of_ble_eq_true rfl)) rfl hl.1 rfl (Nat.le_of_ble_eq_true rfl) dX7_odds_51 (fun H locs hP hS => ?_)
        refine W.eq (g2 := F0 m 54 ls [.long r_11]) rfl ?_
        obtain ⟨rfl, rfl⟩ := nb_e2 h
        exact nb_lret hx hb hr hlk hP hS dX7_odds_54
      · have h := nb_t c_8 h
        refine lv_aload_n hx hb dX7_odds_27 rfl (lv_at hl 0 rfl) ?_
        refine lv_ldc (v := (-1000000001 : Int32)) hx hb hown w_1 dX7_odds_28 ?_
        obtain ⟨r_12, M_12, e_12, h⟩ := nb_pE h
        refine nb_callV (n := 1) (As := [.int (-1000000001 : Int32)]) (rest := []) hx hb hml hown hts hK hZ hP hS (k_X7_error had M N (-1000000001 : Int32) e_12) gX7_odds_X7_error rfl (by decide +kernel) (nb_rm (Nat.le_of_ble_eq_true rfl) (Nat.le_of_ble_eq_true rfl)) nb_a52 rfl rfl rfl hl.1 rfl (Nat.le_of_ble_eq_true rfl) dX7_odds_30 (fun H locs hP hS => ?_)
        refine W.eq (g2 := F0 m 33 ls [.int r_12]) rfl ?_
        refine lv_i2l hx hb dX7_odds_33 rfl ?_
        obtain ⟨rfl, rfl⟩ := nb_e2 h
        exact nb_lret hx hb hr hlk hP hS dX7_odds_34
set_option maxHeartbeats 4000000 in
set_option maxRecDepth 100000 in
theorem w_X7_through_39 {N : nb_M} {r : Int64} {M' : nb_M} (had : nb_AD ad b0) (X : nb_X p s m args meth c cX7_through 6 RX7 (some .long) wsX7_through D ca b0) : ∀ (n : Nat) (M : nb_M) (x2 : Int32) (x3 : Int64) (x5 : Int32), f_X7_through_39 n M x2 x3 x5 = some (r, M') → ∀ (H : Heap) (locs : List Loc), va_P D vwCl (nb_w ad ca N M) H → va_S (fun q => b0 ≤ q) s.heap H locs → ∀ ls : Array Slot, lv_has ls 6 [(0, .ref (ad 52)), (2, .int x2), (3, .long x3), (5, .int x5)] → W p l e (nb_R 6) s m args below meth c H locs 0 0 (nb_Q below args s D ad ca b0 (some (.long r)) N M') (F0 m 39 ls []) := by
  obtain ⟨hx, hb, hml, hown, hts, hr, hlk, hK, hZ⟩ := id X
  have w_1 := hts (.fieldLink RX7 194 "NineBreakagesModel" "all" "J") (by decide +kernel)
  have in7 : ∀ w ∈ u_ws RX7 TX7 21, w ∈ wsX7_through := fun w q => List.mem_cons_of_mem _ (List.mem_append_right _ q)
  have w_3 := hts (.fieldLink RX7 40 "NineBreakagesModel" "ways" "[J") (by decide +kernel)
  intro n
  induction n with
  | zero =>
    intro M x2 x3 x5 h
    rw [f_X7_through_39] at h
    cases h
  | succ n ih =>
    intro M x2 x3 x5 h H locs hP hS ls hl
    rw [f_X7_through_39] at h
    refine lv_iload hx hb dX7_through_39 (lv_at hl 3 rfl) ?_
    refine lv_bipush (v := (9 : Int32)) hx hb dX7_through_41 (by decide) ?_
    refine lv_icmp_gt (tgt := 62) hx hb dX7_through_43 (by decide) (fun c_8 => ?_) (fun c_8 => ?_)
    · have h := nb_t c_8 h
      refine lv_lload_n hx hb dX7_through_62 rfl (lv_at hl 2 rfl) ?_
      refine lv_aload_n hx hb dX7_through_63 rfl (lv_at hl 0 rfl) ?_
      refine va_get (v := .long (M.2 0 17)) (C := RX7) (T := TX7) (N := 21) hx hb hts in7 hown hK.1 hP 52 nb_a52 rfl 17 (by decide) w_1 (fun _ h9 => h9) rfl dX7_through_64 ?_
      refine lv_iload_n hx hb dX7_through_67 rfl (lv_at hl 1 rfl) ?_
      obtain ⟨r_9, e_9, h⟩ := nb_oE h
      refine nb_callS (n := 3) (As := [.long x3, .long (M.2 0 17), .int x2]) (rest := []) hx hb hml hown hts hK hZ hP hS (k_X7_partOf had M N x3 (M.2 0 17) x2 e_9) gX7_through_X7_partOf rfl (by decide +kernel) (nb_rm (Nat.le_of_ble_eq_true rfl) (Nat.le_of_ble_eq_true rfl)) rfl hl.1 rfl (Nat.le_of_ble_eq_true rfl) dX7_through_68 (fun H locs hP hS => ?_)
      refine W.eq (g2 := F0 m 71 ls [.long r_9]) rfl ?_
      obtain ⟨rfl, rfl⟩ := nb_e2 h
      exact nb_lret hx hb hr hlk hP hS dX7_through_71
    · have h := nb_f c_8 h
      refine lv_lload_n hx hb dX7_through_46 rfl (lv_at hl 2 rfl) ?_
      refine lv_aload_n hx hb dX7_through_47 rfl (lv_at hl 0 rfl) ?_
      refine va_get (v := .ref (ad 63)) (C := RX7) (T := TX7) (N := 21) hx hb hts in7 hown hK.1 hP 52 nb_a52 rfl 16 (by decide) w_3 (fun _ h9 => h9) rfl dX7_through_48 ?_
      refine lv_iload hx hb dX7_through_51 (lv_at hl 3 rfl) ?_
      obtain ⟨c_10, h⟩ := nb_c h
      refine va_lald hx hb hK.1 hP 63 1 nb_a63 rfl c_10 dX7_through_53 ?_
      refine lv_ladd hx hb dX7_through_54 ?_
      refine lv_topl (fun v_11 e_11 => ?_)
      have h := nb_nA e_11 h
      refine lv_lstore_n (lv' := [(3, .long v_11), (0, .ref (ad 52)), (2, .int x2), (5, .int x5)]) hx hb dX7_through_55 rfl hl (by decide) rfl (fun ls hl => ?_)
      refine lv_iinc (v := x5 + 1) (lv' := [(5, .int (x5 + 1)), (3, .long v_11), (0, .ref (ad 52)), (2, .int x2)]) hx hb dX7_through_56 hl (k := 3) rfl (congrArg (HAdd.hAdd x5) (by decide)) (by decide) rfl (fun ls hl => ?_)
      refine lv_goto (tgt := 39) hx hb dX7_through_59 (by decide) ?_
      exact ih _ _ _ _ h _ _ hP hS _ (lv_sub hl [2, 3, 1, 0] rfl)
set_option maxHeartbeats 4000000 in
set_option maxRecDepth 100000 in
theorem k_X7_through {r : Int64} {M' : nb_M} (had : nb_AD ad b0) (M N : nb_M) (p0 : Int32) (p1 : Int32) (h : f_X7_through M p0 p1 = some (r, M')) : nb_C l D ad ca b0 yX7_through wsX7_through 6 [.ref (ad 52), .int p0, .int p1] N M (some (.long r)) N M' := by
  refine nb_of (cc := cX7_through) (maxL := 6) (ret := (some .long)) (own := RX7) (by decide +kernel) rfl rfl (Nat.le_of_ble_eq_true rfl) ?_
  intro p e s m args below meth c ls X hP hS hl
  have hl : lv_has ls 6 [(0, .ref (ad 52)), (1, .int p0), (2, .int p1)] := hl
  obtain ⟨hx, hb, hml, hown, hts, hr, hlk, hK, hZ⟩ := id X
  have w_1 := hts (.constant RX7 77 (-1000000001)) (by decide +kernel)
  unfold f_X7_through at h
  refine lv_aload_n hx hb dX7_through_0 rfl (lv_at hl 0 rfl) ?_
  refine lv_iload_n hx hb dX7_through_1 rfl (lv_at hl 1 rfl) ?_
  refine nb_callV (n := 1) (As := [.int p0]) (rest := []) hx hb hml hown hts hK hZ hP hS (k_X7_isPerson had M N p0) gX7_through_X7_isPerson rfl (by decide +kernel) (nb_rm (Nat.le_of_ble_eq_true rfl) (Nat.le_of_ble_eq_true rfl)) nb_a52 rfl rfl rfl hl.1 rfl (Nat.le_of_ble_eq_true rfl) dX7_through_2 (fun H locs hP hS => ?_)
  refine W.eq (g2 := F0 m 5 ls [.int (f_X7_isPerson M p0)]) rfl ?_
  refine lv_if_eq (tgt := 17) hx hb dX7_through_5 (by decide) (fun c_2 => ?_) (fun c_2 => ?_)
  · have h := nb_t c_2 h
    refine lv_aload_n hx hb dX7_through_17 rfl (lv_at hl 0 rfl) ?_
    refine lv_ldc (v := (-1000000001 : Int32)) hx hb hown w_1 dX7_through_18 ?_
    obtain ⟨r_3, M_3, e_3, h⟩ := nb_pE h
    refine nb_callV (n := 1) (As := [.int (-1000000001 : Int32)]) (rest := []) hx hb hml hown hts hK hZ hP hS (k_X7_error had M N (-1000000001 : Int32) e_3) gX7_through_X7_error rfl (by decide +kernel) (nb_rm (Nat.le_of_ble_eq_true rfl) (Nat.le_of_ble_eq_true rfl)) nb_a52 rfl rfl rfl hl.1 rfl (Nat.le_of_ble_eq_true rfl) dX7_through_20 (fun H locs hP hS => ?_)
    refine W.eq (g2 := F0 m 23 ls [.int r_3]) rfl ?_
    refine lv_i2l hx hb dX7_through_23 rfl ?_
    obtain ⟨rfl, rfl⟩ := nb_e2 h
    exact nb_lret hx hb hr hlk hP hS dX7_through_24
  · have h := nb_f c_2 h
    refine lv_iload_n hx hb dX7_through_8 rfl (lv_at hl 2 rfl) ?_
    refine lv_iconst (v := (0 : Int32)) hx hb dX7_through_9 (by decide) ?_
    refine lv_iconst (v := (1 : Int32)) hx hb dX7_through_10 (by decide) ?_
    refine nb_callS (n := 3) (As := [.int p1, .int (0 : Int32), .int (1 : Int32)]) (rest := []) hx hb hml hown hts hK hZ hP hS (k_X7_in had M N p1 (0 : Int32) (1 : Int32)) gX7_through_X7_in rfl (by decide +kernel) (nb_rm (Nat.le_of_ble_eq_true rfl) (Nat.le_of_ble_eq_true rfl)) rfl hl.1 rfl (Nat.le_of_ble_eq_true rfl) dX7_through_11 (fun H locs hP hS => ?_)
    refine W.eq (g2 := F0 m 14 ls [.int (f_X7_in p1 (0 : Int32) (1 : Int32))]) rfl ?_
    refine lv_if_ne (tgt := 25) hx hb dX7_through_14 (by decide) (fun c_5 => ?_) (fun c_5 => ?_)
    · have h := nb_f c_5 h
      refine lv_aload_n hx hb dX7_through_25 rfl (lv_at hl 0 rfl) ?_
      refine lv_iload_n hx hb dX7_through_26 rfl (lv_at hl 1 rfl) ?_
      obtain ⟨M_6, e_6, h⟩ := nb_oE h
      refine nb_callV (n := 1) (As := [.int p0]) (rest := []) hx hb hml hown hts hK hZ hP hS (k_X7_findWays had M N p0 e_6) gX7_through_X7_findWays rfl (by decide +kernel) (nb_rm (Nat.le_of_ble_eq_true rfl) (Nat.le_of_ble_eq_true rfl)) nb_a52 rfl rfl rfl hl.1 rfl (Nat.le_of_ble_eq_true rfl) dX7_through_27 (fun H locs hP hS => ?_)
      refine W.eq (g2 := F0 m 30 ls []) rfl ?_
      refine lv_lconst (v := (0 : Int64)) hx hb dX7_through_30 (by decide) ?_
      refine lv_lstore_n (lv' := [(3, .long (0 : Int64)), (0, .ref (ad 52)), (1, .int p0), (2, .int p1)]) hx hb dX7_through_31 rfl hl (by decide) rfl (fun ls hl => ?_)
      refine lv_aload_n hx hb dX7_through_32 rfl (lv_at hl 1 rfl) ?_
      refine lv_iload_n hx hb dX7_through_33 rfl (lv_at hl 2 rfl) ?_
      obtain ⟨r_7, e_7, h⟩ := nb_oE h
      refine nb_callV (n := 1) (As := [.int p0]) (rest := []) hx hb hml hown hts hK hZ hP hS (k_X7_dueOf had M_6 N p0 e_7) gX7_through_X7_dueOf rfl (by decide +kernel) (nb_rm (Nat.le_of_ble_eq_true rfl) (Nat.le_of_ble_eq_true rfl)) nb_a52 rfl rfl rfl hl.1 rfl (Nat.le_of_ble_eq_true rfl) dX7_through_34 (fun H locs hP hS => ?_)
      refine W.eq (g2 := F0 m 37 ls [.int r_7]) rfl ?_
      refine lv_istore (lv' := [(5, .int r_7), (3, .long (0 : Int64)), (0, .ref (ad 52)), (1, .int p0), (2, .int p1)]) hx hb dX7_through_37 hl (by decide) rfl (fun ls hl => ?_)
      exact w_X7_through_39 had X nb_F _ _ _ _ h _ _ hP hS _ (lv_sub hl [2, 4, 1, 0] rfl)
    · have h := nb_t c_5 h
      refine lv_aload_n hx hb dX7_through_17 rfl (lv_at hl 0 rfl) ?_
      refine lv_ldc (v := (-1000000001 : Int32)) hx hb hown w_1 dX7_through_18 ?_
      obtain ⟨r_12, M_12, e_12, h⟩ := nb_pE h
      refine nb_callV (n := 1) (As := [.int (-1000000001 : Int32)]) (rest := []) hx hb hml hown hts hK hZ hP hS (k_X7_error had M N (-1000000001 : Int32) e_12) gX7_through_X7_error rfl (by decide +kernel) (nb_rm (Nat.le_of_ble_eq_true rfl) (Nat.le_of_ble_eq_true rfl)) nb_a52 rfl rfl rfl hl.1 rfl (Nat.le_of_ble_eq_true rfl) dX7_through_20 (fun H locs hP hS => ?_)
      refine W.eq (g2 := F0 m 23 ls [.int r_12]) rfl ?_
      refine lv_i2l hx hb dX7_through_23 rfl ?_
      obtain ⟨rfl, rfl⟩ := nb_e2 h
      exact nb_lret hx hb hr hlk hP hS dX7_through_24
set_option maxHeartbeats 4000000 in
set_option maxRecDepth 100000 in
theorem w_X7_safest_33 {N : nb_M} {r : Int32} {M' : nb_M} (had : nb_AD ad b0) (X : nb_X p s m args meth c cX7_safest 7 RX7 (some .int) wsX7_safest D ca b0) : ∀ (n : Nat) (M : nb_M) (x1 : Int32) (x2 : Int32) (x3 : Int32) (x4 : Int32) (x5 : Int32), f_X7_safest_33 n M x1 x2 x3 x4 x5 = some (r, M') → ∀ (H : Heap) (locs : List Loc), va_P D vwCl (nb_w ad ca N M) H → va_S (fun q => b0 ≤ q) s.heap H locs → ∀ ls : Array Slot, lv_has ls 7 [(0, .ref (ad 52)), (1, .int x1), (2, .int x2), (3, .int x3), (4, .int x4), (5, .int x5)] → W p l e (nb_R 5) s m args below meth c H locs 0 0 (nb_Q below args s D ad ca b0 (some (.int r)) N M') (F0 m 33 ls []) := by
  obtain ⟨hx, hb, hml, hown, hts, hr, hlk, hK, hZ⟩ := id X
  have w_1 := hts (.fieldLink RX7 9 "NineBreakagesModel" "row" "[I") (by decide +kernel)
  have in7 : ∀ w ∈ u_ws RX7 TX7 21, w ∈ wsX7_safest := fun w q => List.mem_cons_of_mem _ (List.mem_append_right _ q)
  intro n
  induction n with
  | zero =>
    intro M x1 x2 x3 x4 x5 h
    rw [f_X7_safest_33] at h
    cases h
  | succ n ih =>
    intro M x1 x2 x3 x4 x5 h H locs hP hS ls hl
    rw [f_X7_safest_33] at h
    refine lv_iload hx hb dX7_safest_33 (lv_at hl 5 rfl) ?_
    refine lv_aload_n hx hb dX7_safest_35 rfl (lv_at hl 0 rfl) ?_
    refine va_get (v := .ref (ad 53)) (C := RX7) (T := TX7) (N := 21) hx hb hts in7 hown hK.1 hP 52 nb_a52 rfl 0 (by decide) w_1 (fun _ h9 => h9) rfl dX7_safest_36 ?_
    refine lv_iconst (v := (3 : Int32)) hx hb dX7_safest_39 (by decide) ?_
    refine va_iald hx hb hK.1 hP 53 0 nb_a53 rfl (nb_lit rfl) dX7_safest_40 ?_
    refine lv_icmp_ge (tgt := 89) hx hb dX7_safest_41 (by decide) (fun c_6 => ?_) (fun c_6 => ?_)
    · have h := nb_t c_6 h
      refine lv_iload_n hx hb dX7_safest_89 rfl (lv_at hl 2 rfl) ?_
      refine lv_if_ne (tgt := 97) hx hb dX7_safest_90 (by decide) (fun c_7 => ?_) (fun c_7 => ?_)
      · have h := nb_f c_7 h
        refine lv_iload hx hb dX7_safest_97 (lv_at hl 4 rfl) ?_
        obtain ⟨rfl, rfl⟩ := nb_e2 h
        exact nb_iret hx hb hr hlk hP hS dX7_safest_99
      · have h := nb_t c_7 h
        refine lv_iload_n hx hb dX7_safest_93 rfl (lv_at hl 3 rfl) ?_
        refine lv_goto (tgt := 99) hx hb dX7_safest_94 (by decide) ?_
        obtain ⟨rfl, rfl⟩ := nb_e2 h
        exact nb_iret hx hb hr hlk hP hS dX7_safest_99
    · have h := nb_f c_6 h
      refine lv_aload_n hx hb dX7_safest_44 rfl (lv_at hl 0 rfl) ?_
      refine lv_iload_n hx hb dX7_safest_45 rfl (lv_at hl 1 rfl) ?_
      refine lv_iload hx hb dX7_safest_46 (lv_at hl 5 rfl) ?_
      obtain ⟨r_8, M_8, e_8, h⟩ := nb_pE h
      refine nb_callV (n := 2) (As := [.int x1, .int x5]) (rest := []) hx hb hml hown hts hK hZ hP hS (k_X7_riskOf had M N x1 x5 e_8) gX7_safest_X7_riskOf rfl (by decide +kernel) (nb_rm (Nat.le_of_ble_eq_true rfl) (Nat.le_of_ble_eq_true rfl)) nb_a52 rfl rfl rfl hl.1 rfl (Nat.le_of_ble_eq_true rfl) dX7_safest_48 (fun H locs hP hS => ?_)
      refine W.eq (g2 := F0 m 51 ls [.int r_8]) rfl ?_
      refine lv_istore (lv' := [(6, .int r_8), (0, .ref (ad 52)), (1, .int x1), (2, .int x2), (3, .int x3), (4, .int x4), (5, .int x5)]) hx hb dX7_safest_51 hl (by decide) rfl (fun ls hl => ?_)
      refine lv_iload hx hb dX7_safest_53 (lv_at hl 0 rfl) ?_
      refine lv_iload hx hb dX7_safest_55 (lv_at hl 5 rfl) ?_
      refine lv_icmp_ge (tgt := 65) hx hb dX7_safest_57 (by decide) (fun c_9 => ?_) (fun c_9 => ?_)
      · have h := nb_t c_9 h
        refine lv_iload_n hx hb dX7_safest_65 rfl (lv_at hl 4 rfl) ?_
        refine lv_istore_n (lv' := [(3, .int x3), (6, .int r_8), (0, .ref (ad 52)), (1, .int x1), (2, .int x2), (4, .int x4), (5, .int x5)]) hx hb dX7_safest_66 rfl hl (by decide) rfl (fun ls hl => ?_)
        refine lv_iload hx hb dX7_safest_67 (lv_at hl 1 rfl) ?_
        refine lv_iload hx hb dX7_safest_69 (lv_at hl 5 rfl) ?_
        refine lv_icmp_ge (tgt := 79) hx hb dX7_safest_71 (by decide) (fun c_10 => ?_) (fun c_10 => ?_)
        · have h := nb_t c_10 h
          refine lv_iload hx hb dX7_safest_79 (lv_at hl 5 rfl) ?_
          refine lv_istore (lv' := [(4, .int x4), (3, .int x3), (6, .int r_8), (0, .ref (ad 52)), (1, .int x1), (2, .int x2), (5, .int x5)]) hx hb dX7_safest_81 hl (by decide) rfl (fun ls hl => ?_)
          refine lv_iinc (v := x5 + 1) (lv' := [(5, .int (x5 + 1)), (4, .int x4), (3, .int x3), (6, .int r_8), (0, .ref (ad 52)), (1, .int x1), (2, .int x2)]) hx hb dX7_safest_83 hl (k := 6) rfl (congrArg (HAdd.hAdd x5) (by decide)) (by decide) rfl (fun ls hl => ?_)
          refine lv_goto (tgt := 33) hx hb dX7_safest_86 (by decide) ?_
          exact ih _ _ _ _ _ _ h _ _ hP hS _ (lv_sub hl [4, 5, 6, 2, 1, 0] rfl)
        · have h := nb_f c_10 h
          refine lv_iload hx hb dX7_safest_74 (lv_at hl 1 rfl) ?_
          refine lv_goto (tgt := 81) hx hb dX7_safest_76 (by decide) ?_
          refine lv_istore (lv' := [(4, .int r_8), (3, .int x3), (6, .int r_8), (0, .ref (ad 52)), (1, .int x1), (2, .int x2), (5, .int x5)]) hx hb dX7_safest_81 hl (by decide) rfl (fun ls hl => ?_)
          refine lv_iinc (v := x5 + 1) (lv' := [(5, .int (x5 + 1)), (4, .int r_8), (3, .int x3), (6, .int r_8), (0, .ref (ad 52)), (1, .int x1), (2, .int x2)]) hx hb dX7_safest_83 hl (k := 6) rfl (congrArg (HAdd.hAdd x5) (by decide)) (by decide) rfl (fun ls hl => ?_)
          refine lv_goto (tgt := 33) hx hb dX7_safest_86 (by decide) ?_
          exact ih _ _ _ _ _ _ h _ _ hP hS _ (lv_sub hl [4, 5, 6, 2, 1, 0] rfl)
      · have h := nb_f c_9 h
        refine lv_iload hx hb dX7_safest_60 (lv_at hl 6 rfl) ?_
        refine lv_goto (tgt := 66) hx hb dX7_safest_62 (by decide) ?_
        refine lv_istore_n (lv' := [(3, .int x5), (6, .int r_8), (0, .ref (ad 52)), (1, .int x1), (2, .int x2), (4, .int x4), (5, .int x5)]) hx hb dX7_safest_66 rfl hl (by decide) rfl (fun ls hl => ?_)
        refine lv_iload hx hb dX7_safest_67 (lv_at hl 1 rfl) ?_
        refine lv_iload hx hb dX7_safest_69 (lv_at hl 5 rfl) ?_
        refine lv_icmp_ge (tgt := 79) hx hb dX7_safest_71 (by decide) (fun c_11 => ?_) (fun c_11 => ?_)
        · have h := nb_t c_11 h
          refine lv_iload hx hb dX7_safest_79 (lv_at hl 5 rfl) ?_
          refine lv_istore (lv' := [(4, .int x4), (3, .int x5), (6, .int r_8), (0, .ref (ad 52)), (1, .int x1), (2, .int x2), (5, .int x5)]) hx hb dX7_safest_81 hl (by decide) rfl (fun ls hl => ?_)
          refine lv_iinc (v := x5 + 1) (lv' := [(5, .int (x5 + 1)), (4, .int x4), (3, .int x5), (6, .int r_8), (0, .ref (ad 52)), (1, .int x1), (2, .int x2)]) hx hb dX7_safest_83 hl (k := 6) rfl (congrArg (HAdd.hAdd x5) (by decide)) (by decide) rfl (fun ls hl => ?_)
          refine lv_goto (tgt := 33) hx hb dX7_safest_86 (by decide) ?_
          exact ih _ _ _ _ _ _ h _ _ hP hS _ (lv_sub hl [4, 5, 6, 2, 1, 0] rfl)
        · have h := nb_f c_11 h
          refine lv_iload hx hb dX7_safest_74 (lv_at hl 1 rfl) ?_
          refine lv_goto (tgt := 81) hx hb dX7_safest_76 (by decide) ?_
          refine lv_istore (lv' := [(4, .int r_8), (3, .int x5), (6, .int r_8), (0, .ref (ad 52)), (1, .int x1), (2, .int x2), (5, .int x5)]) hx hb dX7_safest_81 hl (by decide) rfl (fun ls hl => ?_)
          refine lv_iinc (v := x5 + 1) (lv' := [(5, .int (x5 + 1)), (4, .int r_8), (3, .int x5), (6, .int r_8), (0, .ref (ad 52)), (1, .int x1), (2, .int x2)]) hx hb dX7_safest_83 hl (k := 6) rfl (congrArg (HAdd.hAdd x5) (by decide)) (by decide) rfl (fun ls hl => ?_)
          refine lv_goto (tgt := 33) hx hb dX7_safest_86 (by decide) ?_
          exact ih _ _ _ _ _ _ h _ _ hP hS _ (lv_sub hl [4, 5, 6, 2, 1, 0] rfl)
set_option maxHeartbeats 4000000 in
set_option maxRecDepth 100000 in
theorem k_X7_safest {r : Int32} {M' : nb_M} (had : nb_AD ad b0) (M N : nb_M) (p0 : Int32) (p1 : Int32) (h : f_X7_safest M p0 p1 = some (r, M')) : nb_C l D ad ca b0 yX7_safest wsX7_safest 5 [.ref (ad 52), .int p0, .int p1] N M (some (.int r)) N M' := by
  refine nb_of (cc := cX7_safest) (maxL := 7) (ret := (some .int)) (own := RX7) (by decide +kernel) rfl rfl (Nat.le_of_ble_eq_true rfl) ?_
  intro p e s m args below meth c ls X hP hS hl
  have hl : lv_has ls 7 [(0, .ref (ad 52)), (1, .int p0), (2, .int p1)] := hl
  obtain ⟨hx, hb, hml, hown, hts, hr, hlk, hK, hZ⟩ := id X
  have w_1 := hts (.constant RX7 77 (-1000000001)) (by decide +kernel)
  unfold f_X7_safest at h
  refine lv_aload_n hx hb dX7_safest_0 rfl (lv_at hl 0 rfl) ?_
  refine lv_iload_n hx hb dX7_safest_1 rfl (lv_at hl 1 rfl) ?_
  refine nb_callV (n := 1) (As := [.int p0]) (rest := []) hx hb hml hown hts hK hZ hP hS (k_X7_isPiece had M N p0) gX7_safest_X7_isPiece rfl (by decide +kernel) (nb_rm (Nat.le_of_ble_eq_true rfl) (Nat.le_of_ble_eq_true rfl)) nb_a52 rfl rfl rfl hl.1 rfl (Nat.le_of_ble_eq_true rfl) dX7_safest_2 (fun H locs hP hS => ?_)
  refine W.eq (g2 := F0 m 5 ls [.int (f_X7_isPiece M p0)]) rfl ?_
  refine lv_if_eq (tgt := 17) hx hb dX7_safest_5 (by decide) (fun c_2 => ?_) (fun c_2 => ?_)
  · have h := nb_t c_2 h
    refine lv_aload_n hx hb dX7_safest_17 rfl (lv_at hl 0 rfl) ?_
    refine lv_ldc (v := (-1000000001 : Int32)) hx hb hown w_1 dX7_safest_18 ?_
    obtain ⟨r_3, M_3, e_3, h⟩ := nb_pE h
    refine nb_callV (n := 1) (As := [.int (-1000000001 : Int32)]) (rest := []) hx hb hml hown hts hK hZ hP hS (k_X7_error had M N (-1000000001 : Int32) e_3) gX7_safest_X7_error rfl (by decide +kernel) (nb_rm (Nat.le_of_ble_eq_true rfl) (Nat.le_of_ble_eq_true rfl)) nb_a52 rfl rfl rfl hl.1 rfl (Nat.le_of_ble_eq_true rfl) dX7_safest_20 (fun H locs hP hS => ?_)
    refine W.eq (g2 := F0 m 23 ls [.int r_3]) rfl ?_
    obtain ⟨rfl, rfl⟩ := nb_e2 h
    exact nb_iret hx hb hr hlk hP hS dX7_safest_23
  · have h := nb_f c_2 h
    refine lv_iload_n hx hb dX7_safest_8 rfl (lv_at hl 2 rfl) ?_
    refine lv_iconst (v := (0 : Int32)) hx hb dX7_safest_9 (by decide) ?_
    refine lv_iconst (v := (1 : Int32)) hx hb dX7_safest_10 (by decide) ?_
    refine nb_callS (n := 3) (As := [.int p1, .int (0 : Int32), .int (1 : Int32)]) (rest := []) hx hb hml hown hts hK hZ hP hS (k_X7_in had M N p1 (0 : Int32) (1 : Int32)) gX7_safest_X7_in rfl (by decide +kernel) (nb_rm (Nat.le_of_ble_eq_true rfl) (Nat.le_of_ble_eq_true rfl)) rfl hl.1 rfl (Nat.le_of_ble_eq_true rfl) dX7_safest_11 (fun H locs hP hS => ?_)
    refine W.eq (g2 := F0 m 14 ls [.int (f_X7_in p1 (0 : Int32) (1 : Int32))]) rfl ?_
    refine lv_if_ne (tgt := 24) hx hb dX7_safest_14 (by decide) (fun c_5 => ?_) (fun c_5 => ?_)
    · have h := nb_f c_5 h
      refine lv_iconst (v := (0 : Int32)) hx hb dX7_safest_24 (by decide) ?_
      refine lv_istore_n (lv' := [(3, .int (0 : Int32)), (0, .ref (ad 52)), (1, .int p0), (2, .int p1)]) hx hb dX7_safest_25 rfl hl (by decide) rfl (fun ls hl => ?_)
      refine lv_bipush (v := (17 : Int32)) hx hb dX7_safest_26 (by decide) ?_
      refine lv_istore (lv' := [(4, .int (17 : Int32)), (3, .int (0 : Int32)), (0, .ref (ad 52)), (1, .int p0), (2, .int p1)]) hx hb dX7_safest_28 hl (by decide) rfl (fun ls hl => ?_)
      refine lv_iconst (v := (0 : Int32)) hx hb dX7_safest_30 (by decide) ?_
      refine lv_istore (lv' := [(5, .int (0 : Int32)), (4, .int (17 : Int32)), (3, .int (0 : Int32)), (0, .ref (ad 52)), (1, .int p0), (2, .int p1)]) hx hb dX7_safest_31 hl (by decide) rfl (fun ls hl => ?_)
      exact w_X7_safest_33 had X nb_F _ _ _ _ _ _ h _ _ hP hS _ (lv_sub hl [3, 4, 5, 2, 1, 0] rfl)
    · have h := nb_t c_5 h
      refine lv_aload_n hx hb dX7_safest_17 rfl (lv_at hl 0 rfl) ?_
      refine lv_ldc (v := (-1000000001 : Int32)) hx hb hown w_1 dX7_safest_18 ?_
      obtain ⟨r_12, M_12, e_12, h⟩ := nb_pE h
      refine nb_callV (n := 1) (As := [.int (-1000000001 : Int32)]) (rest := []) hx hb hml hown hts hK hZ hP hS (k_X7_error had M N (-1000000001 : Int32) e_12) gX7_safest_X7_error rfl (by decide +kernel) (nb_rm (Nat.le_of_ble_eq_true rfl) (Nat.le_of_ble_eq_true rfl)) nb_a52 rfl rfl rfl hl.1 rfl (Nat.le_of_ble_eq_true rfl) dX7_safest_20 (fun H locs hP hS => ?_)
      refine W.eq (g2 := F0 m 23 ls [.int r_12]) rfl ?_
      obtain ⟨rfl, rfl⟩ := nb_e2 h
      exact nb_iret hx hb hr hlk hP hS dX7_safest_23
set_option maxHeartbeats 4000000 in
set_option maxRecDepth 100000 in
theorem w_X7_saves_81 {N : nb_M} {r : Int32} {M' : nb_M} (had : nb_AD ad b0) (X : nb_X p s m args meth c cX7_saves 8 RX7 (some .int) wsX7_saves D ca b0) : ∀ (n : Nat) (M : nb_M) (x2 : Int32) (x4 : Int32) (x5 : Int32) (x6 : Int32) (x7 : Int32), f_X7_saves_81 n M x2 x4 x5 x6 x7 = some (r, M') → ∀ (H : Heap) (locs : List Loc), va_P D vwCl (nb_w ad ca N M) H → va_S (fun q => b0 ≤ q) s.heap H locs → ∀ ls : Array Slot, lv_has ls 8 [(2, .int x2), (4, .int x4), (5, .int x5), (6, .int x6), (7, .int x7)] → W p l e (nb_R 5) s m args below meth c H locs 0 0 (nb_Q below args s D ad ca b0 (some (.int r)) N M') (F0 m 81 ls []) := by
  obtain ⟨hx, hb, hml, hown, hts, hr, hlk, hK, hZ⟩ := id X
  intro n
  induction n with
  | zero =>
    intro M x2 x4 x5 x6 x7 h
    rw [f_X7_saves_81] at h
    cases h
  | succ n ih =>
    intro M x2 x4 x5 x6 x7 h H locs hP hS ls hl
    rw [f_X7_saves_81] at h
    refine lv_iload hx hb dX7_saves_81 (lv_at hl 4 rfl) ?_
    refine lv_iload hx hb dX7_saves_83 (lv_at hl 1 rfl) ?_
    refine lv_icmp_ge (tgt := 114) hx hb dX7_saves_85 (by decide) (fun c_13 => ?_) (fun c_13 => ?_)
    · have h := nb_t c_13 h
      refine lv_iload_n hx hb dX7_saves_114 rfl (lv_at hl 0 rfl) ?_
      refine lv_if_ne (tgt := 123) hx hb dX7_saves_115 (by decide) (fun c_14 => ?_) (fun c_14 => ?_)
      · have h := nb_f c_14 h
        refine lv_iload hx hb dX7_saves_123 (lv_at hl 2 rfl) ?_
        obtain ⟨rfl, rfl⟩ := nb_e2 h
        exact nb_iret hx hb hr hlk hP hS dX7_saves_125
      · have h := nb_t c_14 h
        refine lv_iload hx hb dX7_saves_118 (lv_at hl 1 rfl) ?_
        refine lv_goto (tgt := 125) hx hb dX7_saves_120 (by decide) ?_
        obtain ⟨rfl, rfl⟩ := nb_e2 h
        exact nb_iret hx hb hr hlk hP hS dX7_saves_125
    · have h := nb_f c_13 h
      refine lv_iload hx hb dX7_saves_88 (lv_at hl 2 rfl) ?_
      refine lv_iload hx hb dX7_saves_90 (lv_at hl 3 rfl) ?_
      refine lv_iload hx hb dX7_saves_92 (lv_at hl 3 rfl) ?_
      refine lv_ineg hx hb dX7_saves_94 ?_
      refine lv_iand hx hb dX7_saves_95 ?_
      refine lv_ior hx hb dX7_saves_96 ?_
      refine lv_topi (fun v_15 e_15 => ?_)
      have h := nb_nA e_15 h
      refine lv_istore (lv' := [(5, .int v_15), (2, .int x2), (4, .int x4), (6, .int x6), (7, .int x7)]) hx hb dX7_saves_97 hl (by decide) rfl (fun ls hl => ?_)
      refine lv_iload hx hb dX7_saves_99 (lv_at hl 3 rfl) ?_
      refine lv_iload hx hb dX7_saves_101 (lv_at hl 3 rfl) ?_
      refine lv_iconst (v := (1 : Int32)) hx hb dX7_saves_103 (by decide) ?_
      refine lv_isub hx hb dX7_saves_104 ?_
      refine lv_iand hx hb dX7_saves_105 ?_
      refine lv_topi (fun v_16 e_16 => ?_)
      have h := nb_nA e_16 h
      refine lv_istore (lv' := [(6, .int v_16), (5, .int v_15), (2, .int x2), (4, .int x4), (7, .int x7)]) hx hb dX7_saves_106 hl (by decide) rfl (fun ls hl => ?_)
      refine lv_iinc (v := x7 + 1) (lv' := [(7, .int (x7 + 1)), (6, .int v_16), (5, .int v_15), (2, .int x2), (4, .int x4)]) hx hb dX7_saves_108 hl (k := 4) rfl (congrArg (HAdd.hAdd x7) (by decide)) (by decide) rfl (fun ls hl => ?_)
      refine lv_goto (tgt := 81) hx hb dX7_saves_111 (by decide) ?_
      exact ih _ _ _ _ _ _ h _ _ hP hS _ (lv_sub hl [3, 4, 2, 1, 0] rfl)
set_option maxHeartbeats 4000000 in
set_option maxRecDepth 100000 in
theorem k_X7_saves {r : Int32} {M' : nb_M} (had : nb_AD ad b0) (M N : nb_M) (p0 : Int32) (p1 : Int32) (h : f_X7_saves M p0 p1 = some (r, M')) : nb_C l D ad ca b0 yX7_saves wsX7_saves 5 [.ref (ad 52), .int p0, .int p1] N M (some (.int r)) N M' := by
  refine nb_of (cc := cX7_saves) (maxL := 8) (ret := (some .int)) (own := RX7) (by decide +kernel) rfl rfl (Nat.le_of_ble_eq_true rfl) ?_
  intro p e s m args below meth c ls X hP hS hl
  have hl : lv_has ls 8 [(0, .ref (ad 52)), (1, .int p0), (2, .int p1)] := hl
  obtain ⟨hx, hb, hml, hown, hts, hr, hlk, hK, hZ⟩ := id X
  have w_1 := hts (.constant RX7 77 (-1000000001)) (by decide +kernel)
  have w_2 := hts (.constant RX7 113 (-1000000003)) (by decide +kernel)
  unfold f_X7_saves at h
  refine lv_aload_n hx hb dX7_saves_0 rfl (lv_at hl 0 rfl) ?_
  refine lv_iload_n hx hb dX7_saves_1 rfl (lv_at hl 1 rfl) ?_
  refine nb_callV (n := 1) (As := [.int p0]) (rest := []) hx hb hml hown hts hK hZ hP hS (k_X7_isPerson had M N p0) gX7_saves_X7_isPerson rfl (by decide +kernel) (nb_rm (Nat.le_of_ble_eq_true rfl) (Nat.le_of_ble_eq_true rfl)) nb_a52 rfl rfl rfl hl.1 rfl (Nat.le_of_ble_eq_true rfl) dX7_saves_2 (fun H locs hP hS => ?_)
  refine W.eq (g2 := F0 m 5 ls [.int (f_X7_isPerson M p0)]) rfl ?_
  refine lv_if_eq (tgt := 17) hx hb dX7_saves_5 (by decide) (fun c_2 => ?_) (fun c_2 => ?_)
  · have h := nb_t c_2 h
    refine lv_aload_n hx hb dX7_saves_17 rfl (lv_at hl 0 rfl) ?_
    refine lv_ldc (v := (-1000000001 : Int32)) hx hb hown w_1 dX7_saves_18 ?_
    obtain ⟨r_3, M_3, e_3, h⟩ := nb_pE h
    refine nb_callV (n := 1) (As := [.int (-1000000001 : Int32)]) (rest := []) hx hb hml hown hts hK hZ hP hS (k_X7_error had M N (-1000000001 : Int32) e_3) gX7_saves_X7_error rfl (by decide +kernel) (nb_rm (Nat.le_of_ble_eq_true rfl) (Nat.le_of_ble_eq_true rfl)) nb_a52 rfl rfl rfl hl.1 rfl (Nat.le_of_ble_eq_true rfl) dX7_saves_20 (fun H locs hP hS => ?_)
    refine W.eq (g2 := F0 m 23 ls [.int r_3]) rfl ?_
    obtain ⟨rfl, rfl⟩ := nb_e2 h
    exact nb_iret hx hb hr hlk hP hS dX7_saves_23
  · have h := nb_f c_2 h
    refine lv_iload_n hx hb dX7_saves_8 rfl (lv_at hl 2 rfl) ?_
    refine lv_iconst (v := (0 : Int32)) hx hb dX7_saves_9 (by decide) ?_
    refine lv_iconst (v := (1 : Int32)) hx hb dX7_saves_10 (by decide) ?_
    refine nb_callS (n := 3) (As := [.int p1, .int (0 : Int32), .int (1 : Int32)]) (rest := []) hx hb hml hown hts hK hZ hP hS (k_X7_in had M N p1 (0 : Int32) (1 : Int32)) gX7_saves_X7_in rfl (by decide +kernel) (nb_rm (Nat.le_of_ble_eq_true rfl) (Nat.le_of_ble_eq_true rfl)) rfl hl.1 rfl (Nat.le_of_ble_eq_true rfl) dX7_saves_11 (fun H locs hP hS => ?_)
    refine W.eq (g2 := F0 m 14 ls [.int (f_X7_in p1 (0 : Int32) (1 : Int32))]) rfl ?_
    refine lv_if_ne (tgt := 24) hx hb dX7_saves_14 (by decide) (fun c_5 => ?_) (fun c_5 => ?_)
    · have h := nb_f c_5 h
      refine lv_aload_n hx hb dX7_saves_24 rfl (lv_at hl 0 rfl) ?_
      refine lv_iload_n hx hb dX7_saves_25 rfl (lv_at hl 1 rfl) ?_
      obtain ⟨r_6, e_6, h⟩ := nb_oE h
      refine nb_callV (n := 1) (As := [.int p0]) (rest := []) hx hb hml hown hts hK hZ hP hS (k_X7_isThrough had M N p0 e_6) gX7_saves_X7_isThrough rfl (by decide +kernel) (nb_rm (Nat.le_of_ble_eq_true rfl) (Nat.le_of_ble_eq_true rfl)) nb_a52 rfl rfl rfl hl.1 rfl (Nat.le_of_ble_eq_true rfl) dX7_saves_26 (fun H locs hP hS => ?_)
      refine W.eq (g2 := F0 m 29 ls [.int r_6]) rfl ?_
      refine lv_if_eq (tgt := 39) hx hb dX7_saves_29 (by decide) (fun c_7 => ?_) (fun c_7 => ?_)
      · have h := nb_t c_7 h
        refine lv_aload_n hx hb dX7_saves_39 rfl (lv_at hl 0 rfl) ?_
        refine lv_iload_n hx hb dX7_saves_40 rfl (lv_at hl 1 rfl) ?_
        obtain ⟨r_8, e_8, h⟩ := nb_oE h
        refine nb_callV (n := 1) (As := [.int p0]) (rest := []) hx hb hml hown hts hK hZ hP hS (k_X7_leftOf had M N p0 e_8) gX7_saves_X7_leftOf rfl (by decide +kernel) (nb_rm (Nat.le_of_ble_eq_true rfl) (Nat.le_of_ble_eq_true rfl)) nb_a52 rfl rfl rfl hl.1 rfl (Nat.le_of_ble_eq_true rfl) dX7_saves_41 (fun H locs hP hS => ?_)
        refine W.eq (g2 := F0 m 44 ls [.int r_8]) rfl ?_
        refine lv_istore_n (lv' := [(3, .int r_8), (0, .ref (ad 52)), (1, .int p0), (2, .int p1)]) hx hb dX7_saves_44 rfl hl (by decide) rfl (fun ls hl => ?_)
        refine lv_iload_n hx hb dX7_saves_45 rfl (lv_at hl 0 rfl) ?_
        obtain ⟨r_9, e_9, h⟩ := nb_oE h
        refine nb_callS (n := 1) (As := [.int r_8]) (rest := []) hx hb hml hown hts hK hZ hP hS (k_X7_bits had M N r_8 e_9) gX7_saves_X7_bits rfl (by decide +kernel) (nb_rm (Nat.le_of_ble_eq_true rfl) (Nat.le_of_ble_eq_true rfl)) rfl hl.1 rfl (Nat.le_of_ble_eq_true rfl) dX7_saves_46 (fun H locs hP hS => ?_)
        refine W.eq (g2 := F0 m 49 ls [.int r_9]) rfl ?_
        refine lv_aload_n hx hb dX7_saves_49 rfl (lv_at hl 1 rfl) ?_
        refine lv_iload_n hx hb dX7_saves_50 rfl (lv_at hl 2 rfl) ?_
        obtain ⟨r_10, e_10, h⟩ := nb_oE h
        refine nb_callV (n := 1) (As := [.int p0]) (rest := [.int r_9]) hx hb hml hown hts hK hZ hP hS (k_X7_dueOf had M N p0 e_10) gX7_saves_X7_dueOf rfl (by decide +kernel) (nb_rm (Nat.le_of_ble_eq_true rfl) (Nat.le_of_ble_eq_true rfl)) nb_a52 rfl rfl rfl hl.1 rfl (Nat.le_of_ble_eq_true rfl) dX7_saves_51 (fun H locs hP hS => ?_)
        refine W.eq (g2 := F0 m 54 ls [.int r_10, .int r_9]) rfl ?_
        refine lv_isub hx hb dX7_saves_54 ?_
        refine lv_iconst (v := (1 : Int32)) hx hb dX7_saves_55 (by decide) ?_
        refine lv_iadd hx hb dX7_saves_56 ?_
        refine lv_topi (fun v_11 e_11 => ?_)
        have h := nb_nA e_11 h
        refine lv_istore (lv' := [(4, .int v_11), (3, .int r_8), (0, .ref (ad 52)), (1, .int p0), (2, .int p1)]) hx hb dX7_saves_57 hl (by decide) rfl (fun ls hl => ?_)
        refine lv_iload hx hb dX7_saves_59 (lv_at hl 0 rfl) ?_
        refine lv_if_ge (tgt := 68) hx hb dX7_saves_61 (by decide) (fun c_12 => ?_) (fun c_12 => ?_)
        · have h := nb_t c_12 h
          refine lv_iload hx hb dX7_saves_68 (lv_at hl 0 rfl) ?_
          refine lv_istore (lv' := [(4, .int v_11), (3, .int r_8), (0, .ref (ad 52)), (1, .int p0), (2, .int p1)]) hx hb dX7_saves_70 hl (by decide) rfl (fun ls hl => ?_)
          refine lv_iconst (v := (0 : Int32)) hx hb dX7_saves_72 (by decide) ?_
          refine lv_istore (lv' := [(5, .int (0 : Int32)), (4, .int v_11), (3, .int r_8), (0, .ref (ad 52)), (1, .int p0), (2, .int p1)]) hx hb dX7_saves_73 hl (by decide) rfl (fun ls hl => ?_)
          refine lv_iload_n hx hb dX7_saves_75 rfl (lv_at hl 2 rfl) ?_
          refine lv_istore (lv' := [(6, .int r_8), (5, .int (0 : Int32)), (4, .int v_11), (3, .int r_8), (0, .ref (ad 52)), (1, .int p0), (2, .int p1)]) hx hb dX7_saves_76 hl (by decide) rfl (fun ls hl => ?_)
          refine lv_iconst (v := (0 : Int32)) hx hb dX7_saves_78 (by decide) ?_
          refine lv_istore (lv' := [(7, .int (0 : Int32)), (6, .int r_8), (5, .int (0 : Int32)), (4, .int v_11), (3, .int r_8), (0, .ref (ad 52)), (1, .int p0), (2, .int p1)]) hx hb dX7_saves_79 hl (by decide) rfl (fun ls hl => ?_)
          exact w_X7_saves_81 had X nb_F _ _ _ _ _ _ h _ _ hP hS _ (lv_sub hl [7, 3, 2, 1, 0] rfl)
        · have h := nb_f c_12 h
          refine lv_iconst (v := (0 : Int32)) hx hb dX7_saves_64 (by decide) ?_
          refine lv_goto (tgt := 70) hx hb dX7_saves_65 (by decide) ?_
          refine lv_istore (lv' := [(4, .int (0 : Int32)), (3, .int r_8), (0, .ref (ad 52)), (1, .int p0), (2, .int p1)]) hx hb dX7_saves_70 hl (by decide) rfl (fun ls hl => ?_)
          refine lv_iconst (v := (0 : Int32)) hx hb dX7_saves_72 (by decide) ?_
          refine lv_istore (lv' := [(5, .int (0 : Int32)), (4, .int (0 : Int32)), (3, .int r_8), (0, .ref (ad 52)), (1, .int p0), (2, .int p1)]) hx hb dX7_saves_73 hl (by decide) rfl (fun ls hl => ?_)
          refine lv_iload_n hx hb dX7_saves_75 rfl (lv_at hl 2 rfl) ?_
          refine lv_istore (lv' := [(6, .int r_8), (5, .int (0 : Int32)), (4, .int (0 : Int32)), (3, .int r_8), (0, .ref (ad 52)), (1, .int p0), (2, .int p1)]) hx hb dX7_saves_76 hl (by decide) rfl (fun ls hl => ?_)
          refine lv_iconst (v := (0 : Int32)) hx hb dX7_saves_78 (by decide) ?_
          refine lv_istore (lv' := [(7, .int (0 : Int32)), (6, .int r_8), (5, .int (0 : Int32)), (4, .int (0 : Int32)), (3, .int r_8), (0, .ref (ad 52)), (1, .int p0), (2, .int p1)]) hx hb dX7_saves_79 hl (by decide) rfl (fun ls hl => ?_)
          exact w_X7_saves_81 had X nb_F _ _ _ _ _ _ h _ _ hP hS _ (lv_sub hl [7, 3, 2, 1, 0] rfl)
      · have h := nb_f c_7 h
        refine lv_aload_n hx hb dX7_saves_32 rfl (lv_at hl 0 rfl) ?_
        refine lv_ldc (v := (-1000000003 : Int32)) hx hb hown w_2 dX7_saves_33 ?_
        obtain ⟨r_17, M_17, e_17, h⟩ := nb_pE h
        refine nb_callV (n := 1) (As := [.int (-1000000003 : Int32)]) (rest := []) hx hb hml hown hts hK hZ hP hS (k_X7_error had M N (-1000000003 : Int32) e_17) gX7_saves_X7_error rfl (by decide +kernel) (nb_rm (Nat.le_of_ble_eq_true rfl) (Nat.le_of_ble_eq_true rfl)) nb_a52 rfl rfl rfl hl.1 rfl (Nat.le_of_ble_eq_true rfl) dX7_saves_35 (fun H locs hP hS => ?_)
        refine W.eq (g2 := F0 m 38 ls [.int r_17]) rfl ?_
        obtain ⟨rfl, rfl⟩ := nb_e2 h
        exact nb_iret hx hb hr hlk hP hS dX7_saves_38
    · have h := nb_t c_5 h
      refine lv_aload_n hx hb dX7_saves_17 rfl (lv_at hl 0 rfl) ?_
      refine lv_ldc (v := (-1000000001 : Int32)) hx hb hown w_1 dX7_saves_18 ?_
      obtain ⟨r_18, M_18, e_18, h⟩ := nb_pE h
      refine nb_callV (n := 1) (As := [.int (-1000000001 : Int32)]) (rest := []) hx hb hml hown hts hK hZ hP hS (k_X7_error had M N (-1000000001 : Int32) e_18) gX7_saves_X7_error rfl (by decide +kernel) (nb_rm (Nat.le_of_ble_eq_true rfl) (Nat.le_of_ble_eq_true rfl)) nb_a52 rfl rfl rfl hl.1 rfl (Nat.le_of_ble_eq_true rfl) dX7_saves_20 (fun H locs hP hS => ?_)
      refine W.eq (g2 := F0 m 23 ls [.int r_18]) rfl ?_
      obtain ⟨rfl, rfl⟩ := nb_e2 h
      exact nb_iret hx hb hr hlk hP hS dX7_saves_23
set_option maxHeartbeats 4000000 in
set_option maxRecDepth 100000 in
theorem w_X7_counts_17 {N : nb_M} {r : Int32} {M' : nb_M} (had : nb_AD ad b0) (X : nb_X p s m args meth c cX7_counts 3 RX7 (some .int) wsX7_counts D ca b0) : ∀ (n : Nat) (M : nb_M) (x1 : Int32) (x2 : Int32), f_X7_counts_17 n M x1 x2 = some (r, M') → ∀ (H : Heap) (locs : List Loc), va_P D vwCl (nb_w ad ca N M) H → va_S (fun q => b0 ≤ q) s.heap H locs → ∀ ls : Array Slot, lv_has ls 3 [(0, .ref (ad 52)), (1, .int x1), (2, .int x2)] → W p l e (nb_R 3) s m args below meth c H locs 0 0 (nb_Q below args s D ad ca b0 (some (.int r)) N M') (F0 m 17 ls []) := by
  obtain ⟨hx, hb, hml, hown, hts, hr, hlk, hK, hZ⟩ := id X
  have w_1 := hts (.constant RX7 206 (-1000000002)) (by decide +kernel)
  have w_2 := hts (.fieldLink RX7 9 "NineBreakagesModel" "row" "[I") (by decide +kernel)
  have in7 : ∀ w ∈ u_ws RX7 TX7 21, w ∈ wsX7_counts := fun w q => List.mem_cons_of_mem _ (List.mem_append_right _ q)
  intro n
  induction n with
  | zero =>
    intro M x1 x2 h
    rw [f_X7_counts_17] at h
    cases h
  | succ n ih =>
    intro M x1 x2 h H locs hP hS ls hl
    rw [f_X7_counts_17] at h
    refine lv_iload_n hx hb dX7_counts_17 rfl (lv_at hl 2 rfl) ?_
    refine lv_bipush (v := (60 : Int32)) hx hb dX7_counts_18 (by decide) ?_
    refine lv_icmp_gt (tgt := 47) hx hb dX7_counts_20 (by decide) (fun c_3 => ?_) (fun c_3 => ?_)
    · have h := nb_t c_3 h
      refine lv_aload_n hx hb dX7_counts_47 rfl (lv_at hl 0 rfl) ?_
      refine lv_ldc (v := (-1000000002 : Int32)) hx hb hown w_1 dX7_counts_48 ?_
      obtain ⟨r_4, M_4, e_4, h⟩ := nb_pE h
      refine nb_callV (n := 1) (As := [.int (-1000000002 : Int32)]) (rest := []) hx hb hml hown hts hK hZ hP hS (k_X7_error had M N (-1000000002 : Int32) e_4) gX7_counts_X7_error rfl (by decide +kernel) (nb_rm (Nat.le_of_ble_eq_true rfl) (Nat.le_of_ble_eq_true rfl)) nb_a52 rfl rfl rfl hl.1 rfl (Nat.le_of_ble_eq_true rfl) dX7_counts_50 (fun H locs hP hS => ?_)
      refine W.eq (g2 := F0 m 53 ls [.int r_4]) rfl ?_
      obtain ⟨rfl, rfl⟩ := nb_e2 h
      exact nb_iret hx hb hr hlk hP hS dX7_counts_53
    · have h := nb_f c_3 h
      refine lv_aload_n hx hb dX7_counts_23 rfl (lv_at hl 0 rfl) ?_
      refine lv_iload_n hx hb dX7_counts_24 rfl (lv_at hl 1 rfl) ?_
      refine lv_aload_n hx hb dX7_counts_25 rfl (lv_at hl 0 rfl) ?_
      refine va_get (v := .ref (ad 53)) (C := RX7) (T := TX7) (N := 21) hx hb hts in7 hown hK.1 hP 52 nb_a52 rfl 0 (by decide) w_2 (fun _ h9 => h9) rfl dX7_counts_26 ?_
      refine lv_iconst (v := (0 : Int32)) hx hb dX7_counts_29 (by decide) ?_
      refine va_iald hx hb hK.1 hP 53 0 nb_a53 rfl (nb_lit rfl) dX7_counts_30 ?_
      refine lv_iload_n hx hb dX7_counts_31 rfl (lv_at hl 2 rfl) ?_
      refine lv_iadd hx hb dX7_counts_32 ?_
      obtain ⟨r_5, e_5, h⟩ := nb_oE h
      refine nb_callV (n := 2) (As := [.int x1, .int ((M.1 1 (0 : Int32).toNatClampNeg) + x2)]) (rest := []) hx hb hml hown hts hK hZ hP hS (k_X7_doesCountOn had M N x1 ((M.1 1 (0 : Int32).toNatClampNeg) + x2) e_5) gX7_counts_X7_doesCountOn rfl (by decide +kernel) (nb_rm (Nat.le_of_ble_eq_true rfl) (Nat.le_of_ble_eq_true rfl)) nb_a52 rfl rfl rfl hl.1 rfl (Nat.le_of_ble_eq_true rfl) dX7_counts_33 (fun H locs hP hS => ?_)
      refine W.eq (g2 := F0 m 36 ls [.int r_5]) rfl ?_
      refine lv_if_eq (tgt := 41) hx hb dX7_counts_36 (by decide) (fun c_6 => ?_) (fun c_6 => ?_)
      · have h := nb_t c_6 h
        refine lv_iinc (v := x2 + 1) (lv' := [(2, .int (x2 + 1)), (0, .ref (ad 52)), (1, .int x1)]) hx hb dX7_counts_41 hl (k := 2) rfl (congrArg (HAdd.hAdd x2) (by decide)) (by decide) rfl (fun ls hl => ?_)
        refine lv_goto (tgt := 17) hx hb dX7_counts_44 (by decide) ?_
        exact ih _ _ _ h _ _ hP hS _ (lv_sub hl [1, 2, 0] rfl)
      · have h := nb_f c_6 h
        refine lv_iload_n hx hb dX7_counts_39 rfl (lv_at hl 2 rfl) ?_
        obtain ⟨rfl, rfl⟩ := nb_e2 h
        exact nb_iret hx hb hr hlk hP hS dX7_counts_40
set_option maxHeartbeats 4000000 in
set_option maxRecDepth 100000 in
theorem k_X7_counts {r : Int32} {M' : nb_M} (had : nb_AD ad b0) (M N : nb_M) (p0 : Int32) (h : f_X7_counts M p0 = some (r, M')) : nb_C l D ad ca b0 yX7_counts wsX7_counts 3 [.ref (ad 52), .int p0] N M (some (.int r)) N M' := by
  refine nb_of (cc := cX7_counts) (maxL := 3) (ret := (some .int)) (own := RX7) (by decide +kernel) rfl rfl (Nat.le_of_ble_eq_true rfl) ?_
  intro p e s m args below meth c ls X hP hS hl
  have hl : lv_has ls 3 [(0, .ref (ad 52)), (1, .int p0)] := hl
  obtain ⟨hx, hb, hml, hown, hts, hr, hlk, hK, hZ⟩ := id X
  have w_1 := hts (.constant RX7 77 (-1000000001)) (by decide +kernel)
  unfold f_X7_counts at h
  refine lv_aload_n hx hb dX7_counts_0 rfl (lv_at hl 0 rfl) ?_
  refine lv_iload_n hx hb dX7_counts_1 rfl (lv_at hl 1 rfl) ?_
  refine nb_callV (n := 1) (As := [.int p0]) (rest := []) hx hb hml hown hts hK hZ hP hS (k_X7_isPiece had M N p0) gX7_counts_X7_isPiece rfl (by decide +kernel) (nb_rm (Nat.le_of_ble_eq_true rfl) (Nat.le_of_ble_eq_true rfl)) nb_a52 rfl rfl rfl hl.1 rfl (Nat.le_of_ble_eq_true rfl) dX7_counts_2 (fun H locs hP hS => ?_)
  refine W.eq (g2 := F0 m 5 ls [.int (f_X7_isPiece M p0)]) rfl ?_
  refine lv_if_ne (tgt := 15) hx hb dX7_counts_5 (by decide) (fun c_2 => ?_) (fun c_2 => ?_)
  · have h := nb_f c_2 h
    refine lv_iconst (v := (0 : Int32)) hx hb dX7_counts_15 (by decide) ?_
    refine lv_istore_n (lv' := [(2, .int (0 : Int32)), (0, .ref (ad 52)), (1, .int p0)]) hx hb dX7_counts_16 rfl hl (by decide) rfl (fun ls hl => ?_)
    exact w_X7_counts_17 had X nb_F _ _ _ h _ _ hP hS _ (lv_sub hl [1, 2, 0] rfl)
  · have h := nb_t c_2 h
    refine lv_aload_n hx hb dX7_counts_8 rfl (lv_at hl 0 rfl) ?_
    refine lv_ldc (v := (-1000000001 : Int32)) hx hb hown w_1 dX7_counts_9 ?_
    obtain ⟨r_7, M_7, e_7, h⟩ := nb_pE h
    refine nb_callV (n := 1) (As := [.int (-1000000001 : Int32)]) (rest := []) hx hb hml hown hts hK hZ hP hS (k_X7_error had M N (-1000000001 : Int32) e_7) gX7_counts_X7_error rfl (by decide +kernel) (nb_rm (Nat.le_of_ble_eq_true rfl) (Nat.le_of_ble_eq_true rfl)) nb_a52 rfl rfl rfl hl.1 rfl (Nat.le_of_ble_eq_true rfl) dX7_counts_11 (fun H locs hP hS => ?_)
    refine W.eq (g2 := F0 m 14 ls [.int r_7]) rfl ?_
    obtain ⟨rfl, rfl⟩ := nb_e2 h
    exact nb_iret hx hb hr hlk hP hS dX7_counts_14
set_option maxHeartbeats 4000000 in
set_option maxRecDepth 100000 in
theorem k_X7_isSheet (had : nb_AD ad b0) (M N : nb_M) (p0 : Int32) : nb_C l D ad ca b0 yX7_isSheet wsX7_isSheet 1 [.int p0] N M (some (.int (f_X7_isSheet p0))) N M := by
  obtain ⟨r, h⟩ : ∃ r, f_X7_isSheet p0 = r := ⟨_, rfl⟩
  rw [h]
  refine nb_of (cc := cX7_isSheet) (maxL := 1) (ret := (some .boolean)) (own := RX7) (by decide +kernel) rfl rfl (Nat.le_of_ble_eq_true rfl) ?_
  intro p e s m args below meth c ls X hP hS hl
  have hl : lv_has ls 1 [(0, .int p0)] := hl
  obtain ⟨hx, hb, hml, hown, hts, hr, hlk, hK, hZ⟩ := id X
  unfold f_X7_isSheet at h
  refine lv_iload_n hx hb dX7_isSheet_0 rfl (lv_at hl 0 rfl) ?_
  refine lv_iconst (v := (0 : Int32)) hx hb dX7_isSheet_1 (by decide) ?_
  refine lv_iconst (v := (3 : Int32)) hx hb dX7_isSheet_2 (by decide) ?_
  refine nb_callS (n := 3) (As := [.int p0, .int (0 : Int32), .int (3 : Int32)]) (rest := []) hx hb hml hown hts hK hZ hP hS (k_X7_in had M N p0 (0 : Int32) (3 : Int32)) gX7_isSheet_X7_in rfl (by decide +kernel) (nb_rm (Nat.le_of_ble_eq_true rfl) (Nat.le_of_ble_eq_true rfl)) rfl hl.1 rfl (Nat.le_of_ble_eq_true rfl) dX7_isSheet_3 (fun H locs hP hS => ?_)
  refine W.eq (g2 := F0 m 6 ls [.int (f_X7_in p0 (0 : Int32) (3 : Int32))]) rfl ?_
  obtain rfl := nb_e3 h
  exact nb_zret (z_X7_in p0 (0 : Int32) (3 : Int32)) hx hb hr hlk hP hS dX7_isSheet_6
set_option maxHeartbeats 4000000 in
set_option maxRecDepth 100000 in
theorem w_X7_isSo_24 {N : nb_M} {r : Int32} {M' : nb_M} (had : nb_AD ad b0) (X : nb_X p s m args meth c cX7_isSo 5 RX7 (some .boolean) wsX7_isSo D ca b0) : ∀ (n : Nat) (M : nb_M) (x1 : Int32) (x2 : Int32) (x3 : Int32) (x4 : Int32), f_X7_isSo_24 n M x1 x2 x3 x4 = some (r, M') → ∀ (H : Heap) (locs : List Loc), va_P D vwCl (nb_w ad ca N M) H → va_S (fun q => b0 ≤ q) s.heap H locs → ∀ ls : Array Slot, lv_has ls 5 [(0, .ref (ad 52)), (1, .int x1), (2, .int x2), (3, .int x3), (4, .int x4)] → W p l e (nb_R 4) s m args below meth c H locs 0 0 (nb_Q below args s D ad ca b0 (some (.int r)) N M') (F0 m 24 ls []) := by
  obtain ⟨hx, hb, hml, hown, hts, hr, hlk, hK, hZ⟩ := id X
  have w_1 := hts (.fieldLink RX7 22 "NineBreakagesModel" "sizeOf" "[I") (by decide +kernel)
  have in7 : ∀ w ∈ u_ws RX7 TX7 21, w ∈ wsX7_isSo := fun w q => List.mem_cons_of_mem _ (List.mem_append_right _ q)
  have w_3 := hts (.fieldLink RX7 25 "NineBreakagesModel" "cells" "[I") (by decide +kernel)
  intro n
  induction n with
  | zero =>
    intro M x1 x2 x3 x4 h
    rw [f_X7_isSo_24] at h
    cases h
  | succ n ih =>
    intro M x1 x2 x3 x4 h H locs hP hS ls hl
    rw [f_X7_isSo_24] at h
    refine lv_iload hx hb dX7_isSo_24 (lv_at hl 4 rfl) ?_
    refine lv_aload_n hx hb dX7_isSo_26 rfl (lv_at hl 0 rfl) ?_
    refine va_get (v := .ref (ad 57)) (C := RX7) (T := TX7) (N := 21) hx hb hts in7 hown hK.1 hP 52 nb_a52 rfl 5 (by decide) w_1 (fun _ h9 => h9) rfl dX7_isSo_27 ?_
    refine lv_iload_n hx hb dX7_isSo_30 rfl (lv_at hl 1 rfl) ?_
    obtain ⟨c_3, h⟩ := nb_c h
    refine va_iald hx hb hK.1 hP 57 0 nb_a57 rfl c_3 dX7_isSo_31 ?_
    refine lv_icmp_ge (tgt := 73) hx hb dX7_isSo_32 (by decide) (fun c_4 => ?_) (fun c_4 => ?_)
    · have h := nb_t c_4 h
      refine lv_iload_n hx hb dX7_isSo_73 rfl (lv_at hl 3 rfl) ?_
      obtain ⟨c_5, h⟩ := nb_c h
      obtain ⟨rfl, rfl⟩ := nb_e2 h
      exact nb_zret (Decidable.not_not.mp c_5) hx hb hr hlk hP hS dX7_isSo_74
    · have h := nb_f c_4 h
      refine lv_iload_n hx hb dX7_isSo_35 rfl (lv_at hl 3 rfl) ?_
      refine lv_if_eq (tgt := 73) hx hb dX7_isSo_36 (by decide) (fun c_6 => ?_) (fun c_6 => ?_)
      · have h := nb_t c_6 h
        refine lv_iload_n hx hb dX7_isSo_73 rfl (lv_at hl 3 rfl) ?_
        obtain ⟨c_7, h⟩ := nb_c h
        obtain ⟨rfl, rfl⟩ := nb_e2 h
        exact nb_zret (Decidable.not_not.mp c_7) hx hb hr hlk hP hS dX7_isSo_74
      · have h := nb_f c_6 h
        refine lv_aload_n hx hb dX7_isSo_39 rfl (lv_at hl 0 rfl) ?_
        refine va_get (v := .ref (ad 58)) (C := RX7) (T := TX7) (N := 21) hx hb hts in7 hown hK.1 hP 52 nb_a52 rfl 6 (by decide) w_3 (fun _ h9 => h9) rfl dX7_isSo_40 ?_
        refine lv_bipush (v := (24 : Int32)) hx hb dX7_isSo_43 (by decide) ?_
        refine lv_iload_n hx hb dX7_isSo_45 rfl (lv_at hl 1 rfl) ?_
        refine lv_imul hx hb dX7_isSo_46 ?_
        refine lv_iload hx hb dX7_isSo_47 (lv_at hl 4 rfl) ?_
        refine lv_iadd hx hb dX7_isSo_49 ?_
        obtain ⟨c_8, h⟩ := nb_c h
        refine va_iald hx hb hK.1 hP 58 0 nb_a58 rfl c_8 dX7_isSo_50 ?_
        refine lv_aload_n hx hb dX7_isSo_51 rfl (lv_at hl 0 rfl) ?_
        refine lv_iload hx hb dX7_isSo_52 (lv_at hl 4 rfl) ?_
        refine lv_iload_n hx hb dX7_isSo_54 rfl (lv_at hl 2 rfl) ?_
        obtain ⟨r_9, M_9, e_9, h⟩ := nb_pE h
        refine nb_callV (n := 2) (As := [.int x4, .int x2]) (rest := [.int (M.1 6 (((24 : Int32) * x1) + x4).toNatClampNeg)]) hx hb hml hown hts hK hZ hP hS (k_X7_riskBy had M N x4 x2 e_9) gX7_isSo_X7_riskBy rfl (by decide +kernel) (nb_rm (Nat.le_of_ble_eq_true rfl) (Nat.le_of_ble_eq_true rfl)) nb_a52 rfl rfl rfl hl.1 rfl (Nat.le_of_ble_eq_true rfl) dX7_isSo_55 (fun H locs hP hS => ?_)
        refine W.eq (g2 := F0 m 58 ls [.int r_9, .int (M.1 6 (((24 : Int32) * x1) + x4).toNatClampNeg)]) rfl ?_
        refine lv_icmp_ne (tgt := 65) hx hb dX7_isSo_58 (by decide) (fun c_10 => ?_) (fun c_10 => ?_)
        · have h := nb_f c_10 h
          refine lv_iconst (v := (0 : Int32)) hx hb dX7_isSo_65 (by decide) ?_
          refine lv_istore_n (lv' := [(3, .int (0 : Int32)), (0, .ref (ad 52)), (1, .int x1), (2, .int x2), (4, .int x4)]) hx hb dX7_isSo_66 rfl hl (by decide) rfl (fun ls hl => ?_)
          refine lv_iinc (v := x4 + 1) (lv' := [(4, .int (x4 + 1)), (3, .int (0 : Int32)), (0, .ref (ad 52)), (1, .int x1), (2, .int x2)]) hx hb dX7_isSo_67 hl (k := 4) rfl (congrArg (HAdd.hAdd x4) (by decide)) (by decide) rfl (fun ls hl => ?_)
          refine lv_goto (tgt := 24) hx hb dX7_isSo_70 (by decide) ?_
          exact ih _ _ _ _ _ h _ _ hP hS _ (lv_sub hl [2, 3, 4, 1, 0] rfl)
        · have h := nb_t c_10 h
          refine lv_iconst (v := (1 : Int32)) hx hb dX7_isSo_61 (by decide) ?_
          refine lv_goto (tgt := 66) hx hb dX7_isSo_62 (by decide) ?_
          refine lv_istore_n (lv' := [(3, .int (1 : Int32)), (0, .ref (ad 52)), (1, .int x1), (2, .int x2), (4, .int x4)]) hx hb dX7_isSo_66 rfl hl (by decide) rfl (fun ls hl => ?_)
          refine lv_iinc (v := x4 + 1) (lv' := [(4, .int (x4 + 1)), (3, .int (1 : Int32)), (0, .ref (ad 52)), (1, .int x1), (2, .int x2)]) hx hb dX7_isSo_67 hl (k := 4) rfl (congrArg (HAdd.hAdd x4) (by decide)) (by decide) rfl (fun ls hl => ?_)
          refine lv_goto (tgt := 24) hx hb dX7_isSo_70 (by decide) ?_
          exact ih _ _ _ _ _ h _ _ hP hS _ (lv_sub hl [2, 3, 4, 1, 0] rfl)
set_option maxHeartbeats 4000000 in
set_option maxRecDepth 100000 in
theorem k_X7_isSo {r : Int32} {M' : nb_M} (had : nb_AD ad b0) (M N : nb_M) (p0 : Int32) (p1 : Int32) (h : f_X7_isSo M p0 p1 = some (r, M')) : nb_C l D ad ca b0 yX7_isSo wsX7_isSo 4 [.ref (ad 52), .int p0, .int p1] N M (some (.int r)) N M' := by
  refine nb_of (cc := cX7_isSo) (maxL := 5) (ret := (some .boolean)) (own := RX7) (by decide +kernel) rfl rfl (Nat.le_of_ble_eq_true rfl) ?_
  intro p e s m args below meth c ls X hP hS hl
  have hl : lv_has ls 5 [(0, .ref (ad 52)), (1, .int p0), (2, .int p1)] := hl
  obtain ⟨hx, hb, hml, hown, hts, hr, hlk, hK, hZ⟩ := id X
  have w_1 := hts (.fieldLink RX7 22 "NineBreakagesModel" "sizeOf" "[I") (by decide +kernel)
  have in7 : ∀ w ∈ u_ws RX7 TX7 21, w ∈ wsX7_isSo := fun w q => List.mem_cons_of_mem _ (List.mem_append_right _ q)
  have w_3 := hts (.fieldLink RX7 9 "NineBreakagesModel" "row" "[I") (by decide +kernel)
  unfold f_X7_isSo at h
  refine lv_aload_n hx hb dX7_isSo_0 rfl (lv_at hl 0 rfl) ?_
  refine va_get (v := .ref (ad 57)) (C := RX7) (T := TX7) (N := 21) hx hb hts in7 hown hK.1 hP 52 nb_a52 rfl 5 (by decide) w_1 (fun _ h9 => h9) rfl dX7_isSo_1 ?_
  refine lv_iload_n hx hb dX7_isSo_4 rfl (lv_at hl 1 rfl) ?_
  obtain ⟨c_1, h⟩ := nb_c h
  refine va_iald hx hb hK.1 hP 57 0 nb_a57 rfl c_1 dX7_isSo_5 ?_
  refine lv_aload_n hx hb dX7_isSo_6 rfl (lv_at hl 0 rfl) ?_
  refine va_get (v := .ref (ad 53)) (C := RX7) (T := TX7) (N := 21) hx hb hts in7 hown hK.1 hP 52 nb_a52 rfl 0 (by decide) w_3 (fun _ h9 => h9) rfl dX7_isSo_7 ?_
  refine lv_iconst (v := (2 : Int32)) hx hb dX7_isSo_10 (by decide) ?_
  refine va_iald hx hb hK.1 hP 53 0 nb_a53 rfl (nb_lit rfl) dX7_isSo_11 ?_
  refine lv_icmp_gt (tgt := 19) hx hb dX7_isSo_12 (by decide) (fun c_2 => ?_) (fun c_2 => ?_)
  · have h := nb_t c_2 h
    refine lv_iconst (v := (0 : Int32)) hx hb dX7_isSo_19 (by decide) ?_
    refine lv_istore_n (lv' := [(3, .int (0 : Int32)), (0, .ref (ad 52)), (1, .int p0), (2, .int p1)]) hx hb dX7_isSo_20 rfl hl (by decide) rfl (fun ls hl => ?_)
    refine lv_iconst (v := (0 : Int32)) hx hb dX7_isSo_21 (by decide) ?_
    refine lv_istore (lv' := [(4, .int (0 : Int32)), (3, .int (0 : Int32)), (0, .ref (ad 52)), (1, .int p0), (2, .int p1)]) hx hb dX7_isSo_22 hl (by decide) rfl (fun ls hl => ?_)
    exact w_X7_isSo_24 had X nb_F _ _ _ _ _ h _ _ hP hS _ (lv_sub hl [2, 3, 4, 1, 0] rfl)
  · have h := nb_f c_2 h
    refine lv_iconst (v := (1 : Int32)) hx hb dX7_isSo_15 (by decide) ?_
    refine lv_goto (tgt := 20) hx hb dX7_isSo_16 (by decide) ?_
    refine lv_istore_n (lv' := [(3, .int (1 : Int32)), (0, .ref (ad 52)), (1, .int p0), (2, .int p1)]) hx hb dX7_isSo_20 rfl hl (by decide) rfl (fun ls hl => ?_)
    refine lv_iconst (v := (0 : Int32)) hx hb dX7_isSo_21 (by decide) ?_
    refine lv_istore (lv' := [(4, .int (0 : Int32)), (3, .int (1 : Int32)), (0, .ref (ad 52)), (1, .int p0), (2, .int p1)]) hx hb dX7_isSo_22 hl (by decide) rfl (fun ls hl => ?_)
    exact w_X7_isSo_24 had X nb_F _ _ _ _ _ h _ _ hP hS _ (lv_sub hl [2, 3, 4, 1, 0] rfl)
set_option maxHeartbeats 4000000 in
set_option maxRecDepth 100000 in
theorem w_X7_fits_57 {N : nb_M} {r : Int32} {M' : nb_M} (had : nb_AD ad b0) (X : nb_X p s m args meth c cX7_fits 8 RX7 (some .int) wsX7_fits D ca b0) : ∀ (n : Nat) (M : nb_M) (x1 : Int32) (x3 : Int32) (x4 : Int32) (x5 : Int32) (x6 : Int32), f_X7_fits_57 n M x1 x3 x4 x5 x6 = some (r, M') → ∀ (H : Heap) (locs : List Loc), va_P D vwCl (nb_w ad ca N M) H → va_S (fun q => b0 ≤ q) s.heap H locs → ∀ ls : Array Slot, lv_has ls 8 [(0, .ref (ad 52)), (1, .int x1), (3, .int x3), (4, .int x4), (5, .int x5), (6, .int x6)] → W p l e (nb_R 5) s m args below meth c H locs 0 0 (nb_Q below args s D ad ca b0 (some (.int r)) N M') (F0 m 57 ls []) := by
  obtain ⟨hx, hb, hml, hown, hts, hr, hlk, hK, hZ⟩ := id X
  have w_1 := hts (.constant RX7 206 (-1000000002)) (by decide +kernel)
  intro n
  induction n with
  | zero =>
    intro M x1 x3 x4 x5 x6 h
    rw [f_X7_fits_57] at h
    cases h
  | succ n ih =>
    intro M x1 x3 x4 x5 x6 h H locs hP hS ls hl
    rw [f_X7_fits_57] at h
    refine lv_iload hx hb dX7_fits_57 (lv_at hl 5 rfl) ?_
    refine lv_if_lt (tgt := 109) hx hb dX7_fits_59 (by decide) (fun c_11 => ?_) (fun c_11 => ?_)
    · have h := nb_t c_11 h
      refine lv_iload_n hx hb dX7_fits_109 rfl (lv_at hl 2 rfl) ?_
      refine lv_if_ne (tgt := 118) hx hb dX7_fits_110 (by decide) (fun c_12 => ?_) (fun c_12 => ?_)
      · have h := nb_f c_12 h
        refine lv_iload hx hb dX7_fits_118 (lv_at hl 4 rfl) ?_
        refine lv_if_ge (tgt := 132) hx hb dX7_fits_120 (by decide) (fun c_13 => ?_) (fun c_13 => ?_)
        · have h := nb_t c_13 h
          refine lv_iload hx hb dX7_fits_132 (lv_at hl 4 rfl) ?_
          obtain ⟨rfl, rfl⟩ := nb_e2 h
          exact nb_iret hx hb hr hlk hP hS dX7_fits_134
        · have h := nb_f c_13 h
          refine lv_aload_n hx hb dX7_fits_123 rfl (lv_at hl 0 rfl) ?_
          refine lv_ldc (v := (-1000000002 : Int32)) hx hb hown w_1 dX7_fits_124 ?_
          obtain ⟨r_14, M_14, e_14, h⟩ := nb_pE h
          refine nb_callV (n := 1) (As := [.int (-1000000002 : Int32)]) (rest := []) hx hb hml hown hts hK hZ hP hS (k_X7_error had M N (-1000000002 : Int32) e_14) gX7_fits_X7_error rfl (by decide +kernel) (nb_rm (Nat.le_of_ble_eq_true rfl) (Nat.le_of_ble_eq_true rfl)) nb_a52 rfl rfl rfl hl.1 rfl (Nat.le_of_ble_eq_true rfl) dX7_fits_126 (fun H locs hP hS => ?_)
          refine W.eq (g2 := F0 m 129 ls [.int r_14]) rfl ?_
          refine lv_goto (tgt := 134) hx hb dX7_fits_129 (by decide) ?_
          obtain ⟨rfl, rfl⟩ := nb_e2 h
          exact nb_iret hx hb hr hlk hP hS dX7_fits_134
      · have h := nb_t c_12 h
        refine lv_iload hx hb dX7_fits_113 (lv_at hl 3 rfl) ?_
        refine lv_goto (tgt := 134) hx hb dX7_fits_115 (by decide) ?_
        obtain ⟨rfl, rfl⟩ := nb_e2 h
        exact nb_iret hx hb hr hlk hP hS dX7_fits_134
    · have h := nb_f c_11 h
      refine lv_aload_n hx hb dX7_fits_62 rfl (lv_at hl 0 rfl) ?_
      refine lv_iload_n hx hb dX7_fits_63 rfl (lv_at hl 1 rfl) ?_
      refine lv_iload hx hb dX7_fits_64 (lv_at hl 5 rfl) ?_
      obtain ⟨r_15, M_15, e_15, h⟩ := nb_pE h
      refine nb_callV (n := 2) (As := [.int x1, .int x6]) (rest := []) hx hb hml hown hts hK hZ hP hS (k_X7_isSo had M N x1 x6 e_15) gX7_fits_X7_isSo rfl (by decide +kernel) (nb_rm (Nat.le_of_ble_eq_true rfl) (Nat.le_of_ble_eq_true rfl)) nb_a52 rfl rfl rfl hl.1 rfl (Nat.le_of_ble_eq_true rfl) dX7_fits_66 (fun H locs hP hS => ?_)
      refine W.eq (g2 := F0 m 69 ls [.int r_15]) rfl ?_
      refine lv_istore (lv' := [(7, .int r_15), (0, .ref (ad 52)), (1, .int x1), (3, .int x3), (4, .int x4), (5, .int x5), (6, .int x6)]) hx hb dX7_fits_69 hl (by decide) rfl (fun ls hl => ?_)
      refine lv_iload hx hb dX7_fits_71 (lv_at hl 4 rfl) ?_
      refine lv_iload hx hb dX7_fits_73 (lv_at hl 0 rfl) ?_
      refine lv_if_eq (tgt := 85) hx hb dX7_fits_75 (by decide) (fun c_16 => ?_) (fun c_16 => ?_)
      · have h := nb_t c_16 h
        refine lv_iconst (v := (0 : Int32)) hx hb dX7_fits_85 (by decide) ?_
        refine lv_ior hx hb dX7_fits_86 ?_
        refine lv_topi (fun v_17 e_17 => ?_)
        have h := nb_nA e_17 h
        refine lv_istore (lv' := [(4, .int v_17), (7, .int r_15), (0, .ref (ad 52)), (1, .int x1), (3, .int x3), (5, .int x5), (6, .int x6)]) hx hb dX7_fits_87 hl (by decide) rfl (fun ls hl => ?_)
        refine lv_iload hx hb dX7_fits_89 (lv_at hl 1 rfl) ?_
        refine lv_if_eq (tgt := 99) hx hb dX7_fits_91 (by decide) (fun _ => ?_) (fun c_18 => absurd c_16 c_18)
        refine lv_iload hx hb dX7_fits_99 (lv_at hl 5 rfl) ?_
        refine lv_istore (lv' := [(5, .int x5), (4, .int v_17), (7, .int r_15), (0, .ref (ad 52)), (1, .int x1), (3, .int x3), (6, .int x6)]) hx hb dX7_fits_101 hl (by decide) rfl (fun ls hl => ?_)
        refine lv_iinc (v := x6 + (-1)) (lv' := [(6, .int (x6 + (-1))), (5, .int x5), (4, .int v_17), (7, .int r_15), (0, .ref (ad 52)), (1, .int x1), (3, .int x3)]) hx hb dX7_fits_103 hl (k := 6) rfl (congrArg (HAdd.hAdd x6) (by decide)) (by decide) rfl (fun ls hl => ?_)
        refine lv_goto (tgt := 57) hx hb dX7_fits_106 (by decide) ?_
        exact ih _ _ _ _ _ _ h _ _ hP hS _ (lv_sub hl [4, 5, 6, 2, 1, 0] rfl)
      · have h := nb_f c_16 h
        refine lv_iconst (v := (1 : Int32)) hx hb dX7_fits_78 (by decide) ?_
        refine lv_iload hx hb dX7_fits_79 (lv_at hl 6 rfl) ?_
        refine lv_ishl hx hb dX7_fits_81 ?_
        refine lv_goto (tgt := 86) hx hb dX7_fits_82 (by decide) ?_
        refine lv_ior hx hb dX7_fits_86 ?_
        refine lv_topi (fun v_19 e_19 => ?_)
        have h := nb_nA e_19 h
        refine lv_istore (lv' := [(4, .int v_19), (7, .int r_15), (0, .ref (ad 52)), (1, .int x1), (3, .int x3), (5, .int x5), (6, .int x6)]) hx hb dX7_fits_87 hl (by decide) rfl (fun ls hl => ?_)
        refine lv_iload hx hb dX7_fits_89 (lv_at hl 1 rfl) ?_
        refine lv_if_eq (tgt := 99) hx hb dX7_fits_91 (by decide) (fun c_20 => ?_) (fun c_20 => ?_)
        · have h := nb_t c_20 h
          refine lv_iload hx hb dX7_fits_99 (lv_at hl 5 rfl) ?_
          refine lv_istore (lv' := [(5, .int x5), (4, .int v_19), (7, .int r_15), (0, .ref (ad 52)), (1, .int x1), (3, .int x3), (6, .int x6)]) hx hb dX7_fits_101 hl (by decide) rfl (fun ls hl => ?_)
          refine lv_iinc (v := x6 + (-1)) (lv' := [(6, .int (x6 + (-1))), (5, .int x5), (4, .int v_19), (7, .int r_15), (0, .ref (ad 52)), (1, .int x1), (3, .int x3)]) hx hb dX7_fits_103 hl (k := 6) rfl (congrArg (HAdd.hAdd x6) (by decide)) (by decide) rfl (fun ls hl => ?_)
          refine lv_goto (tgt := 57) hx hb dX7_fits_106 (by decide) ?_
          exact ih _ _ _ _ _ _ h _ _ hP hS _ (lv_sub hl [4, 5, 6, 2, 1, 0] rfl)
        · have h := nb_f c_20 h
          refine lv_iload hx hb dX7_fits_94 (lv_at hl 6 rfl) ?_
          refine lv_goto (tgt := 101) hx hb dX7_fits_96 (by decide) ?_
          refine lv_istore (lv' := [(5, .int x6), (4, .int v_19), (7, .int r_15), (0, .ref (ad 52)), (1, .int x1), (3, .int x3), (6, .int x6)]) hx hb dX7_fits_101 hl (by decide) rfl (fun ls hl => ?_)
          refine lv_iinc (v := x6 + (-1)) (lv' := [(6, .int (x6 + (-1))), (5, .int x6), (4, .int v_19), (7, .int r_15), (0, .ref (ad 52)), (1, .int x1), (3, .int x3)]) hx hb dX7_fits_103 hl (k := 6) rfl (congrArg (HAdd.hAdd x6) (by decide)) (by decide) rfl (fun ls hl => ?_)
          refine lv_goto (tgt := 57) hx hb dX7_fits_106 (by decide) ?_
          exact ih _ _ _ _ _ _ h _ _ hP hS _ (lv_sub hl [4, 5, 6, 2, 1, 0] rfl)
set_option maxHeartbeats 4000000 in
set_option maxRecDepth 100000 in
theorem k_X7_fits {r : Int32} {M' : nb_M} (had : nb_AD ad b0) (M N : nb_M) (p0 : Int32) (p1 : Int32) (p2 : Int32) (h : f_X7_fits M p0 p1 p2 = some (r, M')) : nb_C l D ad ca b0 yX7_fits wsX7_fits 5 [.ref (ad 52), .int p0, .int p1, .int p2] N M (some (.int r)) N M' := by
  refine nb_of (cc := cX7_fits) (maxL := 8) (ret := (some .int)) (own := RX7) (by decide +kernel) rfl rfl (Nat.le_of_ble_eq_true rfl) ?_
  intro p e s m args below meth c ls X hP hS hl
  have hl : lv_has ls 8 [(0, .ref (ad 52)), (1, .int p0), (2, .int p1), (3, .int p2)] := hl
  obtain ⟨hx, hb, hml, hown, hts, hr, hlk, hK, hZ⟩ := id X
  have w_1 := hts (.constant RX7 77 (-1000000001)) (by decide +kernel)
  have w_2 := hts (.fieldLink RX7 19 "NineBreakagesModel" "bitsOf" "[I") (by decide +kernel)
  have in7 : ∀ w ∈ u_ws RX7 TX7 21, w ∈ wsX7_fits := fun w q => List.mem_cons_of_mem _ (List.mem_append_right _ q)
  have w_4 := hts (.constant RX7 206 (-1000000002)) (by decide +kernel)
  unfold f_X7_fits at h
  refine lv_iload_n hx hb dX7_fits_0 rfl (lv_at hl 1 rfl) ?_
  refine nb_callS (n := 1) (As := [.int p0]) (rest := []) hx hb hml hown hts hK hZ hP hS (k_X7_isSheet had M N p0) gX7_fits_X7_isSheet rfl (by decide +kernel) (nb_rm (Nat.le_of_ble_eq_true rfl) (Nat.le_of_ble_eq_true rfl)) rfl hl.1 rfl (Nat.le_of_ble_eq_true rfl) dX7_fits_1 (fun H locs hP hS => ?_)
  refine W.eq (g2 := F0 m 4 ls [.int (f_X7_isSheet p0)]) rfl ?_
  refine lv_if_eq (tgt := 24) hx hb dX7_fits_4 (by decide) (fun c_2 => ?_) (fun c_2 => ?_)
  · have h := nb_t c_2 h
    refine lv_aload_n hx hb dX7_fits_24 rfl (lv_at hl 0 rfl) ?_
    refine lv_ldc (v := (-1000000001 : Int32)) hx hb hown w_1 dX7_fits_25 ?_
    obtain ⟨r_3, M_3, e_3, h⟩ := nb_pE h
    refine nb_callV (n := 1) (As := [.int (-1000000001 : Int32)]) (rest := []) hx hb hml hown hts hK hZ hP hS (k_X7_error had M N (-1000000001 : Int32) e_3) gX7_fits_X7_error rfl (by decide +kernel) (nb_rm (Nat.le_of_ble_eq_true rfl) (Nat.le_of_ble_eq_true rfl)) nb_a52 rfl rfl rfl hl.1 rfl (Nat.le_of_ble_eq_true rfl) dX7_fits_27 (fun H locs hP hS => ?_)
    refine W.eq (g2 := F0 m 30 ls [.int r_3]) rfl ?_
    obtain ⟨rfl, rfl⟩ := nb_e2 h
    exact nb_iret hx hb hr hlk hP hS dX7_fits_30
  · have h := nb_f c_2 h
    refine lv_aload_n hx hb dX7_fits_7 rfl (lv_at hl 0 rfl) ?_
    refine lv_iload_n hx hb dX7_fits_8 rfl (lv_at hl 2 rfl) ?_
    refine nb_callV (n := 1) (As := [.int p1]) (rest := []) hx hb hml hown hts hK hZ hP hS (k_X7_isPerson had M N p1) gX7_fits_X7_isPerson rfl (by decide +kernel) (nb_rm (Nat.le_of_ble_eq_true rfl) (Nat.le_of_ble_eq_true rfl)) nb_a52 rfl rfl rfl hl.1 rfl (Nat.le_of_ble_eq_true rfl) dX7_fits_9 (fun H locs hP hS => ?_)
    refine W.eq (g2 := F0 m 12 ls [.int (f_X7_isPerson M p1)]) rfl ?_
    refine lv_if_eq (tgt := 24) hx hb dX7_fits_12 (by decide) (fun c_5 => ?_) (fun c_5 => ?_)
    · have h := nb_t c_5 h
      refine lv_aload_n hx hb dX7_fits_24 rfl (lv_at hl 0 rfl) ?_
      refine lv_ldc (v := (-1000000001 : Int32)) hx hb hown w_1 dX7_fits_25 ?_
      obtain ⟨r_6, M_6, e_6, h⟩ := nb_pE h
      refine nb_callV (n := 1) (As := [.int (-1000000001 : Int32)]) (rest := []) hx hb hml hown hts hK hZ hP hS (k_X7_error had M N (-1000000001 : Int32) e_6) gX7_fits_X7_error rfl (by decide +kernel) (nb_rm (Nat.le_of_ble_eq_true rfl) (Nat.le_of_ble_eq_true rfl)) nb_a52 rfl rfl rfl hl.1 rfl (Nat.le_of_ble_eq_true rfl) dX7_fits_27 (fun H locs hP hS => ?_)
      refine W.eq (g2 := F0 m 30 ls [.int r_6]) rfl ?_
      obtain ⟨rfl, rfl⟩ := nb_e2 h
      exact nb_iret hx hb hr hlk hP hS dX7_fits_30
    · have h := nb_f c_5 h
      refine lv_iload_n hx hb dX7_fits_15 rfl (lv_at hl 3 rfl) ?_
      refine lv_iconst (v := (0 : Int32)) hx hb dX7_fits_16 (by decide) ?_
      refine lv_iconst (v := (1 : Int32)) hx hb dX7_fits_17 (by decide) ?_
      refine nb_callS (n := 3) (As := [.int p2, .int (0 : Int32), .int (1 : Int32)]) (rest := []) hx hb hml hown hts hK hZ hP hS (k_X7_in had M N p2 (0 : Int32) (1 : Int32)) gX7_fits_X7_in rfl (by decide +kernel) (nb_rm (Nat.le_of_ble_eq_true rfl) (Nat.le_of_ble_eq_true rfl)) rfl hl.1 rfl (Nat.le_of_ble_eq_true rfl) dX7_fits_18 (fun H locs hP hS => ?_)
      refine W.eq (g2 := F0 m 21 ls [.int (f_X7_in p2 (0 : Int32) (1 : Int32))]) rfl ?_
      refine lv_if_ne (tgt := 31) hx hb dX7_fits_21 (by decide) (fun c_8 => ?_) (fun c_8 => ?_)
      · have h := nb_f c_8 h
        refine lv_aload_n hx hb dX7_fits_31 rfl (lv_at hl 0 rfl) ?_
        refine va_get (v := .ref (ad 56)) (C := RX7) (T := TX7) (N := 21) hx hb hts in7 hown hK.1 hP 52 nb_a52 rfl 4 (by decide) w_2 (fun _ h9 => h9) rfl dX7_fits_32 ?_
        refine lv_iload_n hx hb dX7_fits_35 rfl (lv_at hl 1 rfl) ?_
        obtain ⟨c_9, h⟩ := nb_c h
        refine va_iald hx hb hK.1 hP 56 0 nb_a56 rfl c_9 dX7_fits_36 ?_
        refine lv_if_ne (tgt := 47) hx hb dX7_fits_37 (by decide) (fun c_10 => ?_) (fun c_10 => ?_)
        · have h := nb_f c_10 h
          refine lv_iconst (v := (0 : Int32)) hx hb dX7_fits_47 (by decide) ?_
          refine lv_istore (lv' := [(4, .int (0 : Int32)), (0, .ref (ad 52)), (1, .int p0), (2, .int p1), (3, .int p2)]) hx hb dX7_fits_48 hl (by decide) rfl (fun ls hl => ?_)
          refine lv_iconst (v := (-1 : Int32)) hx hb dX7_fits_50 (by decide) ?_
          refine lv_istore (lv' := [(5, .int (-1 : Int32)), (4, .int (0 : Int32)), (0, .ref (ad 52)), (1, .int p0), (2, .int p1), (3, .int p2)]) hx hb dX7_fits_51 hl (by decide) rfl (fun ls hl => ?_)
          refine lv_bipush (v := (9 : Int32)) hx hb dX7_fits_53 (by decide) ?_
          refine lv_istore (lv' := [(6, .int (9 : Int32)), (5, .int (-1 : Int32)), (4, .int (0 : Int32)), (0, .ref (ad 52)), (1, .int p0), (2, .int p1), (3, .int p2)]) hx hb dX7_fits_55 hl (by decide) rfl (fun ls hl => ?_)
          exact w_X7_fits_57 had X nb_F _ _ _ _ _ _ h _ _ hP hS _ (lv_sub hl [3, 4, 6, 2, 1, 0] rfl)
        · have h := nb_t c_10 h
          refine lv_aload_n hx hb dX7_fits_40 rfl (lv_at hl 0 rfl) ?_
          refine lv_ldc (v := (-1000000002 : Int32)) hx hb hown w_4 dX7_fits_41 ?_
          obtain ⟨r_21, M_21, e_21, h⟩ := nb_pE h
          refine nb_callV (n := 1) (As := [.int (-1000000002 : Int32)]) (rest := []) hx hb hml hown hts hK hZ hP hS (k_X7_error had M N (-1000000002 : Int32) e_21) gX7_fits_X7_error rfl (by decide +kernel) (nb_rm (Nat.le_of_ble_eq_true rfl) (Nat.le_of_ble_eq_true rfl)) nb_a52 rfl rfl rfl hl.1 rfl (Nat.le_of_ble_eq_true rfl) dX7_fits_43 (fun H locs hP hS => ?_)
          refine W.eq (g2 := F0 m 46 ls [.int r_21]) rfl ?_
          obtain ⟨rfl, rfl⟩ := nb_e2 h
          exact nb_iret hx hb hr hlk hP hS dX7_fits_46
      · have h := nb_t c_8 h
        refine lv_aload_n hx hb dX7_fits_24 rfl (lv_at hl 0 rfl) ?_
        refine lv_ldc (v := (-1000000001 : Int32)) hx hb hown w_1 dX7_fits_25 ?_
        obtain ⟨r_22, M_22, e_22, h⟩ := nb_pE h
        refine nb_callV (n := 1) (As := [.int (-1000000001 : Int32)]) (rest := []) hx hb hml hown hts hK hZ hP hS (k_X7_error had M N (-1000000001 : Int32) e_22) gX7_fits_X7_error rfl (by decide +kernel) (nb_rm (Nat.le_of_ble_eq_true rfl) (Nat.le_of_ble_eq_true rfl)) nb_a52 rfl rfl rfl hl.1 rfl (Nat.le_of_ble_eq_true rfl) dX7_fits_27 (fun H locs hP hS => ?_)
        refine W.eq (g2 := F0 m 30 ls [.int r_22]) rfl ?_
        obtain ⟨rfl, rfl⟩ := nb_e2 h
        exact nb_iret hx hb hr hlk hP hS dX7_fits_30
set_option maxHeartbeats 4000000 in
set_option maxRecDepth 100000 in
theorem k_X7_begins {M' : nb_M} (had : nb_AD ad b0) (M N : nb_M) (p0 : Int32) (h : f_X7_begins M p0 = some (M')) : nb_C l D ad ca b0 yX7_begins wsX7_begins 0 [.ref (ad 52), .int p0] N M none N M' := by
  refine nb_of (cc := cX7_begins) (maxL := 2) (ret := none) (own := RX7) (by decide +kernel) rfl rfl (Nat.le_of_ble_eq_true rfl) ?_
  intro p e s m args below meth c ls X hP hS hl
  have hl : lv_has ls 2 [(0, .ref (ad 52)), (1, .int p0)] := hl
  obtain ⟨hx, hb, hml, hown, hts, hr, hlk, hK, hZ⟩ := id X
  have w_1 := hts (.fieldLink RX7 213 "NineBreakagesModel" "traced" "I") (by decide +kernel)
  have in7 : ∀ w ∈ u_ws RX7 TX7 21, w ∈ wsX7_begins := fun w q => List.mem_cons_of_mem _ (List.mem_append_right _ q)
  have w_3 := hts (.fieldLink RX7 44 "NineBreakagesModel" "trace" "[I") (by decide +kernel)
  unfold f_X7_begins at h
  refine lv_aload_n hx hb dX7_begins_0 rfl (lv_at hl 0 rfl) ?_
  refine va_get (v := .int (M.1 0 19)) (C := RX7) (T := TX7) (N := 21) hx hb hts in7 hown hK.1 hP 52 nb_a52 rfl 19 (by decide) w_1 (fun _ h9 => h9) rfl dX7_begins_1 ?_
  refine lv_bipush (v := (30 : Int32)) hx hb dX7_begins_4 (by decide) ?_
  refine lv_icmp_ge (tgt := 29) hx hb dX7_begins_6 (by decide) (fun c_1 => ?_) (fun c_1 => ?_)
  · have h := nb_t c_1 h
    obtain rfl := nb_e1 h
    exact nb_vret hx hb hr hlk hP hS dX7_begins_29
  · have h := nb_f c_1 h
    refine lv_aload_n hx hb dX7_begins_9 rfl (lv_at hl 0 rfl) ?_
    refine va_get (v := .ref (ad 64)) (C := RX7) (T := TX7) (N := 21) hx hb hts in7 hown hK.1 hP 52 nb_a52 rfl 18 (by decide) w_3 (fun _ h9 => h9) rfl dX7_begins_10 ?_
    refine lv_aload_n hx hb dX7_begins_13 rfl (lv_at hl 0 rfl) ?_
    refine va_get (v := .int (M.1 0 19)) (C := RX7) (T := TX7) (N := 21) hx hb hts in7 hown hK.1 hP 52 nb_a52 rfl 19 (by decide) w_1 (fun _ h9 => h9) rfl dX7_begins_14 ?_
    refine lv_iload_n hx hb dX7_begins_17 rfl (lv_at hl 1 rfl) ?_
    obtain ⟨c_2, h⟩ := nb_c h
    refine nb_iast hx hb had hK hP hS nb_a64 c_2 (nb_t64 _ _) dX7_begins_18 (fun H locs hP hS => ?_)
    obtain ⟨M_3, e_3, h⟩ := nb_nE h
    rw [e_3] at hP
    refine lv_aload_n hx hb dX7_begins_19 rfl (lv_at hl 0 rfl) ?_
    refine lv_dup hx hb dX7_begins_20 rfl ?_
    refine va_get (v := .int (M_3.1 0 19)) (C := RX7) (T := TX7) (N := 21) hx hb hts in7 hown hK.1 hP 52 nb_a52 rfl 19 (by decide) w_1 (fun _ h9 => h9) rfl dX7_begins_21 ?_
    refine lv_iconst (v := (1 : Int32)) hx hb dX7_begins_24 (by decide) ?_
    refine lv_iadd hx hb dX7_begins_25 ?_
    refine nb_put (C := RX7) (T := TX7) (NN := 21) hx hb had hts in7 tyX7 tyX7_ok nmX7 hown hK hP hS nb_a52 rfl 19 (by decide) w_1 rfl (ty := .int) (by decide +kernel) rfl rfl (Nat.le_of_ble_eq_true rfl) (nb_p52_19 _) dX7_begins_26 (fun H locs hP hS => ?_)
    obtain ⟨M_4, e_4, h⟩ := nb_nE h
    rw [e_4] at hP
    obtain rfl := nb_e1 h
    exact nb_vret hx hb hr hlk hP hS dX7_begins_29
set_option maxHeartbeats 4000000 in
set_option maxRecDepth 100000 in
theorem k_X7_plainParts {r : Int32} {M' : nb_M} (had : nb_AD ad b0) (M N : nb_M) (p0 : Int32) (p1 : Int32) (h : f_X7_plainParts M p0 p1 = some (r, M')) : nb_C l D ad ca b0 yX7_plainParts wsX7_plainParts 1 [.ref (ad 52), .int p0, .int p1] N M (some (.int r)) N M' := by
  refine nb_of (cc := cX7_plainParts) (maxL := 4) (ret := (some .int)) (own := RX7) (by decide +kernel) rfl rfl (Nat.le_of_ble_eq_true rfl) ?_
  intro p e s m args below meth c ls X hP hS hl
  have hl : lv_has ls 4 [(0, .ref (ad 52)), (1, .int p0), (2, .int p1)] := hl
  obtain ⟨hx, hb, hml, hown, hts, hr, hlk, hK, hZ⟩ := id X
  have w_1 := hts (.fieldLink RX7 240 "NineBreakagesModel" "isParted" "Z") (by decide +kernel)
  have in7 : ∀ w ∈ u_ws RX7 TX7 21, w ∈ wsX7_plainParts := fun w q => List.mem_cons_of_mem _ (List.mem_append_right _ q)
  unfold f_X7_plainParts at h
  refine lv_aload_n hx hb dX7_plainParts_0 rfl (lv_at hl 0 rfl) ?_
  refine lv_bipush (v := (13 : Int32)) hx hb dX7_plainParts_1 (by decide) ?_
  obtain ⟨M_1, e_1, h⟩ := nb_oE h
  refine nb_callV (n := 1) (As := [.int (13 : Int32)]) (rest := []) hx hb hml hown hts hK hZ hP hS (k_X7_begins had M N (13 : Int32) e_1) gX7_plainParts_X7_begins rfl (by decide +kernel) (nb_rm (Nat.le_of_ble_eq_true rfl) (Nat.le_of_ble_eq_true rfl)) nb_a52 rfl rfl rfl hl.1 rfl (Nat.le_of_ble_eq_true rfl) dX7_plainParts_3 (fun H locs hP hS => ?_)
  refine W.eq (g2 := F0 m 6 ls []) rfl ?_
  refine lv_aload_n hx hb dX7_plainParts_6 rfl (lv_at hl 0 rfl) ?_
  refine lv_iload_n hx hb dX7_plainParts_7 rfl (lv_at hl 1 rfl) ?_
  refine lv_iconst (v := (1 : Int32)) hx hb dX7_plainParts_8 (by decide) ?_
  obtain ⟨r_2, e_2, h⟩ := nb_oE h
  refine nb_callV (n := 2) (As := [.int p0, .int (1 : Int32)]) (rest := []) hx hb hml hown hts hK hZ hP hS (k_X7_of had M_1 N p0 (1 : Int32) e_2) gX7_plainParts_X7_of rfl (by decide +kernel) (nb_rm (Nat.le_of_ble_eq_true rfl) (Nat.le_of_ble_eq_true rfl)) nb_a52 rfl rfl rfl hl.1 rfl (Nat.le_of_ble_eq_true rfl) dX7_plainParts_9 (fun H locs hP hS => ?_)
  refine W.eq (g2 := F0 m 12 ls [.int r_2]) rfl ?_
  refine lv_iload_n hx hb dX7_plainParts_12 rfl (lv_at hl 1 rfl) ?_
  refine lv_isub hx hb dX7_plainParts_13 ?_
  refine lv_topi (fun v_3 e_3 => ?_)
  have h := nb_nA e_3 h
  refine lv_istore_n (lv' := [(3, .int v_3), (0, .ref (ad 52)), (1, .int p0), (2, .int p1)]) hx hb dX7_plainParts_14 rfl hl (by decide) rfl (fun ls hl => ?_)
  refine lv_aload_n hx hb dX7_plainParts_15 rfl (lv_at hl 1 rfl) ?_
  refine lv_iload_n hx hb dX7_plainParts_16 rfl (lv_at hl 0 rfl) ?_
  refine lv_if_ne (tgt := 24) hx hb dX7_plainParts_17 (by decide) (fun c_4 => ?_) (fun c_4 => ?_)
  · have h := nb_f c_4 h
    refine lv_iconst (v := (0 : Int32)) hx hb dX7_plainParts_24 (by decide) ?_
    refine nb_put (C := RX7) (T := TX7) (NN := 21) hx hb had hts in7 tyX7 tyX7_ok nmX7 hown hK hP hS nb_a52 rfl 20 (by decide) w_1 rfl (ty := .boolean) (by decide +kernel) rfl rfl (Nat.le_of_ble_eq_true rfl) (nb_p52_20 _) dX7_plainParts_25 (fun H locs hP hS => ?_)
    obtain ⟨M_5, e_5, h⟩ := nb_nE h
    rw [e_5] at hP
    refine lv_aload_n hx hb dX7_plainParts_28 rfl (lv_at hl 1 rfl) ?_
    refine va_get (v := .int (M_5.1 0 20)) (C := RX7) (T := TX7) (N := 21) hx hb hts in7 hown hK.1 hP 52 nb_a52 rfl 20 (by decide) w_1 (fun _ h9 => h9) rfl dX7_plainParts_29 ?_
    refine lv_if_eq (tgt := 39) hx hb dX7_plainParts_32 (by decide) (fun c_6 => ?_) (fun c_6 => ?_)
    · have h := nb_t c_6 h
      refine lv_iload_n hx hb dX7_plainParts_39 rfl (lv_at hl 3 rfl) ?_
      refine lv_iload_n hx hb dX7_plainParts_40 rfl (lv_at hl 0 rfl) ?_
      obtain ⟨c_7, h⟩ := nb_c h
      refine lv_idiv hx hb dX7_plainParts_41 c_7 ?_
      obtain ⟨rfl, rfl⟩ := nb_e2 h
      exact nb_iret hx hb hr hlk hP hS dX7_plainParts_42
    · have h := nb_f c_6 h
      refine lv_iconst (v := (0 : Int32)) hx hb dX7_plainParts_35 (by decide) ?_
      refine lv_goto (tgt := 42) hx hb dX7_plainParts_36 (by decide) ?_
      obtain ⟨rfl, rfl⟩ := nb_e2 h
      exact nb_iret hx hb hr hlk hP hS dX7_plainParts_42
  · have h := nb_t c_4 h
    refine lv_iconst (v := (1 : Int32)) hx hb dX7_plainParts_20 (by decide) ?_
    refine lv_goto (tgt := 25) hx hb dX7_plainParts_21 (by decide) ?_
    refine nb_put (C := RX7) (T := TX7) (NN := 21) hx hb had hts in7 tyX7 tyX7_ok nmX7 hown hK hP hS nb_a52 rfl 20 (by decide) w_1 rfl (ty := .boolean) (by decide +kernel) rfl rfl (Nat.le_of_ble_eq_true rfl) (nb_p52_20 _) dX7_plainParts_25 (fun H locs hP hS => ?_)
    obtain ⟨M_8, e_8, h⟩ := nb_nE h
    rw [e_8] at hP
    refine lv_aload_n hx hb dX7_plainParts_28 rfl (lv_at hl 1 rfl) ?_
    refine va_get (v := .int (M_8.1 0 20)) (C := RX7) (T := TX7) (N := 21) hx hb hts in7 hown hK.1 hP 52 nb_a52 rfl 20 (by decide) w_1 (fun _ h9 => h9) rfl dX7_plainParts_29 ?_
    refine lv_if_eq (tgt := 39) hx hb dX7_plainParts_32 (by decide) (fun c_9 => ?_) (fun c_9 => ?_)
    · have h := nb_t c_9 h
      refine lv_iload_n hx hb dX7_plainParts_39 rfl (lv_at hl 3 rfl) ?_
      refine lv_iload_n hx hb dX7_plainParts_40 rfl (lv_at hl 0 rfl) ?_
      obtain ⟨c_10, h⟩ := nb_c h
      refine lv_idiv hx hb dX7_plainParts_41 c_10 ?_
      obtain ⟨rfl, rfl⟩ := nb_e2 h
      exact nb_iret hx hb hr hlk hP hS dX7_plainParts_42
    · have h := nb_f c_9 h
      refine lv_iconst (v := (0 : Int32)) hx hb dX7_plainParts_35 (by decide) ?_
      refine lv_goto (tgt := 42) hx hb dX7_plainParts_36 (by decide) ?_
      obtain ⟨rfl, rfl⟩ := nb_e2 h
      exact nb_iret hx hb hr hlk hP hS dX7_plainParts_42
set_option maxHeartbeats 4000000 in
set_option maxRecDepth 100000 in
theorem k_X7_plainRings {r : Int32} {M' : nb_M} (had : nb_AD ad b0) (M N : nb_M) (p0 : Int32) (p1 : Int32) (h : f_X7_plainRings M p0 p1 = some (r, M')) : nb_C l D ad ca b0 yX7_plainRings wsX7_plainRings 1 [.ref (ad 52), .int p0, .int p1] N M (some (.int r)) N M' := by
  refine nb_of (cc := cX7_plainRings) (maxL := 3) (ret := (some .int)) (own := RX7) (by decide +kernel) rfl rfl (Nat.le_of_ble_eq_true rfl) ?_
  intro p e s m args below meth c ls X hP hS hl
  have hl : lv_has ls 3 [(0, .ref (ad 52)), (1, .int p0), (2, .int p1)] := hl
  obtain ⟨hx, hb, hml, hown, hts, hr, hlk, hK, hZ⟩ := id X
  unfold f_X7_plainRings at h
  refine lv_aload_n hx hb dX7_plainRings_0 rfl (lv_at hl 0 rfl) ?_
  refine lv_bipush (v := (10 : Int32)) hx hb dX7_plainRings_1 (by decide) ?_
  obtain ⟨M_1, e_1, h⟩ := nb_oE h
  refine nb_callV (n := 1) (As := [.int (10 : Int32)]) (rest := []) hx hb hml hown hts hK hZ hP hS (k_X7_begins had M N (10 : Int32) e_1) gX7_plainRings_X7_begins rfl (by decide +kernel) (nb_rm (Nat.le_of_ble_eq_true rfl) (Nat.le_of_ble_eq_true rfl)) nb_a52 rfl rfl rfl hl.1 rfl (Nat.le_of_ble_eq_true rfl) dX7_plainRings_3 (fun H locs hP hS => ?_)
  refine W.eq (g2 := F0 m 6 ls []) rfl ?_
  refine lv_iload_n hx hb dX7_plainRings_6 rfl (lv_at hl 2 rfl) ?_
  refine lv_iload_n hx hb dX7_plainRings_7 rfl (lv_at hl 1 rfl) ?_
  refine lv_iadd hx hb dX7_plainRings_8 ?_
  obtain ⟨rfl, rfl⟩ := nb_e2 h
  exact nb_iret hx hb hr hlk hP hS dX7_plainRings_9
set_option maxHeartbeats 4000000 in
set_option maxRecDepth 100000 in
theorem k_X7_cupRings {r : Int32} {M' : nb_M} (had : nb_AD ad b0) (M N : nb_M) (p0 : Int32) (p1 : Int32) (h : f_X7_cupRings M p0 p1 = some (r, M')) : nb_C l D ad ca b0 yX7_cupRings wsX7_cupRings 2 [.ref (ad 52), .int p0, .int p1] N M (some (.int r)) N M' := by
  refine nb_of (cc := cX7_cupRings) (maxL := 3) (ret := (some .int)) (own := RX7) (by decide +kernel) rfl rfl (Nat.le_of_ble_eq_true rfl) ?_
  intro p e s m args below meth c ls X hP hS hl
  have hl : lv_has ls 3 [(0, .ref (ad 52)), (1, .int p0), (2, .int p1)] := hl
  obtain ⟨hx, hb, hml, hown, hts, hr, hlk, hK, hZ⟩ := id X
  unfold f_X7_cupRings at h
  refine lv_aload_n hx hb dX7_cupRings_0 rfl (lv_at hl 0 rfl) ?_
  refine lv_bipush (v := (20 : Int32)) hx hb dX7_cupRings_1 (by decide) ?_
  obtain ⟨M_1, e_1, h⟩ := nb_oE h
  refine nb_callV (n := 1) (As := [.int (20 : Int32)]) (rest := []) hx hb hml hown hts hK hZ hP hS (k_X7_begins had M N (20 : Int32) e_1) gX7_cupRings_X7_begins rfl (by decide +kernel) (nb_rm (Nat.le_of_ble_eq_true rfl) (Nat.le_of_ble_eq_true rfl)) nb_a52 rfl rfl rfl hl.1 rfl (Nat.le_of_ble_eq_true rfl) dX7_cupRings_3 (fun H locs hP hS => ?_)
  refine W.eq (g2 := F0 m 6 ls []) rfl ?_
  refine lv_aload_n hx hb dX7_cupRings_6 rfl (lv_at hl 0 rfl) ?_
  refine lv_iload_n hx hb dX7_cupRings_7 rfl (lv_at hl 1 rfl) ?_
  refine lv_iload_n hx hb dX7_cupRings_8 rfl (lv_at hl 2 rfl) ?_
  obtain ⟨r_2, M_2, e_2, h⟩ := nb_pE h
  refine nb_callV (n := 2) (As := [.int p0, .int p1]) (rest := []) hx hb hml hown hts hK hZ hP hS (k_X7_plainRings had M_1 N p0 p1 e_2) gX7_cupRings_X7_plainRings rfl (by decide +kernel) (nb_rm (Nat.le_of_ble_eq_true rfl) (Nat.le_of_ble_eq_true rfl)) nb_a52 rfl rfl rfl hl.1 rfl (Nat.le_of_ble_eq_true rfl) dX7_cupRings_9 (fun H locs hP hS => ?_)
  refine W.eq (g2 := F0 m 12 ls [.int r_2]) rfl ?_
  refine lv_iconst (v := (4 : Int32)) hx hb dX7_cupRings_12 (by decide) ?_
  refine lv_isub hx hb dX7_cupRings_13 ?_
  obtain ⟨rfl, rfl⟩ := nb_e2 h
  exact nb_iret hx hb hr hlk hP hS dX7_cupRings_14
set_option maxHeartbeats 4000000 in
set_option maxRecDepth 100000 in
theorem k_X7_rings {r : Int32} {M' : nb_M} (had : nb_AD ad b0) (M N : nb_M) (p0 : Int32) (p1 : Int32) (h : f_X7_rings M p0 p1 = some (r, M')) : nb_C l D ad ca b0 yX7_rings wsX7_rings 3 [.ref (ad 52), .int p0, .int p1] N M (some (.int r)) N M' := by
  refine nb_of (cc := cX7_rings) (maxL := 3) (ret := (some .int)) (own := RX7) (by decide +kernel) rfl rfl (Nat.le_of_ble_eq_true rfl) ?_
  intro p e s m args below meth c ls X hP hS hl
  have hl : lv_has ls 3 [(0, .ref (ad 52)), (1, .int p0), (2, .int p1)] := hl
  obtain ⟨hx, hb, hml, hown, hts, hr, hlk, hK, hZ⟩ := id X
  unfold f_X7_rings at h
  refine lv_aload_n hx hb dX7_rings_0 rfl (lv_at hl 0 rfl) ?_
  refine lv_iload_n hx hb dX7_rings_1 rfl (lv_at hl 1 rfl) ?_
  refine lv_iconst (v := (0 : Int32)) hx hb dX7_rings_2 (by decide) ?_
  obtain ⟨r_1, e_1, h⟩ := nb_oE h
  refine nb_callV (n := 2) (As := [.int p0, .int (0 : Int32)]) (rest := []) hx hb hml hown hts hK hZ hP hS (k_X7_of had M N p0 (0 : Int32) e_1) gX7_rings_X7_of rfl (by decide +kernel) (nb_rm (Nat.le_of_ble_eq_true rfl) (Nat.le_of_ble_eq_true rfl)) nb_a52 rfl rfl rfl hl.1 rfl (Nat.le_of_ble_eq_true rfl) dX7_rings_3 (fun H locs hP hS => ?_)
  refine W.eq (g2 := F0 m 6 ls [.int r_1]) rfl ?_
  refine nb_lsw [(1, 40), (4, 47), (6, 62)] 71 hx hb dX7_rings_6 (by decide +kernel) (by decide) (by decide +kernel) ?_
  refine nb_split (fun c_2 => ?_) (fun c_2 => ?_)
  · have h := nb_t c_2 h
    refine lv_aload_n hx hb dX7_rings_40 rfl (lv_at hl 0 rfl) ?_
    refine lv_iload_n hx hb dX7_rings_41 rfl (lv_at hl 1 rfl) ?_
    refine lv_iload_n hx hb dX7_rings_42 rfl (lv_at hl 2 rfl) ?_
    obtain ⟨r_3, M_3, e_3, h⟩ := nb_pE h
    refine nb_callV (n := 2) (As := [.int p0, .int p1]) (rest := []) hx hb hml hown hts hK hZ hP hS (k_X7_cupRings had M N p0 p1 e_3) gX7_rings_X7_cupRings rfl (by decide +kernel) (nb_rm (Nat.le_of_ble_eq_true rfl) (Nat.le_of_ble_eq_true rfl)) nb_a52 rfl rfl rfl hl.1 rfl (Nat.le_of_ble_eq_true rfl) dX7_rings_43 (fun H locs hP hS => ?_)
    refine W.eq (g2 := F0 m 46 ls [.int r_3]) rfl ?_
    obtain ⟨rfl, rfl⟩ := nb_e2 h
    exact nb_iret hx hb hr hlk hP hS dX7_rings_46
  · have h := nb_f c_2 h
    refine nb_split (fun c_4 => ?_) (fun c_4 => ?_)
    · have h := nb_t c_4 h
      refine lv_aload_n hx hb dX7_rings_47 rfl (lv_at hl 0 rfl) ?_
      refine lv_bipush (v := (50 : Int32)) hx hb dX7_rings_48 (by decide) ?_
      obtain ⟨M_5, e_5, h⟩ := nb_oE h
      refine nb_callV (n := 1) (As := [.int (50 : Int32)]) (rest := []) hx hb hml hown hts hK hZ hP hS (k_X7_begins had M N (50 : Int32) e_5) gX7_rings_X7_begins rfl (by decide +kernel) (nb_rm (Nat.le_of_ble_eq_true rfl) (Nat.le_of_ble_eq_true rfl)) nb_a52 rfl rfl rfl hl.1 rfl (Nat.le_of_ble_eq_true rfl) dX7_rings_50 (fun H locs hP hS => ?_)
      refine W.eq (g2 := F0 m 53 ls []) rfl ?_
      refine lv_aload_n hx hb dX7_rings_53 rfl (lv_at hl 0 rfl) ?_
      refine lv_iload_n hx hb dX7_rings_54 rfl (lv_at hl 1 rfl) ?_
      refine lv_iload_n hx hb dX7_rings_55 rfl (lv_at hl 2 rfl) ?_
      obtain ⟨r_6, M_6, e_6, h⟩ := nb_pE h
      refine nb_callV (n := 2) (As := [.int p0, .int p1]) (rest := []) hx hb hml hown hts hK hZ hP hS (k_X7_cupRings had M_5 N p0 p1 e_6) gX7_rings_X7_cupRings rfl (by decide +kernel) (nb_rm (Nat.le_of_ble_eq_true rfl) (Nat.le_of_ble_eq_true rfl)) nb_a52 rfl rfl rfl hl.1 rfl (Nat.le_of_ble_eq_true rfl) dX7_rings_56 (fun H locs hP hS => ?_)
      refine W.eq (g2 := F0 m 59 ls [.int r_6]) rfl ?_
      refine lv_iconst (v := (3 : Int32)) hx hb dX7_rings_59 (by decide) ?_
      refine lv_imul hx hb dX7_rings_60 ?_
      obtain ⟨rfl, rfl⟩ := nb_e2 h
      exact nb_iret hx hb hr hlk hP hS dX7_rings_61
    · have h := nb_f c_4 h
      refine nb_split (fun c_7 => ?_) (fun c_7 => ?_)
      · have h := nb_t c_7 h
        refine lv_aload_n hx hb dX7_rings_62 rfl (lv_at hl 0 rfl) ?_
        refine lv_bipush (v := (70 : Int32)) hx hb dX7_rings_63 (by decide) ?_
        obtain ⟨M_8, e_8, h⟩ := nb_oE h
        refine nb_callV (n := 1) (As := [.int (70 : Int32)]) (rest := []) hx hb hml hown hts hK hZ hP hS (k_X7_begins had M N (70 : Int32) e_8) gX7_rings_X7_begins rfl (by decide +kernel) (nb_rm (Nat.le_of_ble_eq_true rfl) (Nat.le_of_ble_eq_true rfl)) nb_a52 rfl rfl rfl hl.1 rfl (Nat.le_of_ble_eq_true rfl) dX7_rings_65 (fun H locs hP hS => ?_)
        refine W.eq (g2 := F0 m 68 ls []) rfl ?_
        refine lv_bipush (v := (9 : Int32)) hx hb dX7_rings_68 (by decide) ?_
        obtain ⟨rfl, rfl⟩ := nb_e2 h
        exact nb_iret hx hb hr hlk hP hS dX7_rings_70
      · have h := nb_f c_7 h
        refine W.eq (g2 := F0 m 71 ls []) rfl ?_
        refine lv_aload_n hx hb dX7_rings_71 rfl (lv_at hl 0 rfl) ?_
        refine lv_iload_n hx hb dX7_rings_72 rfl (lv_at hl 1 rfl) ?_
        refine lv_iload_n hx hb dX7_rings_73 rfl (lv_at hl 2 rfl) ?_
        obtain ⟨r_9, M_9, e_9, h⟩ := nb_pE h
        refine nb_callV (n := 2) (As := [.int p0, .int p1]) (rest := []) hx hb hml hown hts hK hZ hP hS (k_X7_plainRings had M N p0 p1 e_9) gX7_rings_X7_plainRings rfl (by decide +kernel) (nb_rm (Nat.le_of_ble_eq_true rfl) (Nat.le_of_ble_eq_true rfl)) nb_a52 rfl rfl rfl hl.1 rfl (Nat.le_of_ble_eq_true rfl) dX7_rings_74 (fun H locs hP hS => ?_)
        refine W.eq (g2 := F0 m 77 ls [.int r_9]) rfl ?_
        obtain ⟨rfl, rfl⟩ := nb_e2 h
        exact nb_iret hx hb hr hlk hP hS dX7_rings_77
set_option maxHeartbeats 4000000 in
set_option maxRecDepth 100000 in
theorem k_X7_plainSlips {r : Int32} {M' : nb_M} (had : nb_AD ad b0) (M N : nb_M) (p0 : Int32) (p1 : Int32) (h : f_X7_plainSlips M p0 p1 = some (r, M')) : nb_C l D ad ca b0 yX7_plainSlips wsX7_plainSlips 4 [.ref (ad 52), .int p0, .int p1] N M (some (.int r)) N M' := by
  refine nb_of (cc := cX7_plainSlips) (maxL := 3) (ret := (some .int)) (own := RX7) (by decide +kernel) rfl rfl (Nat.le_of_ble_eq_true rfl) ?_
  intro p e s m args below meth c ls X hP hS hl
  have hl : lv_has ls 3 [(0, .ref (ad 52)), (1, .int p0), (2, .int p1)] := hl
  obtain ⟨hx, hb, hml, hown, hts, hr, hlk, hK, hZ⟩ := id X
  unfold f_X7_plainSlips at h
  refine lv_aload_n hx hb dX7_plainSlips_0 rfl (lv_at hl 0 rfl) ?_
  refine lv_bipush (v := (11 : Int32)) hx hb dX7_plainSlips_1 (by decide) ?_
  obtain ⟨M_1, e_1, h⟩ := nb_oE h
  refine nb_callV (n := 1) (As := [.int (11 : Int32)]) (rest := []) hx hb hml hown hts hK hZ hP hS (k_X7_begins had M N (11 : Int32) e_1) gX7_plainSlips_X7_begins rfl (by decide +kernel) (nb_rm (Nat.le_of_ble_eq_true rfl) (Nat.le_of_ble_eq_true rfl)) nb_a52 rfl rfl rfl hl.1 rfl (Nat.le_of_ble_eq_true rfl) dX7_plainSlips_3 (fun H locs hP hS => ?_)
  refine W.eq (g2 := F0 m 6 ls []) rfl ?_
  refine lv_aload_n hx hb dX7_plainSlips_6 rfl (lv_at hl 0 rfl) ?_
  refine lv_iload_n hx hb dX7_plainSlips_7 rfl (lv_at hl 1 rfl) ?_
  refine lv_iload_n hx hb dX7_plainSlips_8 rfl (lv_at hl 2 rfl) ?_
  obtain ⟨r_2, M_2, e_2, h⟩ := nb_pE h
  refine nb_callV (n := 2) (As := [.int p0, .int p1]) (rest := []) hx hb hml hown hts hK hZ hP hS (k_X7_rings had M_1 N p0 p1 e_2) gX7_plainSlips_X7_rings rfl (by decide +kernel) (nb_rm (Nat.le_of_ble_eq_true rfl) (Nat.le_of_ble_eq_true rfl)) nb_a52 rfl rfl rfl hl.1 rfl (Nat.le_of_ble_eq_true rfl) dX7_plainSlips_9 (fun H locs hP hS => ?_)
  refine W.eq (g2 := F0 m 12 ls [.int r_2]) rfl ?_
  refine lv_iconst (v := (2 : Int32)) hx hb dX7_plainSlips_12 (by decide) ?_
  refine lv_imul hx hb dX7_plainSlips_13 ?_
  obtain ⟨rfl, rfl⟩ := nb_e2 h
  exact nb_iret hx hb hr hlk hP hS dX7_plainSlips_14
set_option maxHeartbeats 4000000 in
set_option maxRecDepth 100000 in
theorem k_X7_boatSlips {r : Int32} {M' : nb_M} (had : nb_AD ad b0) (M N : nb_M) (p0 : Int32) (p1 : Int32) (h : f_X7_boatSlips M p0 p1 = some (r, M')) : nb_C l D ad ca b0 yX7_boatSlips wsX7_boatSlips 5 [.ref (ad 52), .int p0, .int p1] N M (some (.int r)) N M' := by
  refine nb_of (cc := cX7_boatSlips) (maxL := 3) (ret := (some .int)) (own := RX7) (by decide +kernel) rfl rfl (Nat.le_of_ble_eq_true rfl) ?_
  intro p e s m args below meth c ls X hP hS hl
  have hl : lv_has ls 3 [(0, .ref (ad 52)), (1, .int p0), (2, .int p1)] := hl
  obtain ⟨hx, hb, hml, hown, hts, hr, hlk, hK, hZ⟩ := id X
  unfold f_X7_boatSlips at h
  refine lv_aload_n hx hb dX7_boatSlips_0 rfl (lv_at hl 0 rfl) ?_
  refine lv_bipush (v := (30 : Int32)) hx hb dX7_boatSlips_1 (by decide) ?_
  obtain ⟨M_1, e_1, h⟩ := nb_oE h
  refine nb_callV (n := 1) (As := [.int (30 : Int32)]) (rest := []) hx hb hml hown hts hK hZ hP hS (k_X7_begins had M N (30 : Int32) e_1) gX7_boatSlips_X7_begins rfl (by decide +kernel) (nb_rm (Nat.le_of_ble_eq_true rfl) (Nat.le_of_ble_eq_true rfl)) nb_a52 rfl rfl rfl hl.1 rfl (Nat.le_of_ble_eq_true rfl) dX7_boatSlips_3 (fun H locs hP hS => ?_)
  refine W.eq (g2 := F0 m 6 ls []) rfl ?_
  refine lv_aload_n hx hb dX7_boatSlips_6 rfl (lv_at hl 0 rfl) ?_
  refine lv_iload_n hx hb dX7_boatSlips_7 rfl (lv_at hl 1 rfl) ?_
  refine lv_iload_n hx hb dX7_boatSlips_8 rfl (lv_at hl 2 rfl) ?_
  obtain ⟨r_2, M_2, e_2, h⟩ := nb_pE h
  refine nb_callV (n := 2) (As := [.int p0, .int p1]) (rest := []) hx hb hml hown hts hK hZ hP hS (k_X7_plainSlips had M_1 N p0 p1 e_2) gX7_boatSlips_X7_plainSlips rfl (by decide +kernel) (nb_rm (Nat.le_of_ble_eq_true rfl) (Nat.le_of_ble_eq_true rfl)) nb_a52 rfl rfl rfl hl.1 rfl (Nat.le_of_ble_eq_true rfl) dX7_boatSlips_9 (fun H locs hP hS => ?_)
  refine W.eq (g2 := F0 m 12 ls [.int r_2]) rfl ?_
  refine lv_ineg hx hb dX7_boatSlips_12 ?_
  obtain ⟨rfl, rfl⟩ := nb_e2 h
  exact nb_iret hx hb hr hlk hP hS dX7_boatSlips_13
set_option maxHeartbeats 4000000 in
set_option maxRecDepth 100000 in
theorem k_X7_slips {r : Int32} {M' : nb_M} (had : nb_AD ad b0) (M N : nb_M) (p0 : Int32) (p1 : Int32) (h : f_X7_slips M p0 p1 = some (r, M')) : nb_C l D ad ca b0 yX7_slips wsX7_slips 6 [.ref (ad 52), .int p0, .int p1] N M (some (.int r)) N M' := by
  refine nb_of (cc := cX7_slips) (maxL := 3) (ret := (some .int)) (own := RX7) (by decide +kernel) rfl rfl (Nat.le_of_ble_eq_true rfl) ?_
  intro p e s m args below meth c ls X hP hS hl
  have hl : lv_has ls 3 [(0, .ref (ad 52)), (1, .int p0), (2, .int p1)] := hl
  obtain ⟨hx, hb, hml, hown, hts, hr, hlk, hK, hZ⟩ := id X
  unfold f_X7_slips at h
  refine lv_aload_n hx hb dX7_slips_0 rfl (lv_at hl 0 rfl) ?_
  refine lv_iload_n hx hb dX7_slips_1 rfl (lv_at hl 1 rfl) ?_
  refine lv_iconst (v := (0 : Int32)) hx hb dX7_slips_2 (by decide) ?_
  obtain ⟨r_1, e_1, h⟩ := nb_oE h
  refine nb_callV (n := 2) (As := [.int p0, .int (0 : Int32)]) (rest := []) hx hb hml hown hts hK hZ hP hS (k_X7_of had M N p0 (0 : Int32) e_1) gX7_slips_X7_of rfl (by decide +kernel) (nb_rm (Nat.le_of_ble_eq_true rfl) (Nat.le_of_ble_eq_true rfl)) nb_a52 rfl rfl rfl hl.1 rfl (Nat.le_of_ble_eq_true rfl) dX7_slips_3 (fun H locs hP hS => ?_)
  refine W.eq (g2 := F0 m 6 ls [.int r_1]) rfl ?_
  refine nb_tsw [(2, 40), (5, 47), (6, 62)] 82 hx hb dX7_slips_6 (by decide +kernel) ?_
  refine nb_split (fun c_2 => ?_) (fun c_2 => ?_)
  · have h := nb_t c_2 h
    refine lv_aload_n hx hb dX7_slips_40 rfl (lv_at hl 0 rfl) ?_
    refine lv_iload_n hx hb dX7_slips_41 rfl (lv_at hl 1 rfl) ?_
    refine lv_iload_n hx hb dX7_slips_42 rfl (lv_at hl 2 rfl) ?_
    obtain ⟨r_3, M_3, e_3, h⟩ := nb_pE h
    refine nb_callV (n := 2) (As := [.int p0, .int p1]) (rest := []) hx hb hml hown hts hK hZ hP hS (k_X7_boatSlips had M N p0 p1 e_3) gX7_slips_X7_boatSlips rfl (by decide +kernel) (nb_rm (Nat.le_of_ble_eq_true rfl) (Nat.le_of_ble_eq_true rfl)) nb_a52 rfl rfl rfl hl.1 rfl (Nat.le_of_ble_eq_true rfl) dX7_slips_43 (fun H locs hP hS => ?_)
    refine W.eq (g2 := F0 m 46 ls [.int r_3]) rfl ?_
    obtain ⟨rfl, rfl⟩ := nb_e2 h
    exact nb_iret hx hb hr hlk hP hS dX7_slips_46
  · have h := nb_f c_2 h
    refine nb_split (fun c_4 => ?_) (fun c_4 => ?_)
    · have h := nb_t c_4 h
      refine lv_aload_n hx hb dX7_slips_47 rfl (lv_at hl 0 rfl) ?_
      refine lv_bipush (v := (60 : Int32)) hx hb dX7_slips_48 (by decide) ?_
      obtain ⟨M_5, e_5, h⟩ := nb_oE h
      refine nb_callV (n := 1) (As := [.int (60 : Int32)]) (rest := []) hx hb hml hown hts hK hZ hP hS (k_X7_begins had M N (60 : Int32) e_5) gX7_slips_X7_begins rfl (by decide +kernel) (nb_rm (Nat.le_of_ble_eq_true rfl) (Nat.le_of_ble_eq_true rfl)) nb_a52 rfl rfl rfl hl.1 rfl (Nat.le_of_ble_eq_true rfl) dX7_slips_50 (fun H locs hP hS => ?_)
      refine W.eq (g2 := F0 m 53 ls []) rfl ?_
      refine lv_aload_n hx hb dX7_slips_53 rfl (lv_at hl 0 rfl) ?_
      refine lv_iload_n hx hb dX7_slips_54 rfl (lv_at hl 1 rfl) ?_
      refine lv_iload_n hx hb dX7_slips_55 rfl (lv_at hl 2 rfl) ?_
      refine lv_iconst (v := (1 : Int32)) hx hb dX7_slips_56 (by decide) ?_
      refine lv_iadd hx hb dX7_slips_57 ?_
      obtain ⟨r_6, M_6, e_6, h⟩ := nb_pE h
      refine nb_callV (n := 2) (As := [.int p0, .int (p1 + (1 : Int32))]) (rest := []) hx hb hml hown hts hK hZ hP hS (k_X7_boatSlips had M_5 N p0 (p1 + (1 : Int32)) e_6) gX7_slips_X7_boatSlips rfl (by decide +kernel) (nb_rm (Nat.le_of_ble_eq_true rfl) (Nat.le_of_ble_eq_true rfl)) nb_a52 rfl rfl rfl hl.1 rfl (Nat.le_of_ble_eq_true rfl) dX7_slips_58 (fun H locs hP hS => ?_)
      refine W.eq (g2 := F0 m 61 ls [.int r_6]) rfl ?_
      obtain ⟨rfl, rfl⟩ := nb_e2 h
      exact nb_iret hx hb hr hlk hP hS dX7_slips_61
    · have h := nb_f c_4 h
      refine nb_split (fun c_7 => ?_) (fun c_7 => ?_)
      · have h := nb_t c_7 h
        refine lv_aload_n hx hb dX7_slips_62 rfl (lv_at hl 0 rfl) ?_
        refine lv_bipush (v := (71 : Int32)) hx hb dX7_slips_63 (by decide) ?_
        obtain ⟨M_8, e_8, h⟩ := nb_oE h
        refine nb_callV (n := 1) (As := [.int (71 : Int32)]) (rest := []) hx hb hml hown hts hK hZ hP hS (k_X7_begins had M N (71 : Int32) e_8) gX7_slips_X7_begins rfl (by decide +kernel) (nb_rm (Nat.le_of_ble_eq_true rfl) (Nat.le_of_ble_eq_true rfl)) nb_a52 rfl rfl rfl hl.1 rfl (Nat.le_of_ble_eq_true rfl) dX7_slips_65 (fun H locs hP hS => ?_)
        refine W.eq (g2 := F0 m 68 ls []) rfl ?_
        refine lv_aload_n hx hb dX7_slips_68 rfl (lv_at hl 0 rfl) ?_
        refine lv_iload_n hx hb dX7_slips_69 rfl (lv_at hl 1 rfl) ?_
        refine lv_iload_n hx hb dX7_slips_70 rfl (lv_at hl 2 rfl) ?_
        obtain ⟨r_9, M_9, e_9, h⟩ := nb_pE h
        refine nb_callV (n := 2) (As := [.int p0, .int p1]) (rest := []) hx hb hml hown hts hK hZ hP hS (k_X7_plainSlips had M_8 N p0 p1 e_9) gX7_slips_X7_plainSlips rfl (by decide +kernel) (nb_rm (Nat.le_of_ble_eq_true rfl) (Nat.le_of_ble_eq_true rfl)) nb_a52 rfl rfl rfl hl.1 rfl (Nat.le_of_ble_eq_true rfl) dX7_slips_71 (fun H locs hP hS => ?_)
        refine W.eq (g2 := F0 m 74 ls [.int r_9]) rfl ?_
        refine lv_aload_n hx hb dX7_slips_74 rfl (lv_at hl 0 rfl) ?_
        refine lv_iload_n hx hb dX7_slips_75 rfl (lv_at hl 1 rfl) ?_
        refine lv_iconst (v := (1 : Int32)) hx hb dX7_slips_76 (by decide) ?_
        obtain ⟨r_10, e_10, h⟩ := nb_oE h
        refine nb_callV (n := 2) (As := [.int p0, .int (1 : Int32)]) (rest := [.int r_9]) hx hb hml hown hts hK hZ hP hS (k_X7_of had M_9 N p0 (1 : Int32) e_10) gX7_slips_X7_of rfl (by decide +kernel) (nb_rm (Nat.le_of_ble_eq_true rfl) (Nat.le_of_ble_eq_true rfl)) nb_a52 rfl rfl rfl hl.1 rfl (Nat.le_of_ble_eq_true rfl) dX7_slips_77 (fun H locs hP hS => ?_)
        refine W.eq (g2 := F0 m 80 ls [.int r_10, .int r_9]) rfl ?_
        refine lv_iadd hx hb dX7_slips_80 ?_
        obtain ⟨rfl, rfl⟩ := nb_e2 h
        exact nb_iret hx hb hr hlk hP hS dX7_slips_81
      · have h := nb_f c_7 h
        refine W.eq (g2 := F0 m 82 ls []) rfl ?_
        refine lv_aload_n hx hb dX7_slips_82 rfl (lv_at hl 0 rfl) ?_
        refine lv_iload_n hx hb dX7_slips_83 rfl (lv_at hl 1 rfl) ?_
        refine lv_iload_n hx hb dX7_slips_84 rfl (lv_at hl 2 rfl) ?_
        obtain ⟨r_11, M_11, e_11, h⟩ := nb_pE h
        refine nb_callV (n := 2) (As := [.int p0, .int p1]) (rest := []) hx hb hml hown hts hK hZ hP hS (k_X7_plainSlips had M N p0 p1 e_11) gX7_slips_X7_plainSlips rfl (by decide +kernel) (nb_rm (Nat.le_of_ble_eq_true rfl) (Nat.le_of_ble_eq_true rfl)) nb_a52 rfl rfl rfl hl.1 rfl (Nat.le_of_ble_eq_true rfl) dX7_slips_85 (fun H locs hP hS => ?_)
        refine W.eq (g2 := F0 m 88 ls [.int r_11]) rfl ?_
        obtain ⟨rfl, rfl⟩ := nb_e2 h
        exact nb_iret hx hb hr hlk hP hS dX7_slips_88
set_option maxHeartbeats 4000000 in
set_option maxRecDepth 100000 in
theorem w_X7_partsBy_20 {N : nb_M} {r : Int32} {M' : nb_M} (had : nb_AD ad b0) (X : nb_X p s m args meth c cX7_partsBy 4 RX7 (some .int) wsX7_partsBy D ca b0) : ∀ (M : nb_M) (x1 : Int32) (x2 : Int32), f_X7_partsBy_20 M x1 x2 = some (r, M') → ∀ (H : Heap) (locs : List Loc), va_P D vwCl (nb_w ad ca N M) H → va_S (fun q => b0 ≤ q) s.heap H locs → ∀ ls : Array Slot, lv_has ls 4 [(0, .ref (ad 52)), (1, .int x1), (2, .int x2)] → W p l e (nb_R 7) s m args below meth c H locs 0 0 (nb_Q below args s D ad ca b0 (some (.int r)) N M') (F0 m 20 ls []) := by
  obtain ⟨hx, hb, hml, hown, hts, hr, hlk, hK, hZ⟩ := id X
  have w_1 := hts (.fieldLink RX7 240 "NineBreakagesModel" "isParted" "Z") (by decide +kernel)
  have in7 : ∀ w ∈ u_ws RX7 TX7 21, w ∈ wsX7_partsBy := fun w q => List.mem_cons_of_mem _ (List.mem_append_right _ q)
  intro M x1 x2 h H locs hP hS ls hl
  unfold f_X7_partsBy_20 at h
  refine lv_aload_n hx hb dX7_partsBy_20 rfl (lv_at hl 0 rfl) ?_
  refine lv_bipush (v := (21 : Int32)) hx hb dX7_partsBy_21 (by decide) ?_
  obtain ⟨M_3, e_3, h⟩ := nb_oE h
  refine nb_callV (n := 1) (As := [.int (21 : Int32)]) (rest := []) hx hb hml hown hts hK hZ hP hS (k_X7_begins had M N (21 : Int32) e_3) gX7_partsBy_X7_begins rfl (by decide +kernel) (nb_rm (Nat.le_of_ble_eq_true rfl) (Nat.le_of_ble_eq_true rfl)) nb_a52 rfl rfl rfl hl.1 rfl (Nat.le_of_ble_eq_true rfl) dX7_partsBy_23 (fun H locs hP hS => ?_)
  refine W.eq (g2 := F0 m 26 ls []) rfl ?_
  refine lv_aload_n hx hb dX7_partsBy_26 rfl (lv_at hl 0 rfl) ?_
  refine lv_iload_n hx hb dX7_partsBy_27 rfl (lv_at hl 1 rfl) ?_
  refine lv_iload_n hx hb dX7_partsBy_28 rfl (lv_at hl 2 rfl) ?_
  obtain ⟨r_4, M_4, e_4, h⟩ := nb_pE h
  refine nb_callV (n := 2) (As := [.int x1, .int x2]) (rest := []) hx hb hml hown hts hK hZ hP hS (k_X7_plainParts had M_3 N x1 x2 e_4) gX7_partsBy_X7_plainParts rfl (by decide +kernel) (nb_rm (Nat.le_of_ble_eq_true rfl) (Nat.le_of_ble_eq_true rfl)) nb_a52 rfl rfl rfl hl.1 rfl (Nat.le_of_ble_eq_true rfl) dX7_partsBy_29 (fun H locs hP hS => ?_)
  refine W.eq (g2 := F0 m 32 ls [.int r_4]) rfl ?_
  refine lv_istore_n (lv' := [(3, .int r_4), (0, .ref (ad 52)), (1, .int x1), (2, .int x2)]) hx hb dX7_partsBy_32 rfl hl (by decide) rfl (fun ls hl => ?_)
  refine lv_aload_n hx hb dX7_partsBy_33 rfl (lv_at hl 1 rfl) ?_
  refine va_get (v := .int (M_4.1 0 20)) (C := RX7) (T := TX7) (N := 21) hx hb hts in7 hown hK.1 hP 52 nb_a52 rfl 20 (by decide) w_1 (fun _ h9 => h9) rfl dX7_partsBy_34 ?_
  refine lv_if_eq (tgt := 44) hx hb dX7_partsBy_37 (by decide) (fun c_5 => ?_) (fun c_5 => ?_)
  · have h := nb_t c_5 h
    refine lv_iload_n hx hb dX7_partsBy_44 rfl (lv_at hl 0 rfl) ?_
    refine lv_aload_n hx hb dX7_partsBy_45 rfl (lv_at hl 1 rfl) ?_
    refine lv_iload_n hx hb dX7_partsBy_46 rfl (lv_at hl 2 rfl) ?_
    refine lv_iconst (v := (1 : Int32)) hx hb dX7_partsBy_47 (by decide) ?_
    obtain ⟨r_6, M_6, e_6, h⟩ := nb_pE h
    refine nb_callV (n := 2) (As := [.int x1, .int (1 : Int32)]) (rest := [.int r_4]) hx hb hml hown hts hK hZ hP hS (k_X7_slips had M_4 N x1 (1 : Int32) e_6) gX7_partsBy_X7_slips rfl (by decide +kernel) (nb_rm (Nat.le_of_ble_eq_true rfl) (Nat.le_of_ble_eq_true rfl)) nb_a52 rfl rfl rfl hl.1 rfl (Nat.le_of_ble_eq_true rfl) dX7_partsBy_48 (fun H locs hP hS => ?_)
    refine W.eq (g2 := F0 m 51 ls [.int r_6, .int r_4]) rfl ?_
    refine lv_iadd hx hb dX7_partsBy_51 ?_
    obtain ⟨rfl, rfl⟩ := nb_e2 h
    exact nb_iret hx hb hr hlk hP hS dX7_partsBy_52
  · have h := nb_f c_5 h
    refine lv_iconst (v := (0 : Int32)) hx hb dX7_partsBy_40 (by decide) ?_
    refine lv_goto (tgt := 52) hx hb dX7_partsBy_41 (by decide) ?_
    obtain ⟨rfl, rfl⟩ := nb_e2 h
    exact nb_iret hx hb hr hlk hP hS dX7_partsBy_52
set_option maxHeartbeats 4000000 in
set_option maxRecDepth 100000 in
theorem k_X7_partsBy {r : Int32} {M' : nb_M} (had : nb_AD ad b0) (M N : nb_M) (p0 : Int32) (p1 : Int32) (h : f_X7_partsBy M p0 p1 = some (r, M')) : nb_C l D ad ca b0 yX7_partsBy wsX7_partsBy 7 [.ref (ad 52), .int p0, .int p1] N M (some (.int r)) N M' := by
  refine nb_of (cc := cX7_partsBy) (maxL := 4) (ret := (some .int)) (own := RX7) (by decide +kernel) rfl rfl (Nat.le_of_ble_eq_true rfl) ?_
  intro p e s m args below meth c ls X hP hS hl
  have hl : lv_has ls 4 [(0, .ref (ad 52)), (1, .int p0), (2, .int p1)] := hl
  obtain ⟨hx, hb, hml, hown, hts, hr, hlk, hK, hZ⟩ := id X
  unfold f_X7_partsBy at h
  refine lv_aload_n hx hb dX7_partsBy_0 rfl (lv_at hl 0 rfl) ?_
  refine lv_iload_n hx hb dX7_partsBy_1 rfl (lv_at hl 1 rfl) ?_
  refine lv_iconst (v := (0 : Int32)) hx hb dX7_partsBy_2 (by decide) ?_
  obtain ⟨r_1, e_1, h⟩ := nb_oE h
  refine nb_callV (n := 2) (As := [.int p0, .int (0 : Int32)]) (rest := []) hx hb hml hown hts hK hZ hP hS (k_X7_of had M N p0 (0 : Int32) e_1) gX7_partsBy_X7_of rfl (by decide +kernel) (nb_rm (Nat.le_of_ble_eq_true rfl) (Nat.le_of_ble_eq_true rfl)) nb_a52 rfl rfl rfl hl.1 rfl (Nat.le_of_ble_eq_true rfl) dX7_partsBy_3 (fun H locs hP hS => ?_)
  refine W.eq (g2 := F0 m 6 ls [.int r_1]) rfl ?_
  refine lv_iconst (v := (1 : Int32)) hx hb dX7_partsBy_6 (by decide) ?_
  refine lv_icmp_eq (tgt := 20) hx hb dX7_partsBy_7 (by decide) (fun c_2 => ?_) (fun c_2 => ?_)
  · have h := nb_t c_2 h
    exact w_X7_partsBy_20 had X _ _ _ h _ _ hP hS _ (lv_sub hl [0, 1, 2] rfl)
  · have h := nb_f c_2 h
    refine lv_aload_n hx hb dX7_partsBy_10 rfl (lv_at hl 0 rfl) ?_
    refine lv_iload_n hx hb dX7_partsBy_11 rfl (lv_at hl 1 rfl) ?_
    refine lv_iconst (v := (0 : Int32)) hx hb dX7_partsBy_12 (by decide) ?_
    obtain ⟨r_7, e_7, h⟩ := nb_oE h
    refine nb_callV (n := 2) (As := [.int p0, .int (0 : Int32)]) (rest := []) hx hb hml hown hts hK hZ hP hS (k_X7_of had M N p0 (0 : Int32) e_7) gX7_partsBy_X7_of rfl (by decide +kernel) (nb_rm (Nat.le_of_ble_eq_true rfl) (Nat.le_of_ble_eq_true rfl)) nb_a52 rfl rfl rfl hl.1 rfl (Nat.le_of_ble_eq_true rfl) dX7_partsBy_13 (fun H locs hP hS => ?_)
    refine W.eq (g2 := F0 m 16 ls [.int r_7]) rfl ?_
    refine lv_iconst (v := (4 : Int32)) hx hb dX7_partsBy_16 (by decide) ?_
    refine lv_icmp_ne (tgt := 53) hx hb dX7_partsBy_17 (by decide) (fun c_8 => ?_) (fun c_8 => ?_)
    · have h := nb_f c_8 h
      refine lv_aload_n hx hb dX7_partsBy_53 rfl (lv_at hl 0 rfl) ?_
      refine lv_iload_n hx hb dX7_partsBy_54 rfl (lv_at hl 1 rfl) ?_
      refine lv_iload_n hx hb dX7_partsBy_55 rfl (lv_at hl 2 rfl) ?_
      obtain ⟨r_9, M_9, e_9, h⟩ := nb_pE h
      refine nb_callV (n := 2) (As := [.int p0, .int p1]) (rest := []) hx hb hml hown hts hK hZ hP hS (k_X7_plainParts had M N p0 p1 e_9) gX7_partsBy_X7_plainParts rfl (by decide +kernel) (nb_rm (Nat.le_of_ble_eq_true rfl) (Nat.le_of_ble_eq_true rfl)) nb_a52 rfl rfl rfl hl.1 rfl (Nat.le_of_ble_eq_true rfl) dX7_partsBy_56 (fun H locs hP hS => ?_)
      refine W.eq (g2 := F0 m 59 ls [.int r_9]) rfl ?_
      obtain ⟨rfl, rfl⟩ := nb_e2 h
      exact nb_iret hx hb hr hlk hP hS dX7_partsBy_59
    · have h := nb_t c_8 h
      exact w_X7_partsBy_20 had X _ _ _ h _ _ hP hS _ (lv_sub hl [0, 1, 2] rfl)
set_option maxHeartbeats 4000000 in
set_option maxRecDepth 100000 in
theorem k_X7_plainCracks {r : Int32} {M' : nb_M} (had : nb_AD ad b0) (M N : nb_M) (p0 : Int32) (p1 : Int32) (h : f_X7_plainCracks M p0 p1 = some (r, M')) : nb_C l D ad ca b0 yX7_plainCracks wsX7_plainCracks 7 [.ref (ad 52), .int p0, .int p1] N M (some (.int r)) N M' := by
  refine nb_of (cc := cX7_plainCracks) (maxL := 3) (ret := (some .int)) (own := RX7) (by decide +kernel) rfl rfl (Nat.le_of_ble_eq_true rfl) ?_
  intro p e s m args below meth c ls X hP hS hl
  have hl : lv_has ls 3 [(0, .ref (ad 52)), (1, .int p0), (2, .int p1)] := hl
  obtain ⟨hx, hb, hml, hown, hts, hr, hlk, hK, hZ⟩ := id X
  unfold f_X7_plainCracks at h
  refine lv_aload_n hx hb dX7_plainCracks_0 rfl (lv_at hl 0 rfl) ?_
  refine lv_bipush (v := (12 : Int32)) hx hb dX7_plainCracks_1 (by decide) ?_
  obtain ⟨M_1, e_1, h⟩ := nb_oE h
  refine nb_callV (n := 1) (As := [.int (12 : Int32)]) (rest := []) hx hb hml hown hts hK hZ hP hS (k_X7_begins had M N (12 : Int32) e_1) gX7_plainCracks_X7_begins rfl (by decide +kernel) (nb_rm (Nat.le_of_ble_eq_true rfl) (Nat.le_of_ble_eq_true rfl)) nb_a52 rfl rfl rfl hl.1 rfl (Nat.le_of_ble_eq_true rfl) dX7_plainCracks_3 (fun H locs hP hS => ?_)
  refine W.eq (g2 := F0 m 6 ls []) rfl ?_
  refine lv_aload_n hx hb dX7_plainCracks_6 rfl (lv_at hl 0 rfl) ?_
  refine lv_iload_n hx hb dX7_plainCracks_7 rfl (lv_at hl 1 rfl) ?_
  refine lv_iload_n hx hb dX7_plainCracks_8 rfl (lv_at hl 2 rfl) ?_
  obtain ⟨r_2, M_2, e_2, h⟩ := nb_pE h
  refine nb_callV (n := 2) (As := [.int p0, .int p1]) (rest := []) hx hb hml hown hts hK hZ hP hS (k_X7_slips had M_1 N p0 p1 e_2) gX7_plainCracks_X7_slips rfl (by decide +kernel) (nb_rm (Nat.le_of_ble_eq_true rfl) (Nat.le_of_ble_eq_true rfl)) nb_a52 rfl rfl rfl hl.1 rfl (Nat.le_of_ble_eq_true rfl) dX7_plainCracks_9 (fun H locs hP hS => ?_)
  refine W.eq (g2 := F0 m 12 ls [.int r_2]) rfl ?_
  refine lv_aload_n hx hb dX7_plainCracks_12 rfl (lv_at hl 0 rfl) ?_
  refine lv_iload_n hx hb dX7_plainCracks_13 rfl (lv_at hl 1 rfl) ?_
  refine lv_iconst (v := (1 : Int32)) hx hb dX7_plainCracks_14 (by decide) ?_
  obtain ⟨r_3, e_3, h⟩ := nb_oE h
  refine nb_callV (n := 2) (As := [.int p0, .int (1 : Int32)]) (rest := [.int r_2]) hx hb hml hown hts hK hZ hP hS (k_X7_of had M_2 N p0 (1 : Int32) e_3) gX7_plainCracks_X7_of rfl (by decide +kernel) (nb_rm (Nat.le_of_ble_eq_true rfl) (Nat.le_of_ble_eq_true rfl)) nb_a52 rfl rfl rfl hl.1 rfl (Nat.le_of_ble_eq_true rfl) dX7_plainCracks_15 (fun H locs hP hS => ?_)
  refine W.eq (g2 := F0 m 18 ls [.int r_3, .int r_2]) rfl ?_
  refine lv_isub hx hb dX7_plainCracks_18 ?_
  obtain ⟨rfl, rfl⟩ := nb_e2 h
  exact nb_iret hx hb hr hlk hP hS dX7_plainCracks_19
set_option maxHeartbeats 4000000 in
set_option maxRecDepth 100000 in
theorem k_X7_cracks {r : Int32} {M' : nb_M} (had : nb_AD ad b0) (M N : nb_M) (p0 : Int32) (p1 : Int32) (h : f_X7_cracks M p0 p1 = some (r, M')) : nb_C l D ad ca b0 yX7_cracks wsX7_cracks 8 [.ref (ad 52), .int p0, .int p1] N M (some (.int r)) N M' := by
  refine nb_of (cc := cX7_cracks) (maxL := 3) (ret := (some .int)) (own := RX7) (by decide +kernel) rfl rfl (Nat.le_of_ble_eq_true rfl) ?_
  intro p e s m args below meth c ls X hP hS hl
  have hl : lv_has ls 3 [(0, .ref (ad 52)), (1, .int p0), (2, .int p1)] := hl
  obtain ⟨hx, hb, hml, hown, hts, hr, hlk, hK, hZ⟩ := id X
  unfold f_X7_cracks at h
  refine lv_aload_n hx hb dX7_cracks_0 rfl (lv_at hl 0 rfl) ?_
  refine lv_iload_n hx hb dX7_cracks_1 rfl (lv_at hl 1 rfl) ?_
  refine lv_iconst (v := (0 : Int32)) hx hb dX7_cracks_2 (by decide) ?_
  obtain ⟨r_1, e_1, h⟩ := nb_oE h
  refine nb_callV (n := 2) (As := [.int p0, .int (0 : Int32)]) (rest := []) hx hb hml hown hts hK hZ hP hS (k_X7_of had M N p0 (0 : Int32) e_1) gX7_cracks_X7_of rfl (by decide +kernel) (nb_rm (Nat.le_of_ble_eq_true rfl) (Nat.le_of_ble_eq_true rfl)) nb_a52 rfl rfl rfl hl.1 rfl (Nat.le_of_ble_eq_true rfl) dX7_cracks_3 (fun H locs hP hS => ?_)
  refine W.eq (g2 := F0 m 6 ls [.int r_1]) rfl ?_
  refine nb_lsw [(3, 32), (4, 47)] 62 hx hb dX7_cracks_6 (by decide +kernel) (by decide) (by decide +kernel) ?_
  refine nb_split (fun c_2 => ?_) (fun c_2 => ?_)
  · have h := nb_t c_2 h
    refine lv_aload_n hx hb dX7_cracks_32 rfl (lv_at hl 0 rfl) ?_
    refine lv_bipush (v := (40 : Int32)) hx hb dX7_cracks_33 (by decide) ?_
    obtain ⟨M_3, e_3, h⟩ := nb_oE h
    refine nb_callV (n := 1) (As := [.int (40 : Int32)]) (rest := []) hx hb hml hown hts hK hZ hP hS (k_X7_begins had M N (40 : Int32) e_3) gX7_cracks_X7_begins rfl (by decide +kernel) (nb_rm (Nat.le_of_ble_eq_true rfl) (Nat.le_of_ble_eq_true rfl)) nb_a52 rfl rfl rfl hl.1 rfl (Nat.le_of_ble_eq_true rfl) dX7_cracks_35 (fun H locs hP hS => ?_)
    refine W.eq (g2 := F0 m 38 ls []) rfl ?_
    refine lv_aload_n hx hb dX7_cracks_38 rfl (lv_at hl 0 rfl) ?_
    refine lv_iload_n hx hb dX7_cracks_39 rfl (lv_at hl 1 rfl) ?_
    refine lv_iload_n hx hb dX7_cracks_40 rfl (lv_at hl 2 rfl) ?_
    refine lv_iconst (v := (2 : Int32)) hx hb dX7_cracks_41 (by decide) ?_
    refine lv_idiv hx hb dX7_cracks_42 (by decide) ?_
    obtain ⟨r_4, M_4, e_4, h⟩ := nb_pE h
    refine nb_callV (n := 2) (As := [.int p0, .int (p1 / (2 : Int32))]) (rest := []) hx hb hml hown hts hK hZ hP hS (k_X7_plainCracks had M_3 N p0 (p1 / (2 : Int32)) e_4) gX7_cracks_X7_plainCracks rfl (by decide +kernel) (nb_rm (Nat.le_of_ble_eq_true rfl) (Nat.le_of_ble_eq_true rfl)) nb_a52 rfl rfl rfl hl.1 rfl (Nat.le_of_ble_eq_true rfl) dX7_cracks_43 (fun H locs hP hS => ?_)
    refine W.eq (g2 := F0 m 46 ls [.int r_4]) rfl ?_
    obtain ⟨rfl, rfl⟩ := nb_e2 h
    exact nb_iret hx hb hr hlk hP hS dX7_cracks_46
  · have h := nb_f c_2 h
    refine nb_split (fun c_5 => ?_) (fun c_5 => ?_)
    · have h := nb_t c_5 h
      refine lv_aload_n hx hb dX7_cracks_47 rfl (lv_at hl 0 rfl) ?_
      refine lv_bipush (v := (51 : Int32)) hx hb dX7_cracks_48 (by decide) ?_
      obtain ⟨M_6, e_6, h⟩ := nb_oE h
      refine nb_callV (n := 1) (As := [.int (51 : Int32)]) (rest := []) hx hb hml hown hts hK hZ hP hS (k_X7_begins had M N (51 : Int32) e_6) gX7_cracks_X7_begins rfl (by decide +kernel) (nb_rm (Nat.le_of_ble_eq_true rfl) (Nat.le_of_ble_eq_true rfl)) nb_a52 rfl rfl rfl hl.1 rfl (Nat.le_of_ble_eq_true rfl) dX7_cracks_50 (fun H locs hP hS => ?_)
      refine W.eq (g2 := F0 m 53 ls []) rfl ?_
      refine lv_aload_n hx hb dX7_cracks_53 rfl (lv_at hl 0 rfl) ?_
      refine lv_iload_n hx hb dX7_cracks_54 rfl (lv_at hl 1 rfl) ?_
      refine lv_iload_n hx hb dX7_cracks_55 rfl (lv_at hl 2 rfl) ?_
      obtain ⟨r_7, M_7, e_7, h⟩ := nb_pE h
      refine nb_callV (n := 2) (As := [.int p0, .int p1]) (rest := []) hx hb hml hown hts hK hZ hP hS (k_X7_plainCracks had M_6 N p0 p1 e_7) gX7_cracks_X7_plainCracks rfl (by decide +kernel) (nb_rm (Nat.le_of_ble_eq_true rfl) (Nat.le_of_ble_eq_true rfl)) nb_a52 rfl rfl rfl hl.1 rfl (Nat.le_of_ble_eq_true rfl) dX7_cracks_56 (fun H locs hP hS => ?_)
      refine W.eq (g2 := F0 m 59 ls [.int r_7]) rfl ?_
      refine lv_iload_n hx hb dX7_cracks_59 rfl (lv_at hl 1 rfl) ?_
      refine lv_ixor hx hb dX7_cracks_60 ?_
      obtain ⟨rfl, rfl⟩ := nb_e2 h
      exact nb_iret hx hb hr hlk hP hS dX7_cracks_61
    · have h := nb_f c_5 h
      refine W.eq (g2 := F0 m 62 ls []) rfl ?_
      refine lv_aload_n hx hb dX7_cracks_62 rfl (lv_at hl 0 rfl) ?_
      refine lv_iload_n hx hb dX7_cracks_63 rfl (lv_at hl 1 rfl) ?_
      refine lv_iload_n hx hb dX7_cracks_64 rfl (lv_at hl 2 rfl) ?_
      obtain ⟨r_8, M_8, e_8, h⟩ := nb_pE h
      refine nb_callV (n := 2) (As := [.int p0, .int p1]) (rest := []) hx hb hml hown hts hK hZ hP hS (k_X7_plainCracks had M N p0 p1 e_8) gX7_cracks_X7_plainCracks rfl (by decide +kernel) (nb_rm (Nat.le_of_ble_eq_true rfl) (Nat.le_of_ble_eq_true rfl)) nb_a52 rfl rfl rfl hl.1 rfl (Nat.le_of_ble_eq_true rfl) dX7_cracks_65 (fun H locs hP hS => ?_)
      refine W.eq (g2 := F0 m 68 ls [.int r_8]) rfl ?_
      obtain ⟨rfl, rfl⟩ := nb_e2 h
      exact nb_iret hx hb hr hlk hP hS dX7_cracks_68
set_option maxHeartbeats 4000000 in
set_option maxRecDepth 100000 in
theorem k_X7_voice {r : Int32} {M' : nb_M} (had : nb_AD ad b0) (M N : nb_M) (p0 : Int32) (p1 : Int32) (p2 : Int32) (h : f_X7_voice M p0 p1 p2 = some (r, M')) : nb_C l D ad ca b0 yX7_voice wsX7_voice 9 [.ref (ad 52), .int p0, .int p1, .int p2] N M (some (.int r)) N M' := by
  refine nb_of (cc := cX7_voice) (maxL := 5) (ret := (some .int)) (own := RX7) (by decide +kernel) rfl rfl (Nat.le_of_ble_eq_true rfl) ?_
  intro p e s m args below meth c ls X hP hS hl
  have hl : lv_has ls 5 [(0, .ref (ad 52)), (1, .int p0), (2, .int p1), (3, .int p2)] := hl
  obtain ⟨hx, hb, hml, hown, hts, hr, hlk, hK, hZ⟩ := id X
  have w_1 := hts (.constant RX7 77 (-1000000001)) (by decide +kernel)
  have w_2 := hts (.fieldLink RX7 213 "NineBreakagesModel" "traced" "I") (by decide +kernel)
  have in7 : ∀ w ∈ u_ws RX7 TX7 21, w ∈ wsX7_voice := fun w q => List.mem_cons_of_mem _ (List.mem_append_right _ q)
  have w_4 := hts (.fieldLink RX7 240 "NineBreakagesModel" "isParted" "Z") (by decide +kernel)
  have w_5 := hts (.constant RX7 252 (-1000000006)) (by decide +kernel)
  unfold f_X7_voice at h
  refine lv_aload_n hx hb dX7_voice_0 rfl (lv_at hl 0 rfl) ?_
  refine lv_iload_n hx hb dX7_voice_1 rfl (lv_at hl 1 rfl) ?_
  refine nb_callV (n := 1) (As := [.int p0]) (rest := []) hx hb hml hown hts hK hZ hP hS (k_X7_isPiece had M N p0) gX7_voice_X7_isPiece rfl (by decide +kernel) (nb_rm (Nat.le_of_ble_eq_true rfl) (Nat.le_of_ble_eq_true rfl)) nb_a52 rfl rfl rfl hl.1 rfl (Nat.le_of_ble_eq_true rfl) dX7_voice_2 (fun H locs hP hS => ?_)
  refine W.eq (g2 := F0 m 5 ls [.int (f_X7_isPiece M p0)]) rfl ?_
  refine lv_if_eq (tgt := 17) hx hb dX7_voice_5 (by decide) (fun c_2 => ?_) (fun c_2 => ?_)
  · have h := nb_t c_2 h
    refine lv_aload_n hx hb dX7_voice_17 rfl (lv_at hl 0 rfl) ?_
    refine lv_ldc (v := (-1000000001 : Int32)) hx hb hown w_1 dX7_voice_18 ?_
    obtain ⟨r_3, M_3, e_3, h⟩ := nb_pE h
    refine nb_callV (n := 1) (As := [.int (-1000000001 : Int32)]) (rest := []) hx hb hml hown hts hK hZ hP hS (k_X7_error had M N (-1000000001 : Int32) e_3) gX7_voice_X7_error rfl (by decide +kernel) (nb_rm (Nat.le_of_ble_eq_true rfl) (Nat.le_of_ble_eq_true rfl)) nb_a52 rfl rfl rfl hl.1 rfl (Nat.le_of_ble_eq_true rfl) dX7_voice_20 (fun H locs hP hS => ?_)
    refine W.eq (g2 := F0 m 23 ls [.int r_3]) rfl ?_
    obtain ⟨rfl, rfl⟩ := nb_e2 h
    exact nb_iret hx hb hr hlk hP hS dX7_voice_23
  · have h := nb_f c_2 h
    refine lv_iload_n hx hb dX7_voice_8 rfl (lv_at hl 2 rfl) ?_
    refine lv_iconst (v := (0 : Int32)) hx hb dX7_voice_9 (by decide) ?_
    refine lv_iconst (v := (3 : Int32)) hx hb dX7_voice_10 (by decide) ?_
    refine nb_callS (n := 3) (As := [.int p1, .int (0 : Int32), .int (3 : Int32)]) (rest := []) hx hb hml hown hts hK hZ hP hS (k_X7_in had M N p1 (0 : Int32) (3 : Int32)) gX7_voice_X7_in rfl (by decide +kernel) (nb_rm (Nat.le_of_ble_eq_true rfl) (Nat.le_of_ble_eq_true rfl)) rfl hl.1 rfl (Nat.le_of_ble_eq_true rfl) dX7_voice_11 (fun H locs hP hS => ?_)
    refine W.eq (g2 := F0 m 14 ls [.int (f_X7_in p1 (0 : Int32) (3 : Int32))]) rfl ?_
    refine lv_if_ne (tgt := 24) hx hb dX7_voice_14 (by decide) (fun c_5 => ?_) (fun c_5 => ?_)
    · have h := nb_f c_5 h
      refine lv_aload_n hx hb dX7_voice_24 rfl (lv_at hl 0 rfl) ?_
      refine lv_iconst (v := (0 : Int32)) hx hb dX7_voice_25 (by decide) ?_
      refine nb_put (C := RX7) (T := TX7) (NN := 21) hx hb had hts in7 tyX7 tyX7_ok nmX7 hown hK hP hS nb_a52 rfl 19 (by decide) w_2 rfl (ty := .int) (by decide +kernel) rfl rfl (Nat.le_of_ble_eq_true rfl) (nb_p52_19 _) dX7_voice_26 (fun H locs hP hS => ?_)
      obtain ⟨M_6, e_6, h⟩ := nb_nE h
      rw [e_6] at hP
      refine lv_aload_n hx hb dX7_voice_29 rfl (lv_at hl 0 rfl) ?_
      refine lv_iconst (v := (0 : Int32)) hx hb dX7_voice_30 (by decide) ?_
      refine nb_put (C := RX7) (T := TX7) (NN := 21) hx hb had hts in7 tyX7 tyX7_ok nmX7 hown hK hP hS nb_a52 rfl 20 (by decide) w_4 rfl (ty := .boolean) (by decide +kernel) rfl rfl (Nat.le_of_ble_eq_true rfl) (nb_p52_20 _) dX7_voice_31 (fun H locs hP hS => ?_)
      obtain ⟨M_7, e_7, h⟩ := nb_nE h
      rw [e_7] at hP
      refine lv_iload_n hx hb dX7_voice_34 rfl (lv_at hl 2 rfl) ?_
      refine lv_if_ne (tgt := 47) hx hb dX7_voice_35 (by decide) (fun c_8 => ?_) (fun c_8 => ?_)
      · have h := nb_f c_8 h
        refine lv_iload_n hx hb dX7_voice_47 rfl (lv_at hl 2 rfl) ?_
        refine lv_iconst (v := (1 : Int32)) hx hb dX7_voice_48 (by decide) ?_
        refine lv_icmp_ne (tgt := 61) hx hb dX7_voice_49 (by decide) (fun c_9 => ?_) (fun c_9 => ?_)
        · have h := nb_f c_9 h
          refine lv_iload_n hx hb dX7_voice_61 rfl (lv_at hl 2 rfl) ?_
          refine lv_iconst (v := (2 : Int32)) hx hb dX7_voice_62 (by decide) ?_
          refine lv_icmp_ne (tgt := 75) hx hb dX7_voice_63 (by decide) (fun c_10 => ?_) (fun c_10 => ?_)
          · have h := nb_f c_10 h
            refine lv_aload_n hx hb dX7_voice_75 rfl (lv_at hl 0 rfl) ?_
            refine lv_iload_n hx hb dX7_voice_76 rfl (lv_at hl 1 rfl) ?_
            refine lv_iload_n hx hb dX7_voice_77 rfl (lv_at hl 3 rfl) ?_
            obtain ⟨r_11, M_11, e_11, h⟩ := nb_pE h
            refine nb_callV (n := 2) (As := [.int p0, .int p2]) (rest := []) hx hb hml hown hts hK hZ hP hS (k_X7_partsBy had M_7 N p0 p2 e_11) gX7_voice_X7_partsBy rfl (by decide +kernel) (nb_rm (Nat.le_of_ble_eq_true rfl) (Nat.le_of_ble_eq_true rfl)) nb_a52 rfl rfl rfl hl.1 rfl (Nat.le_of_ble_eq_true rfl) dX7_voice_78 (fun H locs hP hS => ?_)
            refine W.eq (g2 := F0 m 81 ls [.int r_11]) rfl ?_
            refine lv_istore (lv' := [(4, .int r_11), (0, .ref (ad 52)), (1, .int p0), (2, .int p1), (3, .int p2)]) hx hb dX7_voice_81 hl (by decide) rfl (fun ls hl => ?_)
            refine lv_aload_n hx hb dX7_voice_83 rfl (lv_at hl 1 rfl) ?_
            refine va_get (v := .int (M_11.1 0 20)) (C := RX7) (T := TX7) (N := 21) hx hb hts in7 hown hK.1 hP 52 nb_a52 rfl 20 (by decide) w_4 (fun _ h9 => h9) rfl dX7_voice_84 ?_
            refine lv_if_eq (tgt := 99) hx hb dX7_voice_87 (by decide) (fun c_12 => ?_) (fun c_12 => ?_)
            · have h := nb_t c_12 h
              refine lv_iload hx hb dX7_voice_99 (lv_at hl 0 rfl) ?_
              obtain ⟨rfl, rfl⟩ := nb_e2 h
              exact nb_iret hx hb hr hlk hP hS dX7_voice_101
            · have h := nb_f c_12 h
              refine lv_aload_n hx hb dX7_voice_90 rfl (lv_at hl 1 rfl) ?_
              refine lv_ldc (v := (-1000000006 : Int32)) hx hb hown w_5 dX7_voice_91 ?_
              obtain ⟨r_13, M_13, e_13, h⟩ := nb_pE h
              refine nb_callV (n := 1) (As := [.int (-1000000006 : Int32)]) (rest := []) hx hb hml hown hts hK hZ hP hS (k_X7_error had M_11 N (-1000000006 : Int32) e_13) gX7_voice_X7_error rfl (by decide +kernel) (nb_rm (Nat.le_of_ble_eq_true rfl) (Nat.le_of_ble_eq_true rfl)) nb_a52 rfl rfl rfl hl.1 rfl (Nat.le_of_ble_eq_true rfl) dX7_voice_93 (fun H locs hP hS => ?_)
              refine W.eq (g2 := F0 m 96 ls [.int r_13]) rfl ?_
              refine lv_goto (tgt := 101) hx hb dX7_voice_96 (by decide) ?_
              obtain ⟨rfl, rfl⟩ := nb_e2 h
              exact nb_iret hx hb hr hlk hP hS dX7_voice_101
          · have h := nb_t c_10 h
            refine lv_aload_n hx hb dX7_voice_66 rfl (lv_at hl 0 rfl) ?_
            refine lv_iload_n hx hb dX7_voice_67 rfl (lv_at hl 1 rfl) ?_
            refine lv_iload_n hx hb dX7_voice_68 rfl (lv_at hl 3 rfl) ?_
            obtain ⟨r_14, M_14, e_14, h⟩ := nb_pE h
            refine nb_callV (n := 2) (As := [.int p0, .int p2]) (rest := []) hx hb hml hown hts hK hZ hP hS (k_X7_cracks had M_7 N p0 p2 e_14) gX7_voice_X7_cracks rfl (by decide +kernel) (nb_rm (Nat.le_of_ble_eq_true rfl) (Nat.le_of_ble_eq_true rfl)) nb_a52 rfl rfl rfl hl.1 rfl (Nat.le_of_ble_eq_true rfl) dX7_voice_69 (fun H locs hP hS => ?_)
            refine W.eq (g2 := F0 m 72 ls [.int r_14]) rfl ?_
            refine lv_goto (tgt := 81) hx hb dX7_voice_72 (by decide) ?_
            refine lv_istore (lv' := [(4, .int r_14), (0, .ref (ad 52)), (1, .int p0), (2, .int p1), (3, .int p2)]) hx hb dX7_voice_81 hl (by decide) rfl (fun ls hl => ?_)
            refine lv_aload_n hx hb dX7_voice_83 rfl (lv_at hl 1 rfl) ?_
            refine va_get (v := .int (M_14.1 0 20)) (C := RX7) (T := TX7) (N := 21) hx hb hts in7 hown hK.1 hP 52 nb_a52 rfl 20 (by decide) w_4 (fun _ h9 => h9) rfl dX7_voice_84 ?_
            refine lv_if_eq (tgt := 99) hx hb dX7_voice_87 (by decide) (fun c_15 => ?_) (fun c_15 => ?_)
            · have h := nb_t c_15 h
              refine lv_iload hx hb dX7_voice_99 (lv_at hl 0 rfl) ?_
              obtain ⟨rfl, rfl⟩ := nb_e2 h
              exact nb_iret hx hb hr hlk hP hS dX7_voice_101
            · have h := nb_f c_15 h
              refine lv_aload_n hx hb dX7_voice_90 rfl (lv_at hl 1 rfl) ?_
              refine lv_ldc (v := (-1000000006 : Int32)) hx hb hown w_5 dX7_voice_91 ?_
              obtain ⟨r_16, M_16, e_16, h⟩ := nb_pE h
              refine nb_callV (n := 1) (As := [.int (-1000000006 : Int32)]) (rest := []) hx hb hml hown hts hK hZ hP hS (k_X7_error had M_14 N (-1000000006 : Int32) e_16) gX7_voice_X7_error rfl (by decide +kernel) (nb_rm (Nat.le_of_ble_eq_true rfl) (Nat.le_of_ble_eq_true rfl)) nb_a52 rfl rfl rfl hl.1 rfl (Nat.le_of_ble_eq_true rfl) dX7_voice_93 (fun H locs hP hS => ?_)
              refine W.eq (g2 := F0 m 96 ls [.int r_16]) rfl ?_
              refine lv_goto (tgt := 101) hx hb dX7_voice_96 (by decide) ?_
              obtain ⟨rfl, rfl⟩ := nb_e2 h
              exact nb_iret hx hb hr hlk hP hS dX7_voice_101
        · have h := nb_t c_9 h
          refine lv_aload_n hx hb dX7_voice_52 rfl (lv_at hl 0 rfl) ?_
          refine lv_iload_n hx hb dX7_voice_53 rfl (lv_at hl 1 rfl) ?_
          refine lv_iload_n hx hb dX7_voice_54 rfl (lv_at hl 3 rfl) ?_
          obtain ⟨r_17, M_17, e_17, h⟩ := nb_pE h
          refine nb_callV (n := 2) (As := [.int p0, .int p2]) (rest := []) hx hb hml hown hts hK hZ hP hS (k_X7_slips had M_7 N p0 p2 e_17) gX7_voice_X7_slips rfl (by decide +kernel) (nb_rm (Nat.le_of_ble_eq_true rfl) (Nat.le_of_ble_eq_true rfl)) nb_a52 rfl rfl rfl hl.1 rfl (Nat.le_of_ble_eq_true rfl) dX7_voice_55 (fun H locs hP hS => ?_)
          refine W.eq (g2 := F0 m 58 ls [.int r_17]) rfl ?_
          refine lv_goto (tgt := 81) hx hb dX7_voice_58 (by decide) ?_
          refine lv_istore (lv' := [(4, .int r_17), (0, .ref (ad 52)), (1, .int p0), (2, .int p1), (3, .int p2)]) hx hb dX7_voice_81 hl (by decide) rfl (fun ls hl => ?_)
          refine lv_aload_n hx hb dX7_voice_83 rfl (lv_at hl 1 rfl) ?_
          refine va_get (v := .int (M_17.1 0 20)) (C := RX7) (T := TX7) (N := 21) hx hb hts in7 hown hK.1 hP 52 nb_a52 rfl 20 (by decide) w_4 (fun _ h9 => h9) rfl dX7_voice_84 ?_
          refine lv_if_eq (tgt := 99) hx hb dX7_voice_87 (by decide) (fun c_18 => ?_) (fun c_18 => ?_)
          · have h := nb_t c_18 h
            refine lv_iload hx hb dX7_voice_99 (lv_at hl 0 rfl) ?_
            obtain ⟨rfl, rfl⟩ := nb_e2 h
            exact nb_iret hx hb hr hlk hP hS dX7_voice_101
          · have h := nb_f c_18 h
            refine lv_aload_n hx hb dX7_voice_90 rfl (lv_at hl 1 rfl) ?_
            refine lv_ldc (v := (-1000000006 : Int32)) hx hb hown w_5 dX7_voice_91 ?_
            obtain ⟨r_19, M_19, e_19, h⟩ := nb_pE h
            refine nb_callV (n := 1) (As := [.int (-1000000006 : Int32)]) (rest := []) hx hb hml hown hts hK hZ hP hS (k_X7_error had M_17 N (-1000000006 : Int32) e_19) gX7_voice_X7_error rfl (by decide +kernel) (nb_rm (Nat.le_of_ble_eq_true rfl) (Nat.le_of_ble_eq_true rfl)) nb_a52 rfl rfl rfl hl.1 rfl (Nat.le_of_ble_eq_true rfl) dX7_voice_93 (fun H locs hP hS => ?_)
            refine W.eq (g2 := F0 m 96 ls [.int r_19]) rfl ?_
            refine lv_goto (tgt := 101) hx hb dX7_voice_96 (by decide) ?_
            obtain ⟨rfl, rfl⟩ := nb_e2 h
            exact nb_iret hx hb hr hlk hP hS dX7_voice_101
      · have h := nb_t c_8 h
        refine lv_aload_n hx hb dX7_voice_38 rfl (lv_at hl 0 rfl) ?_
        refine lv_iload_n hx hb dX7_voice_39 rfl (lv_at hl 1 rfl) ?_
        refine lv_iload_n hx hb dX7_voice_40 rfl (lv_at hl 3 rfl) ?_
        obtain ⟨r_20, M_20, e_20, h⟩ := nb_pE h
        refine nb_callV (n := 2) (As := [.int p0, .int p2]) (rest := []) hx hb hml hown hts hK hZ hP hS (k_X7_rings had M_7 N p0 p2 e_20) gX7_voice_X7_rings rfl (by decide +kernel) (nb_rm (Nat.le_of_ble_eq_true rfl) (Nat.le_of_ble_eq_true rfl)) nb_a52 rfl rfl rfl hl.1 rfl (Nat.le_of_ble_eq_true rfl) dX7_voice_41 (fun H locs hP hS => ?_)
        refine W.eq (g2 := F0 m 44 ls [.int r_20]) rfl ?_
        refine lv_goto (tgt := 81) hx hb dX7_voice_44 (by decide) ?_
        refine lv_istore (lv' := [(4, .int r_20), (0, .ref (ad 52)), (1, .int p0), (2, .int p1), (3, .int p2)]) hx hb dX7_voice_81 hl (by decide) rfl (fun ls hl => ?_)
        refine lv_aload_n hx hb dX7_voice_83 rfl (lv_at hl 1 rfl) ?_
        refine va_get (v := .int (M_20.1 0 20)) (C := RX7) (T := TX7) (N := 21) hx hb hts in7 hown hK.1 hP 52 nb_a52 rfl 20 (by decide) w_4 (fun _ h9 => h9) rfl dX7_voice_84 ?_
        refine lv_if_eq (tgt := 99) hx hb dX7_voice_87 (by decide) (fun c_21 => ?_) (fun c_21 => ?_)
        · have h := nb_t c_21 h
          refine lv_iload hx hb dX7_voice_99 (lv_at hl 0 rfl) ?_
          obtain ⟨rfl, rfl⟩ := nb_e2 h
          exact nb_iret hx hb hr hlk hP hS dX7_voice_101
        · have h := nb_f c_21 h
          refine lv_aload_n hx hb dX7_voice_90 rfl (lv_at hl 1 rfl) ?_
          refine lv_ldc (v := (-1000000006 : Int32)) hx hb hown w_5 dX7_voice_91 ?_
          obtain ⟨r_22, M_22, e_22, h⟩ := nb_pE h
          refine nb_callV (n := 1) (As := [.int (-1000000006 : Int32)]) (rest := []) hx hb hml hown hts hK hZ hP hS (k_X7_error had M_20 N (-1000000006 : Int32) e_22) gX7_voice_X7_error rfl (by decide +kernel) (nb_rm (Nat.le_of_ble_eq_true rfl) (Nat.le_of_ble_eq_true rfl)) nb_a52 rfl rfl rfl hl.1 rfl (Nat.le_of_ble_eq_true rfl) dX7_voice_93 (fun H locs hP hS => ?_)
          refine W.eq (g2 := F0 m 96 ls [.int r_22]) rfl ?_
          refine lv_goto (tgt := 101) hx hb dX7_voice_96 (by decide) ?_
          obtain ⟨rfl, rfl⟩ := nb_e2 h
          exact nb_iret hx hb hr hlk hP hS dX7_voice_101
    · have h := nb_t c_5 h
      refine lv_aload_n hx hb dX7_voice_17 rfl (lv_at hl 0 rfl) ?_
      refine lv_ldc (v := (-1000000001 : Int32)) hx hb hown w_1 dX7_voice_18 ?_
      obtain ⟨r_23, M_23, e_23, h⟩ := nb_pE h
      refine nb_callV (n := 1) (As := [.int (-1000000001 : Int32)]) (rest := []) hx hb hml hown hts hK hZ hP hS (k_X7_error had M N (-1000000001 : Int32) e_23) gX7_voice_X7_error rfl (by decide +kernel) (nb_rm (Nat.le_of_ble_eq_true rfl) (Nat.le_of_ble_eq_true rfl)) nb_a52 rfl rfl rfl hl.1 rfl (Nat.le_of_ble_eq_true rfl) dX7_voice_20 (fun H locs hP hS => ?_)
      refine W.eq (g2 := F0 m 23 ls [.int r_23]) rfl ?_
      obtain ⟨rfl, rfl⟩ := nb_e2 h
      exact nb_iret hx hb hr hlk hP hS dX7_voice_23
set_option maxHeartbeats 4000000 in
set_option maxRecDepth 100000 in
theorem k_X7_body {r : Int32} {M' : nb_M} (had : nb_AD ad b0) (M N : nb_M) (p0 : Int32) (h : f_X7_body M p0 = some (r, M')) : nb_C l D ad ca b0 yX7_body wsX7_body 1 [.ref (ad 52), .int p0] N M (some (.int r)) N M' := by
  refine nb_of (cc := cX7_body) (maxL := 2) (ret := (some .int)) (own := RX7) (by decide +kernel) rfl rfl (Nat.le_of_ble_eq_true rfl) ?_
  intro p e s m args below meth c ls X hP hS hl
  have hl : lv_has ls 2 [(0, .ref (ad 52)), (1, .int p0)] := hl
  obtain ⟨hx, hb, hml, hown, hts, hr, hlk, hK, hZ⟩ := id X
  have w_1 := hts (.fieldLink RX7 213 "NineBreakagesModel" "traced" "I") (by decide +kernel)
  have in7 : ∀ w ∈ u_ws RX7 TX7 21, w ∈ wsX7_body := fun w q => List.mem_cons_of_mem _ (List.mem_append_right _ q)
  have w_3 := hts (.constant RX7 206 (-1000000002)) (by decide +kernel)
  have w_4 := hts (.fieldLink RX7 44 "NineBreakagesModel" "trace" "[I") (by decide +kernel)
  unfold f_X7_body at h
  refine lv_iload_n hx hb dX7_body_0 rfl (lv_at hl 1 rfl) ?_
  refine lv_iconst (v := (0 : Int32)) hx hb dX7_body_1 (by decide) ?_
  refine lv_aload_n hx hb dX7_body_2 rfl (lv_at hl 0 rfl) ?_
  refine va_get (v := .int (M.1 0 19)) (C := RX7) (T := TX7) (N := 21) hx hb hts in7 hown hK.1 hP 52 nb_a52 rfl 19 (by decide) w_1 (fun _ h9 => h9) rfl dX7_body_3 ?_
  refine lv_iconst (v := (1 : Int32)) hx hb dX7_body_6 (by decide) ?_
  refine lv_isub hx hb dX7_body_7 ?_
  refine nb_callS (n := 3) (As := [.int p0, .int (0 : Int32), .int ((M.1 0 19) - (1 : Int32))]) (rest := []) hx hb hml hown hts hK hZ hP hS (k_X7_in had M N p0 (0 : Int32) ((M.1 0 19) - (1 : Int32))) gX7_body_X7_in rfl (by decide +kernel) (nb_rm (Nat.le_of_ble_eq_true rfl) (Nat.le_of_ble_eq_true rfl)) rfl hl.1 rfl (Nat.le_of_ble_eq_true rfl) dX7_body_8 (fun H locs hP hS => ?_)
  refine W.eq (g2 := F0 m 11 ls [.int (f_X7_in p0 (0 : Int32) ((M.1 0 19) - (1 : Int32)))]) rfl ?_
  refine lv_if_eq (tgt := 23) hx hb dX7_body_11 (by decide) (fun c_2 => ?_) (fun c_2 => ?_)
  · have h := nb_t c_2 h
    refine lv_aload_n hx hb dX7_body_23 rfl (lv_at hl 0 rfl) ?_
    refine lv_ldc (v := (-1000000002 : Int32)) hx hb hown w_3 dX7_body_24 ?_
    obtain ⟨r_3, M_3, e_3, h⟩ := nb_pE h
    refine nb_callV (n := 1) (As := [.int (-1000000002 : Int32)]) (rest := []) hx hb hml hown hts hK hZ hP hS (k_X7_error had M N (-1000000002 : Int32) e_3) gX7_body_X7_error rfl (by decide +kernel) (nb_rm (Nat.le_of_ble_eq_true rfl) (Nat.le_of_ble_eq_true rfl)) nb_a52 rfl rfl rfl hl.1 rfl (Nat.le_of_ble_eq_true rfl) dX7_body_26 (fun H locs hP hS => ?_)
    refine W.eq (g2 := F0 m 29 ls [.int r_3]) rfl ?_
    obtain ⟨rfl, rfl⟩ := nb_e2 h
    exact nb_iret hx hb hr hlk hP hS dX7_body_29
  · have h := nb_f c_2 h
    refine lv_aload_n hx hb dX7_body_14 rfl (lv_at hl 0 rfl) ?_
    refine va_get (v := .ref (ad 64)) (C := RX7) (T := TX7) (N := 21) hx hb hts in7 hown hK.1 hP 52 nb_a52 rfl 18 (by decide) w_4 (fun _ h9 => h9) rfl dX7_body_15 ?_
    refine lv_iload_n hx hb dX7_body_18 rfl (lv_at hl 1 rfl) ?_
    obtain ⟨c_4, h⟩ := nb_c h
    refine va_iald hx hb hK.1 hP 64 0 nb_a64 rfl c_4 dX7_body_19 ?_
    refine lv_goto (tgt := 29) hx hb dX7_body_20 (by decide) ?_
    obtain ⟨rfl, rfl⟩ := nb_e2 h
    exact nb_iret hx hb hr hlk hP hS dX7_body_29
set_option maxHeartbeats 4000000 in
set_option maxRecDepth 100000 in
theorem w_X7_sheet_93 {N : nb_M} {r : Int32} {M' : nb_M} (had : nb_AD ad b0) (X : nb_X p s m args meth c cX7_sheet 5 RX7 (some .int) wsX7_sheet D ca b0) : ∀ (n : Nat) (M : nb_M) (x1 : Int32) (x4 : Int32), f_X7_sheet_93 n M x1 x4 = some (r, M') → ∀ (H : Heap) (locs : List Loc), va_P D vwCl (nb_w ad ca N M) H → va_S (fun q => b0 ≤ q) s.heap H locs → ∀ ls : Array Slot, lv_has ls 5 [(0, .ref (ad 52)), (1, .int x1), (4, .int x4)] → W p l e (nb_R 2) s m args below meth c H locs 0 0 (nb_Q below args s D ad ca b0 (some (.int r)) N M') (F0 m 93 ls []) := by
  obtain ⟨hx, hb, hml, hown, hts, hr, hlk, hK, hZ⟩ := id X
  have w_1 := hts (.fieldLink RX7 25 "NineBreakagesModel" "cells" "[I") (by decide +kernel)
  have in7 : ∀ w ∈ u_ws RX7 TX7 21, w ∈ wsX7_sheet := fun w q => List.mem_cons_of_mem _ (List.mem_append_right _ q)
  intro n
  induction n with
  | zero =>
    intro M x1 x4 h
    rw [f_X7_sheet_93] at h
    cases h
  | succ n ih =>
    intro M x1 x4 h H locs hP hS ls hl
    rw [f_X7_sheet_93] at h
    refine lv_iload hx hb dX7_sheet_93 (lv_at hl 2 rfl) ?_
    refine lv_bipush (v := (24 : Int32)) hx hb dX7_sheet_95 (by decide) ?_
    refine lv_icmp_ge (tgt := 119) hx hb dX7_sheet_97 (by decide) (fun c_11 => ?_) (fun c_11 => ?_)
    · have h := nb_t c_11 h
      refine lv_iconst (v := (1 : Int32)) hx hb dX7_sheet_119 (by decide) ?_
      obtain ⟨rfl, rfl⟩ := nb_e2 h
      exact nb_iret hx hb hr hlk hP hS dX7_sheet_120
    · have h := nb_f c_11 h
      refine lv_aload_n hx hb dX7_sheet_100 rfl (lv_at hl 0 rfl) ?_
      refine va_get (v := .ref (ad 58)) (C := RX7) (T := TX7) (N := 21) hx hb hts in7 hown hK.1 hP 52 nb_a52 rfl 6 (by decide) w_1 (fun _ h9 => h9) rfl dX7_sheet_101 ?_
      refine lv_bipush (v := (24 : Int32)) hx hb dX7_sheet_104 (by decide) ?_
      refine lv_iload_n hx hb dX7_sheet_106 rfl (lv_at hl 1 rfl) ?_
      refine lv_imul hx hb dX7_sheet_107 ?_
      refine lv_iload hx hb dX7_sheet_108 (lv_at hl 2 rfl) ?_
      refine lv_iadd hx hb dX7_sheet_110 ?_
      refine lv_iconst (v := (0 : Int32)) hx hb dX7_sheet_111 (by decide) ?_
      obtain ⟨c_12, h⟩ := nb_c h
      refine nb_iast hx hb had hK hP hS nb_a58 c_12 (nb_t58 _ _) dX7_sheet_112 (fun H locs hP hS => ?_)
      obtain ⟨M_13, e_13, h⟩ := nb_nE h
      rw [e_13] at hP
      refine lv_iinc (v := x4 + 1) (lv' := [(4, .int (x4 + 1)), (0, .ref (ad 52)), (1, .int x1)]) hx hb dX7_sheet_113 hl (k := 2) rfl (congrArg (HAdd.hAdd x4) (by decide)) (by decide) rfl (fun ls hl => ?_)
      refine lv_goto (tgt := 93) hx hb dX7_sheet_116 (by decide) ?_
      exact ih _ _ _ h _ _ hP hS _ (lv_sub hl [1, 2, 0] rfl)
set_option maxHeartbeats 4000000 in
set_option maxRecDepth 100000 in
theorem w_X7_sheet_68 {N : nb_M} {r : Int32} {M' : nb_M} (had : nb_AD ad b0) (X : nb_X p s m args meth c cX7_sheet 5 RX7 (some .int) wsX7_sheet D ca b0) : ∀ (M : nb_M) (x1 : Int32) (x2 : Int32) (x3 : Int32), f_X7_sheet_68 M x1 x2 x3 = some (r, M') → ∀ (H : Heap) (locs : List Loc), va_P D vwCl (nb_w ad ca N M) H → va_S (fun q => b0 ≤ q) s.heap H locs → ∀ ls : Array Slot, lv_has ls 5 [(0, .ref (ad 52)), (1, .int x1), (2, .int x2), (3, .int x3)] → W p l e (nb_R 2) s m args below meth c H locs 0 0 (nb_Q below args s D ad ca b0 (some (.int r)) N M') (F0 m 68 ls []) := by
  obtain ⟨hx, hb, hml, hown, hts, hr, hlk, hK, hZ⟩ := id X
  have w_1 := hts (.fieldLink RX7 19 "NineBreakagesModel" "bitsOf" "[I") (by decide +kernel)
  have in7 : ∀ w ∈ u_ws RX7 TX7 21, w ∈ wsX7_sheet := fun w q => List.mem_cons_of_mem _ (List.mem_append_right _ q)
  have w_3 := hts (.fieldLink RX7 22 "NineBreakagesModel" "sizeOf" "[I") (by decide +kernel)
  intro M x1 x2 x3 h H locs hP hS ls hl
  unfold f_X7_sheet_68 at h
  refine lv_aload_n hx hb dX7_sheet_68 rfl (lv_at hl 0 rfl) ?_
  refine va_get (v := .ref (ad 56)) (C := RX7) (T := TX7) (N := 21) hx hb hts in7 hown hK.1 hP 52 nb_a52 rfl 4 (by decide) w_1 (fun _ h9 => h9) rfl dX7_sheet_69 ?_
  refine lv_iload_n hx hb dX7_sheet_72 rfl (lv_at hl 1 rfl) ?_
  refine lv_iload_n hx hb dX7_sheet_73 rfl (lv_at hl 2 rfl) ?_
  obtain ⟨c_7, h⟩ := nb_c h
  refine nb_iast hx hb had hK hP hS nb_a56 c_7 (nb_t56 _ _) dX7_sheet_74 (fun H locs hP hS => ?_)
  obtain ⟨M_8, e_8, h⟩ := nb_nE h
  rw [e_8] at hP
  refine lv_aload_n hx hb dX7_sheet_75 rfl (lv_at hl 0 rfl) ?_
  refine va_get (v := .ref (ad 57)) (C := RX7) (T := TX7) (N := 21) hx hb hts in7 hown hK.1 hP 52 nb_a52 rfl 5 (by decide) w_3 (fun _ h9 => h9) rfl dX7_sheet_76 ?_
  refine lv_iload_n hx hb dX7_sheet_79 rfl (lv_at hl 1 rfl) ?_
  refine lv_iload_n hx hb dX7_sheet_80 rfl (lv_at hl 2 rfl) ?_
  refine lv_if_ne (tgt := 88) hx hb dX7_sheet_81 (by decide) (fun c_9 => ?_) (fun c_9 => ?_)
  · have h := nb_f c_9 h
    refine lv_iload_n hx hb dX7_sheet_88 rfl (lv_at hl 3 rfl) ?_
    refine nb_iast hx hb had hK hP hS nb_a57 c_7 (nb_t57 _ _) dX7_sheet_89 (fun H locs hP hS => ?_)
    obtain ⟨M_10, e_10, h⟩ := nb_nE h
    rw [e_10] at hP
    refine lv_iconst (v := (0 : Int32)) hx hb dX7_sheet_90 (by decide) ?_
    refine lv_istore (lv' := [(4, .int (0 : Int32)), (0, .ref (ad 52)), (1, .int x1), (2, .int x2), (3, .int x3)]) hx hb dX7_sheet_91 hl (by decide) rfl (fun ls hl => ?_)
    exact w_X7_sheet_93 had X nb_F _ _ _ h _ _ hP hS _ (lv_sub hl [1, 2, 0] rfl)
  · have h := nb_t c_9 h
    refine lv_iconst (v := (0 : Int32)) hx hb dX7_sheet_84 (by decide) ?_
    refine lv_goto (tgt := 89) hx hb dX7_sheet_85 (by decide) ?_
    refine nb_iast hx hb had hK hP hS nb_a57 c_7 (nb_t57 _ _) dX7_sheet_89 (fun H locs hP hS => ?_)
    obtain ⟨M_14, e_14, h⟩ := nb_nE h
    rw [e_14] at hP
    refine lv_iconst (v := (0 : Int32)) hx hb dX7_sheet_90 (by decide) ?_
    refine lv_istore (lv' := [(4, .int (0 : Int32)), (0, .ref (ad 52)), (1, .int x1), (2, .int x2), (3, .int x3)]) hx hb dX7_sheet_91 hl (by decide) rfl (fun ls hl => ?_)
    exact w_X7_sheet_93 had X nb_F _ _ _ h _ _ hP hS _ (lv_sub hl [1, 2, 0] rfl)
set_option maxHeartbeats 4000000 in
set_option maxRecDepth 100000 in
theorem w_X7_sheet_51 {N : nb_M} {r : Int32} {M' : nb_M} (had : nb_AD ad b0) (X : nb_X p s m args meth c cX7_sheet 5 RX7 (some .int) wsX7_sheet D ca b0) : ∀ (M : nb_M) (x1 : Int32) (x2 : Int32) (x3 : Int32), f_X7_sheet_51 M x1 x2 x3 = some (r, M') → ∀ (H : Heap) (locs : List Loc), va_P D vwCl (nb_w ad ca N M) H → va_S (fun q => b0 ≤ q) s.heap H locs → ∀ ls : Array Slot, lv_has ls 5 [(0, .ref (ad 52)), (1, .int x1), (2, .int x2), (3, .int x3)] → W p l e (nb_R 2) s m args below meth c H locs 0 0 (nb_Q below args s D ad ca b0 (some (.int r)) N M') (F0 m 51 ls []) := by
  obtain ⟨hx, hb, hml, hown, hts, hr, hlk, hK, hZ⟩ := id X
  have w_1 := hts (.constant RX7 77 (-1000000001)) (by decide +kernel)
  intro M x1 x2 x3 h H locs hP hS ls hl
  unfold f_X7_sheet_51 at h
  refine lv_iload_n hx hb dX7_sheet_51 rfl (lv_at hl 2 rfl) ?_
  refine lv_if_le (tgt := 68) hx hb dX7_sheet_52 (by decide) (fun c_6 => ?_) (fun c_6 => ?_)
  · have h := nb_t c_6 h
    exact w_X7_sheet_68 had X _ _ _ _ h _ _ hP hS _ (lv_sub hl [0, 1, 2, 3] rfl)
  · have h := nb_f c_6 h
    refine lv_iload_n hx hb dX7_sheet_55 rfl (lv_at hl 3 rfl) ?_
    refine lv_bipush (v := (24 : Int32)) hx hb dX7_sheet_56 (by decide) ?_
    refine lv_icmp_le (tgt := 68) hx hb dX7_sheet_58 (by decide) (fun c_15 => ?_) (fun c_15 => ?_)
    · have h := nb_t c_15 h
      exact w_X7_sheet_68 had X _ _ _ _ h _ _ hP hS _ (lv_sub hl [0, 1, 2, 3] rfl)
    · have h := nb_f c_15 h
      refine lv_aload_n hx hb dX7_sheet_61 rfl (lv_at hl 0 rfl) ?_
      refine lv_ldc (v := (-1000000001 : Int32)) hx hb hown w_1 dX7_sheet_62 ?_
      obtain ⟨r_16, M_16, e_16, h⟩ := nb_pE h
      refine nb_callV (n := 1) (As := [.int (-1000000001 : Int32)]) (rest := []) hx hb hml hown hts hK hZ hP hS (k_X7_error had M N (-1000000001 : Int32) e_16) gX7_sheet_X7_error rfl (by decide +kernel) (nb_rm (Nat.le_of_ble_eq_true rfl) (Nat.le_of_ble_eq_true rfl)) nb_a52 rfl rfl rfl hl.1 rfl (Nat.le_of_ble_eq_true rfl) dX7_sheet_64 (fun H locs hP hS => ?_)
      refine W.eq (g2 := F0 m 67 ls [.int r_16]) rfl ?_
      obtain ⟨rfl, rfl⟩ := nb_e2 h
      exact nb_iret hx hb hr hlk hP hS dX7_sheet_67
set_option maxHeartbeats 4000000 in
set_option maxRecDepth 100000 in
theorem w_X7_sheet_36 {N : nb_M} {r : Int32} {M' : nb_M} (had : nb_AD ad b0) (X : nb_X p s m args meth c cX7_sheet 5 RX7 (some .int) wsX7_sheet D ca b0) : ∀ (M : nb_M) (x1 : Int32) (x2 : Int32) (x3 : Int32), f_X7_sheet_36 M x1 x2 x3 = some (r, M') → ∀ (H : Heap) (locs : List Loc), va_P D vwCl (nb_w ad ca N M) H → va_S (fun q => b0 ≤ q) s.heap H locs → ∀ ls : Array Slot, lv_has ls 5 [(0, .ref (ad 52)), (1, .int x1), (2, .int x2), (3, .int x3)] → W p l e (nb_R 2) s m args below meth c H locs 0 0 (nb_Q below args s D ad ca b0 (some (.int r)) N M') (F0 m 36 ls []) := by
  obtain ⟨hx, hb, hml, hown, hts, hr, hlk, hK, hZ⟩ := id X
  have w_1 := hts (.constant RX7 113 (-1000000003)) (by decide +kernel)
  intro M x1 x2 x3 h H locs hP hS ls hl
  unfold f_X7_sheet_36 at h
  refine lv_iload_n hx hb dX7_sheet_36 rfl (lv_at hl 2 rfl) ?_
  refine lv_if_le (tgt := 51) hx hb dX7_sheet_37 (by decide) (fun c_5 => ?_) (fun c_5 => ?_)
  · have h := nb_t c_5 h
    exact w_X7_sheet_51 had X _ _ _ _ h _ _ hP hS _ (lv_sub hl [0, 1, 2, 3] rfl)
  · have h := nb_f c_5 h
    refine lv_iload_n hx hb dX7_sheet_40 rfl (lv_at hl 3 rfl) ?_
    refine lv_if_ge (tgt := 51) hx hb dX7_sheet_41 (by decide) (fun c_17 => ?_) (fun c_17 => ?_)
    · have h := nb_t c_17 h
      exact w_X7_sheet_51 had X _ _ _ _ h _ _ hP hS _ (lv_sub hl [0, 1, 2, 3] rfl)
    · have h := nb_f c_17 h
      refine lv_aload_n hx hb dX7_sheet_44 rfl (lv_at hl 0 rfl) ?_
      refine lv_ldc (v := (-1000000003 : Int32)) hx hb hown w_1 dX7_sheet_45 ?_
      obtain ⟨r_18, M_18, e_18, h⟩ := nb_pE h
      refine nb_callV (n := 1) (As := [.int (-1000000003 : Int32)]) (rest := []) hx hb hml hown hts hK hZ hP hS (k_X7_error had M N (-1000000003 : Int32) e_18) gX7_sheet_X7_error rfl (by decide +kernel) (nb_rm (Nat.le_of_ble_eq_true rfl) (Nat.le_of_ble_eq_true rfl)) nb_a52 rfl rfl rfl hl.1 rfl (Nat.le_of_ble_eq_true rfl) dX7_sheet_47 (fun H locs hP hS => ?_)
      refine W.eq (g2 := F0 m 50 ls [.int r_18]) rfl ?_
      obtain ⟨rfl, rfl⟩ := nb_e2 h
      exact nb_iret hx hb hr hlk hP hS dX7_sheet_50
set_option maxHeartbeats 4000000 in
set_option maxRecDepth 100000 in
theorem k_X7_sheet {r : Int32} {M' : nb_M} (had : nb_AD ad b0) (M N : nb_M) (p0 : Int32) (p1 : Int32) (p2 : Int32) (h : f_X7_sheet M p0 p1 p2 = some (r, M')) : nb_C l D ad ca b0 yX7_sheet wsX7_sheet 2 [.ref (ad 52), .int p0, .int p1, .int p2] N M (some (.int r)) N M' := by
  refine nb_of (cc := cX7_sheet) (maxL := 5) (ret := (some .int)) (own := RX7) (by decide +kernel) rfl rfl (Nat.le_of_ble_eq_true rfl) ?_
  intro p e s m args below meth c ls X hP hS hl
  have hl : lv_has ls 5 [(0, .ref (ad 52)), (1, .int p0), (2, .int p1), (3, .int p2)] := hl
  obtain ⟨hx, hb, hml, hown, hts, hr, hlk, hK, hZ⟩ := id X
  have w_1 := hts (.constant RX7 77 (-1000000001)) (by decide +kernel)
  unfold f_X7_sheet at h
  refine lv_iload_n hx hb dX7_sheet_0 rfl (lv_at hl 1 rfl) ?_
  refine nb_callS (n := 1) (As := [.int p0]) (rest := []) hx hb hml hown hts hK hZ hP hS (k_X7_isSheet had M N p0) gX7_sheet_X7_isSheet rfl (by decide +kernel) (nb_rm (Nat.le_of_ble_eq_true rfl) (Nat.le_of_ble_eq_true rfl)) rfl hl.1 rfl (Nat.le_of_ble_eq_true rfl) dX7_sheet_1 (fun H locs hP hS => ?_)
  refine W.eq (g2 := F0 m 4 ls [.int (f_X7_isSheet p0)]) rfl ?_
  refine lv_if_eq (tgt := 29) hx hb dX7_sheet_4 (by decide) (fun c_2 => ?_) (fun c_2 => ?_)
  · have h := nb_t c_2 h
    refine lv_aload_n hx hb dX7_sheet_29 rfl (lv_at hl 0 rfl) ?_
    refine lv_ldc (v := (-1000000001 : Int32)) hx hb hown w_1 dX7_sheet_30 ?_
    obtain ⟨r_3, M_3, e_3, h⟩ := nb_pE h
    refine nb_callV (n := 1) (As := [.int (-1000000001 : Int32)]) (rest := []) hx hb hml hown hts hK hZ hP hS (k_X7_error had M N (-1000000001 : Int32) e_3) gX7_sheet_X7_error rfl (by decide +kernel) (nb_rm (Nat.le_of_ble_eq_true rfl) (Nat.le_of_ble_eq_true rfl)) nb_a52 rfl rfl rfl hl.1 rfl (Nat.le_of_ble_eq_true rfl) dX7_sheet_32 (fun H locs hP hS => ?_)
    refine W.eq (g2 := F0 m 35 ls [.int r_3]) rfl ?_
    obtain ⟨rfl, rfl⟩ := nb_e2 h
    exact nb_iret hx hb hr hlk hP hS dX7_sheet_35
  · have h := nb_f c_2 h
    refine lv_iload_n hx hb dX7_sheet_7 rfl (lv_at hl 2 rfl) ?_
    refine lv_if_eq (tgt := 36) hx hb dX7_sheet_8 (by decide) (fun c_4 => ?_) (fun c_4 => ?_)
    · have h := nb_t c_4 h
      exact w_X7_sheet_36 had X _ _ _ _ h _ _ hP hS _ (lv_sub hl [0, 1, 2, 3] rfl)
    · have h := nb_f c_4 h
      refine lv_iload_n hx hb dX7_sheet_11 rfl (lv_at hl 2 rfl) ?_
      refine lv_bipush (v := (8 : Int32)) hx hb dX7_sheet_12 (by decide) ?_
      refine lv_icmp_eq (tgt := 36) hx hb dX7_sheet_14 (by decide) (fun c_19 => ?_) (fun c_19 => ?_)
      · have h := nb_t c_19 h
        exact w_X7_sheet_36 had X _ _ _ _ h _ _ hP hS _ (lv_sub hl [0, 1, 2, 3] rfl)
      · have h := nb_f c_19 h
        refine lv_iload_n hx hb dX7_sheet_17 rfl (lv_at hl 2 rfl) ?_
        refine lv_bipush (v := (16 : Int32)) hx hb dX7_sheet_18 (by decide) ?_
        refine lv_icmp_eq (tgt := 36) hx hb dX7_sheet_20 (by decide) (fun c_20 => ?_) (fun c_20 => ?_)
        · have h := nb_t c_20 h
          exact w_X7_sheet_36 had X _ _ _ _ h _ _ hP hS _ (lv_sub hl [0, 1, 2, 3] rfl)
        · have h := nb_f c_20 h
          refine lv_iload_n hx hb dX7_sheet_23 rfl (lv_at hl 2 rfl) ?_
          refine lv_bipush (v := (32 : Int32)) hx hb dX7_sheet_24 (by decide) ?_
          refine lv_icmp_eq (tgt := 36) hx hb dX7_sheet_26 (by decide) (fun c_21 => ?_) (fun c_21 => ?_)
          · have h := nb_t c_21 h
            exact w_X7_sheet_36 had X _ _ _ _ h _ _ hP hS _ (lv_sub hl [0, 1, 2, 3] rfl)
          · have h := nb_f c_21 h
            refine lv_aload_n hx hb dX7_sheet_29 rfl (lv_at hl 0 rfl) ?_
            refine lv_ldc (v := (-1000000001 : Int32)) hx hb hown w_1 dX7_sheet_30 ?_
            obtain ⟨r_22, M_22, e_22, h⟩ := nb_pE h
            refine nb_callV (n := 1) (As := [.int (-1000000001 : Int32)]) (rest := []) hx hb hml hown hts hK hZ hP hS (k_X7_error had M N (-1000000001 : Int32) e_22) gX7_sheet_X7_error rfl (by decide +kernel) (nb_rm (Nat.le_of_ble_eq_true rfl) (Nat.le_of_ble_eq_true rfl)) nb_a52 rfl rfl rfl hl.1 rfl (Nat.le_of_ble_eq_true rfl) dX7_sheet_32 (fun H locs hP hS => ?_)
            refine W.eq (g2 := F0 m 35 ls [.int r_22]) rfl ?_
            obtain ⟨rfl, rfl⟩ := nb_e2 h
            exact nb_iret hx hb hr hlk hP hS dX7_sheet_35
set_option maxHeartbeats 4000000 in
set_option maxRecDepth 100000 in
theorem k_X7_notThere {r : Int32} (had : nb_AD ad b0) (M N : nb_M) (p0 : Int32) (h : f_X7_notThere M p0 = some r) : nb_C l D ad ca b0 yX7_notThere wsX7_notThere 2 [.ref (ad 52), .int p0] N M (some (.int r)) N M := by
  refine nb_of (cc := cX7_notThere) (maxL := 2) (ret := (some .int)) (own := RX7) (by decide +kernel) rfl rfl (Nat.le_of_ble_eq_true rfl) ?_
  intro p e s m args below meth c ls X hP hS hl
  have hl : lv_has ls 2 [(0, .ref (ad 52)), (1, .int p0)] := hl
  obtain ⟨hx, hb, hml, hown, hts, hr, hlk, hK, hZ⟩ := id X
  have w_1 := hts (.fieldLink RX7 19 "NineBreakagesModel" "bitsOf" "[I") (by decide +kernel)
  have in7 : ∀ w ∈ u_ws RX7 TX7 21, w ∈ wsX7_notThere := fun w q => List.mem_cons_of_mem _ (List.mem_append_right _ q)
  have w_3 := hts (.constant RX7 206 (-1000000002)) (by decide +kernel)
  have w_4 := hts (.constant RX7 77 (-1000000001)) (by decide +kernel)
  unfold f_X7_notThere at h
  refine lv_iload_n hx hb dX7_notThere_0 rfl (lv_at hl 1 rfl) ?_
  refine nb_callS (n := 1) (As := [.int p0]) (rest := []) hx hb hml hown hts hK hZ hP hS (k_X7_isSheet had M N p0) gX7_notThere_X7_isSheet rfl (by decide +kernel) (nb_rm (Nat.le_of_ble_eq_true rfl) (Nat.le_of_ble_eq_true rfl)) rfl hl.1 rfl (Nat.le_of_ble_eq_true rfl) dX7_notThere_1 (fun H locs hP hS => ?_)
  refine W.eq (g2 := F0 m 4 ls [.int (f_X7_isSheet p0)]) rfl ?_
  refine lv_if_ne (tgt := 12) hx hb dX7_notThere_4 (by decide) (fun c_2 => ?_) (fun c_2 => ?_)
  · have h := nb_f c_2 h
    refine lv_aload_n hx hb dX7_notThere_12 rfl (lv_at hl 0 rfl) ?_
    refine va_get (v := .ref (ad 56)) (C := RX7) (T := TX7) (N := 21) hx hb hts in7 hown hK.1 hP 52 nb_a52 rfl 4 (by decide) w_1 (fun _ h9 => h9) rfl dX7_notThere_13 ?_
    refine lv_iload_n hx hb dX7_notThere_16 rfl (lv_at hl 1 rfl) ?_
    obtain ⟨c_3, h⟩ := nb_c h
    refine va_iald hx hb hK.1 hP 56 0 nb_a56 rfl c_3 dX7_notThere_17 ?_
    refine lv_if_ne (tgt := 26) hx hb dX7_notThere_18 (by decide) (fun c_4 => ?_) (fun c_4 => ?_)
    · have h := nb_f c_4 h
      refine lv_iconst (v := (0 : Int32)) hx hb dX7_notThere_26 (by decide) ?_
      obtain rfl := nb_e1 h
      exact nb_iret hx hb hr hlk hP hS dX7_notThere_27
    · have h := nb_t c_4 h
      refine lv_ldc (v := (-1000000002 : Int32)) hx hb hown w_3 dX7_notThere_21 ?_
      refine lv_goto (tgt := 27) hx hb dX7_notThere_23 (by decide) ?_
      obtain rfl := nb_e1 h
      exact nb_iret hx hb hr hlk hP hS dX7_notThere_27
  · have h := nb_t c_2 h
    refine lv_ldc (v := (-1000000001 : Int32)) hx hb hown w_4 dX7_notThere_7 ?_
    refine lv_goto (tgt := 27) hx hb dX7_notThere_9 (by decide) ?_
    obtain rfl := nb_e1 h
    exact nb_iret hx hb hr hlk hP hS dX7_notThere_27
set_option maxHeartbeats 4000000 in
set_option maxRecDepth 100000 in
theorem w_X7_put_33 {N : nb_M} {r : Int32} {M' : nb_M} (had : nb_AD ad b0) (X : nb_X p s m args meth c cX7_put 5 RX7 (some .int) wsX7_put D ca b0) : ∀ (M : nb_M) (x1 : Int32) (x2 : Int32) (x3 : Int32) (x4 : Int32), f_X7_put_33 M x1 x2 x3 x4 = some (r, M') → ∀ (H : Heap) (locs : List Loc), va_P D vwCl (nb_w ad ca N M) H → va_S (fun q => b0 ≤ q) s.heap H locs → ∀ ls : Array Slot, lv_has ls 5 [(0, .ref (ad 52)), (1, .int x1), (2, .int x2), (3, .int x3), (4, .int x4)] → W p l e (nb_R 3) s m args below meth c H locs 0 0 (nb_Q below args s D ad ca b0 (some (.int r)) N M') (F0 m 33 ls []) := by
  obtain ⟨hx, hb, hml, hown, hts, hr, hlk, hK, hZ⟩ := id X
  have w_1 := hts (.fieldLink RX7 25 "NineBreakagesModel" "cells" "[I") (by decide +kernel)
  have in7 : ∀ w ∈ u_ws RX7 TX7 21, w ∈ wsX7_put := fun w q => List.mem_cons_of_mem _ (List.mem_append_right _ q)
  have w_3 := hts (.fieldLink RX7 19 "NineBreakagesModel" "bitsOf" "[I") (by decide +kernel)
  intro M x1 x2 x3 x4 h H locs hP hS ls hl
  unfold f_X7_put_33 at h
  refine lv_iload hx hb dX7_put_33 (lv_at hl 4 rfl) ?_
  refine lv_istore (lv' := [(4, .int x4), (0, .ref (ad 52)), (1, .int x1), (2, .int x2), (3, .int x3)]) hx hb dX7_put_35 hl (by decide) rfl (fun ls hl => ?_)
  refine lv_iload hx hb dX7_put_37 (lv_at hl 0 rfl) ?_
  refine lv_if_eq (tgt := 49) hx hb dX7_put_39 (by decide) (fun c_3 => ?_) (fun c_3 => ?_)
  · have h := nb_t c_3 h
    refine lv_aload_n hx hb dX7_put_49 rfl (lv_at hl 1 rfl) ?_
    refine va_get (v := .ref (ad 58)) (C := RX7) (T := TX7) (N := 21) hx hb hts in7 hown hK.1 hP 52 nb_a52 rfl 6 (by decide) w_1 (fun _ h9 => h9) rfl dX7_put_50 ?_
    refine lv_bipush (v := (24 : Int32)) hx hb dX7_put_53 (by decide) ?_
    refine lv_iload_n hx hb dX7_put_55 rfl (lv_at hl 2 rfl) ?_
    refine lv_imul hx hb dX7_put_56 ?_
    refine lv_iload_n hx hb dX7_put_57 rfl (lv_at hl 3 rfl) ?_
    refine lv_iadd hx hb dX7_put_58 ?_
    refine lv_aload_n hx hb dX7_put_59 rfl (lv_at hl 1 rfl) ?_
    refine va_get (v := .ref (ad 56)) (C := RX7) (T := TX7) (N := 21) hx hb hts in7 hown hK.1 hP 52 nb_a52 rfl 4 (by decide) w_3 (fun _ h9 => h9) rfl dX7_put_60 ?_
    refine lv_iload_n hx hb dX7_put_63 rfl (lv_at hl 2 rfl) ?_
    obtain ⟨c_4, h⟩ := nb_c h
    refine va_iald hx hb hK.1 hP 56 0 nb_a56 rfl c_4 dX7_put_64 ?_
    refine lv_bipush (v := (8 : Int32)) hx hb dX7_put_65 (by decide) ?_
    refine lv_icmp_ne (tgt := 75) hx hb dX7_put_67 (by decide) (fun c_5 => ?_) (fun c_5 => ?_)
    · have h := nb_f c_5 h
      refine lv_aload_n hx hb dX7_put_75 rfl (lv_at hl 1 rfl) ?_
      refine va_get (v := .ref (ad 56)) (C := RX7) (T := TX7) (N := 21) hx hb hts in7 hown hK.1 hP 52 nb_a52 rfl 4 (by decide) w_3 (fun _ h9 => h9) rfl dX7_put_76 ?_
      refine lv_iload_n hx hb dX7_put_79 rfl (lv_at hl 2 rfl) ?_
      refine va_iald hx hb hK.1 hP 56 0 nb_a56 rfl c_4 dX7_put_80 ?_
      refine lv_bipush (v := (16 : Int32)) hx hb dX7_put_81 (by decide) ?_
      refine lv_icmp_ne (tgt := 91) hx hb dX7_put_83 (by decide) (fun c_6 => ?_) (fun c_6 => ?_)
      · have h := nb_f c_6 h
        refine lv_iload_n hx hb dX7_put_91 rfl (lv_at hl 4 rfl) ?_
        obtain ⟨c_7, h⟩ := nb_c h
        refine nb_iast hx hb had hK hP hS nb_a58 c_7 (nb_t58 _ _) dX7_put_92 (fun H locs hP hS => ?_)
        obtain ⟨M_8, e_8, h⟩ := nb_nE h
        rw [e_8] at hP
        refine lv_iconst (v := (1 : Int32)) hx hb dX7_put_93 (by decide) ?_
        obtain ⟨rfl, rfl⟩ := nb_e2 h
        exact nb_iret hx hb hr hlk hP hS dX7_put_94
      · have h := nb_t c_6 h
        refine lv_iload_n hx hb dX7_put_86 rfl (lv_at hl 4 rfl) ?_
        refine lv_i2s hx hb dX7_put_87 rfl ?_
        refine lv_goto (tgt := 92) hx hb dX7_put_88 (by decide) ?_
        obtain ⟨c_9, h⟩ := nb_c h
        refine nb_iast hx hb had hK hP hS nb_a58 c_9 (nb_t58 _ _) dX7_put_92 (fun H locs hP hS => ?_)
        obtain ⟨M_10, e_10, h⟩ := nb_nE h
        rw [e_10] at hP
        refine lv_iconst (v := (1 : Int32)) hx hb dX7_put_93 (by decide) ?_
        obtain ⟨rfl, rfl⟩ := nb_e2 h
        exact nb_iret hx hb hr hlk hP hS dX7_put_94
    · have h := nb_t c_5 h
      refine lv_iload_n hx hb dX7_put_70 rfl (lv_at hl 4 rfl) ?_
      refine lv_i2b hx hb dX7_put_71 rfl ?_
      refine lv_goto (tgt := 92) hx hb dX7_put_72 (by decide) ?_
      obtain ⟨c_11, h⟩ := nb_c h
      refine nb_iast hx hb had hK hP hS nb_a58 c_11 (nb_t58 _ _) dX7_put_92 (fun H locs hP hS => ?_)
      obtain ⟨M_12, e_12, h⟩ := nb_nE h
      rw [e_12] at hP
      refine lv_iconst (v := (1 : Int32)) hx hb dX7_put_93 (by decide) ?_
      obtain ⟨rfl, rfl⟩ := nb_e2 h
      exact nb_iret hx hb hr hlk hP hS dX7_put_94
  · have h := nb_f c_3 h
    refine lv_aload_n hx hb dX7_put_42 rfl (lv_at hl 1 rfl) ?_
    refine lv_iload hx hb dX7_put_43 (lv_at hl 0 rfl) ?_
    obtain ⟨r_13, M_13, e_13, h⟩ := nb_pE h
    refine nb_callV (n := 1) (As := [.int x4]) (rest := []) hx hb hml hown hts hK hZ hP hS (k_X7_error had M N x4 e_13) gX7_put_X7_error rfl (by decide +kernel) (nb_rm (Nat.le_of_ble_eq_true rfl) (Nat.le_of_ble_eq_true rfl)) nb_a52 rfl rfl rfl hl.1 rfl (Nat.le_of_ble_eq_true rfl) dX7_put_45 (fun H locs hP hS => ?_)
    refine W.eq (g2 := F0 m 48 ls [.int r_13]) rfl ?_
    obtain ⟨rfl, rfl⟩ := nb_e2 h
    exact nb_iret hx hb hr hlk hP hS dX7_put_48
set_option maxHeartbeats 4000000 in
set_option maxRecDepth 100000 in
theorem k_X7_put {r : Int32} {M' : nb_M} (had : nb_AD ad b0) (M N : nb_M) (p0 : Int32) (p1 : Int32) (p2 : Int32) (h : f_X7_put M p0 p1 p2 = some (r, M')) : nb_C l D ad ca b0 yX7_put wsX7_put 3 [.ref (ad 52), .int p0, .int p1, .int p2] N M (some (.int r)) N M' := by
  refine nb_of (cc := cX7_put) (maxL := 5) (ret := (some .int)) (own := RX7) (by decide +kernel) rfl rfl (Nat.le_of_ble_eq_true rfl) ?_
  intro p e s m args below meth c ls X hP hS hl
  have hl : lv_has ls 5 [(0, .ref (ad 52)), (1, .int p0), (2, .int p1), (3, .int p2)] := hl
  obtain ⟨hx, hb, hml, hown, hts, hr, hlk, hK, hZ⟩ := id X
  have w_1 := hts (.fieldLink RX7 22 "NineBreakagesModel" "sizeOf" "[I") (by decide +kernel)
  have in7 : ∀ w ∈ u_ws RX7 TX7 21, w ∈ wsX7_put := fun w q => List.mem_cons_of_mem _ (List.mem_append_right _ q)
  have w_3 := hts (.constant RX7 77 (-1000000001)) (by decide +kernel)
  unfold f_X7_put at h
  refine lv_aload_n hx hb dX7_put_0 rfl (lv_at hl 0 rfl) ?_
  refine lv_iload_n hx hb dX7_put_1 rfl (lv_at hl 1 rfl) ?_
  obtain ⟨r_1, e_1, h⟩ := nb_oE h
  refine nb_callV (n := 1) (As := [.int p0]) (rest := []) hx hb hml hown hts hK hZ hP hS (k_X7_notThere had M N p0 e_1) gX7_put_X7_notThere rfl (by decide +kernel) (nb_rm (Nat.le_of_ble_eq_true rfl) (Nat.le_of_ble_eq_true rfl)) nb_a52 rfl rfl rfl hl.1 rfl (Nat.le_of_ble_eq_true rfl) dX7_put_2 (fun H locs hP hS => ?_)
  refine W.eq (g2 := F0 m 5 ls [.int r_1]) rfl ?_
  refine lv_istore (lv' := [(4, .int r_1), (0, .ref (ad 52)), (1, .int p0), (2, .int p1), (3, .int p2)]) hx hb dX7_put_5 hl (by decide) rfl (fun ls hl => ?_)
  refine lv_iload hx hb dX7_put_7 (lv_at hl 0 rfl) ?_
  refine lv_if_ne (tgt := 33) hx hb dX7_put_9 (by decide) (fun c_2 => ?_) (fun c_2 => ?_)
  · have h := nb_f c_2 h
    exact w_X7_put_33 had X _ _ _ _ _ h _ _ hP hS _ (lv_sub hl [1, 2, 3, 4, 0] rfl)
  · have h := nb_t c_2 h
    refine lv_iload_n hx hb dX7_put_12 rfl (lv_at hl 3 rfl) ?_
    refine lv_iconst (v := (0 : Int32)) hx hb dX7_put_13 (by decide) ?_
    refine lv_aload_n hx hb dX7_put_14 rfl (lv_at hl 1 rfl) ?_
    refine va_get (v := .ref (ad 57)) (C := RX7) (T := TX7) (N := 21) hx hb hts in7 hown hK.1 hP 52 nb_a52 rfl 5 (by decide) w_1 (fun _ h9 => h9) rfl dX7_put_15 ?_
    refine lv_iload_n hx hb dX7_put_18 rfl (lv_at hl 2 rfl) ?_
    obtain ⟨c_14, h⟩ := nb_c h
    refine va_iald hx hb hK.1 hP 57 0 nb_a57 rfl c_14 dX7_put_19 ?_
    refine lv_iconst (v := (1 : Int32)) hx hb dX7_put_20 (by decide) ?_
    refine lv_isub hx hb dX7_put_21 ?_
    refine nb_callS (n := 3) (As := [.int p1, .int (0 : Int32), .int ((M.1 5 p0.toNatClampNeg) - (1 : Int32))]) (rest := []) hx hb hml hown hts hK hZ hP hS (k_X7_in had M N p1 (0 : Int32) ((M.1 5 p0.toNatClampNeg) - (1 : Int32))) gX7_put_X7_in rfl (by decide +kernel) (nb_rm (Nat.le_of_ble_eq_true rfl) (Nat.le_of_ble_eq_true rfl)) rfl hl.1 rfl (Nat.le_of_ble_eq_true rfl) dX7_put_22 (fun H locs hP hS => ?_)
    refine W.eq (g2 := F0 m 25 ls [.int (f_X7_in p1 (0 : Int32) ((M.1 5 p0.toNatClampNeg) - (1 : Int32)))]) rfl ?_
    refine lv_if_ne (tgt := 33) hx hb dX7_put_25 (by decide) (fun c_16 => ?_) (fun c_16 => ?_)
    · have h := nb_f c_16 h
      exact w_X7_put_33 had X _ _ _ _ _ h _ _ hP hS _ (lv_sub hl [1, 2, 3, 4, 0] rfl)
    · have h := nb_t c_16 h
      refine lv_ldc (v := (-1000000001 : Int32)) hx hb hown w_3 dX7_put_28 ?_
      refine lv_goto (tgt := 35) hx hb dX7_put_30 (by decide) ?_
      refine lv_istore (lv' := [(4, .int (-1000000001 : Int32)), (0, .ref (ad 52)), (1, .int p0), (2, .int p1), (3, .int p2)]) hx hb dX7_put_35 hl (by decide) rfl (fun ls hl => ?_)
      refine lv_iload hx hb dX7_put_37 (lv_at hl 0 rfl) ?_
      refine lv_if_eq (tgt := 49) hx hb dX7_put_39 (by decide) (fun c_17 => absurd c_17 (by decide)) (fun _ => ?_)
      refine lv_aload_n hx hb dX7_put_42 rfl (lv_at hl 1 rfl) ?_
      refine lv_iload hx hb dX7_put_43 (lv_at hl 0 rfl) ?_
      obtain ⟨r_18, M_18, e_18, h⟩ := nb_pE h
      refine nb_callV (n := 1) (As := [.int (-1000000001 : Int32)]) (rest := []) hx hb hml hown hts hK hZ hP hS (k_X7_error had M N (-1000000001 : Int32) e_18) gX7_put_X7_error rfl (by decide +kernel) (nb_rm (Nat.le_of_ble_eq_true rfl) (Nat.le_of_ble_eq_true rfl)) nb_a52 rfl rfl rfl hl.1 rfl (Nat.le_of_ble_eq_true rfl) dX7_put_45 (fun H locs hP hS => ?_)
      refine W.eq (g2 := F0 m 48 ls [.int r_18]) rfl ?_
      obtain ⟨rfl, rfl⟩ := nb_e2 h
      exact nb_iret hx hb hr hlk hP hS dX7_put_48
set_option maxHeartbeats 4000000 in
set_option maxRecDepth 100000 in
theorem k_X7_notMoved {r : Int32} (had : nb_AD ad b0) (M N : nb_M) (p0 : Int32) (p1 : Int32) (p2 : Int32) (p3 : Int32) (p4 : Int32) (h : f_X7_notMoved M p0 p1 p2 p3 p4 = some r) : nb_C l D ad ca b0 yX7_notMoved wsX7_notMoved 2 [.ref (ad 52), .int p0, .int p1, .int p2, .int p3, .int p4] N M (some (.int r)) N M := by
  refine nb_of (cc := cX7_notMoved) (maxL := 7) (ret := (some .int)) (own := RX7) (by decide +kernel) rfl rfl (Nat.le_of_ble_eq_true rfl) ?_
  intro p e s m args below meth c ls X hP hS hl
  have hl : lv_has ls 7 [(0, .ref (ad 52)), (1, .int p0), (2, .int p1), (3, .int p2), (4, .int p3), (5, .int p4)] := hl
  obtain ⟨hx, hb, hml, hown, hts, hr, hlk, hK, hZ⟩ := id X
  have w_1 := hts (.constant RX7 77 (-1000000001)) (by decide +kernel)
  have w_2 := hts (.fieldLink RX7 19 "NineBreakagesModel" "bitsOf" "[I") (by decide +kernel)
  have in7 : ∀ w ∈ u_ws RX7 TX7 21, w ∈ wsX7_notMoved := fun w q => List.mem_cons_of_mem _ (List.mem_append_right _ q)
  have w_4 := hts (.constant RX7 206 (-1000000002)) (by decide +kernel)
  have w_5 := hts (.fieldLink RX7 22 "NineBreakagesModel" "sizeOf" "[I") (by decide +kernel)
  have w_6 := hts (.constant RX7 112 (-1000000005)) (by decide +kernel)
  unfold f_X7_notMoved at h
  refine lv_iload_n hx hb dX7_notMoved_0 rfl (lv_at hl 1 rfl) ?_
  refine nb_callS (n := 1) (As := [.int p0]) (rest := []) hx hb hml hown hts hK hZ hP hS (k_X7_isSheet had M N p0) gX7_notMoved_X7_isSheet rfl (by decide +kernel) (nb_rm (Nat.le_of_ble_eq_true rfl) (Nat.le_of_ble_eq_true rfl)) rfl hl.1 rfl (Nat.le_of_ble_eq_true rfl) dX7_notMoved_1 (fun H locs hP hS => ?_)
  refine W.eq (g2 := F0 m 4 ls [.int (f_X7_isSheet p0)]) rfl ?_
  refine lv_if_eq (tgt := 14) hx hb dX7_notMoved_4 (by decide) (fun c_2 => ?_) (fun c_2 => ?_)
  · have h := nb_t c_2 h
    refine lv_ldc (v := (-1000000001 : Int32)) hx hb hown w_1 dX7_notMoved_14 ?_
    obtain rfl := nb_e1 h
    exact nb_iret hx hb hr hlk hP hS dX7_notMoved_16
  · have h := nb_f c_2 h
    refine lv_iload_n hx hb dX7_notMoved_7 rfl (lv_at hl 3 rfl) ?_
    refine nb_callS (n := 1) (As := [.int p2]) (rest := []) hx hb hml hown hts hK hZ hP hS (k_X7_isSheet had M N p2) gX7_notMoved_X7_isSheet rfl (by decide +kernel) (nb_rm (Nat.le_of_ble_eq_true rfl) (Nat.le_of_ble_eq_true rfl)) rfl hl.1 rfl (Nat.le_of_ble_eq_true rfl) dX7_notMoved_8 (fun H locs hP hS => ?_)
    refine W.eq (g2 := F0 m 11 ls [.int (f_X7_isSheet p2)]) rfl ?_
    refine lv_if_ne (tgt := 17) hx hb dX7_notMoved_11 (by decide) (fun c_4 => ?_) (fun c_4 => ?_)
    · have h := nb_f c_4 h
      refine lv_aload_n hx hb dX7_notMoved_17 rfl (lv_at hl 0 rfl) ?_
      refine va_get (v := .ref (ad 56)) (C := RX7) (T := TX7) (N := 21) hx hb hts in7 hown hK.1 hP 52 nb_a52 rfl 4 (by decide) w_2 (fun _ h9 => h9) rfl dX7_notMoved_18 ?_
      refine lv_iload_n hx hb dX7_notMoved_21 rfl (lv_at hl 1 rfl) ?_
      obtain ⟨c_5, h⟩ := nb_c h
      refine va_iald hx hb hK.1 hP 56 0 nb_a56 rfl c_5 dX7_notMoved_22 ?_
      refine lv_if_eq (tgt := 35) hx hb dX7_notMoved_23 (by decide) (fun c_6 => ?_) (fun c_6 => ?_)
      · have h := nb_t c_6 h
        refine lv_ldc (v := (-1000000002 : Int32)) hx hb hown w_4 dX7_notMoved_35 ?_
        obtain rfl := nb_e1 h
        exact nb_iret hx hb hr hlk hP hS dX7_notMoved_37
      · have h := nb_f c_6 h
        refine lv_aload_n hx hb dX7_notMoved_26 rfl (lv_at hl 0 rfl) ?_
        refine va_get (v := .ref (ad 56)) (C := RX7) (T := TX7) (N := 21) hx hb hts in7 hown hK.1 hP 52 nb_a52 rfl 4 (by decide) w_2 (fun _ h9 => h9) rfl dX7_notMoved_27 ?_
        refine lv_iload_n hx hb dX7_notMoved_30 rfl (lv_at hl 3 rfl) ?_
        obtain ⟨c_7, h⟩ := nb_c h
        refine va_iald hx hb hK.1 hP 56 0 nb_a56 rfl c_7 dX7_notMoved_31 ?_
        refine lv_if_ne (tgt := 38) hx hb dX7_notMoved_32 (by decide) (fun c_8 => ?_) (fun c_8 => ?_)
        · have h := nb_f c_8 h
          refine lv_aload_n hx hb dX7_notMoved_38 rfl (lv_at hl 0 rfl) ?_
          refine va_get (v := .ref (ad 56)) (C := RX7) (T := TX7) (N := 21) hx hb hts in7 hown hK.1 hP 52 nb_a52 rfl 4 (by decide) w_2 (fun _ h9 => h9) rfl dX7_notMoved_39 ?_
          refine lv_iload_n hx hb dX7_notMoved_42 rfl (lv_at hl 1 rfl) ?_
          refine va_iald hx hb hK.1 hP 56 0 nb_a56 rfl c_5 dX7_notMoved_43 ?_
          refine lv_aload_n hx hb dX7_notMoved_44 rfl (lv_at hl 0 rfl) ?_
          refine va_get (v := .ref (ad 56)) (C := RX7) (T := TX7) (N := 21) hx hb hts in7 hown hK.1 hP 52 nb_a52 rfl 4 (by decide) w_2 (fun _ h9 => h9) rfl dX7_notMoved_45 ?_
          refine lv_iload_n hx hb dX7_notMoved_48 rfl (lv_at hl 3 rfl) ?_
          refine va_iald hx hb hK.1 hP 56 0 nb_a56 rfl c_7 dX7_notMoved_49 ?_
          refine lv_icmp_eq (tgt := 56) hx hb dX7_notMoved_50 (by decide) (fun c_9 => ?_) (fun c_9 => ?_)
          · have h := nb_t c_9 h
            refine lv_iload hx hb dX7_notMoved_56 (lv_at hl 5 rfl) ?_
            refine lv_if_lt (tgt := 101) hx hb dX7_notMoved_58 (by decide) (fun c_10 => ?_) (fun c_10 => ?_)
            · have h := nb_t c_10 h
              refine lv_iconst (v := (0 : Int32)) hx hb dX7_notMoved_101 (by decide) ?_
              refine lv_istore (lv' := [(6, .int (0 : Int32)), (0, .ref (ad 52)), (1, .int p0), (2, .int p1), (3, .int p2), (4, .int p3), (5, .int p4)]) hx hb dX7_notMoved_102 hl (by decide) rfl (fun ls hl => ?_)
              refine lv_iload hx hb dX7_notMoved_104 (lv_at hl 0 rfl) ?_
              refine lv_if_eq (tgt := 113) hx hb dX7_notMoved_106 (by decide) (fun _ => ?_) (fun c_11 => absurd (by decide) c_11)
              refine lv_ldc (v := (-1000000001 : Int32)) hx hb hown w_1 dX7_notMoved_113 ?_
              obtain rfl := nb_e1 h
              exact nb_iret hx hb hr hlk hP hS dX7_notMoved_115
            · have h := nb_f c_10 h
              refine lv_iload_n hx hb dX7_notMoved_61 rfl (lv_at hl 2 rfl) ?_
              refine lv_if_lt (tgt := 101) hx hb dX7_notMoved_62 (by decide) (fun c_12 => ?_) (fun c_12 => ?_)
              · have h := nb_t c_12 h
                refine lv_iconst (v := (0 : Int32)) hx hb dX7_notMoved_101 (by decide) ?_
                refine lv_istore (lv' := [(6, .int (0 : Int32)), (0, .ref (ad 52)), (1, .int p0), (2, .int p1), (3, .int p2), (4, .int p3), (5, .int p4)]) hx hb dX7_notMoved_102 hl (by decide) rfl (fun ls hl => ?_)
                refine lv_iload hx hb dX7_notMoved_104 (lv_at hl 0 rfl) ?_
                refine lv_if_eq (tgt := 113) hx hb dX7_notMoved_106 (by decide) (fun _ => ?_) (fun c_13 => absurd (by decide) c_13)
                refine lv_ldc (v := (-1000000001 : Int32)) hx hb hown w_1 dX7_notMoved_113 ?_
                obtain rfl := nb_e1 h
                exact nb_iret hx hb hr hlk hP hS dX7_notMoved_115
              · have h := nb_f c_12 h
                refine lv_iload hx hb dX7_notMoved_65 (lv_at hl 4 rfl) ?_
                refine lv_if_lt (tgt := 101) hx hb dX7_notMoved_67 (by decide) (fun c_14 => ?_) (fun c_14 => ?_)
                · have h := nb_t c_14 h
                  refine lv_iconst (v := (0 : Int32)) hx hb dX7_notMoved_101 (by decide) ?_
                  refine lv_istore (lv' := [(6, .int (0 : Int32)), (0, .ref (ad 52)), (1, .int p0), (2, .int p1), (3, .int p2), (4, .int p3), (5, .int p4)]) hx hb dX7_notMoved_102 hl (by decide) rfl (fun ls hl => ?_)
                  refine lv_iload hx hb dX7_notMoved_104 (lv_at hl 0 rfl) ?_
                  refine lv_if_eq (tgt := 113) hx hb dX7_notMoved_106 (by decide) (fun _ => ?_) (fun c_15 => absurd (by decide) c_15)
                  refine lv_ldc (v := (-1000000001 : Int32)) hx hb hown w_1 dX7_notMoved_113 ?_
                  obtain rfl := nb_e1 h
                  exact nb_iret hx hb hr hlk hP hS dX7_notMoved_115
                · have h := nb_f c_14 h
                  refine lv_iload hx hb dX7_notMoved_70 (lv_at hl 5 rfl) ?_
                  refine lv_aload_n hx hb dX7_notMoved_72 rfl (lv_at hl 0 rfl) ?_
                  refine va_get (v := .ref (ad 57)) (C := RX7) (T := TX7) (N := 21) hx hb hts in7 hown hK.1 hP 52 nb_a52 rfl 5 (by decide) w_5 (fun _ h9 => h9) rfl dX7_notMoved_73 ?_
                  refine lv_iload_n hx hb dX7_notMoved_76 rfl (lv_at hl 1 rfl) ?_
                  refine va_iald hx hb hK.1 hP 57 0 nb_a57 rfl c_5 dX7_notMoved_77 ?_
                  refine lv_iload_n hx hb dX7_notMoved_78 rfl (lv_at hl 2 rfl) ?_
                  refine lv_isub hx hb dX7_notMoved_79 ?_
                  refine lv_icmp_gt (tgt := 101) hx hb dX7_notMoved_80 (by decide) (fun c_16 => ?_) (fun c_16 => ?_)
                  · have h := nb_t c_16 h
                    refine lv_iconst (v := (0 : Int32)) hx hb dX7_notMoved_101 (by decide) ?_
                    refine lv_istore (lv' := [(6, .int (0 : Int32)), (0, .ref (ad 52)), (1, .int p0), (2, .int p1), (3, .int p2), (4, .int p3), (5, .int p4)]) hx hb dX7_notMoved_102 hl (by decide) rfl (fun ls hl => ?_)
                    refine lv_iload hx hb dX7_notMoved_104 (lv_at hl 0 rfl) ?_
                    refine lv_if_eq (tgt := 113) hx hb dX7_notMoved_106 (by decide) (fun _ => ?_) (fun c_17 => absurd (by decide) c_17)
                    refine lv_ldc (v := (-1000000001 : Int32)) hx hb hown w_1 dX7_notMoved_113 ?_
                    obtain rfl := nb_e1 h
                    exact nb_iret hx hb hr hlk hP hS dX7_notMoved_115
                  · have h := nb_f c_16 h
                    refine lv_iload hx hb dX7_notMoved_83 (lv_at hl 5 rfl) ?_
                    refine lv_aload_n hx hb dX7_notMoved_85 rfl (lv_at hl 0 rfl) ?_
                    refine va_get (v := .ref (ad 57)) (C := RX7) (T := TX7) (N := 21) hx hb hts in7 hown hK.1 hP 52 nb_a52 rfl 5 (by decide) w_5 (fun _ h9 => h9) rfl dX7_notMoved_86 ?_
                    refine lv_iload_n hx hb dX7_notMoved_89 rfl (lv_at hl 3 rfl) ?_
                    refine va_iald hx hb hK.1 hP 57 0 nb_a57 rfl c_7 dX7_notMoved_90 ?_
                    refine lv_iload hx hb dX7_notMoved_91 (lv_at hl 4 rfl) ?_
                    refine lv_isub hx hb dX7_notMoved_93 ?_
                    refine lv_icmp_gt (tgt := 101) hx hb dX7_notMoved_94 (by decide) (fun c_18 => ?_) (fun c_18 => ?_)
                    · have h := nb_t c_18 h
                      refine lv_iconst (v := (0 : Int32)) hx hb dX7_notMoved_101 (by decide) ?_
                      refine lv_istore (lv' := [(6, .int (0 : Int32)), (0, .ref (ad 52)), (1, .int p0), (2, .int p1), (3, .int p2), (4, .int p3), (5, .int p4)]) hx hb dX7_notMoved_102 hl (by decide) rfl (fun ls hl => ?_)
                      refine lv_iload hx hb dX7_notMoved_104 (lv_at hl 0 rfl) ?_
                      refine lv_if_eq (tgt := 113) hx hb dX7_notMoved_106 (by decide) (fun _ => ?_) (fun c_19 => absurd (by decide) c_19)
                      refine lv_ldc (v := (-1000000001 : Int32)) hx hb hown w_1 dX7_notMoved_113 ?_
                      obtain rfl := nb_e1 h
                      exact nb_iret hx hb hr hlk hP hS dX7_notMoved_115
                    · have h := nb_f c_18 h
                      refine lv_iconst (v := (1 : Int32)) hx hb dX7_notMoved_97 (by decide) ?_
                      refine lv_goto (tgt := 102) hx hb dX7_notMoved_98 (by decide) ?_
                      refine lv_istore (lv' := [(6, .int (1 : Int32)), (0, .ref (ad 52)), (1, .int p0), (2, .int p1), (3, .int p2), (4, .int p3), (5, .int p4)]) hx hb dX7_notMoved_102 hl (by decide) rfl (fun ls hl => ?_)
                      refine lv_iload hx hb dX7_notMoved_104 (lv_at hl 0 rfl) ?_
                      refine lv_if_eq (tgt := 113) hx hb dX7_notMoved_106 (by decide) (fun c_20 => absurd c_20 (by decide)) (fun _ => ?_)
                      refine lv_iconst (v := (0 : Int32)) hx hb dX7_notMoved_109 (by decide) ?_
                      refine lv_goto (tgt := 115) hx hb dX7_notMoved_110 (by decide) ?_
                      obtain rfl := nb_e1 h
                      exact nb_iret hx hb hr hlk hP hS dX7_notMoved_115
          · have h := nb_f c_9 h
            refine lv_ldc (v := (-1000000005 : Int32)) hx hb hown w_6 dX7_notMoved_53 ?_
            obtain rfl := nb_e1 h
            exact nb_iret hx hb hr hlk hP hS dX7_notMoved_55
        · have h := nb_t c_8 h
          refine lv_ldc (v := (-1000000002 : Int32)) hx hb hown w_4 dX7_notMoved_35 ?_
          obtain rfl := nb_e1 h
          exact nb_iret hx hb hr hlk hP hS dX7_notMoved_37
    · have h := nb_t c_4 h
      refine lv_ldc (v := (-1000000001 : Int32)) hx hb hown w_1 dX7_notMoved_14 ?_
      obtain rfl := nb_e1 h
      exact nb_iret hx hb hr hlk hP hS dX7_notMoved_16
set_option maxHeartbeats 4000000 in
set_option maxRecDepth 100000 in
theorem w_X7_move_28 {N : nb_M} {r : Int32} {M' : nb_M} (had : nb_AD ad b0) (X : nb_X p s m args meth c cX7_move 9 RX7 (some .int) wsX7_move D ca b0) : ∀ (n : Nat) (M : nb_M) (x1 : Int32) (x2 : Int32) (x3 : Int32) (x4 : Int32) (x5 : Int32) (x7 : Int32), f_X7_move_28 n M x1 x2 x3 x4 x5 x7 = some (r, M') → ∀ (H : Heap) (locs : List Loc), va_P D vwCl (nb_w ad ca N M) H → va_S (fun q => b0 ≤ q) s.heap H locs → ∀ ls : Array Slot, lv_has ls 9 [(0, .ref (ad 52)), (1, .int x1), (2, .int x2), (3, .int x3), (4, .int x4), (5, .int x5), (7, .int x7)] → W p l e (nb_R 3) s m args below meth c H locs 0 0 (nb_Q below args s D ad ca b0 (some (.int r)) N M') (F0 m 28 ls []) := by
  obtain ⟨hx, hb, hml, hown, hts, hr, hlk, hK, hZ⟩ := id X
  have w_1 := hts (.fieldLink RX7 25 "NineBreakagesModel" "cells" "[I") (by decide +kernel)
  have in7 : ∀ w ∈ u_ws RX7 TX7 21, w ∈ wsX7_move := fun w q => List.mem_cons_of_mem _ (List.mem_append_right _ q)
  intro n
  induction n with
  | zero =>
    intro M x1 x2 x3 x4 x5 x7 h
    rw [f_X7_move_28] at h
    cases h
  | succ n ih =>
    intro M x1 x2 x3 x4 x5 x7 h H locs hP hS ls hl
    rw [f_X7_move_28] at h
    refine lv_iload hx hb dX7_move_28 (lv_at hl 6 rfl) ?_
    refine lv_iload hx hb dX7_move_30 (lv_at hl 5 rfl) ?_
    refine lv_icmp_ge (tgt := 90) hx hb dX7_move_32 (by decide) (fun c_3 => ?_) (fun c_3 => ?_)
    · have h := nb_t c_3 h
      refine lv_iload hx hb dX7_move_90 (lv_at hl 5 rfl) ?_
      obtain ⟨rfl, rfl⟩ := nb_e2 h
      exact nb_iret hx hb hr hlk hP hS dX7_move_92
    · have h := nb_f c_3 h
      refine lv_iload_n hx hb dX7_move_35 rfl (lv_at hl 2 rfl) ?_
      refine lv_iload hx hb dX7_move_36 (lv_at hl 4 rfl) ?_
      refine lv_icmp_ge (tgt := 51) hx hb dX7_move_38 (by decide) (fun c_4 => ?_) (fun c_4 => ?_)
      · have h := nb_t c_4 h
        refine lv_iload hx hb dX7_move_51 (lv_at hl 6 rfl) ?_
        refine lv_istore (lv' := [(8, .int x7), (0, .ref (ad 52)), (1, .int x1), (2, .int x2), (3, .int x3), (4, .int x4), (5, .int x5), (7, .int x7)]) hx hb dX7_move_53 hl (by decide) rfl (fun ls hl => ?_)
        refine lv_aload_n hx hb dX7_move_55 rfl (lv_at hl 1 rfl) ?_
        refine va_get (v := .ref (ad 58)) (C := RX7) (T := TX7) (N := 21) hx hb hts in7 hown hK.1 hP 52 nb_a52 rfl 6 (by decide) w_1 (fun _ h9 => h9) rfl dX7_move_56 ?_
        refine lv_bipush (v := (24 : Int32)) hx hb dX7_move_59 (by decide) ?_
        refine lv_iload_n hx hb dX7_move_61 rfl (lv_at hl 4 rfl) ?_
        refine lv_imul hx hb dX7_move_62 ?_
        refine lv_iload hx hb dX7_move_63 (lv_at hl 5 rfl) ?_
        refine lv_iadd hx hb dX7_move_65 ?_
        refine lv_iload hx hb dX7_move_66 (lv_at hl 0 rfl) ?_
        refine lv_iadd hx hb dX7_move_68 ?_
        refine lv_aload_n hx hb dX7_move_69 rfl (lv_at hl 1 rfl) ?_
        refine va_get (v := .ref (ad 58)) (C := RX7) (T := TX7) (N := 21) hx hb hts in7 hown hK.1 hP 52 nb_a52 rfl 6 (by decide) w_1 (fun _ h9 => h9) rfl dX7_move_70 ?_
        refine lv_bipush (v := (24 : Int32)) hx hb dX7_move_73 (by decide) ?_
        refine lv_iload_n hx hb dX7_move_75 rfl (lv_at hl 2 rfl) ?_
        refine lv_imul hx hb dX7_move_76 ?_
        refine lv_iload_n hx hb dX7_move_77 rfl (lv_at hl 3 rfl) ?_
        refine lv_iadd hx hb dX7_move_78 ?_
        refine lv_iload hx hb dX7_move_79 (lv_at hl 0 rfl) ?_
        refine lv_iadd hx hb dX7_move_81 ?_
        obtain ⟨c_5, h⟩ := nb_c h
        refine va_iald hx hb hK.1 hP 58 0 nb_a58 rfl c_5 dX7_move_82 ?_
        obtain ⟨c_6, h⟩ := nb_c h
        refine nb_iast hx hb had hK hP hS nb_a58 c_6 (nb_t58 _ _) dX7_move_83 (fun H locs hP hS => ?_)
        obtain ⟨M_7, e_7, h⟩ := nb_nE h
        rw [e_7] at hP
        refine lv_iinc (v := x7 + 1) (lv' := [(7, .int (x7 + 1)), (8, .int x7), (0, .ref (ad 52)), (1, .int x1), (2, .int x2), (3, .int x3), (4, .int x4), (5, .int x5)]) hx hb dX7_move_84 hl (k := 7) rfl (congrArg (HAdd.hAdd x7) (by decide)) (by decide) rfl (fun ls hl => ?_)
        refine lv_goto (tgt := 28) hx hb dX7_move_87 (by decide) ?_
        exact ih _ _ _ _ _ _ _ h _ _ hP hS _ (lv_sub hl [2, 3, 4, 5, 6, 7, 0] rfl)
      · have h := nb_f c_4 h
        refine lv_iload hx hb dX7_move_41 (lv_at hl 5 rfl) ?_
        refine lv_iconst (v := (1 : Int32)) hx hb dX7_move_43 (by decide) ?_
        refine lv_isub hx hb dX7_move_44 ?_
        refine lv_iload hx hb dX7_move_45 (lv_at hl 6 rfl) ?_
        refine lv_isub hx hb dX7_move_47 ?_
        refine lv_goto (tgt := 53) hx hb dX7_move_48 (by decide) ?_
        refine lv_topi (fun v_8 e_8 => ?_)
        have h := nb_nA e_8 h
        refine lv_istore (lv' := [(8, .int v_8), (0, .ref (ad 52)), (1, .int x1), (2, .int x2), (3, .int x3), (4, .int x4), (5, .int x5), (7, .int x7)]) hx hb dX7_move_53 hl (by decide) rfl (fun ls hl => ?_)
        refine lv_aload_n hx hb dX7_move_55 rfl (lv_at hl 1 rfl) ?_
        refine va_get (v := .ref (ad 58)) (C := RX7) (T := TX7) (N := 21) hx hb hts in7 hown hK.1 hP 52 nb_a52 rfl 6 (by decide) w_1 (fun _ h9 => h9) rfl dX7_move_56 ?_
        refine lv_bipush (v := (24 : Int32)) hx hb dX7_move_59 (by decide) ?_
        refine lv_iload_n hx hb dX7_move_61 rfl (lv_at hl 4 rfl) ?_
        refine lv_imul hx hb dX7_move_62 ?_
        refine lv_iload hx hb dX7_move_63 (lv_at hl 5 rfl) ?_
        refine lv_iadd hx hb dX7_move_65 ?_
        refine lv_iload hx hb dX7_move_66 (lv_at hl 0 rfl) ?_
        refine lv_iadd hx hb dX7_move_68 ?_
        refine lv_aload_n hx hb dX7_move_69 rfl (lv_at hl 1 rfl) ?_
        refine va_get (v := .ref (ad 58)) (C := RX7) (T := TX7) (N := 21) hx hb hts in7 hown hK.1 hP 52 nb_a52 rfl 6 (by decide) w_1 (fun _ h9 => h9) rfl dX7_move_70 ?_
        refine lv_bipush (v := (24 : Int32)) hx hb dX7_move_73 (by decide) ?_
        refine lv_iload_n hx hb dX7_move_75 rfl (lv_at hl 2 rfl) ?_
        refine lv_imul hx hb dX7_move_76 ?_
        refine lv_iload_n hx hb dX7_move_77 rfl (lv_at hl 3 rfl) ?_
        refine lv_iadd hx hb dX7_move_78 ?_
        refine lv_iload hx hb dX7_move_79 (lv_at hl 0 rfl) ?_
        refine lv_iadd hx hb dX7_move_81 ?_
        obtain ⟨c_9, h⟩ := nb_c h
        refine va_iald hx hb hK.1 hP 58 0 nb_a58 rfl c_9 dX7_move_82 ?_
        obtain ⟨c_10, h⟩ := nb_c h
        refine nb_iast hx hb had hK hP hS nb_a58 c_10 (nb_t58 _ _) dX7_move_83 (fun H locs hP hS => ?_)
        obtain ⟨M_11, e_11, h⟩ := nb_nE h
        rw [e_11] at hP
        refine lv_iinc (v := x7 + 1) (lv' := [(7, .int (x7 + 1)), (8, .int v_8), (0, .ref (ad 52)), (1, .int x1), (2, .int x2), (3, .int x3), (4, .int x4), (5, .int x5)]) hx hb dX7_move_84 hl (k := 7) rfl (congrArg (HAdd.hAdd x7) (by decide)) (by decide) rfl (fun ls hl => ?_)
        refine lv_goto (tgt := 28) hx hb dX7_move_87 (by decide) ?_
        exact ih _ _ _ _ _ _ _ h _ _ hP hS _ (lv_sub hl [2, 3, 4, 5, 6, 7, 0] rfl)
set_option maxHeartbeats 4000000 in
set_option maxRecDepth 100000 in
theorem k_X7_move {r : Int32} {M' : nb_M} (had : nb_AD ad b0) (M N : nb_M) (p0 : Int32) (p1 : Int32) (p2 : Int32) (p3 : Int32) (p4 : Int32) (h : f_X7_move M p0 p1 p2 p3 p4 = some (r, M')) : nb_C l D ad ca b0 yX7_move wsX7_move 3 [.ref (ad 52), .int p0, .int p1, .int p2, .int p3, .int p4] N M (some (.int r)) N M' := by
  refine nb_of (cc := cX7_move) (maxL := 9) (ret := (some .int)) (own := RX7) (by decide +kernel) rfl rfl (Nat.le_of_ble_eq_true rfl) ?_
  intro p e s m args below meth c ls X hP hS hl
  have hl : lv_has ls 9 [(0, .ref (ad 52)), (1, .int p0), (2, .int p1), (3, .int p2), (4, .int p3), (5, .int p4)] := hl
  obtain ⟨hx, hb, hml, hown, hts, hr, hlk, hK, hZ⟩ := id X
  unfold f_X7_move at h
  refine lv_aload_n hx hb dX7_move_0 rfl (lv_at hl 0 rfl) ?_
  refine lv_iload_n hx hb dX7_move_1 rfl (lv_at hl 1 rfl) ?_
  refine lv_iload_n hx hb dX7_move_2 rfl (lv_at hl 2 rfl) ?_
  refine lv_iload_n hx hb dX7_move_3 rfl (lv_at hl 3 rfl) ?_
  refine lv_iload hx hb dX7_move_4 (lv_at hl 4 rfl) ?_
  refine lv_iload hx hb dX7_move_6 (lv_at hl 5 rfl) ?_
  obtain ⟨r_1, e_1, h⟩ := nb_oE h
  refine nb_callV (n := 5) (As := [.int p0, .int p1, .int p2, .int p3, .int p4]) (rest := []) hx hb hml hown hts hK hZ hP hS (k_X7_notMoved had M N p0 p1 p2 p3 p4 e_1) gX7_move_X7_notMoved rfl (by decide +kernel) (nb_rm (Nat.le_of_ble_eq_true rfl) (Nat.le_of_ble_eq_true rfl)) nb_a52 rfl rfl rfl hl.1 rfl (Nat.le_of_ble_eq_true rfl) dX7_move_8 (fun H locs hP hS => ?_)
  refine W.eq (g2 := F0 m 11 ls [.int r_1]) rfl ?_
  refine lv_istore (lv' := [(6, .int r_1), (0, .ref (ad 52)), (1, .int p0), (2, .int p1), (3, .int p2), (4, .int p3), (5, .int p4)]) hx hb dX7_move_11 hl (by decide) rfl (fun ls hl => ?_)
  refine lv_iload hx hb dX7_move_13 (lv_at hl 0 rfl) ?_
  refine lv_if_eq (tgt := 25) hx hb dX7_move_15 (by decide) (fun c_2 => ?_) (fun c_2 => ?_)
  · have h := nb_t c_2 h
    refine lv_iconst (v := (0 : Int32)) hx hb dX7_move_25 (by decide) ?_
    refine lv_istore (lv' := [(7, .int (0 : Int32)), (6, .int r_1), (0, .ref (ad 52)), (1, .int p0), (2, .int p1), (3, .int p2), (4, .int p3), (5, .int p4)]) hx hb dX7_move_26 hl (by decide) rfl (fun ls hl => ?_)
    exact w_X7_move_28 had X nb_F _ _ _ _ _ _ _ h _ _ hP hS _ (lv_sub hl [2, 3, 4, 5, 6, 7, 0] rfl)
  · have h := nb_f c_2 h
    refine lv_aload_n hx hb dX7_move_18 rfl (lv_at hl 1 rfl) ?_
    refine lv_iload hx hb dX7_move_19 (lv_at hl 0 rfl) ?_
    obtain ⟨r_12, M_12, e_12, h⟩ := nb_pE h
    refine nb_callV (n := 1) (As := [.int r_1]) (rest := []) hx hb hml hown hts hK hZ hP hS (k_X7_error had M N r_1 e_12) gX7_move_X7_error rfl (by decide +kernel) (nb_rm (Nat.le_of_ble_eq_true rfl) (Nat.le_of_ble_eq_true rfl)) nb_a52 rfl rfl rfl hl.1 rfl (Nat.le_of_ble_eq_true rfl) dX7_move_21 (fun H locs hP hS => ?_)
    refine W.eq (g2 := F0 m 24 ls [.int r_12]) rfl ?_
    obtain ⟨rfl, rfl⟩ := nb_e2 h
    exact nb_iret hx hb hr hlk hP hS dX7_move_24
set_option maxHeartbeats 4000000 in
set_option maxRecDepth 100000 in
theorem w_X7_cares_18 {N : nb_M} {r : Int32} {M' : nb_M} (had : nb_AD ad b0) (X : nb_X p s m args meth c cX7_cares 4 RX7 (some .int) wsX7_cares D ca b0) : ∀ (n : Nat) (M : nb_M) (x1 : Int32) (x3 : Int32), f_X7_cares_18 n M x1 x3 = some (r, M') → ∀ (H : Heap) (locs : List Loc), va_P D vwCl (nb_w ad ca N M) H → va_S (fun q => b0 ≤ q) s.heap H locs → ∀ ls : Array Slot, lv_has ls 4 [(0, .ref (ad 52)), (1, .int x1), (3, .int x3)] → W p l e (nb_R 3) s m args below meth c H locs 0 0 (nb_Q below args s D ad ca b0 (some (.int r)) N M') (F0 m 18 ls []) := by
  obtain ⟨hx, hb, hml, hown, hts, hr, hlk, hK, hZ⟩ := id X
  have w_1 := hts (.fieldLink RX7 22 "NineBreakagesModel" "sizeOf" "[I") (by decide +kernel)
  have in7 : ∀ w ∈ u_ws RX7 TX7 21, w ∈ wsX7_cares := fun w q => List.mem_cons_of_mem _ (List.mem_append_right _ q)
  have w_3 := hts (.fieldLink RX7 9 "NineBreakagesModel" "row" "[I") (by decide +kernel)
  have w_4 := hts (.fieldLink RX7 25 "NineBreakagesModel" "cells" "[I") (by decide +kernel)
  intro n
  induction n with
  | zero =>
    intro M x1 x3 h
    rw [f_X7_cares_18] at h
    cases h
  | succ n ih =>
    intro M x1 x3 h H locs hP hS ls hl
    rw [f_X7_cares_18] at h
    refine lv_iload_n hx hb dX7_cares_18 rfl (lv_at hl 2 rfl) ?_
    refine lv_aload_n hx hb dX7_cares_19 rfl (lv_at hl 0 rfl) ?_
    refine va_get (v := .ref (ad 57)) (C := RX7) (T := TX7) (N := 21) hx hb hts in7 hown hK.1 hP 52 nb_a52 rfl 5 (by decide) w_1 (fun _ h9 => h9) rfl dX7_cares_20 ?_
    refine lv_iload_n hx hb dX7_cares_23 rfl (lv_at hl 1 rfl) ?_
    obtain ⟨c_3, h⟩ := nb_c h
    refine va_iald hx hb hK.1 hP 57 0 nb_a57 rfl c_3 dX7_cares_24 ?_
    refine lv_icmp_ge (tgt := 86) hx hb dX7_cares_25 (by decide) (fun c_4 => ?_) (fun c_4 => ?_)
    · have h := nb_t c_4 h
      refine lv_iload_n hx hb dX7_cares_86 rfl (lv_at hl 2 rfl) ?_
      obtain ⟨rfl, rfl⟩ := nb_e2 h
      exact nb_iret hx hb hr hlk hP hS dX7_cares_87
    · have h := nb_f c_4 h
      refine lv_iload_n hx hb dX7_cares_28 rfl (lv_at hl 2 rfl) ?_
      refine lv_aload_n hx hb dX7_cares_29 rfl (lv_at hl 0 rfl) ?_
      refine va_get (v := .ref (ad 53)) (C := RX7) (T := TX7) (N := 21) hx hb hts in7 hown hK.1 hP 52 nb_a52 rfl 0 (by decide) w_3 (fun _ h9 => h9) rfl dX7_cares_30 ?_
      refine lv_iconst (v := (3 : Int32)) hx hb dX7_cares_33 (by decide) ?_
      refine va_iald hx hb hK.1 hP 53 0 nb_a53 rfl (nb_lit rfl) dX7_cares_34 ?_
      refine lv_icmp_ge (tgt := 86) hx hb dX7_cares_35 (by decide) (fun c_5 => ?_) (fun c_5 => ?_)
      · have h := nb_t c_5 h
        refine lv_iload_n hx hb dX7_cares_86 rfl (lv_at hl 2 rfl) ?_
        obtain ⟨rfl, rfl⟩ := nb_e2 h
        exact nb_iret hx hb hr hlk hP hS dX7_cares_87
      · have h := nb_f c_5 h
        refine lv_aload_n hx hb dX7_cares_38 rfl (lv_at hl 0 rfl) ?_
        refine va_get (v := .ref (ad 58)) (C := RX7) (T := TX7) (N := 21) hx hb hts in7 hown hK.1 hP 52 nb_a52 rfl 6 (by decide) w_4 (fun _ h9 => h9) rfl dX7_cares_39 ?_
        refine lv_bipush (v := (24 : Int32)) hx hb dX7_cares_42 (by decide) ?_
        refine lv_iload_n hx hb dX7_cares_44 rfl (lv_at hl 1 rfl) ?_
        refine lv_imul hx hb dX7_cares_45 ?_
        refine lv_iload_n hx hb dX7_cares_46 rfl (lv_at hl 2 rfl) ?_
        refine lv_iadd hx hb dX7_cares_47 ?_
        obtain ⟨c_6, h⟩ := nb_c h
        refine va_iald hx hb hK.1 hP 58 0 nb_a58 rfl c_6 dX7_cares_48 ?_
        refine lv_iconst (v := (0 : Int32)) hx hb dX7_cares_49 (by decide) ?_
        refine lv_bipush (v := (9 : Int32)) hx hb dX7_cares_50 (by decide) ?_
        refine nb_callS (n := 3) (As := [.int (M.1 6 (((24 : Int32) * x1) + x3).toNatClampNeg), .int (0 : Int32), .int (9 : Int32)]) (rest := []) hx hb hml hown hts hK hZ hP hS (k_X7_in had M N (M.1 6 (((24 : Int32) * x1) + x3).toNatClampNeg) (0 : Int32) (9 : Int32)) gX7_cares_X7_in rfl (by decide +kernel) (nb_rm (Nat.le_of_ble_eq_true rfl) (Nat.le_of_ble_eq_true rfl)) rfl hl.1 rfl (Nat.le_of_ble_eq_true rfl) dX7_cares_52 (fun H locs hP hS => ?_)
        refine W.eq (g2 := F0 m 55 ls [.int (f_X7_in (M.1 6 (((24 : Int32) * x1) + x3).toNatClampNeg) (0 : Int32) (9 : Int32))]) rfl ?_
        refine lv_if_eq (tgt := 86) hx hb dX7_cares_55 (by decide) (fun c_8 => ?_) (fun c_8 => ?_)
        · have h := nb_t c_8 h
          refine lv_iload_n hx hb dX7_cares_86 rfl (lv_at hl 2 rfl) ?_
          obtain ⟨rfl, rfl⟩ := nb_e2 h
          exact nb_iret hx hb hr hlk hP hS dX7_cares_87
        · have h := nb_f c_8 h
          refine lv_aload_n hx hb dX7_cares_58 rfl (lv_at hl 0 rfl) ?_
          refine va_get (v := .ref (ad 53)) (C := RX7) (T := TX7) (N := 21) hx hb hts in7 hown hK.1 hP 52 nb_a52 rfl 0 (by decide) w_3 (fun _ h9 => h9) rfl dX7_cares_59 ?_
          refine lv_bipush (v := (6 : Int32)) hx hb dX7_cares_62 (by decide) ?_
          refine lv_iconst (v := (3 : Int32)) hx hb dX7_cares_64 (by decide) ?_
          refine lv_iload_n hx hb dX7_cares_65 rfl (lv_at hl 2 rfl) ?_
          refine lv_imul hx hb dX7_cares_66 ?_
          refine lv_iadd hx hb dX7_cares_67 ?_
          refine lv_aload_n hx hb dX7_cares_68 rfl (lv_at hl 0 rfl) ?_
          refine va_get (v := .ref (ad 58)) (C := RX7) (T := TX7) (N := 21) hx hb hts in7 hown hK.1 hP 52 nb_a52 rfl 6 (by decide) w_4 (fun _ h9 => h9) rfl dX7_cares_69 ?_
          refine lv_bipush (v := (24 : Int32)) hx hb dX7_cares_72 (by decide) ?_
          refine lv_iload_n hx hb dX7_cares_74 rfl (lv_at hl 1 rfl) ?_
          refine lv_imul hx hb dX7_cares_75 ?_
          refine lv_iload_n hx hb dX7_cares_76 rfl (lv_at hl 2 rfl) ?_
          refine lv_iadd hx hb dX7_cares_77 ?_
          refine va_iald hx hb hK.1 hP 58 0 nb_a58 rfl c_6 dX7_cares_78 ?_
          obtain ⟨c_9, h⟩ := nb_c h
          refine nb_iast hx hb had hK hP hS nb_a53 c_9 (nb_t53 _ _) dX7_cares_79 (fun H locs hP hS => ?_)
          obtain ⟨M_10, e_10, h⟩ := nb_nE h
          rw [e_10] at hP
          refine lv_iinc (v := x3 + 1) (lv' := [(3, .int (x3 + 1)), (0, .ref (ad 52)), (1, .int x1)]) hx hb dX7_cares_80 hl (k := 2) rfl (congrArg (HAdd.hAdd x3) (by decide)) (by decide) rfl (fun ls hl => ?_)
          refine lv_goto (tgt := 18) hx hb dX7_cares_83 (by decide) ?_
          exact ih _ _ _ h _ _ hP hS _ (lv_sub hl [1, 2, 0] rfl)
set_option maxHeartbeats 4000000 in
set_option maxRecDepth 100000 in
theorem k_X7_cares {r : Int32} {M' : nb_M} (had : nb_AD ad b0) (M N : nb_M) (p0 : Int32) (h : f_X7_cares M p0 = some (r, M')) : nb_C l D ad ca b0 yX7_cares wsX7_cares 3 [.ref (ad 52), .int p0] N M (some (.int r)) N M' := by
  refine nb_of (cc := cX7_cares) (maxL := 4) (ret := (some .int)) (own := RX7) (by decide +kernel) rfl rfl (Nat.le_of_ble_eq_true rfl) ?_
  intro p e s m args below meth c ls X hP hS hl
  have hl : lv_has ls 4 [(0, .ref (ad 52)), (1, .int p0)] := hl
  obtain ⟨hx, hb, hml, hown, hts, hr, hlk, hK, hZ⟩ := id X
  unfold f_X7_cares at h
  refine lv_aload_n hx hb dX7_cares_0 rfl (lv_at hl 0 rfl) ?_
  refine lv_iload_n hx hb dX7_cares_1 rfl (lv_at hl 1 rfl) ?_
  obtain ⟨r_1, e_1, h⟩ := nb_oE h
  refine nb_callV (n := 1) (As := [.int p0]) (rest := []) hx hb hml hown hts hK hZ hP hS (k_X7_notThere had M N p0 e_1) gX7_cares_X7_notThere rfl (by decide +kernel) (nb_rm (Nat.le_of_ble_eq_true rfl) (Nat.le_of_ble_eq_true rfl)) nb_a52 rfl rfl rfl hl.1 rfl (Nat.le_of_ble_eq_true rfl) dX7_cares_2 (fun H locs hP hS => ?_)
  refine W.eq (g2 := F0 m 5 ls [.int r_1]) rfl ?_
  refine lv_istore_n (lv' := [(2, .int r_1), (0, .ref (ad 52)), (1, .int p0)]) hx hb dX7_cares_5 rfl hl (by decide) rfl (fun ls hl => ?_)
  refine lv_iload_n hx hb dX7_cares_6 rfl (lv_at hl 0 rfl) ?_
  refine lv_if_eq (tgt := 16) hx hb dX7_cares_7 (by decide) (fun c_2 => ?_) (fun c_2 => ?_)
  · have h := nb_t c_2 h
    refine lv_iconst (v := (0 : Int32)) hx hb dX7_cares_16 (by decide) ?_
    refine lv_istore_n (lv' := [(3, .int (0 : Int32)), (2, .int r_1), (0, .ref (ad 52)), (1, .int p0)]) hx hb dX7_cares_17 rfl hl (by decide) rfl (fun ls hl => ?_)
    exact w_X7_cares_18 had X nb_F _ _ _ h _ _ hP hS _ (lv_sub hl [2, 3, 0] rfl)
  · have h := nb_f c_2 h
    refine lv_aload_n hx hb dX7_cares_10 rfl (lv_at hl 1 rfl) ?_
    refine lv_iload_n hx hb dX7_cares_11 rfl (lv_at hl 0 rfl) ?_
    obtain ⟨r_11, M_11, e_11, h⟩ := nb_pE h
    refine nb_callV (n := 1) (As := [.int r_1]) (rest := []) hx hb hml hown hts hK hZ hP hS (k_X7_error had M N r_1 e_11) gX7_cares_X7_error rfl (by decide +kernel) (nb_rm (Nat.le_of_ble_eq_true rfl) (Nat.le_of_ble_eq_true rfl)) nb_a52 rfl rfl rfl hl.1 rfl (Nat.le_of_ble_eq_true rfl) dX7_cares_12 (fun H locs hP hS => ?_)
    refine W.eq (g2 := F0 m 15 ls [.int r_11]) rfl ?_
    obtain ⟨rfl, rfl⟩ := nb_e2 h
    exact nb_iret hx hb hr hlk hP hS dX7_cares_15
set_option maxHeartbeats 4000000 in
set_option maxRecDepth 100000 in
theorem w_X7_judge_18 {N : nb_M} {r : Int32} {M' : nb_M} (had : nb_AD ad b0) (X : nb_X p s m args meth c cX7_judge 4 RX7 (some .int) wsX7_judge D ca b0) : ∀ (n : Nat) (M : nb_M) (x1 : Int32) (x3 : Int32), f_X7_judge_18 n M x1 x3 = some (r, M') → ∀ (H : Heap) (locs : List Loc), va_P D vwCl (nb_w ad ca N M) H → va_S (fun q => b0 ≤ q) s.heap H locs → ∀ ls : Array Slot, lv_has ls 4 [(0, .ref (ad 52)), (1, .int x1), (3, .int x3)] → W p l e (nb_R 3) s m args below meth c H locs 0 0 (nb_Q below args s D ad ca b0 (some (.int r)) N M') (F0 m 18 ls []) := by
  obtain ⟨hx, hb, hml, hown, hts, hr, hlk, hK, hZ⟩ := id X
  have w_1 := hts (.fieldLink RX7 22 "NineBreakagesModel" "sizeOf" "[I") (by decide +kernel)
  have in7 : ∀ w ∈ u_ws RX7 TX7 21, w ∈ wsX7_judge := fun w q => List.mem_cons_of_mem _ (List.mem_append_right _ q)
  have w_3 := hts (.fieldLink RX7 9 "NineBreakagesModel" "row" "[I") (by decide +kernel)
  have w_4 := hts (.fieldLink RX7 25 "NineBreakagesModel" "cells" "[I") (by decide +kernel)
  intro n
  induction n with
  | zero =>
    intro M x1 x3 h
    rw [f_X7_judge_18] at h
    cases h
  | succ n ih =>
    intro M x1 x3 h H locs hP hS ls hl
    rw [f_X7_judge_18] at h
    refine lv_iload_n hx hb dX7_judge_18 rfl (lv_at hl 2 rfl) ?_
    refine lv_aload_n hx hb dX7_judge_19 rfl (lv_at hl 0 rfl) ?_
    refine va_get (v := .ref (ad 57)) (C := RX7) (T := TX7) (N := 21) hx hb hts in7 hown hK.1 hP 52 nb_a52 rfl 5 (by decide) w_1 (fun _ h9 => h9) rfl dX7_judge_20 ?_
    refine lv_iload_n hx hb dX7_judge_23 rfl (lv_at hl 1 rfl) ?_
    obtain ⟨c_3, h⟩ := nb_c h
    refine va_iald hx hb hK.1 hP 57 0 nb_a57 rfl c_3 dX7_judge_24 ?_
    refine lv_icmp_ge (tgt := 64) hx hb dX7_judge_25 (by decide) (fun c_4 => ?_) (fun c_4 => ?_)
    · have h := nb_t c_4 h
      refine lv_iload_n hx hb dX7_judge_64 rfl (lv_at hl 2 rfl) ?_
      obtain ⟨rfl, rfl⟩ := nb_e2 h
      exact nb_iret hx hb hr hlk hP hS dX7_judge_65
    · have h := nb_f c_4 h
      refine lv_iload_n hx hb dX7_judge_28 rfl (lv_at hl 2 rfl) ?_
      refine lv_aload_n hx hb dX7_judge_29 rfl (lv_at hl 0 rfl) ?_
      refine va_get (v := .ref (ad 53)) (C := RX7) (T := TX7) (N := 21) hx hb hts in7 hown hK.1 hP 52 nb_a52 rfl 0 (by decide) w_3 (fun _ h9 => h9) rfl dX7_judge_30 ?_
      refine lv_iconst (v := (2 : Int32)) hx hb dX7_judge_33 (by decide) ?_
      refine va_iald hx hb hK.1 hP 53 0 nb_a53 rfl (nb_lit rfl) dX7_judge_34 ?_
      refine lv_icmp_ge (tgt := 64) hx hb dX7_judge_35 (by decide) (fun c_5 => ?_) (fun c_5 => ?_)
      · have h := nb_t c_5 h
        refine lv_iload_n hx hb dX7_judge_64 rfl (lv_at hl 2 rfl) ?_
        obtain ⟨rfl, rfl⟩ := nb_e2 h
        exact nb_iret hx hb hr hlk hP hS dX7_judge_65
      · have h := nb_f c_5 h
        refine lv_aload_n hx hb dX7_judge_38 rfl (lv_at hl 0 rfl) ?_
        refine va_get (v := .ref (ad 58)) (C := RX7) (T := TX7) (N := 21) hx hb hts in7 hown hK.1 hP 52 nb_a52 rfl 6 (by decide) w_4 (fun _ h9 => h9) rfl dX7_judge_39 ?_
        refine lv_bipush (v := (24 : Int32)) hx hb dX7_judge_42 (by decide) ?_
        refine lv_iload_n hx hb dX7_judge_44 rfl (lv_at hl 1 rfl) ?_
        refine lv_imul hx hb dX7_judge_45 ?_
        refine lv_iload_n hx hb dX7_judge_46 rfl (lv_at hl 2 rfl) ?_
        refine lv_iadd hx hb dX7_judge_47 ?_
        obtain ⟨c_6, h⟩ := nb_c h
        refine va_iald hx hb hK.1 hP 58 0 nb_a58 rfl c_6 dX7_judge_48 ?_
        refine lv_aload_n hx hb dX7_judge_49 rfl (lv_at hl 0 rfl) ?_
        refine lv_iload_n hx hb dX7_judge_50 rfl (lv_at hl 2 rfl) ?_
        refine lv_iconst (v := (3 : Int32)) hx hb dX7_judge_51 (by decide) ?_
        obtain ⟨r_7, e_7, h⟩ := nb_oE h
        refine nb_callV (n := 2) (As := [.int x3, .int (3 : Int32)]) (rest := [.int (M.1 6 (((24 : Int32) * x1) + x3).toNatClampNeg)]) hx hb hml hown hts hK hZ hP hS (k_X7_of had M N x3 (3 : Int32) e_7) gX7_judge_X7_of rfl (by decide +kernel) (nb_rm (Nat.le_of_ble_eq_true rfl) (Nat.le_of_ble_eq_true rfl)) nb_a52 rfl rfl rfl hl.1 rfl (Nat.le_of_ble_eq_true rfl) dX7_judge_52 (fun H locs hP hS => ?_)
        refine W.eq (g2 := F0 m 55 ls [.int r_7, .int (M.1 6 (((24 : Int32) * x1) + x3).toNatClampNeg)]) rfl ?_
        refine lv_icmp_ne (tgt := 64) hx hb dX7_judge_55 (by decide) (fun c_8 => ?_) (fun c_8 => ?_)
        · have h := nb_f c_8 h
          refine lv_iload_n hx hb dX7_judge_64 rfl (lv_at hl 2 rfl) ?_
          obtain ⟨rfl, rfl⟩ := nb_e2 h
          exact nb_iret hx hb hr hlk hP hS dX7_judge_65
        · have h := nb_t c_8 h
          refine lv_iinc (v := x3 + 1) (lv' := [(3, .int (x3 + 1)), (0, .ref (ad 52)), (1, .int x1)]) hx hb dX7_judge_58 hl (k := 2) rfl (congrArg (HAdd.hAdd x3) (by decide)) (by decide) rfl (fun ls hl => ?_)
          refine lv_goto (tgt := 18) hx hb dX7_judge_61 (by decide) ?_
          exact ih _ _ _ h _ _ hP hS _ (lv_sub hl [1, 2, 0] rfl)
set_option maxHeartbeats 4000000 in
set_option maxRecDepth 100000 in
theorem k_X7_judge {r : Int32} {M' : nb_M} (had : nb_AD ad b0) (M N : nb_M) (p0 : Int32) (h : f_X7_judge M p0 = some (r, M')) : nb_C l D ad ca b0 yX7_judge wsX7_judge 3 [.ref (ad 52), .int p0] N M (some (.int r)) N M' := by
  refine nb_of (cc := cX7_judge) (maxL := 4) (ret := (some .int)) (own := RX7) (by decide +kernel) rfl rfl (Nat.le_of_ble_eq_true rfl) ?_
  intro p e s m args below meth c ls X hP hS hl
  have hl : lv_has ls 4 [(0, .ref (ad 52)), (1, .int p0)] := hl
  obtain ⟨hx, hb, hml, hown, hts, hr, hlk, hK, hZ⟩ := id X
  unfold f_X7_judge at h
  refine lv_aload_n hx hb dX7_judge_0 rfl (lv_at hl 0 rfl) ?_
  refine lv_iload_n hx hb dX7_judge_1 rfl (lv_at hl 1 rfl) ?_
  obtain ⟨r_1, e_1, h⟩ := nb_oE h
  refine nb_callV (n := 1) (As := [.int p0]) (rest := []) hx hb hml hown hts hK hZ hP hS (k_X7_notThere had M N p0 e_1) gX7_judge_X7_notThere rfl (by decide +kernel) (nb_rm (Nat.le_of_ble_eq_true rfl) (Nat.le_of_ble_eq_true rfl)) nb_a52 rfl rfl rfl hl.1 rfl (Nat.le_of_ble_eq_true rfl) dX7_judge_2 (fun H locs hP hS => ?_)
  refine W.eq (g2 := F0 m 5 ls [.int r_1]) rfl ?_
  refine lv_istore_n (lv' := [(2, .int r_1), (0, .ref (ad 52)), (1, .int p0)]) hx hb dX7_judge_5 rfl hl (by decide) rfl (fun ls hl => ?_)
  refine lv_iload_n hx hb dX7_judge_6 rfl (lv_at hl 0 rfl) ?_
  refine lv_if_eq (tgt := 16) hx hb dX7_judge_7 (by decide) (fun c_2 => ?_) (fun c_2 => ?_)
  · have h := nb_t c_2 h
    refine lv_iconst (v := (0 : Int32)) hx hb dX7_judge_16 (by decide) ?_
    refine lv_istore_n (lv' := [(3, .int (0 : Int32)), (2, .int r_1), (0, .ref (ad 52)), (1, .int p0)]) hx hb dX7_judge_17 rfl hl (by decide) rfl (fun ls hl => ?_)
    exact w_X7_judge_18 had X nb_F _ _ _ h _ _ hP hS _ (lv_sub hl [2, 3, 0] rfl)
  · have h := nb_f c_2 h
    refine lv_aload_n hx hb dX7_judge_10 rfl (lv_at hl 1 rfl) ?_
    refine lv_iload_n hx hb dX7_judge_11 rfl (lv_at hl 0 rfl) ?_
    obtain ⟨r_9, M_9, e_9, h⟩ := nb_pE h
    refine nb_callV (n := 1) (As := [.int r_1]) (rest := []) hx hb hml hown hts hK hZ hP hS (k_X7_error had M N r_1 e_9) gX7_judge_X7_error rfl (by decide +kernel) (nb_rm (Nat.le_of_ble_eq_true rfl) (Nat.le_of_ble_eq_true rfl)) nb_a52 rfl rfl rfl hl.1 rfl (Nat.le_of_ble_eq_true rfl) dX7_judge_12 (fun H locs hP hS => ?_)
    refine W.eq (g2 := F0 m 15 ls [.int r_9]) rfl ?_
    obtain ⟨rfl, rfl⟩ := nb_e2 h
    exact nb_iret hx hb hr hlk hP hS dX7_judge_15
set_option maxHeartbeats 4000000 in
set_option maxRecDepth 100000 in
theorem w_X7_copyAll_53_54_2 {N : nb_M} {M' : nb_M} (had : nb_AD ad b0) (X : nb_X p s m args meth c cX7_copyAll 3 RX7 none wsX7_copyAll D ca b0) : ∀ (n : Nat) (M : nb_M) (x2 : Int32), f_X7_copyAll_53_54_2 n M x2 = some (M') → ∀ (H : Heap) (locs : List Loc), va_P D vwCl (nb_w ad ca N M) H → va_S (fun q => b0 ≤ q) s.heap H locs → ∀ ls : Array Slot, lv_has ls 3 [(0, .ref (ad 53)), (1, .ref (ad 54)), (2, .int x2)] → W p l e (nb_R 0) s m args below meth c H locs 0 0 (nb_Q below args s D ad ca b0 none N M') (F0 m 2 ls []) := by
  obtain ⟨hx, hb, hml, hown, hts, hr, hlk, hK, hZ⟩ := id X
  intro n
  induction n with
  | zero =>
    intro M x2 h
    rw [f_X7_copyAll_53_54_2] at h
    cases h
  | succ n ih =>
    intro M x2 h H locs hP hS ls hl
    rw [f_X7_copyAll_53_54_2] at h
    refine lv_iload_n hx hb dX7_copyAll_2 rfl (lv_at hl 2 rfl) ?_
    refine lv_sipush (v := (383 : Int32)) hx hb dX7_copyAll_3 (by decide) ?_
    refine lv_icmp_ge (tgt := 21) hx hb dX7_copyAll_6 (by decide) (fun c_1 => ?_) (fun c_1 => ?_)
    · have h := nb_t c_1 h
      obtain rfl := nb_e1 h
      exact nb_vret hx hb hr hlk hP hS dX7_copyAll_21
    · have h := nb_f c_1 h
      refine lv_aload_n hx hb dX7_copyAll_9 rfl (lv_at hl 1 rfl) ?_
      refine lv_iload_n hx hb dX7_copyAll_10 rfl (lv_at hl 2 rfl) ?_
      refine lv_aload_n hx hb dX7_copyAll_11 rfl (lv_at hl 0 rfl) ?_
      refine lv_iload_n hx hb dX7_copyAll_12 rfl (lv_at hl 2 rfl) ?_
      obtain ⟨c_2, h⟩ := nb_c h
      refine va_iald hx hb hK.1 hP 53 0 nb_a53 rfl c_2 dX7_copyAll_13 ?_
      refine nb_iast hx hb had hK hP hS nb_a54 c_2 (nb_t54 _ _) dX7_copyAll_14 (fun H locs hP hS => ?_)
      obtain ⟨M_3, e_3, h⟩ := nb_nE h
      rw [e_3] at hP
      refine lv_iinc (v := x2 + 1) (lv' := [(2, .int (x2 + 1)), (0, .ref (ad 53)), (1, .ref (ad 54))]) hx hb dX7_copyAll_15 hl (k := 2) rfl (congrArg (HAdd.hAdd x2) (by decide)) (by decide) rfl (fun ls hl => ?_)
      refine lv_goto (tgt := 2) hx hb dX7_copyAll_18 (by decide) ?_
      exact ih _ _ h _ _ hP hS _ (lv_sub hl [1, 2, 0] rfl)
set_option maxHeartbeats 4000000 in
set_option maxRecDepth 100000 in
theorem k_X7_copyAll_53_54 {M' : nb_M} (had : nb_AD ad b0) (M N : nb_M) (h : f_X7_copyAll_53_54 M = some (M')) : nb_C l D ad ca b0 yX7_copyAll wsX7_copyAll 0 [.ref (ad 53), .ref (ad 54)] N M none N M' := by
  refine nb_of (cc := cX7_copyAll) (maxL := 3) (ret := none) (own := RX7) (by decide +kernel) rfl rfl (Nat.le_of_ble_eq_true rfl) ?_
  intro p e s m args below meth c ls X hP hS hl
  have hl : lv_has ls 3 [(0, .ref (ad 53)), (1, .ref (ad 54))] := hl
  obtain ⟨hx, hb, hml, hown, hts, hr, hlk, hK, hZ⟩ := id X
  unfold f_X7_copyAll_53_54 at h
  refine lv_iconst (v := (0 : Int32)) hx hb dX7_copyAll_0 (by decide) ?_
  refine lv_istore_n (lv' := [(2, .int (0 : Int32)), (0, .ref (ad 53)), (1, .ref (ad 54))]) hx hb dX7_copyAll_1 rfl hl (by decide) rfl (fun ls hl => ?_)
  exact w_X7_copyAll_53_54_2 had X nb_F _ _ h _ _ hP hS _ (lv_sub hl [1, 2, 0] rfl)
set_option maxHeartbeats 4000000 in
set_option maxRecDepth 100000 in
theorem k_X7_image {r : Int32} {M' : nb_M} (had : nb_AD ad b0) (M N : nb_M) (h : f_X7_image M = some (r, M')) : nb_C l D ad ca b0 yX7_image wsX7_image 1 [.ref (ad 52)] N M (some (.int r)) N M' := by
  refine nb_of (cc := cX7_image) (maxL := 1) (ret := (some .int)) (own := RX7) (by decide +kernel) rfl rfl (Nat.le_of_ble_eq_true rfl) ?_
  intro p e s m args below meth c ls X hP hS hl
  have hl : lv_has ls 1 [(0, .ref (ad 52))] := hl
  obtain ⟨hx, hb, hml, hown, hts, hr, hlk, hK, hZ⟩ := id X
  have w_1 := hts (.fieldLink RX7 9 "NineBreakagesModel" "row" "[I") (by decide +kernel)
  have in7 : ∀ w ∈ u_ws RX7 TX7 21, w ∈ wsX7_image := fun w q => List.mem_cons_of_mem _ (List.mem_append_right _ q)
  have w_3 := hts (.fieldLink RX7 13 "NineBreakagesModel" "kept" "[I") (by decide +kernel)
  have w_4 := hts (.fieldLink RX7 264 "NineBreakagesModel" "images" "I") (by decide +kernel)
  unfold f_X7_image at h
  refine lv_aload_n hx hb dX7_image_0 rfl (lv_at hl 0 rfl) ?_
  refine va_get (v := .ref (ad 53)) (C := RX7) (T := TX7) (N := 21) hx hb hts in7 hown hK.1 hP 52 nb_a52 rfl 0 (by decide) w_1 (fun _ h9 => h9) rfl dX7_image_1 ?_
  refine lv_aload_n hx hb dX7_image_4 rfl (lv_at hl 0 rfl) ?_
  refine va_get (v := .ref (ad 54)) (C := RX7) (T := TX7) (N := 21) hx hb hts in7 hown hK.1 hP 52 nb_a52 rfl 1 (by decide) w_3 (fun _ h9 => h9) rfl dX7_image_5 ?_
  obtain ⟨M_1, e_1, h⟩ := nb_oE h
  refine nb_callS (n := 2) (As := [.ref (ad 53), .ref (ad 54)]) (rest := []) hx hb hml hown hts hK hZ hP hS (k_X7_copyAll_53_54 had M N e_1) gX7_image_X7_copyAll rfl (by decide +kernel) (nb_rm (Nat.le_of_ble_eq_true rfl) (Nat.le_of_ble_eq_true rfl)) rfl hl.1 rfl (Nat.le_of_ble_eq_true rfl) dX7_image_8 (fun H locs hP hS => ?_)
  refine W.eq (g2 := F0 m 11 ls []) rfl ?_
  refine lv_aload_n hx hb dX7_image_11 rfl (lv_at hl 0 rfl) ?_
  refine lv_dup hx hb dX7_image_12 rfl ?_
  refine va_get (v := .int (M_1.1 0 2)) (C := RX7) (T := TX7) (N := 21) hx hb hts in7 hown hK.1 hP 52 nb_a52 rfl 2 (by decide) w_4 (fun _ h9 => h9) rfl dX7_image_13 ?_
  refine lv_iconst (v := (1 : Int32)) hx hb dX7_image_16 (by decide) ?_
  refine lv_iadd hx hb dX7_image_17 ?_
  refine nb_put (C := RX7) (T := TX7) (NN := 21) hx hb had hts in7 tyX7 tyX7_ok nmX7 hown hK hP hS nb_a52 rfl 2 (by decide) w_4 rfl (ty := .int) (by decide +kernel) rfl rfl (Nat.le_of_ble_eq_true rfl) (nb_p52_2 _) dX7_image_18 (fun H locs hP hS => ?_)
  obtain ⟨M_2, e_2, h⟩ := nb_nE h
  rw [e_2] at hP
  refine lv_aload_n hx hb dX7_image_21 rfl (lv_at hl 0 rfl) ?_
  refine va_get (v := .int (M_2.1 0 2)) (C := RX7) (T := TX7) (N := 21) hx hb hts in7 hown hK.1 hP 52 nb_a52 rfl 2 (by decide) w_4 (fun _ h9 => h9) rfl dX7_image_22 ?_
  obtain ⟨rfl, rfl⟩ := nb_e2 h
  exact nb_iret hx hb hr hlk hP hS dX7_image_25
set_option maxHeartbeats 4000000 in
set_option maxRecDepth 100000 in
theorem w_X7_copyAll_54_53_2 {N : nb_M} {M' : nb_M} (had : nb_AD ad b0) (X : nb_X p s m args meth c cX7_copyAll 3 RX7 none wsX7_copyAll D ca b0) : ∀ (n : Nat) (M : nb_M) (x2 : Int32), f_X7_copyAll_54_53_2 n M x2 = some (M') → ∀ (H : Heap) (locs : List Loc), va_P D vwCl (nb_w ad ca N M) H → va_S (fun q => b0 ≤ q) s.heap H locs → ∀ ls : Array Slot, lv_has ls 3 [(0, .ref (ad 54)), (1, .ref (ad 53)), (2, .int x2)] → W p l e (nb_R 0) s m args below meth c H locs 0 0 (nb_Q below args s D ad ca b0 none N M') (F0 m 2 ls []) := by
  obtain ⟨hx, hb, hml, hown, hts, hr, hlk, hK, hZ⟩ := id X
  intro n
  induction n with
  | zero =>
    intro M x2 h
    rw [f_X7_copyAll_54_53_2] at h
    cases h
  | succ n ih =>
    intro M x2 h H locs hP hS ls hl
    rw [f_X7_copyAll_54_53_2] at h
    refine lv_iload_n hx hb dX7_copyAll_2 rfl (lv_at hl 2 rfl) ?_
    refine lv_sipush (v := (383 : Int32)) hx hb dX7_copyAll_3 (by decide) ?_
    refine lv_icmp_ge (tgt := 21) hx hb dX7_copyAll_6 (by decide) (fun c_1 => ?_) (fun c_1 => ?_)
    · have h := nb_t c_1 h
      obtain rfl := nb_e1 h
      exact nb_vret hx hb hr hlk hP hS dX7_copyAll_21
    · have h := nb_f c_1 h
      refine lv_aload_n hx hb dX7_copyAll_9 rfl (lv_at hl 1 rfl) ?_
      refine lv_iload_n hx hb dX7_copyAll_10 rfl (lv_at hl 2 rfl) ?_
      refine lv_aload_n hx hb dX7_copyAll_11 rfl (lv_at hl 0 rfl) ?_
      refine lv_iload_n hx hb dX7_copyAll_12 rfl (lv_at hl 2 rfl) ?_
      obtain ⟨c_2, h⟩ := nb_c h
      refine va_iald hx hb hK.1 hP 54 0 nb_a54 rfl c_2 dX7_copyAll_13 ?_
      refine nb_iast hx hb had hK hP hS nb_a53 c_2 (nb_t53 _ _) dX7_copyAll_14 (fun H locs hP hS => ?_)
      obtain ⟨M_3, e_3, h⟩ := nb_nE h
      rw [e_3] at hP
      refine lv_iinc (v := x2 + 1) (lv' := [(2, .int (x2 + 1)), (0, .ref (ad 54)), (1, .ref (ad 53))]) hx hb dX7_copyAll_15 hl (k := 2) rfl (congrArg (HAdd.hAdd x2) (by decide)) (by decide) rfl (fun ls hl => ?_)
      refine lv_goto (tgt := 2) hx hb dX7_copyAll_18 (by decide) ?_
      exact ih _ _ h _ _ hP hS _ (lv_sub hl [1, 2, 0] rfl)
set_option maxHeartbeats 4000000 in
set_option maxRecDepth 100000 in
theorem k_X7_copyAll_54_53 {M' : nb_M} (had : nb_AD ad b0) (M N : nb_M) (h : f_X7_copyAll_54_53 M = some (M')) : nb_C l D ad ca b0 yX7_copyAll wsX7_copyAll 0 [.ref (ad 54), .ref (ad 53)] N M none N M' := by
  refine nb_of (cc := cX7_copyAll) (maxL := 3) (ret := none) (own := RX7) (by decide +kernel) rfl rfl (Nat.le_of_ble_eq_true rfl) ?_
  intro p e s m args below meth c ls X hP hS hl
  have hl : lv_has ls 3 [(0, .ref (ad 54)), (1, .ref (ad 53))] := hl
  obtain ⟨hx, hb, hml, hown, hts, hr, hlk, hK, hZ⟩ := id X
  unfold f_X7_copyAll_54_53 at h
  refine lv_iconst (v := (0 : Int32)) hx hb dX7_copyAll_0 (by decide) ?_
  refine lv_istore_n (lv' := [(2, .int (0 : Int32)), (0, .ref (ad 54)), (1, .ref (ad 53))]) hx hb dX7_copyAll_1 rfl hl (by decide) rfl (fun ls hl => ?_)
  exact w_X7_copyAll_54_53_2 had X nb_F _ _ h _ _ hP hS _ (lv_sub hl [1, 2, 0] rfl)
set_option maxHeartbeats 4000000 in
set_option maxRecDepth 100000 in
theorem k_X7_restore {r : Int32} {M' : nb_M} (had : nb_AD ad b0) (M N : nb_M) (h : f_X7_restore M = some (r, M')) : nb_C l D ad ca b0 yX7_restore wsX7_restore 1 [.ref (ad 52)] N M (some (.int r)) N M' := by
  refine nb_of (cc := cX7_restore) (maxL := 1) (ret := (some .int)) (own := RX7) (by decide +kernel) rfl rfl (Nat.le_of_ble_eq_true rfl) ?_
  intro p e s m args below meth c ls X hP hS hl
  have hl : lv_has ls 1 [(0, .ref (ad 52))] := hl
  obtain ⟨hx, hb, hml, hown, hts, hr, hlk, hK, hZ⟩ := id X
  have w_1 := hts (.fieldLink RX7 264 "NineBreakagesModel" "images" "I") (by decide +kernel)
  have in7 : ∀ w ∈ u_ws RX7 TX7 21, w ∈ wsX7_restore := fun w q => List.mem_cons_of_mem _ (List.mem_append_right _ q)
  have w_3 := hts (.fieldLink RX7 13 "NineBreakagesModel" "kept" "[I") (by decide +kernel)
  have w_4 := hts (.fieldLink RX7 9 "NineBreakagesModel" "row" "[I") (by decide +kernel)
  have w_5 := hts (.constant RX7 206 (-1000000002)) (by decide +kernel)
  unfold f_X7_restore at h
  refine lv_aload_n hx hb dX7_restore_0 rfl (lv_at hl 0 rfl) ?_
  refine va_get (v := .int (M.1 0 2)) (C := RX7) (T := TX7) (N := 21) hx hb hts in7 hown hK.1 hP 52 nb_a52 rfl 2 (by decide) w_1 (fun _ h9 => h9) rfl dX7_restore_1 ?_
  refine lv_if_ne (tgt := 14) hx hb dX7_restore_4 (by decide) (fun c_1 => ?_) (fun c_1 => ?_)
  · have h := nb_f c_1 h
    refine lv_aload_n hx hb dX7_restore_14 rfl (lv_at hl 0 rfl) ?_
    refine va_get (v := .ref (ad 54)) (C := RX7) (T := TX7) (N := 21) hx hb hts in7 hown hK.1 hP 52 nb_a52 rfl 1 (by decide) w_3 (fun _ h9 => h9) rfl dX7_restore_15 ?_
    refine lv_aload_n hx hb dX7_restore_18 rfl (lv_at hl 0 rfl) ?_
    refine va_get (v := .ref (ad 53)) (C := RX7) (T := TX7) (N := 21) hx hb hts in7 hown hK.1 hP 52 nb_a52 rfl 0 (by decide) w_4 (fun _ h9 => h9) rfl dX7_restore_19 ?_
    obtain ⟨M_2, e_2, h⟩ := nb_oE h
    refine nb_callS (n := 2) (As := [.ref (ad 54), .ref (ad 53)]) (rest := []) hx hb hml hown hts hK hZ hP hS (k_X7_copyAll_54_53 had M N e_2) gX7_restore_X7_copyAll rfl (by decide +kernel) (nb_rm (Nat.le_of_ble_eq_true rfl) (Nat.le_of_ble_eq_true rfl)) rfl hl.1 rfl (Nat.le_of_ble_eq_true rfl) dX7_restore_22 (fun H locs hP hS => ?_)
    refine W.eq (g2 := F0 m 25 ls []) rfl ?_
    refine lv_aload_n hx hb dX7_restore_25 rfl (lv_at hl 0 rfl) ?_
    refine va_get (v := .ref (ad 53)) (C := RX7) (T := TX7) (N := 21) hx hb hts in7 hown hK.1 hP 52 nb_a52 rfl 0 (by decide) w_4 (fun _ h9 => h9) rfl dX7_restore_26 ?_
    refine lv_iconst (v := (0 : Int32)) hx hb dX7_restore_29 (by decide) ?_
    refine va_iald hx hb hK.1 hP 53 0 nb_a53 rfl (nb_lit rfl) dX7_restore_30 ?_
    obtain ⟨rfl, rfl⟩ := nb_e2 h
    exact nb_iret hx hb hr hlk hP hS dX7_restore_31
  · have h := nb_t c_1 h
    refine lv_aload_n hx hb dX7_restore_7 rfl (lv_at hl 0 rfl) ?_
    refine lv_ldc (v := (-1000000002 : Int32)) hx hb hown w_5 dX7_restore_8 ?_
    obtain ⟨r_3, M_3, e_3, h⟩ := nb_pE h
    refine nb_callV (n := 1) (As := [.int (-1000000002 : Int32)]) (rest := []) hx hb hml hown hts hK hZ hP hS (k_X7_error had M N (-1000000002 : Int32) e_3) gX7_restore_X7_error rfl (by decide +kernel) (nb_rm (Nat.le_of_ble_eq_true rfl) (Nat.le_of_ble_eq_true rfl)) nb_a52 rfl rfl rfl hl.1 rfl (Nat.le_of_ble_eq_true rfl) dX7_restore_10 (fun H locs hP hS => ?_)
    refine W.eq (g2 := F0 m 13 ls [.int r_3]) rfl ?_
    obtain ⟨rfl, rfl⟩ := nb_e2 h
    exact nb_iret hx hb hr hlk hP hS dX7_restore_13
set_option maxHeartbeats 4000000 in
set_option maxRecDepth 100000 in
theorem k_X7_tell {r : Int32} {M' : nb_M} (had : nb_AD ad b0) (M N : nb_M) (p0 : Int32) (h : f_X7_tell M p0 = some (r, M')) : nb_C l D ad ca b0 yX7_tell wsX7_tell 1 [.ref (ad 52), .int p0] N M (some (.int r)) N M' := by
  refine nb_of (cc := cX7_tell) (maxL := 2) (ret := (some .int)) (own := RX7) (by decide +kernel) rfl rfl (Nat.le_of_ble_eq_true rfl) ?_
  intro p e s m args below meth c ls X hP hS hl
  have hl : lv_has ls 2 [(0, .ref (ad 52)), (1, .int p0)] := hl
  obtain ⟨hx, hb, hml, hown, hts, hr, hlk, hK, hZ⟩ := id X
  have w_1 := hts (.fieldLink RX7 9 "NineBreakagesModel" "row" "[I") (by decide +kernel)
  have in7 : ∀ w ∈ u_ws RX7 TX7 21, w ∈ wsX7_tell := fun w q => List.mem_cons_of_mem _ (List.mem_append_right _ q)
  have w_3 := hts (.constant RX7 82 (-1000000004)) (by decide +kernel)
  unfold f_X7_tell at h
  refine lv_aload_n hx hb dX7_tell_0 rfl (lv_at hl 0 rfl) ?_
  refine va_get (v := .ref (ad 53)) (C := RX7) (T := TX7) (N := 21) hx hb hts in7 hown hK.1 hP 52 nb_a52 rfl 0 (by decide) w_1 (fun _ h9 => h9) rfl dX7_tell_1 ?_
  refine lv_iconst (v := (5 : Int32)) hx hb dX7_tell_4 (by decide) ?_
  refine va_iald hx hb hK.1 hP 53 0 nb_a53 rfl (nb_lit rfl) dX7_tell_5 ?_
  refine lv_bipush (v := (24 : Int32)) hx hb dX7_tell_6 (by decide) ?_
  refine lv_icmp_ne (tgt := 18) hx hb dX7_tell_8 (by decide) (fun c_1 => ?_) (fun c_1 => ?_)
  · have h := nb_f c_1 h
    refine lv_aload_n hx hb dX7_tell_18 rfl (lv_at hl 0 rfl) ?_
    refine va_get (v := .ref (ad 53)) (C := RX7) (T := TX7) (N := 21) hx hb hts in7 hown hK.1 hP 52 nb_a52 rfl 0 (by decide) w_1 (fun _ h9 => h9) rfl dX7_tell_19 ?_
    refine lv_bipush (v := (117 : Int32)) hx hb dX7_tell_22 (by decide) ?_
    refine lv_aload_n hx hb dX7_tell_24 rfl (lv_at hl 0 rfl) ?_
    refine va_get (v := .ref (ad 53)) (C := RX7) (T := TX7) (N := 21) hx hb hts in7 hown hK.1 hP 52 nb_a52 rfl 0 (by decide) w_1 (fun _ h9 => h9) rfl dX7_tell_25 ?_
    refine lv_iconst (v := (5 : Int32)) hx hb dX7_tell_28 (by decide) ?_
    refine va_iald hx hb hK.1 hP 53 0 nb_a53 rfl (nb_lit rfl) dX7_tell_29 ?_
    refine lv_iadd hx hb dX7_tell_30 ?_
    refine lv_iload_n hx hb dX7_tell_31 rfl (lv_at hl 1 rfl) ?_
    obtain ⟨c_2, h⟩ := nb_c h
    refine nb_iast hx hb had hK hP hS nb_a53 c_2 (nb_t53 _ _) dX7_tell_32 (fun H locs hP hS => ?_)
    obtain ⟨M_3, e_3, h⟩ := nb_nE h
    rw [e_3] at hP
    refine lv_aload_n hx hb dX7_tell_33 rfl (lv_at hl 0 rfl) ?_
    refine va_get (v := .ref (ad 53)) (C := RX7) (T := TX7) (N := 21) hx hb hts in7 hown hK.1 hP 52 nb_a52 rfl 0 (by decide) w_1 (fun _ h9 => h9) rfl dX7_tell_34 ?_
    refine lv_iconst (v := (5 : Int32)) hx hb dX7_tell_37 (by decide) ?_
    refine lv_dup2_11 hx hb dX7_tell_38 rfl rfl ?_
    refine va_iald hx hb hK.1 hP 53 0 nb_a53 rfl (nb_lit rfl) dX7_tell_39 ?_
    refine lv_iconst (v := (1 : Int32)) hx hb dX7_tell_40 (by decide) ?_
    refine lv_iadd hx hb dX7_tell_41 ?_
    refine nb_iast hx hb had hK hP hS nb_a53 (nb_lit rfl) (nb_t53 _ _) dX7_tell_42 (fun H locs hP hS => ?_)
    obtain ⟨M_4, e_4, h⟩ := nb_nE h
    rw [e_4] at hP
    refine lv_aload_n hx hb dX7_tell_43 rfl (lv_at hl 0 rfl) ?_
    refine va_get (v := .ref (ad 53)) (C := RX7) (T := TX7) (N := 21) hx hb hts in7 hown hK.1 hP 52 nb_a52 rfl 0 (by decide) w_1 (fun _ h9 => h9) rfl dX7_tell_44 ?_
    refine lv_iconst (v := (5 : Int32)) hx hb dX7_tell_47 (by decide) ?_
    refine va_iald hx hb hK.1 hP 53 0 nb_a53 rfl (nb_lit rfl) dX7_tell_48 ?_
    obtain ⟨rfl, rfl⟩ := nb_e2 h
    exact nb_iret hx hb hr hlk hP hS dX7_tell_49
  · have h := nb_t c_1 h
    refine lv_aload_n hx hb dX7_tell_11 rfl (lv_at hl 0 rfl) ?_
    refine lv_ldc (v := (-1000000004 : Int32)) hx hb hown w_3 dX7_tell_12 ?_
    obtain ⟨r_5, M_5, e_5, h⟩ := nb_pE h
    refine nb_callV (n := 1) (As := [.int (-1000000004 : Int32)]) (rest := []) hx hb hml hown hts hK hZ hP hS (k_X7_error had M N (-1000000004 : Int32) e_5) gX7_tell_X7_error rfl (by decide +kernel) (nb_rm (Nat.le_of_ble_eq_true rfl) (Nat.le_of_ble_eq_true rfl)) nb_a52 rfl rfl rfl hl.1 rfl (Nat.le_of_ble_eq_true rfl) dX7_tell_14 (fun H locs hP hS => ?_)
    refine W.eq (g2 := F0 m 17 ls [.int r_5]) rfl ?_
    obtain ⟨rfl, rfl⟩ := nb_e2 h
    exact nb_iret hx hb hr hlk hP hS dX7_tell_17
end GEN
