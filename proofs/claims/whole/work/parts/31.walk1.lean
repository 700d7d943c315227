section GEN
variable {p : Program} {l : Launch} {e : Env} {s : State} {m : MethodId} {args : Array Value} {below : List Frame} {meth : Method} {c : Code} {D : va_G} {ad : Nat → Nat} {ca : Nat → ClassId} {b0 : Nat}
set_option maxHeartbeats 4000000 in
set_option maxRecDepth 100000 in
theorem k_X6_drop {r : Int32} {M' : nb_M} (had : nb_AD ad b0) (M N : nb_M) (p0 : Int32) (h : f_X6_drop M p0 = some (r, M')) : nb_C l D ad ca b0 yX6_drop wsX6_drop 4 [.ref (ad 0), .int p0] M N (some (.int r)) M' N := by
  refine nb_of (cc := cX6_drop) (maxL := 2) (ret := (some .int)) (own := RX6) (by decide +kernel) rfl rfl (Nat.le_of_ble_eq_true rfl) ?_
  intro p e s m args below meth c ls X hP hS hl
  have hl : lv_has ls 2 [(0, .ref (ad 0)), (1, .int p0)] := hl
  obtain ⟨hx, hb, hml, hown, hts, hr, hlk, hK, hZ⟩ := id X
  have w_1 := hts (.fieldLink RX6 12 "NineBreakages" "now" "LNineBreakages$House;") (by decide +kernel)
  have in6 : ∀ w ∈ u_ws RX6 TX6 8, w ∈ wsX6_drop := fun w q => List.mem_cons_of_mem _ (List.mem_append_left _ (List.mem_append_right _ q))
  have w_3 := hts (.fieldLink RX6 108 "NineBreakages$House" "state" "[I") (by decide +kernel)
  have in0 : ∀ w ∈ u_ws RX0 TX0 16, w ∈ wsX6_drop := fun w q => List.mem_cons_of_mem _ (List.mem_append_right _ q)
  unfold f_X6_drop at h
  refine lv_aload_n hx hb dX6_drop_0 rfl (lv_at hl 0 rfl) ?_
  refine va_get (v := .ref (ad 1)) (C := RX6) (T := TX6) (N := 8) hx hb hts in6 hown hK.1 hP 0 nb_a0 rfl 0 (by decide) w_1 (fun _ h9 => h9) rfl dX6_drop_1 ?_
  refine lv_iload_n hx hb dX6_drop_4 rfl (lv_at hl 1 rfl) ?_
  refine nb_callV (n := 1) (As := [.int p0]) (rest := []) hx hb hml hown hts hK hZ hP hS (k_X0_isPiece had M N p0) gX6_drop_X0_isPiece rfl (by decide +kernel) (nb_rm (Nat.le_of_ble_eq_true rfl) (Nat.le_of_ble_eq_true rfl)) nb_a1 rfl rfl rfl hl.1 rfl (Nat.le_of_ble_eq_true rfl) dX6_drop_5 (fun H locs hP hS => ?_)
  refine W.eq (g2 := F0 m 8 ls [.int (f_X0_isPiece M p0)]) rfl ?_
  refine lv_if_ne (tgt := 17) hx hb dX6_drop_8 (by decide) (fun c_2 => ?_) (fun c_2 => ?_)
  · have h := nb_f c_2 h
    refine lv_aload_n hx hb dX6_drop_17 rfl (lv_at hl 0 rfl) ?_
    refine va_get (v := .ref (ad 1)) (C := RX6) (T := TX6) (N := 8) hx hb hts in6 hown hK.1 hP 0 nb_a0 rfl 0 (by decide) w_1 (fun _ h9 => h9) rfl dX6_drop_18 ?_
    refine va_get (v := .ref (ad 8)) (C := RX0) (T := TX0) (N := 16) hx hb hts in0 hown hK.1 hP 1 nb_a1 rfl 10 (by decide) w_3 (fun _ h9 => h9) rfl dX6_drop_21 ?_
    refine lv_iload_n hx hb dX6_drop_24 rfl (lv_at hl 1 rfl) ?_
    obtain ⟨c_3, h⟩ := nb_c h
    refine va_iald hx hb hK.1 hP 8 0 nb_a8 rfl c_3 dX6_drop_25 ?_
    refine lv_if_eq (tgt := 35) hx hb dX6_drop_26 (by decide) (fun c_4 => ?_) (fun c_4 => ?_)
    · have h := nb_t c_4 h
      refine lv_aload_n hx hb dX6_drop_35 rfl (lv_at hl 0 rfl) ?_
      refine va_get (v := .ref (ad 1)) (C := RX6) (T := TX6) (N := 8) hx hb hts in6 hown hK.1 hP 0 nb_a0 rfl 0 (by decide) w_1 (fun _ h9 => h9) rfl dX6_drop_36 ?_
      refine lv_iload_n hx hb dX6_drop_39 rfl (lv_at hl 1 rfl) ?_
      obtain ⟨r_5, M_5, e_5, h⟩ := nb_pE h
      refine nb_callV (n := 1) (As := [.int p0]) (rest := []) hx hb hml hown hts hK hZ hP hS (k_X0_breakPiece had M N p0 e_5) gX6_drop_X0_breakPiece rfl (by decide +kernel) (nb_rm (Nat.le_of_ble_eq_true rfl) (Nat.le_of_ble_eq_true rfl)) nb_a1 rfl rfl rfl hl.1 rfl (Nat.le_of_ble_eq_true rfl) dX6_drop_40 (fun H locs hP hS => ?_)
      refine W.eq (g2 := F0 m 43 ls [.int r_5]) rfl ?_
      refine nb_callS (n := 1) (As := [.int r_5]) (rest := []) hx hb hml hown hts hK hZ hP hS (k_X6_bit had M_5 N r_5) gX6_drop_X6_bit rfl (by decide +kernel) (nb_rm (Nat.le_of_ble_eq_true rfl) (Nat.le_of_ble_eq_true rfl)) rfl hl.1 rfl (Nat.le_of_ble_eq_true rfl) dX6_drop_43 (fun H locs hP hS => ?_)
      refine W.eq (g2 := F0 m 46 ls [.int (f_X6_bit r_5)]) rfl ?_
      obtain ⟨rfl, rfl⟩ := nb_e2 h
      exact nb_iret hx hb hr hlk hP hS dX6_drop_46
    · have h := nb_f c_4 h
      refine lv_aload_n hx hb dX6_drop_29 rfl (lv_at hl 0 rfl) ?_
      refine lv_iconst (v := (3 : Int32)) hx hb dX6_drop_30 (by decide) ?_
      obtain ⟨r_7, M_7, e_7, h⟩ := nb_pE h
      refine nb_callV (n := 1) (As := [.int (3 : Int32)]) (rest := []) hx hb hml hown hts hK hZ hP hS (k_X6_fail had M N (3 : Int32) e_7) gX6_drop_X6_fail rfl (by decide +kernel) (nb_rm (Nat.le_of_ble_eq_true rfl) (Nat.le_of_ble_eq_true rfl)) nb_a0 rfl rfl rfl hl.1 rfl (Nat.le_of_ble_eq_true rfl) dX6_drop_31 (fun H locs hP hS => ?_)
      refine W.eq (g2 := F0 m 34 ls [.int r_7]) rfl ?_
      obtain ⟨rfl, rfl⟩ := nb_e2 h
      exact nb_iret hx hb hr hlk hP hS dX6_drop_34
  · have h := nb_t c_2 h
    refine lv_aload_n hx hb dX6_drop_11 rfl (lv_at hl 0 rfl) ?_
    refine lv_iconst (v := (1 : Int32)) hx hb dX6_drop_12 (by decide) ?_
    obtain ⟨r_8, M_8, e_8, h⟩ := nb_pE h
    refine nb_callV (n := 1) (As := [.int (1 : Int32)]) (rest := []) hx hb hml hown hts hK hZ hP hS (k_X6_fail had M N (1 : Int32) e_8) gX6_drop_X6_fail rfl (by decide +kernel) (nb_rm (Nat.le_of_ble_eq_true rfl) (Nat.le_of_ble_eq_true rfl)) nb_a0 rfl rfl rfl hl.1 rfl (Nat.le_of_ble_eq_true rfl) dX6_drop_13 (fun H locs hP hS => ?_)
    refine W.eq (g2 := F0 m 16 ls [.int r_8]) rfl ?_
    obtain ⟨rfl, rfl⟩ := nb_e2 h
    exact nb_iret hx hb hr hlk hP hS dX6_drop_16
set_option maxHeartbeats 4000000 in
set_option maxRecDepth 100000 in
theorem w_X0_tapeBytes_3 {N : nb_M} {r : Int32} {M' : nb_M} (had : nb_AD ad b0) (X : nb_X p s m args meth c cX0_tapeBytes 5 RX0 (some .int) wsX0_tapeBytes D ca b0) : ∀ (n : Nat) (M : nb_M) (x1 : Int64) (x3 : Int32) (x4 : Int32), f_X0_tapeBytes_3 n M x1 x3 x4 = some (r, M') → ∀ (H : Heap) (locs : List Loc), va_P D vwCl (nb_w ad ca M N) H → va_S (fun q => b0 ≤ q) s.heap H locs → ∀ ls : Array Slot, lv_has ls 5 [(0, .ref (ad 1)), (1, .long x1), (3, .int x3), (4, .int x4)] → W p l e (nb_R 0) s m args below meth c H locs 0 0 (nb_Q below args s D ad ca b0 (some (.int r)) M' N) (F0 m 3 ls []) := by
  obtain ⟨hx, hb, hml, hown, hts, hr, hlk, hK, hZ⟩ := id X
  have w_1 := hts (.fieldLink RX0 59 "NineBreakages$House" "taped" "I") (by decide +kernel)
  have in0 : ∀ w ∈ u_ws RX0 TX0 16, w ∈ wsX0_tapeBytes := fun w q => List.mem_cons_of_mem _ (List.mem_append_right _ q)
  have w_3 := hts (.fieldLink RX0 37 "NineBreakages$House" "tape" "[I") (by decide +kernel)
  have w_4 := hts (.constantLong RX0 142 (255)) (by decide +kernel)
  intro n
  induction n with
  | zero =>
    intro M x1 x3 x4 h
    rw [f_X0_tapeBytes_3] at h
    cases h
  | succ n ih =>
    intro M x1 x3 x4 h H locs hP hS ls hl
    rw [f_X0_tapeBytes_3] at h
    refine lv_iload hx hb dX0_tapeBytes_3 (lv_at hl 3 rfl) ?_
    refine lv_iload_n hx hb dX0_tapeBytes_5 rfl (lv_at hl 2 rfl) ?_
    refine lv_icmp_ge (tgt := 55) hx hb dX0_tapeBytes_6 (by decide) (fun c_1 => ?_) (fun c_1 => ?_)
    · have h := nb_t c_1 h
      refine lv_aload_n hx hb dX0_tapeBytes_55 rfl (lv_at hl 0 rfl) ?_
      refine va_get (v := .int (M.1 1 13)) (C := RX0) (T := TX0) (N := 16) hx hb hts in0 hown hK.1 hP 1 nb_a1 rfl 13 (by decide) w_1 (fun _ h9 => h9) rfl dX0_tapeBytes_56 ?_
      obtain ⟨rfl, rfl⟩ := nb_e2 h
      exact nb_iret hx hb hr hlk hP hS dX0_tapeBytes_59
    · have h := nb_f c_1 h
      refine lv_aload_n hx hb dX0_tapeBytes_9 rfl (lv_at hl 0 rfl) ?_
      refine va_get (v := .int (M.1 1 13)) (C := RX0) (T := TX0) (N := 16) hx hb hts in0 hown hK.1 hP 1 nb_a1 rfl 13 (by decide) w_1 (fun _ h9 => h9) rfl dX0_tapeBytes_10 ?_
      refine lv_bipush (v := (60 : Int32)) hx hb dX0_tapeBytes_13 (by decide) ?_
      refine lv_icmp_ge (tgt := 55) hx hb dX0_tapeBytes_15 (by decide) (fun c_2 => ?_) (fun c_2 => ?_)
      · have h := nb_t c_2 h
        refine lv_aload_n hx hb dX0_tapeBytes_55 rfl (lv_at hl 0 rfl) ?_
        refine va_get (v := .int (M.1 1 13)) (C := RX0) (T := TX0) (N := 16) hx hb hts in0 hown hK.1 hP 1 nb_a1 rfl 13 (by decide) w_1 (fun _ h9 => h9) rfl dX0_tapeBytes_56 ?_
        obtain ⟨rfl, rfl⟩ := nb_e2 h
        exact nb_iret hx hb hr hlk hP hS dX0_tapeBytes_59
      · have h := nb_f c_2 h
        refine lv_aload_n hx hb dX0_tapeBytes_18 rfl (lv_at hl 0 rfl) ?_
        refine va_get (v := .ref (ad 10)) (C := RX0) (T := TX0) (N := 16) hx hb hts in0 hown hK.1 hP 1 nb_a1 rfl 12 (by decide) w_3 (fun _ h9 => h9) rfl dX0_tapeBytes_19 ?_
        refine lv_aload_n hx hb dX0_tapeBytes_22 rfl (lv_at hl 0 rfl) ?_
        refine va_get (v := .int (M.1 1 13)) (C := RX0) (T := TX0) (N := 16) hx hb hts in0 hown hK.1 hP 1 nb_a1 rfl 13 (by decide) w_1 (fun _ h9 => h9) rfl dX0_tapeBytes_23 ?_
        refine lv_lload_n hx hb dX0_tapeBytes_26 rfl (lv_at hl 1 rfl) ?_
        refine lv_bipush (v := (8 : Int32)) hx hb dX0_tapeBytes_27 (by decide) ?_
        refine lv_iload hx hb dX0_tapeBytes_29 (lv_at hl 3 rfl) ?_
        refine lv_imul hx hb dX0_tapeBytes_31 ?_
        refine lv_lushr hx hb dX0_tapeBytes_32 rfl ?_
        refine lv_ldc2 (v := (255 : Int64)) hx hb hown w_4 dX0_tapeBytes_33 ?_
        refine lv_land hx hb dX0_tapeBytes_36 ?_
        refine lv_l2i hx hb dX0_tapeBytes_37 rfl ?_
        obtain ⟨c_3, h⟩ := nb_c h
        refine nb_iast hx hb had hK hP hS nb_a10 c_3 (nb_t10 _ _) dX0_tapeBytes_38 (fun H locs hP hS => ?_)
        obtain ⟨M_4, e_4, h⟩ := nb_nE h
        rw [e_4] at hP
        refine lv_aload_n hx hb dX0_tapeBytes_39 rfl (lv_at hl 0 rfl) ?_
        refine lv_dup hx hb dX0_tapeBytes_40 rfl ?_
        refine va_get (v := .int (M_4.1 1 13)) (C := RX0) (T := TX0) (N := 16) hx hb hts in0 hown hK.1 hP 1 nb_a1 rfl 13 (by decide) w_1 (fun _ h9 => h9) rfl dX0_tapeBytes_41 ?_
        refine lv_iconst (v := (1 : Int32)) hx hb dX0_tapeBytes_44 (by decide) ?_
        refine lv_iadd hx hb dX0_tapeBytes_45 ?_
        refine nb_put (C := RX0) (T := TX0) (NN := 16) hx hb had hts in0 tyX0 tyX0_ok nmX0 hown hK hP hS nb_a1 rfl 13 (by decide) w_1 rfl (ty := .int) (by decide +kernel) rfl rfl (Nat.le_of_ble_eq_true rfl) (nb_p1_13 _) dX0_tapeBytes_46 (fun H locs hP hS => ?_)
        obtain ⟨M_5, e_5, h⟩ := nb_nE h
        rw [e_5] at hP
        refine lv_iinc (v := x4 + 1) (lv' := [(4, .int (x4 + 1)), (0, .ref (ad 1)), (1, .long x1), (3, .int x3)]) hx hb dX0_tapeBytes_49 hl (k := 3) rfl (congrArg (HAdd.hAdd x4) (by decide)) (by decide) rfl (fun ls hl => ?_)
        refine lv_goto (tgt := 3) hx hb dX0_tapeBytes_52 (by decide) ?_
        exact ih _ _ _ _ h _ _ hP hS _ (lv_sub hl [1, 2, 3, 0] rfl)
set_option maxHeartbeats 4000000 in
set_option maxRecDepth 100000 in
theorem k_X0_tapeBytes {r : Int32} {M' : nb_M} (had : nb_AD ad b0) (M N : nb_M) (p0 : Int64) (p1 : Int32) (h : f_X0_tapeBytes M p0 p1 = some (r, M')) : nb_C l D ad ca b0 yX0_tapeBytes wsX0_tapeBytes 0 [.ref (ad 1), .long p0, .int p1] M N (some (.int r)) M' N := by
  refine nb_of (cc := cX0_tapeBytes) (maxL := 5) (ret := (some .int)) (own := RX0) (by decide +kernel) rfl rfl (Nat.le_of_ble_eq_true rfl) ?_
  intro p e s m args below meth c ls X hP hS hl
  have hl : lv_has ls 5 [(0, .ref (ad 1)), (1, .long p0), (3, .int p1)] := hl
  obtain ⟨hx, hb, hml, hown, hts, hr, hlk, hK, hZ⟩ := id X
  unfold f_X0_tapeBytes at h
  refine lv_iconst (v := (0 : Int32)) hx hb dX0_tapeBytes_0 (by decide) ?_
  refine lv_istore (lv' := [(4, .int (0 : Int32)), (0, .ref (ad 1)), (1, .long p0), (3, .int p1)]) hx hb dX0_tapeBytes_1 hl (by decide) rfl (fun ls hl => ?_)
  exact w_X0_tapeBytes_3 had X nb_F _ _ _ _ h _ _ hP hS _ (lv_sub hl [1, 2, 3, 0] rfl)
set_option maxHeartbeats 4000000 in
set_option maxRecDepth 100000 in
theorem k_X6_feed {r : Int32} {M' : nb_M} (had : nb_AD ad b0) (M N : nb_M) (p0 : Int64) (p1 : Int32) (h : f_X6_feed M p0 p1 = some (r, M')) : nb_C l D ad ca b0 yX6_feed wsX6_feed 1 [.ref (ad 0), .long p0, .int p1] M N (some (.int r)) M' N := by
  refine nb_of (cc := cX6_feed) (maxL := 4) (ret := (some .int)) (own := RX6) (by decide +kernel) rfl rfl (Nat.le_of_ble_eq_true rfl) ?_
  intro p e s m args below meth c ls X hP hS hl
  have hl : lv_has ls 4 [(0, .ref (ad 0)), (1, .long p0), (3, .int p1)] := hl
  obtain ⟨hx, hb, hml, hown, hts, hr, hlk, hK, hZ⟩ := id X
  have w_1 := hts (.fieldLink RX6 12 "NineBreakages" "now" "LNineBreakages$House;") (by decide +kernel)
  have in6 : ∀ w ∈ u_ws RX6 TX6 8, w ∈ wsX6_feed := fun w q => List.mem_cons_of_mem _ (List.mem_append_left _ (List.mem_append_right _ q))
  have w_3 := hts (.fieldLink RX6 130 "NineBreakages$House" "taped" "I") (by decide +kernel)
  have in0 : ∀ w ∈ u_ws RX0 TX0 16, w ∈ wsX6_feed := fun w q => List.mem_cons_of_mem _ (List.mem_append_right _ q)
  unfold f_X6_feed at h
  refine lv_iload_n hx hb dX6_feed_0 rfl (lv_at hl 2 rfl) ?_
  refine lv_iconst (v := (1 : Int32)) hx hb dX6_feed_1 (by decide) ?_
  refine lv_icmp_lt (tgt := 11) hx hb dX6_feed_2 (by decide) (fun c_1 => ?_) (fun c_1 => ?_)
  · have h := nb_t c_1 h
    refine lv_aload_n hx hb dX6_feed_11 rfl (lv_at hl 0 rfl) ?_
    refine lv_iconst (v := (1 : Int32)) hx hb dX6_feed_12 (by decide) ?_
    obtain ⟨r_2, M_2, e_2, h⟩ := nb_pE h
    refine nb_callV (n := 1) (As := [.int (1 : Int32)]) (rest := []) hx hb hml hown hts hK hZ hP hS (k_X6_fail had M N (1 : Int32) e_2) gX6_feed_X6_fail rfl (by decide +kernel) (nb_rm (Nat.le_of_ble_eq_true rfl) (Nat.le_of_ble_eq_true rfl)) nb_a0 rfl rfl rfl hl.1 rfl (Nat.le_of_ble_eq_true rfl) dX6_feed_13 (fun H locs hP hS => ?_)
    refine W.eq (g2 := F0 m 16 ls [.int r_2]) rfl ?_
    obtain ⟨rfl, rfl⟩ := nb_e2 h
    exact nb_iret hx hb hr hlk hP hS dX6_feed_16
  · have h := nb_f c_1 h
    refine lv_iload_n hx hb dX6_feed_5 rfl (lv_at hl 2 rfl) ?_
    refine lv_bipush (v := (8 : Int32)) hx hb dX6_feed_6 (by decide) ?_
    refine lv_icmp_le (tgt := 17) hx hb dX6_feed_8 (by decide) (fun c_3 => ?_) (fun c_3 => ?_)
    · have h := nb_t c_3 h
      refine lv_iload_n hx hb dX6_feed_17 rfl (lv_at hl 2 rfl) ?_
      refine lv_bipush (v := (60 : Int32)) hx hb dX6_feed_18 (by decide) ?_
      refine lv_aload_n hx hb dX6_feed_20 rfl (lv_at hl 0 rfl) ?_
      refine va_get (v := .ref (ad 1)) (C := RX6) (T := TX6) (N := 8) hx hb hts in6 hown hK.1 hP 0 nb_a0 rfl 0 (by decide) w_1 (fun _ h9 => h9) rfl dX6_feed_21 ?_
      refine va_get (v := .int (M.1 1 13)) (C := RX0) (T := TX0) (N := 16) hx hb hts in0 hown hK.1 hP 1 nb_a1 rfl 13 (by decide) w_3 (fun _ h9 => h9) rfl dX6_feed_24 ?_
      refine lv_isub hx hb dX6_feed_27 ?_
      refine lv_icmp_le (tgt := 37) hx hb dX6_feed_28 (by decide) (fun c_4 => ?_) (fun c_4 => ?_)
      · have h := nb_t c_4 h
        refine lv_aload_n hx hb dX6_feed_37 rfl (lv_at hl 0 rfl) ?_
        refine va_get (v := .ref (ad 1)) (C := RX6) (T := TX6) (N := 8) hx hb hts in6 hown hK.1 hP 0 nb_a0 rfl 0 (by decide) w_1 (fun _ h9 => h9) rfl dX6_feed_38 ?_
        refine lv_lload_n hx hb dX6_feed_41 rfl (lv_at hl 1 rfl) ?_
        refine lv_iload_n hx hb dX6_feed_42 rfl (lv_at hl 2 rfl) ?_
        obtain ⟨r_5, M_5, e_5, h⟩ := nb_pE h
        refine nb_callV (n := 2) (As := [.long p0, .int p1]) (rest := []) hx hb hml hown hts hK hZ hP hS (k_X0_tapeBytes had M N p0 p1 e_5) gX6_feed_X0_tapeBytes rfl (by decide +kernel) (nb_rm (Nat.le_of_ble_eq_true rfl) (Nat.le_of_ble_eq_true rfl)) nb_a1 rfl rfl rfl hl.1 rfl (Nat.le_of_ble_eq_true rfl) dX6_feed_43 (fun H locs hP hS => ?_)
        refine W.eq (g2 := F0 m 46 ls [.int r_5]) rfl ?_
        obtain ⟨rfl, rfl⟩ := nb_e2 h
        exact nb_iret hx hb hr hlk hP hS dX6_feed_46
      · have h := nb_f c_4 h
        refine lv_aload_n hx hb dX6_feed_31 rfl (lv_at hl 0 rfl) ?_
        refine lv_iconst (v := (4 : Int32)) hx hb dX6_feed_32 (by decide) ?_
        obtain ⟨r_6, M_6, e_6, h⟩ := nb_pE h
        refine nb_callV (n := 1) (As := [.int (4 : Int32)]) (rest := []) hx hb hml hown hts hK hZ hP hS (k_X6_fail had M N (4 : Int32) e_6) gX6_feed_X6_fail rfl (by decide +kernel) (nb_rm (Nat.le_of_ble_eq_true rfl) (Nat.le_of_ble_eq_true rfl)) nb_a0 rfl rfl rfl hl.1 rfl (Nat.le_of_ble_eq_true rfl) dX6_feed_33 (fun H locs hP hS => ?_)
        refine W.eq (g2 := F0 m 36 ls [.int r_6]) rfl ?_
        obtain ⟨rfl, rfl⟩ := nb_e2 h
        exact nb_iret hx hb hr hlk hP hS dX6_feed_36
    · have h := nb_f c_3 h
      refine lv_aload_n hx hb dX6_feed_11 rfl (lv_at hl 0 rfl) ?_
      refine lv_iconst (v := (1 : Int32)) hx hb dX6_feed_12 (by decide) ?_
      obtain ⟨r_7, M_7, e_7, h⟩ := nb_pE h
      refine nb_callV (n := 1) (As := [.int (1 : Int32)]) (rest := []) hx hb hml hown hts hK hZ hP hS (k_X6_fail had M N (1 : Int32) e_7) gX6_feed_X6_fail rfl (by decide +kernel) (nb_rm (Nat.le_of_ble_eq_true rfl) (Nat.le_of_ble_eq_true rfl)) nb_a0 rfl rfl rfl hl.1 rfl (Nat.le_of_ble_eq_true rfl) dX6_feed_13 (fun H locs hP hS => ?_)
      refine W.eq (g2 := F0 m 16 ls [.int r_7]) rfl ?_
      obtain ⟨rfl, rfl⟩ := nb_e2 h
      exact nb_iret hx hb hr hlk hP hS dX6_feed_16
set_option maxHeartbeats 4000000 in
set_option maxRecDepth 100000 in
theorem k_X1_next {r : Int32} (had : nb_AD ad b0) (M N : nb_M) (h : f_X1_next M = some r) : nb_C l D ad ca b0 yX1_next wsX1_next 0 [.ref (ad 35)] M N (some (.int r)) M N := by
  refine nb_of (cc := cX1_next) (maxL := 1) (ret := (some .int)) (own := RX1) (by decide +kernel) rfl rfl (Nat.le_of_ble_eq_true rfl) ?_
  intro p e s m args below meth c ls X hP hS hl
  have hl : lv_has ls 1 [(0, .ref (ad 35))] := hl
  obtain ⟨hx, hb, hml, hown, hts, hr, hlk, hK, hZ⟩ := id X
  have w_1 := hts (.fieldLink RX1 31 "NineBreakages$Reader" "at" "I") (by decide +kernel)
  have in1 : ∀ w ∈ u_ws RX1 TX1 6, w ∈ wsX1_next := fun w q => List.mem_cons_of_mem _ (List.mem_append_right _ q)
  have w_3 := hts (.fieldLink RX1 24 "NineBreakages$Reader" "size" "I") (by decide +kernel)
  have w_4 := hts (.fieldLink RX1 15 "NineBreakages$Reader" "tape" "[I") (by decide +kernel)
  unfold f_X1_next at h
  refine lv_aload_n hx hb dX1_next_0 rfl (lv_at hl 0 rfl) ?_
  refine va_get (v := .int (M.1 35 2)) (C := RX1) (T := TX1) (N := 6) hx hb hts in1 hown hK.1 hP 35 nb_a35 rfl 2 (by decide) w_1 (fun _ h9 => h9) rfl dX1_next_1 ?_
  refine lv_aload_n hx hb dX1_next_4 rfl (lv_at hl 0 rfl) ?_
  refine va_get (v := .int (M.1 35 4)) (C := RX1) (T := TX1) (N := 6) hx hb hts in1 hown hK.1 hP 35 nb_a35 rfl 4 (by decide) w_3 (fun _ h9 => h9) rfl dX1_next_5 ?_
  refine lv_icmp_ge (tgt := 23) hx hb dX1_next_8 (by decide) (fun c_1 => ?_) (fun c_1 => ?_)
  · have h := nb_t c_1 h
    refine lv_iconst (v := (-1 : Int32)) hx hb dX1_next_23 (by decide) ?_
    obtain rfl := nb_e1 h
    exact nb_iret hx hb hr hlk hP hS dX1_next_24
  · have h := nb_f c_1 h
    refine lv_aload_n hx hb dX1_next_11 rfl (lv_at hl 0 rfl) ?_
    refine va_get (v := .ref (ad 37)) (C := RX1) (T := TX1) (N := 6) hx hb hts in1 hown hK.1 hP 35 nb_a35 rfl 3 (by decide) w_4 (fun _ h9 => h9) rfl dX1_next_12 ?_
    refine lv_aload_n hx hb dX1_next_15 rfl (lv_at hl 0 rfl) ?_
    refine va_get (v := .int (M.1 35 2)) (C := RX1) (T := TX1) (N := 6) hx hb hts in1 hown hK.1 hP 35 nb_a35 rfl 2 (by decide) w_1 (fun _ h9 => h9) rfl dX1_next_16 ?_
    obtain ⟨c_2, h⟩ := nb_c h
    refine va_iald hx hb hK.1 hP 37 0 nb_a37 rfl c_2 dX1_next_19 ?_
    refine lv_goto (tgt := 24) hx hb dX1_next_20 (by decide) ?_
    obtain rfl := nb_e1 h
    exact nb_iret hx hb hr hlk hP hS dX1_next_24
set_option maxHeartbeats 4000000 in
set_option maxRecDepth 100000 in
theorem k_X1_levelOf (had : nb_AD ad b0) (M N : nb_M) (p0 : Int32) : nb_C l D ad ca b0 yX1_levelOf wsX1_levelOf 0 [.int p0] M N (some (.int (f_X1_levelOf p0))) M N := by
  obtain ⟨r, h⟩ : ∃ r, f_X1_levelOf p0 = r := ⟨_, rfl⟩
  rw [h]
  refine nb_of (cc := cX1_levelOf) (maxL := 1) (ret := (some .int)) (own := RX1) (by decide +kernel) rfl rfl (Nat.le_of_ble_eq_true rfl) ?_
  intro p e s m args below meth c ls X hP hS hl
  have hl : lv_has ls 1 [(0, .int p0)] := hl
  obtain ⟨hx, hb, hml, hown, hts, hr, hlk, hK, hZ⟩ := id X
  unfold f_X1_levelOf at h
  refine lv_iload_n hx hb dX1_levelOf_0 rfl (lv_at hl 0 rfl) ?_
  refine nb_lsw [(37, 100), (38, 94), (42, 100), (43, 98), (45, 98), (47, 100), (60, 96), (61, 96), (62, 96), (124, 92)] 102 hx hb dX1_levelOf_1 (by decide +kernel) (by decide) (by decide +kernel) ?_
  refine nb_split (fun c_1 => ?_) (fun c_1 => ?_)
  · have h := nb_t c_1 h
    refine lv_iconst (v := (4 : Int32)) hx hb dX1_levelOf_100 (by decide) ?_
    obtain rfl := nb_e3 h
    exact nb_iret hx hb hr hlk hP hS dX1_levelOf_101
  · have h := nb_f c_1 h
    refine nb_split (fun c_2 => ?_) (fun c_2 => ?_)
    · have h := nb_t c_2 h
      refine lv_iconst (v := (1 : Int32)) hx hb dX1_levelOf_94 (by decide) ?_
      obtain rfl := nb_e3 h
      exact nb_iret hx hb hr hlk hP hS dX1_levelOf_95
    · have h := nb_f c_2 h
      refine nb_split (fun c_3 => ?_) (fun c_3 => ?_)
      · have h := nb_t c_3 h
        refine lv_iconst (v := (4 : Int32)) hx hb dX1_levelOf_100 (by decide) ?_
        obtain rfl := nb_e3 h
        exact nb_iret hx hb hr hlk hP hS dX1_levelOf_101
      · have h := nb_f c_3 h
        refine nb_split (fun c_4 => ?_) (fun c_4 => ?_)
        · have h := nb_t c_4 h
          refine lv_iconst (v := (3 : Int32)) hx hb dX1_levelOf_98 (by decide) ?_
          obtain rfl := nb_e3 h
          exact nb_iret hx hb hr hlk hP hS dX1_levelOf_99
        · have h := nb_f c_4 h
          refine nb_split (fun c_5 => ?_) (fun c_5 => ?_)
          · have h := nb_t c_5 h
            refine lv_iconst (v := (3 : Int32)) hx hb dX1_levelOf_98 (by decide) ?_
            obtain rfl := nb_e3 h
            exact nb_iret hx hb hr hlk hP hS dX1_levelOf_99
          · have h := nb_f c_5 h
            refine nb_split (fun c_6 => ?_) (fun c_6 => ?_)
            · have h := nb_t c_6 h
              refine lv_iconst (v := (4 : Int32)) hx hb dX1_levelOf_100 (by decide) ?_
              obtain rfl := nb_e3 h
              exact nb_iret hx hb hr hlk hP hS dX1_levelOf_101
            · have h := nb_f c_6 h
              refine nb_split (fun c_7 => ?_) (fun c_7 => ?_)
              · have h := nb_t c_7 h
                refine lv_iconst (v := (2 : Int32)) hx hb dX1_levelOf_96 (by decide) ?_
                obtain rfl := nb_e3 h
                exact nb_iret hx hb hr hlk hP hS dX1_levelOf_97
              · have h := nb_f c_7 h
                refine nb_split (fun c_8 => ?_) (fun c_8 => ?_)
                · have h := nb_t c_8 h
                  refine lv_iconst (v := (2 : Int32)) hx hb dX1_levelOf_96 (by decide) ?_
                  obtain rfl := nb_e3 h
                  exact nb_iret hx hb hr hlk hP hS dX1_levelOf_97
                · have h := nb_f c_8 h
                  refine nb_split (fun c_9 => ?_) (fun c_9 => ?_)
                  · have h := nb_t c_9 h
                    refine lv_iconst (v := (2 : Int32)) hx hb dX1_levelOf_96 (by decide) ?_
                    obtain rfl := nb_e3 h
                    exact nb_iret hx hb hr hlk hP hS dX1_levelOf_97
                  · have h := nb_f c_9 h
                    refine nb_split (fun c_10 => ?_) (fun c_10 => ?_)
                    · have h := nb_t c_10 h
                      refine lv_iconst (v := (0 : Int32)) hx hb dX1_levelOf_92 (by decide) ?_
                      obtain rfl := nb_e3 h
                      exact nb_iret hx hb hr hlk hP hS dX1_levelOf_93
                    · have h := nb_f c_10 h
                      refine W.eq (g2 := F0 m 102 ls []) rfl ?_
                      refine lv_iconst (v := (-1 : Int32)) hx hb dX1_levelOf_102 (by decide) ?_
                      obtain rfl := nb_e3 h
                      exact nb_iret hx hb hr hlk hP hS dX1_levelOf_103
set_option maxHeartbeats 4000000 in
set_option maxRecDepth 100000 in
theorem k_X1_step {M' : nb_M} (had : nb_AD ad b0) (M N : nb_M) (p0 : Int32) (h : f_X1_step M p0 = some (M')) : nb_C l D ad ca b0 yX1_step wsX1_step 0 [.ref (ad 35), .int p0] M N none M' N := by
  refine nb_of (cc := cX1_step) (maxL := 2) (ret := none) (own := RX1) (by decide +kernel) rfl rfl (Nat.le_of_ble_eq_true rfl) ?_
  intro p e s m args below meth c ls X hP hS hl
  have hl : lv_has ls 2 [(0, .ref (ad 35)), (1, .int p0)] := hl
  obtain ⟨hx, hb, hml, hown, hts, hr, hlk, hK, hZ⟩ := id X
  have w_1 := hts (.fieldLink RX1 34 "NineBreakages$Reader" "stepped" "I") (by decide +kernel)
  have in1 : ∀ w ∈ u_ws RX1 TX1 6, w ∈ wsX1_step := fun w q => List.mem_cons_of_mem _ (List.mem_append_right _ q)
  have w_3 := hts (.fieldLink RX1 9 "NineBreakages$Reader" "steps" "[I") (by decide +kernel)
  unfold f_X1_step at h
  refine lv_aload_n hx hb dX1_step_0 rfl (lv_at hl 0 rfl) ?_
  refine va_get (v := .int (M.1 35 1)) (C := RX1) (T := TX1) (N := 6) hx hb hts in1 hown hK.1 hP 35 nb_a35 rfl 1 (by decide) w_1 (fun _ h9 => h9) rfl dX1_step_1 ?_
  refine lv_bipush (v := (60 : Int32)) hx hb dX1_step_4 (by decide) ?_
  refine lv_icmp_ge (tgt := 29) hx hb dX1_step_6 (by decide) (fun c_1 => ?_) (fun c_1 => ?_)
  · have h := nb_t c_1 h
    obtain rfl := nb_e1 h
    exact nb_vret hx hb hr hlk hP hS dX1_step_29
  · have h := nb_f c_1 h
    refine lv_aload_n hx hb dX1_step_9 rfl (lv_at hl 0 rfl) ?_
    refine va_get (v := .ref (ad 36)) (C := RX1) (T := TX1) (N := 6) hx hb hts in1 hown hK.1 hP 35 nb_a35 rfl 0 (by decide) w_3 (fun _ h9 => h9) rfl dX1_step_10 ?_
    refine lv_aload_n hx hb dX1_step_13 rfl (lv_at hl 0 rfl) ?_
    refine va_get (v := .int (M.1 35 1)) (C := RX1) (T := TX1) (N := 6) hx hb hts in1 hown hK.1 hP 35 nb_a35 rfl 1 (by decide) w_1 (fun _ h9 => h9) rfl dX1_step_14 ?_
    refine lv_iload_n hx hb dX1_step_17 rfl (lv_at hl 1 rfl) ?_
    obtain ⟨c_2, h⟩ := nb_c h
    refine nb_iast hx hb had hK hP hS nb_a36 c_2 (nb_t36 _ _) dX1_step_18 (fun H locs hP hS => ?_)
    obtain ⟨M_3, e_3, h⟩ := nb_nE h
    rw [e_3] at hP
    refine lv_aload_n hx hb dX1_step_19 rfl (lv_at hl 0 rfl) ?_
    refine lv_dup hx hb dX1_step_20 rfl ?_
    refine va_get (v := .int (M_3.1 35 1)) (C := RX1) (T := TX1) (N := 6) hx hb hts in1 hown hK.1 hP 35 nb_a35 rfl 1 (by decide) w_1 (fun _ h9 => h9) rfl dX1_step_21 ?_
    refine lv_iconst (v := (1 : Int32)) hx hb dX1_step_24 (by decide) ?_
    refine lv_iadd hx hb dX1_step_25 ?_
    refine nb_put (C := RX1) (T := TX1) (NN := 6) hx hb had hts in1 tyX1 tyX1_ok nmX1 hown hK hP hS nb_a35 rfl 1 (by decide) w_1 rfl (ty := .int) (by decide +kernel) rfl rfl (Nat.le_of_ble_eq_true rfl) (nb_p35_1 _) dX1_step_26 (fun H locs hP hS => ?_)
    obtain ⟨M_4, e_4, h⟩ := nb_nE h
    rw [e_4] at hP
    obtain rfl := nb_e1 h
    exact nb_vret hx hb hr hlk hP hS dX1_step_29
set_option maxHeartbeats 4000000 in
set_option maxRecDepth 100000 in
theorem k_X1_isDigit (had : nb_AD ad b0) (M N : nb_M) (p0 : Int32) : nb_C l D ad ca b0 yX1_isDigit wsX1_isDigit 0 [.int p0] M N (some (.int (f_X1_isDigit p0))) M N := by
  obtain ⟨r, h⟩ : ∃ r, f_X1_isDigit p0 = r := ⟨_, rfl⟩
  rw [h]
  refine nb_of (cc := cX1_isDigit) (maxL := 1) (ret := (some .boolean)) (own := RX1) (by decide +kernel) rfl rfl (Nat.le_of_ble_eq_true rfl) ?_
  intro p e s m args below meth c ls X hP hS hl
  have hl : lv_has ls 1 [(0, .int p0)] := hl
  obtain ⟨hx, hb, hml, hown, hts, hr, hlk, hK, hZ⟩ := id X
  unfold f_X1_isDigit at h
  refine lv_iload_n hx hb dX1_isDigit_0 rfl (lv_at hl 0 rfl) ?_
  refine lv_bipush (v := (48 : Int32)) hx hb dX1_isDigit_1 (by decide) ?_
  refine lv_icmp_lt (tgt := 16) hx hb dX1_isDigit_3 (by decide) (fun c_1 => ?_) (fun c_1 => ?_)
  · have h := nb_t c_1 h
    refine lv_iconst (v := (0 : Int32)) hx hb dX1_isDigit_16 (by decide) ?_
    obtain rfl := nb_e3 h
    exact nb_zret (by decide) hx hb hr hlk hP hS dX1_isDigit_17
  · have h := nb_f c_1 h
    refine lv_iload_n hx hb dX1_isDigit_6 rfl (lv_at hl 0 rfl) ?_
    refine lv_bipush (v := (57 : Int32)) hx hb dX1_isDigit_7 (by decide) ?_
    refine lv_icmp_gt (tgt := 16) hx hb dX1_isDigit_9 (by decide) (fun c_2 => ?_) (fun c_2 => ?_)
    · have h := nb_t c_2 h
      refine lv_iconst (v := (0 : Int32)) hx hb dX1_isDigit_16 (by decide) ?_
      obtain rfl := nb_e3 h
      exact nb_zret (by decide) hx hb hr hlk hP hS dX1_isDigit_17
    · have h := nb_f c_2 h
      refine lv_iconst (v := (1 : Int32)) hx hb dX1_isDigit_12 (by decide) ?_
      refine lv_goto (tgt := 17) hx hb dX1_isDigit_13 (by decide) ?_
      obtain rfl := nb_e3 h
      exact nb_zret (by decide) hx hb hr hlk hP hS dX1_isDigit_17
set_option maxHeartbeats 4000000 in
set_option maxRecDepth 100000 in
theorem w_X1_nameOf_2 {N : nb_M} {r : Int32} (had : nb_AD ad b0) (X : nb_X p s m args meth c cX1_nameOf 3 RX1 (some .int) wsX1_nameOf D ca b0) : ∀ (n : Nat) (M : nb_M) (x1 : Int32) (x2 : Int32), f_X1_nameOf_2 n M x1 x2 = some r → ∀ (H : Heap) (locs : List Loc), va_P D vwCl (nb_w ad ca M N) H → va_S (fun q => b0 ≤ q) s.heap H locs → ∀ ls : Array Slot, lv_has ls 3 [(0, .ref (ad 35)), (1, .int x1), (2, .int x2)] → W p l e (nb_R 0) s m args below meth c H locs 0 0 (nb_Q below args s D ad ca b0 (some (.int r)) M N) (F0 m 2 ls []) := by
  obtain ⟨hx, hb, hml, hown, hts, hr, hlk, hK, hZ⟩ := id X
  obtain ⟨t1, t2, t3, ⟨hZ1, hT1⟩, ⟨hZ2, hT2⟩, ⟨hZ3, hT3⟩⟩ := id hZ
  obtain ⟨_, hN1, hN2, hN3, hN4, hN5, hN6⟩ := id hK
  have w_1 := hts (.fieldLink RX1 28 "NineBreakages$Reader" "use" "I") (by decide +kernel)
  have in1 : ∀ w ∈ u_ws RX1 TX1 6, w ∈ wsX1_nameOf := fun w q => List.mem_cons_of_mem _ (List.mem_append_right _ q)
  intro n
  induction n with
  | zero =>
    intro M x1 x2 h
    rw [f_X1_nameOf_2] at h
    cases h
  | succ n ih =>
    intro M x1 x2 h H locs hP hS ls hl
    rw [f_X1_nameOf_2] at h
    refine lv_iload_n hx hb dX1_nameOf_2 rfl (lv_at hl 2 rfl) ?_
    refine lv_iconst (v := (3 : Int32)) hx hb dX1_nameOf_3 (by decide) ?_
    refine lv_icmp_ge (tgt := 37) hx hb dX1_nameOf_4 (by decide) (fun c_1 => ?_) (fun c_1 => ?_)
    · have h := nb_t c_1 h
      refine lv_iload_n hx hb dX1_nameOf_37 rfl (lv_at hl 2 rfl) ?_
      obtain rfl := nb_e1 h
      exact nb_iret hx hb hr hlk hP hS dX1_nameOf_38
    · have h := nb_f c_1 h
      refine lv_iload_n hx hb dX1_nameOf_7 rfl (lv_at hl 1 rfl) ?_
      refine lv_aload_n hx hb dX1_nameOf_8 rfl (lv_at hl 0 rfl) ?_
      refine va_get (v := .int (M.1 35 5)) (C := RX1) (T := TX1) (N := 6) hx hb hts in1 hown hK.1 hP 35 nb_a35 rfl 5 (by decide) w_1 (fun _ h9 => h9) rfl dX1_nameOf_9 ?_
      refine lv_if_ne (tgt := 23) hx hb dX1_nameOf_12 (by decide) (fun c_2 => ?_) (fun c_2 => ?_)
      · have h := nb_f c_2 h
        refine va_getsN hx hb hZ3 hS hown (hN6.use rfl) (fun _ h9 => h9) dX1_nameOf_23 ?_
        refine lv_iload_n hx hb dX1_nameOf_26 rfl (lv_at hl 2 rfl) ?_
        obtain ⟨c_3, h⟩ := nb_c h
        refine va_tc (v := .int (nb_yn x2.toNatClampNeg)) hx hb hT3 hS c_3 rfl dX1_nameOf_27 ?_
        refine lv_icmp_eq (tgt := 37) hx hb dX1_nameOf_28 (by decide) (fun c_4 => ?_) (fun c_4 => ?_)
        · have h := nb_t c_4 h
          refine lv_iload_n hx hb dX1_nameOf_37 rfl (lv_at hl 2 rfl) ?_
          obtain rfl := nb_e1 h
          exact nb_iret hx hb hr hlk hP hS dX1_nameOf_38
        · have h := nb_f c_4 h
          refine lv_iinc (v := x2 + 1) (lv' := [(2, .int (x2 + 1)), (0, .ref (ad 35)), (1, .int x1)]) hx hb dX1_nameOf_31 hl (k := 2) rfl (congrArg (HAdd.hAdd x2) (by decide)) (by decide) rfl (fun ls hl => ?_)
          refine lv_goto (tgt := 2) hx hb dX1_nameOf_34 (by decide) ?_
          exact ih _ _ _ h _ _ hP hS _ (lv_sub hl [1, 2, 0] rfl)
      · have h := nb_t c_2 h
        refine va_getsN hx hb hZ2 hS hown (hN5.use rfl) (fun _ h9 => h9) dX1_nameOf_15 ?_
        refine lv_iload_n hx hb dX1_nameOf_18 rfl (lv_at hl 2 rfl) ?_
        obtain ⟨c_5, h⟩ := nb_c h
        refine va_tc (v := .int (nb_rn x2.toNatClampNeg)) hx hb hT2 hS c_5 rfl dX1_nameOf_19 ?_
        refine lv_goto (tgt := 28) hx hb dX1_nameOf_20 (by decide) ?_
        refine lv_icmp_eq (tgt := 37) hx hb dX1_nameOf_28 (by decide) (fun c_6 => ?_) (fun c_6 => ?_)
        · have h := nb_t c_6 h
          refine lv_iload_n hx hb dX1_nameOf_37 rfl (lv_at hl 2 rfl) ?_
          obtain rfl := nb_e1 h
          exact nb_iret hx hb hr hlk hP hS dX1_nameOf_38
        · have h := nb_f c_6 h
          refine lv_iinc (v := x2 + 1) (lv' := [(2, .int (x2 + 1)), (0, .ref (ad 35)), (1, .int x1)]) hx hb dX1_nameOf_31 hl (k := 2) rfl (congrArg (HAdd.hAdd x2) (by decide)) (by decide) rfl (fun ls hl => ?_)
          refine lv_goto (tgt := 2) hx hb dX1_nameOf_34 (by decide) ?_
          exact ih _ _ _ h _ _ hP hS _ (lv_sub hl [1, 2, 0] rfl)
set_option maxHeartbeats 4000000 in
set_option maxRecDepth 100000 in
theorem k_X1_nameOf {r : Int32} (had : nb_AD ad b0) (M N : nb_M) (p0 : Int32) (h : f_X1_nameOf M p0 = some r) : nb_C l D ad ca b0 yX1_nameOf wsX1_nameOf 0 [.ref (ad 35), .int p0] M N (some (.int r)) M N := by
  refine nb_of (cc := cX1_nameOf) (maxL := 3) (ret := (some .int)) (own := RX1) (by decide +kernel) rfl rfl (Nat.le_of_ble_eq_true rfl) ?_
  intro p e s m args below meth c ls X hP hS hl
  have hl : lv_has ls 3 [(0, .ref (ad 35)), (1, .int p0)] := hl
  obtain ⟨hx, hb, hml, hown, hts, hr, hlk, hK, hZ⟩ := id X
  unfold f_X1_nameOf at h
  refine lv_iconst (v := (0 : Int32)) hx hb dX1_nameOf_0 (by decide) ?_
  refine lv_istore_n (lv' := [(2, .int (0 : Int32)), (0, .ref (ad 35)), (1, .int p0)]) hx hb dX1_nameOf_1 rfl hl (by decide) rfl (fun ls hl => ?_)
  exact w_X1_nameOf_2 had X nb_F _ _ _ h _ _ hP hS _ (lv_sub hl [1, 2, 0] rfl)
set_option maxHeartbeats 4000000 in
set_option maxRecDepth 100000 in
theorem w_X1_readNumber_4 {N : nb_M} {M' : nb_M} (had : nb_AD ad b0) (X : nb_X p s m args meth c cX1_readNumber 3 RX1 none wsX1_readNumber D ca b0) : ∀ (n : Nat) (M : nb_M) (x1 : Int32) (x2 : Int32), f_X1_readNumber_4 n M x1 x2 = some (M') → ∀ (H : Heap) (locs : List Loc), va_P D vwCl (nb_w ad ca M N) H → va_S (fun q => b0 ≤ q) s.heap H locs → ∀ ls : Array Slot, lv_has ls 3 [(0, .ref (ad 35)), (1, .int x1), (2, .int x2)] → W p l e (nb_R 1) s m args below meth c H locs 0 0 (nb_Q below args s D ad ca b0 none M' N) (F0 m 4 ls []) := by
  obtain ⟨hx, hb, hml, hown, hts, hr, hlk, hK, hZ⟩ := id X
  have w_1 := hts (.fieldLink RX1 31 "NineBreakages$Reader" "at" "I") (by decide +kernel)
  have in1 : ∀ w ∈ u_ws RX1 TX1 6, w ∈ wsX1_readNumber := fun w q => List.mem_cons_of_mem _ (List.mem_append_right _ q)
  intro n
  induction n with
  | zero =>
    intro M x1 x2 h
    rw [f_X1_readNumber_4] at h
    cases h
  | succ n ih =>
    intro M x1 x2 h H locs hP hS ls hl
    rw [f_X1_readNumber_4] at h
    refine lv_iload_n hx hb dX1_readNumber_4 rfl (lv_at hl 2 rfl) ?_
    refine lv_iconst (v := (4 : Int32)) hx hb dX1_readNumber_5 (by decide) ?_
    refine lv_icmp_ge (tgt := 48) hx hb dX1_readNumber_6 (by decide) (fun c_1 => ?_) (fun c_1 => ?_)
    · have h := nb_t c_1 h
      refine lv_aload_n hx hb dX1_readNumber_48 rfl (lv_at hl 0 rfl) ?_
      refine lv_iload_n hx hb dX1_readNumber_49 rfl (lv_at hl 1 rfl) ?_
      obtain ⟨M_2, e_2, h⟩ := nb_oE h
      refine nb_callV (n := 1) (As := [.int x1]) (rest := []) hx hb hml hown hts hK hZ hP hS (k_X1_step had M N x1 e_2) gX1_readNumber_X1_step rfl (by decide +kernel) (nb_rm (Nat.le_of_ble_eq_true rfl) (Nat.le_of_ble_eq_true rfl)) nb_a35 rfl rfl rfl hl.1 rfl (Nat.le_of_ble_eq_true rfl) dX1_readNumber_50 (fun H locs hP hS => ?_)
      refine W.eq (g2 := F0 m 53 ls []) rfl ?_
      obtain rfl := nb_e1 h
      exact nb_vret hx hb hr hlk hP hS dX1_readNumber_53
    · have h := nb_f c_1 h
      refine lv_aload_n hx hb dX1_readNumber_9 rfl (lv_at hl 0 rfl) ?_
      obtain ⟨r_3, e_3, h⟩ := nb_oE h
      refine nb_callV (n := 0) (As := []) (rest := []) hx hb hml hown hts hK hZ hP hS (k_X1_next had M N e_3) gX1_readNumber_X1_next rfl (by decide +kernel) (nb_rm (Nat.le_of_ble_eq_true rfl) (Nat.le_of_ble_eq_true rfl)) nb_a35 rfl rfl rfl hl.1 rfl (Nat.le_of_ble_eq_true rfl) dX1_readNumber_10 (fun H locs hP hS => ?_)
      refine W.eq (g2 := F0 m 13 ls [.int r_3]) rfl ?_
      refine nb_callS (n := 1) (As := [.int r_3]) (rest := []) hx hb hml hown hts hK hZ hP hS (k_X1_isDigit had M N r_3) gX1_readNumber_X1_isDigit rfl (by decide +kernel) (nb_rm (Nat.le_of_ble_eq_true rfl) (Nat.le_of_ble_eq_true rfl)) rfl hl.1 rfl (Nat.le_of_ble_eq_true rfl) dX1_readNumber_13 (fun H locs hP hS => ?_)
      refine W.eq (g2 := F0 m 16 ls [.int (f_X1_isDigit r_3)]) rfl ?_
      refine lv_if_eq (tgt := 48) hx hb dX1_readNumber_16 (by decide) (fun c_5 => ?_) (fun c_5 => ?_)
      · have h := nb_t c_5 h
        refine lv_aload_n hx hb dX1_readNumber_48 rfl (lv_at hl 0 rfl) ?_
        refine lv_iload_n hx hb dX1_readNumber_49 rfl (lv_at hl 1 rfl) ?_
        obtain ⟨M_6, e_6, h⟩ := nb_oE h
        refine nb_callV (n := 1) (As := [.int x1]) (rest := []) hx hb hml hown hts hK hZ hP hS (k_X1_step had M N x1 e_6) gX1_readNumber_X1_step rfl (by decide +kernel) (nb_rm (Nat.le_of_ble_eq_true rfl) (Nat.le_of_ble_eq_true rfl)) nb_a35 rfl rfl rfl hl.1 rfl (Nat.le_of_ble_eq_true rfl) dX1_readNumber_50 (fun H locs hP hS => ?_)
        refine W.eq (g2 := F0 m 53 ls []) rfl ?_
        obtain rfl := nb_e1 h
        exact nb_vret hx hb hr hlk hP hS dX1_readNumber_53
      · have h := nb_f c_5 h
        refine lv_bipush (v := (10 : Int32)) hx hb dX1_readNumber_19 (by decide) ?_
        refine lv_iload_n hx hb dX1_readNumber_21 rfl (lv_at hl 1 rfl) ?_
        refine lv_imul hx hb dX1_readNumber_22 ?_
        refine lv_aload_n hx hb dX1_readNumber_23 rfl (lv_at hl 0 rfl) ?_
        obtain ⟨r_7, e_7, h⟩ := nb_oE h
        refine nb_callV (n := 0) (As := []) (rest := [.int ((10 : Int32) * x1)]) hx hb hml hown hts hK hZ hP hS (k_X1_next had M N e_7) gX1_readNumber_X1_next rfl (by decide +kernel) (nb_rm (Nat.le_of_ble_eq_true rfl) (Nat.le_of_ble_eq_true rfl)) nb_a35 rfl rfl rfl hl.1 rfl (Nat.le_of_ble_eq_true rfl) dX1_readNumber_24 (fun H locs hP hS => ?_)
        refine W.eq (g2 := F0 m 27 ls [.int r_7, .int ((10 : Int32) * x1)]) rfl ?_
        refine lv_iadd hx hb dX1_readNumber_27 ?_
        refine lv_bipush (v := (48 : Int32)) hx hb dX1_readNumber_28 (by decide) ?_
        refine lv_isub hx hb dX1_readNumber_30 ?_
        refine lv_topi (fun v_8 e_8 => ?_)
        have h := nb_nA e_8 h
        refine lv_istore_n (lv' := [(1, .int v_8), (0, .ref (ad 35)), (2, .int x2)]) hx hb dX1_readNumber_31 rfl hl (by decide) rfl (fun ls hl => ?_)
        refine lv_aload_n hx hb dX1_readNumber_32 rfl (lv_at hl 1 rfl) ?_
        refine lv_dup hx hb dX1_readNumber_33 rfl ?_
        refine va_get (v := .int (M.1 35 2)) (C := RX1) (T := TX1) (N := 6) hx hb hts in1 hown hK.1 hP 35 nb_a35 rfl 2 (by decide) w_1 (fun _ h9 => h9) rfl dX1_readNumber_34 ?_
        refine lv_iconst (v := (1 : Int32)) hx hb dX1_readNumber_37 (by decide) ?_
        refine lv_iadd hx hb dX1_readNumber_38 ?_
        refine nb_put (C := RX1) (T := TX1) (NN := 6) hx hb had hts in1 tyX1 tyX1_ok nmX1 hown hK hP hS nb_a35 rfl 2 (by decide) w_1 rfl (ty := .int) (by decide +kernel) rfl rfl (Nat.le_of_ble_eq_true rfl) (nb_p35_2 _) dX1_readNumber_39 (fun H locs hP hS => ?_)
        obtain ⟨M_9, e_9, h⟩ := nb_nE h
        rw [e_9] at hP
        refine lv_iinc (v := x2 + 1) (lv' := [(2, .int (x2 + 1)), (1, .int v_8), (0, .ref (ad 35))]) hx hb dX1_readNumber_42 hl (k := 2) rfl (congrArg (HAdd.hAdd x2) (by decide)) (by decide) rfl (fun ls hl => ?_)
        refine lv_goto (tgt := 4) hx hb dX1_readNumber_45 (by decide) ?_
        exact ih _ _ _ h _ _ hP hS _ (lv_sub hl [2, 1, 0] rfl)
set_option maxHeartbeats 4000000 in
set_option maxRecDepth 100000 in
theorem k_X1_readNumber {M' : nb_M} (had : nb_AD ad b0) (M N : nb_M) (h : f_X1_readNumber M = some (M')) : nb_C l D ad ca b0 yX1_readNumber wsX1_readNumber 1 [.ref (ad 35)] M N none M' N := by
  refine nb_of (cc := cX1_readNumber) (maxL := 3) (ret := none) (own := RX1) (by decide +kernel) rfl rfl (Nat.le_of_ble_eq_true rfl) ?_
  intro p e s m args below meth c ls X hP hS hl
  have hl : lv_has ls 3 [(0, .ref (ad 35))] := hl
  obtain ⟨hx, hb, hml, hown, hts, hr, hlk, hK, hZ⟩ := id X
  unfold f_X1_readNumber at h
  refine lv_iconst (v := (0 : Int32)) hx hb dX1_readNumber_0 (by decide) ?_
  refine lv_istore_n (lv' := [(1, .int (0 : Int32)), (0, .ref (ad 35))]) hx hb dX1_readNumber_1 rfl hl (by decide) rfl (fun ls hl => ?_)
  refine lv_iconst (v := (0 : Int32)) hx hb dX1_readNumber_2 (by decide) ?_
  refine lv_istore_n (lv' := [(2, .int (0 : Int32)), (1, .int (0 : Int32)), (0, .ref (ad 35))]) hx hb dX1_readNumber_3 rfl hl (by decide) rfl (fun ls hl => ?_)
  exact w_X1_readNumber_4 had X nb_F _ _ _ h _ _ hP hS _ (lv_sub hl [2, 1, 0] rfl)
def g_RD (l : Launch) (D : va_G) (ad : Nat → Nat) (ca : Nat → ClassId) (b0 d s : Nat) (a b : Int32) (M N : nb_M) (r : Int32) (M' : nb_M) : Prop :=
  if s = 0 then nb_C l D ad ca b0 yX1_readsLevel wsX1_readsLevel (d + 2) [.ref (ad 35), .int a, .int b] M N (some (.int r)) M' N
  else if s = 1 then nb_C l D ad ca b0 yX1_readsOne wsX1_readsOne (d + 2) [.ref (ad 35), .int a] M N (some (.int r)) M' N
  else if s = 2 then nb_C l D ad ca b0 yX1_readsNot wsX1_readsNot (d + 2) [.ref (ad 35), .int a] M N (some (.int r)) M' N
  else if s = 3 then nb_C l D ad ca b0 yX1_readsBraced wsX1_readsBraced (d + 2) [.ref (ad 35), .int a] M N (some (.int r)) M' N
  else True
theorem g_RD_0 {d : Nat} {a b : Int32} {M N : nb_M} {r : Int32} {M' : nb_M} (h : g_RD l D ad ca b0 d 0 a b M N r M') : nb_C l D ad ca b0 yX1_readsLevel wsX1_readsLevel (d + 2) [.ref (ad 35), .int a, .int b] M N (some (.int r)) M' N := h
theorem g_RD_1 {d : Nat} {a b : Int32} {M N : nb_M} {r : Int32} {M' : nb_M} (h : g_RD l D ad ca b0 d 1 a b M N r M') : nb_C l D ad ca b0 yX1_readsOne wsX1_readsOne (d + 2) [.ref (ad 35), .int a] M N (some (.int r)) M' N := h
theorem g_RD_2 {d : Nat} {a b : Int32} {M N : nb_M} {r : Int32} {M' : nb_M} (h : g_RD l D ad ca b0 d 2 a b M N r M') : nb_C l D ad ca b0 yX1_readsNot wsX1_readsNot (d + 2) [.ref (ad 35), .int a] M N (some (.int r)) M' N := h
theorem g_RD_3 {d : Nat} {a b : Int32} {M N : nb_M} {r : Int32} {M' : nb_M} (h : g_RD l D ad ca b0 d 3 a b M N r M') : nb_C l D ad ca b0 yX1_readsBraced wsX1_readsBraced (d + 2) [.ref (ad 35), .int a] M N (some (.int r)) M' N := h
set_option maxHeartbeats 4000000 in
set_option maxRecDepth 100000 in
theorem w_X1_readsLevel_50 {d : Nat} {N : nb_M} {r : Int32} {M' : nb_M} (had : nb_AD ad b0) (X : nb_X p s m args meth c cX1_readsLevel 6 RX1 (some .boolean) wsX1_readsLevel D ca b0) (rc : Nat → nb_M → Int32 → Int32 → Option (Int32 × nb_M)) (hrc : ∀ (s : Nat) (M : nb_M) (a b : Int32) (r : Int32) (M' : nb_M), rc s M a b = some (r, M') → ∀ N : nb_M, g_RD l D ad ca b0 d s a b M N r M') : ∀ (n : Nat) (M : nb_M) (x1 : Int32) (x2 : Int32) (x3 : Int32) (x4 : Int32) (x5 : Int32), f_X1_readsLevel_50 rc n M x1 x2 x3 x4 x5 = some (r, M') → ∀ (H : Heap) (locs : List Loc), va_P D vwCl (nb_w ad ca M N) H → va_S (fun q => b0 ≤ q) s.heap H locs → ∀ ls : Array Slot, lv_has ls 6 [(0, .ref (ad 35)), (1, .int x1), (2, .int x2), (3, .int x3), (4, .int x4), (5, .int x5)] → W p l e (nb_R (d + 3)) s m args below meth c H locs 0 0 (nb_Q below args s D ad ca b0 (some (.int r)) M' N) (F0 m 50 ls []) := by
  obtain ⟨hx, hb, hml, hown, hts, hr, hlk, hK, hZ⟩ := id X
  have w_1 := hts (.fieldLink RX1 31 "NineBreakages$Reader" "at" "I") (by decide +kernel)
  have in1 : ∀ w ∈ u_ws RX1 TX1 6, w ∈ wsX1_readsLevel := fun w q => List.mem_cons_of_mem _ (List.mem_append_right _ q)
  intro n
  induction n with
  | zero =>
    intro M x1 x2 x3 x4 x5 h
    rw [f_X1_readsLevel_50] at h
    cases h
  | succ n ih =>
    intro M x1 x2 x3 x4 x5 h H locs hP hS ls hl
    rw [f_X1_readsLevel_50] at h
    refine lv_iload hx hb dX1_readsLevel_50 (lv_at hl 5 rfl) ?_
    refine lv_iload_n hx hb dX1_readsLevel_52 rfl (lv_at hl 3 rfl) ?_
    refine lv_icmp_ge (tgt := 110) hx hb dX1_readsLevel_53 (by decide) (fun c_7 => ?_) (fun c_7 => ?_)
    · have h := nb_t c_7 h
      refine lv_iconst (v := (1 : Int32)) hx hb dX1_readsLevel_110 (by decide) ?_
      obtain ⟨rfl, rfl⟩ := nb_e2 h
      exact nb_zret (by decide) hx hb hr hlk hP hS dX1_readsLevel_111
    · have h := nb_f c_7 h
      refine lv_iload hx hb dX1_readsLevel_56 (lv_at hl 4 rfl) ?_
      refine nb_callS (n := 1) (As := [.int x4]) (rest := []) hx hb hml hown hts hK hZ hP hS (k_X1_levelOf had M N x4) gX1_readsLevel_X1_levelOf rfl (by decide +kernel) (nb_rm (by omega) (Nat.le_of_ble_eq_true rfl)) rfl hl.1 rfl (Nat.le_of_ble_eq_true rfl) dX1_readsLevel_58 (fun H locs hP hS => ?_)
      refine W.eq (g2 := F0 m 61 ls [.int (f_X1_levelOf x4)]) rfl ?_
      refine lv_iload_n hx hb dX1_readsLevel_61 rfl (lv_at hl 1 rfl) ?_
      refine lv_icmp_ne (tgt := 110) hx hb dX1_readsLevel_62 (by decide) (fun c_9 => ?_) (fun c_9 => ?_)
      · have h := nb_f c_9 h
        refine lv_iconst (v := (1 : Int32)) hx hb dX1_readsLevel_110 (by decide) ?_
        obtain ⟨rfl, rfl⟩ := nb_e2 h
        exact nb_zret (by decide) hx hb hr hlk hP hS dX1_readsLevel_111
      · have h := nb_t c_9 h
        refine lv_aload_n hx hb dX1_readsLevel_65 rfl (lv_at hl 0 rfl) ?_
        refine lv_dup hx hb dX1_readsLevel_66 rfl ?_
        refine va_get (v := .int (M.1 35 2)) (C := RX1) (T := TX1) (N := 6) hx hb hts in1 hown hK.1 hP 35 nb_a35 rfl 2 (by decide) w_1 (fun _ h9 => h9) rfl dX1_readsLevel_67 ?_
        refine lv_iconst (v := (1 : Int32)) hx hb dX1_readsLevel_70 (by decide) ?_
        refine lv_iadd hx hb dX1_readsLevel_71 ?_
        refine nb_put (C := RX1) (T := TX1) (NN := 6) hx hb had hts in1 tyX1 tyX1_ok nmX1 hown hK hP hS nb_a35 rfl 2 (by decide) w_1 rfl (ty := .int) (by decide +kernel) rfl rfl (Nat.le_of_ble_eq_true rfl) (nb_p35_2 _) dX1_readsLevel_72 (fun H locs hP hS => ?_)
        obtain ⟨M_10, e_10, h⟩ := nb_nE h
        rw [e_10] at hP
        refine lv_aload_n hx hb dX1_readsLevel_75 rfl (lv_at hl 0 rfl) ?_
        refine lv_iload_n hx hb dX1_readsLevel_76 rfl (lv_at hl 1 rfl) ?_
        refine lv_iconst (v := (1 : Int32)) hx hb dX1_readsLevel_77 (by decide) ?_
        refine lv_iadd hx hb dX1_readsLevel_78 ?_
        refine lv_iload_n hx hb dX1_readsLevel_79 rfl (lv_at hl 2 rfl) ?_
        obtain ⟨r_11, M_11, e_11, h⟩ := nb_pE h
        refine nb_callV (n := 2) (As := [.int (x1 + (1 : Int32)), .int x2]) (rest := []) hx hb hml hown hts hK hZ hP hS (g_RD_0 (hrc 0 _ (x1 + (1 : Int32)) x2 _ _ e_11 N)) gX1_readsLevel_X1_readsLevel rfl (by decide +kernel) (nb_rm (by omega) (Nat.le_of_ble_eq_true rfl)) nb_a35 rfl rfl rfl hl.1 rfl (Nat.le_of_ble_eq_true rfl) dX1_readsLevel_80 (fun H locs hP hS => ?_)
        refine W.eq (g2 := F0 m 83 ls [.int r_11]) rfl ?_
        refine lv_if_ne (tgt := 88) hx hb dX1_readsLevel_83 (by decide) (fun c_12 => ?_) (fun c_12 => ?_)
        · have h := nb_f c_12 h
          refine lv_aload_n hx hb dX1_readsLevel_88 rfl (lv_at hl 0 rfl) ?_
          refine lv_sipush (v := (20000 : Int32)) hx hb dX1_readsLevel_89 (by decide) ?_
          refine lv_iload hx hb dX1_readsLevel_92 (lv_at hl 4 rfl) ?_
          refine lv_iadd hx hb dX1_readsLevel_94 ?_
          obtain ⟨M_13, e_13, h⟩ := nb_oE h
          refine nb_callV (n := 1) (As := [.int ((20000 : Int32) + x4)]) (rest := []) hx hb hml hown hts hK hZ hP hS (k_X1_step had M_11 N ((20000 : Int32) + x4) e_13) gX1_readsLevel_X1_step rfl (by decide +kernel) (nb_rm (by omega) (Nat.le_of_ble_eq_true rfl)) nb_a35 rfl rfl rfl hl.1 rfl (Nat.le_of_ble_eq_true rfl) dX1_readsLevel_95 (fun H locs hP hS => ?_)
          refine W.eq (g2 := F0 m 98 ls []) rfl ?_
          refine lv_aload_n hx hb dX1_readsLevel_98 rfl (lv_at hl 0 rfl) ?_
          obtain ⟨r_14, e_14, h⟩ := nb_oE h
          refine nb_callV (n := 0) (As := []) (rest := []) hx hb hml hown hts hK hZ hP hS (k_X1_next had M_13 N e_14) gX1_readsLevel_X1_next rfl (by decide +kernel) (nb_rm (by omega) (Nat.le_of_ble_eq_true rfl)) nb_a35 rfl rfl rfl hl.1 rfl (Nat.le_of_ble_eq_true rfl) dX1_readsLevel_99 (fun H locs hP hS => ?_)
          refine W.eq (g2 := F0 m 102 ls [.int r_14]) rfl ?_
          refine lv_istore (lv' := [(4, .int r_14), (0, .ref (ad 35)), (1, .int x1), (2, .int x2), (3, .int x3), (5, .int x5)]) hx hb dX1_readsLevel_102 hl (by decide) rfl (fun ls hl => ?_)
          refine lv_iinc (v := x5 + 1) (lv' := [(5, .int (x5 + 1)), (4, .int r_14), (0, .ref (ad 35)), (1, .int x1), (2, .int x2), (3, .int x3)]) hx hb dX1_readsLevel_104 hl (k := 5) rfl (congrArg (HAdd.hAdd x5) (by decide)) (by decide) rfl (fun ls hl => ?_)
          refine lv_goto (tgt := 50) hx hb dX1_readsLevel_107 (by decide) ?_
          exact ih _ _ _ _ _ _ h _ _ hP hS _ (lv_sub hl [2, 3, 4, 5, 1, 0] rfl)
        · have h := nb_t c_12 h
          refine lv_iconst (v := (0 : Int32)) hx hb dX1_readsLevel_86 (by decide) ?_
          obtain ⟨rfl, rfl⟩ := nb_e2 h
          exact nb_zret (by decide) hx hb hr hlk hP hS dX1_readsLevel_87
set_option maxHeartbeats 4000000 in
set_option maxRecDepth 100000 in
theorem k_X1_readsLevel {d : Nat} {r : Int32} {M' : nb_M} (had : nb_AD ad b0) (rc : Nat → nb_M → Int32 → Int32 → Option (Int32 × nb_M)) (hrc : ∀ (s : Nat) (M : nb_M) (a b : Int32) (r : Int32) (M' : nb_M), rc s M a b = some (r, M') → ∀ N : nb_M, g_RD l D ad ca b0 d s a b M N r M') (M N : nb_M) (p0 : Int32) (p1 : Int32) (h : f_X1_readsLevel rc M p0 p1 = some (r, M')) : nb_C l D ad ca b0 yX1_readsLevel wsX1_readsLevel (d + 3) [.ref (ad 35), .int p0, .int p1] M N (some (.int r)) M' N := by
  refine nb_of (cc := cX1_readsLevel) (maxL := 6) (ret := (some .boolean)) (own := RX1) (by decide +kernel) rfl rfl (Nat.le_of_ble_eq_true rfl) ?_
  intro p e s m args below meth c ls X hP hS hl
  have hl : lv_has ls 6 [(0, .ref (ad 35)), (1, .int p0), (2, .int p1)] := hl
  obtain ⟨hx, hb, hml, hown, hts, hr, hlk, hK, hZ⟩ := id X
  unfold f_X1_readsLevel at h
  refine lv_iload_n hx hb dX1_readsLevel_0 rfl (lv_at hl 1 rfl) ?_
  refine lv_iconst (v := (5 : Int32)) hx hb dX1_readsLevel_1 (by decide) ?_
  refine lv_icmp_lt (tgt := 11) hx hb dX1_readsLevel_2 (by decide) (fun c_1 => ?_) (fun c_1 => ?_)
  · have h := nb_t c_1 h
    refine lv_iload_n hx hb dX1_readsLevel_11 rfl (lv_at hl 2 rfl) ?_
    refine lv_iconst (v := (5 : Int32)) hx hb dX1_readsLevel_12 (by decide) ?_
    refine lv_icmp_gt (tgt := 27) hx hb dX1_readsLevel_13 (by decide) (fun c_2 => ?_) (fun c_2 => ?_)
    · have h := nb_t c_2 h
      refine lv_iconst (v := (0 : Int32)) hx hb dX1_readsLevel_27 (by decide) ?_
      obtain ⟨rfl, rfl⟩ := nb_e2 h
      exact nb_zret (by decide) hx hb hr hlk hP hS dX1_readsLevel_28
    · have h := nb_f c_2 h
      refine lv_aload_n hx hb dX1_readsLevel_16 rfl (lv_at hl 0 rfl) ?_
      refine lv_iload_n hx hb dX1_readsLevel_17 rfl (lv_at hl 1 rfl) ?_
      refine lv_iconst (v := (1 : Int32)) hx hb dX1_readsLevel_18 (by decide) ?_
      refine lv_iadd hx hb dX1_readsLevel_19 ?_
      refine lv_iload_n hx hb dX1_readsLevel_20 rfl (lv_at hl 2 rfl) ?_
      obtain ⟨r_3, M_3, e_3, h⟩ := nb_pE h
      refine nb_callV (n := 2) (As := [.int (p0 + (1 : Int32)), .int p1]) (rest := []) hx hb hml hown hts hK hZ hP hS (g_RD_0 (hrc 0 _ (p0 + (1 : Int32)) p1 _ _ e_3 N)) gX1_readsLevel_X1_readsLevel rfl (by decide +kernel) (nb_rm (by omega) (Nat.le_of_ble_eq_true rfl)) nb_a35 rfl rfl rfl hl.1 rfl (Nat.le_of_ble_eq_true rfl) dX1_readsLevel_21 (fun H locs hP hS => ?_)
      refine W.eq (g2 := F0 m 24 ls [.int r_3]) rfl ?_
      refine lv_if_ne (tgt := 29) hx hb dX1_readsLevel_24 (by decide) (fun c_4 => ?_) (fun c_4 => ?_)
      · have h := nb_f c_4 h
        refine lv_iload_n hx hb dX1_readsLevel_29 rfl (lv_at hl 1 rfl) ?_
        refine lv_iconst (v := (2 : Int32)) hx hb dX1_readsLevel_30 (by decide) ?_
        refine lv_icmp_ne (tgt := 38) hx hb dX1_readsLevel_31 (by decide) (fun c_5 => ?_) (fun c_5 => ?_)
        · have h := nb_f c_5 h
          refine lv_bipush (v := (60 : Int32)) hx hb dX1_readsLevel_38 (by decide) ?_
          refine lv_istore_n (lv' := [(3, .int (60 : Int32)), (0, .ref (ad 35)), (1, .int p0), (2, .int p1)]) hx hb dX1_readsLevel_40 rfl hl (by decide) rfl (fun ls hl => ?_)
          refine lv_aload_n hx hb dX1_readsLevel_41 rfl (lv_at hl 1 rfl) ?_
          obtain ⟨r_6, e_6, h⟩ := nb_oE h
          refine nb_callV (n := 0) (As := []) (rest := []) hx hb hml hown hts hK hZ hP hS (k_X1_next had M_3 N e_6) gX1_readsLevel_X1_next rfl (by decide +kernel) (nb_rm (by omega) (Nat.le_of_ble_eq_true rfl)) nb_a35 rfl rfl rfl hl.1 rfl (Nat.le_of_ble_eq_true rfl) dX1_readsLevel_42 (fun H locs hP hS => ?_)
          refine W.eq (g2 := F0 m 45 ls [.int r_6]) rfl ?_
          refine lv_istore (lv' := [(4, .int r_6), (3, .int (60 : Int32)), (0, .ref (ad 35)), (1, .int p0), (2, .int p1)]) hx hb dX1_readsLevel_45 hl (by decide) rfl (fun ls hl => ?_)
          refine lv_iconst (v := (0 : Int32)) hx hb dX1_readsLevel_47 (by decide) ?_
          refine lv_istore (lv' := [(5, .int (0 : Int32)), (4, .int r_6), (3, .int (60 : Int32)), (0, .ref (ad 35)), (1, .int p0), (2, .int p1)]) hx hb dX1_readsLevel_48 hl (by decide) rfl (fun ls hl => ?_)
          exact w_X1_readsLevel_50 had X rc hrc nb_F _ _ _ _ _ _ h _ _ hP hS _ (lv_sub hl [3, 4, 5, 2, 1, 0] rfl)
        · have h := nb_t c_5 h
          refine lv_iconst (v := (1 : Int32)) hx hb dX1_readsLevel_34 (by decide) ?_
          refine lv_goto (tgt := 40) hx hb dX1_readsLevel_35 (by decide) ?_
          refine lv_istore_n (lv' := [(3, .int (1 : Int32)), (0, .ref (ad 35)), (1, .int p0), (2, .int p1)]) hx hb dX1_readsLevel_40 rfl hl (by decide) rfl (fun ls hl => ?_)
          refine lv_aload_n hx hb dX1_readsLevel_41 rfl (lv_at hl 1 rfl) ?_
          obtain ⟨r_15, e_15, h⟩ := nb_oE h
          refine nb_callV (n := 0) (As := []) (rest := []) hx hb hml hown hts hK hZ hP hS (k_X1_next had M_3 N e_15) gX1_readsLevel_X1_next rfl (by decide +kernel) (nb_rm (by omega) (Nat.le_of_ble_eq_true rfl)) nb_a35 rfl rfl rfl hl.1 rfl (Nat.le_of_ble_eq_true rfl) dX1_readsLevel_42 (fun H locs hP hS => ?_)
          refine W.eq (g2 := F0 m 45 ls [.int r_15]) rfl ?_
          refine lv_istore (lv' := [(4, .int r_15), (3, .int (1 : Int32)), (0, .ref (ad 35)), (1, .int p0), (2, .int p1)]) hx hb dX1_readsLevel_45 hl (by decide) rfl (fun ls hl => ?_)
          refine lv_iconst (v := (0 : Int32)) hx hb dX1_readsLevel_47 (by decide) ?_
          refine lv_istore (lv' := [(5, .int (0 : Int32)), (4, .int r_15), (3, .int (1 : Int32)), (0, .ref (ad 35)), (1, .int p0), (2, .int p1)]) hx hb dX1_readsLevel_48 hl (by decide) rfl (fun ls hl => ?_)
          exact w_X1_readsLevel_50 had X rc hrc nb_F _ _ _ _ _ _ h _ _ hP hS _ (lv_sub hl [3, 4, 5, 2, 1, 0] rfl)
      · have h := nb_t c_4 h
        refine lv_iconst (v := (0 : Int32)) hx hb dX1_readsLevel_27 (by decide) ?_
        obtain ⟨rfl, rfl⟩ := nb_e2 h
        exact nb_zret (by decide) hx hb hr hlk hP hS dX1_readsLevel_28
  · have h := nb_f c_1 h
    refine lv_aload_n hx hb dX1_readsLevel_5 rfl (lv_at hl 0 rfl) ?_
    refine lv_iload_n hx hb dX1_readsLevel_6 rfl (lv_at hl 2 rfl) ?_
    obtain ⟨r_16, M_16, e_16, h⟩ := nb_pE h
    refine nb_callV (n := 1) (As := [.int p1]) (rest := []) hx hb hml hown hts hK hZ hP hS (g_RD_1 (hrc 1 _ p1 0 _ _ e_16 N)) gX1_readsLevel_X1_readsOne rfl (by decide +kernel) (nb_rm (by omega) (Nat.le_of_ble_eq_true rfl)) nb_a35 rfl rfl rfl hl.1 rfl (Nat.le_of_ble_eq_true rfl) dX1_readsLevel_7 (fun H locs hP hS => ?_)
    refine W.eq (g2 := F0 m 10 ls [.int r_16]) rfl ?_
    obtain ⟨c_17, h⟩ := nb_c h
    obtain ⟨rfl, rfl⟩ := nb_e2 h
    exact nb_zret (Decidable.not_not.mp c_17) hx hb hr hlk hP hS dX1_readsLevel_10
set_option maxHeartbeats 4000000 in
set_option maxRecDepth 100000 in
theorem k_X1_readsOne {d : Nat} {r : Int32} {M' : nb_M} (had : nb_AD ad b0) (rc : Nat → nb_M → Int32 → Int32 → Option (Int32 × nb_M)) (hrc : ∀ (s : Nat) (M : nb_M) (a b : Int32) (r : Int32) (M' : nb_M), rc s M a b = some (r, M') → ∀ N : nb_M, g_RD l D ad ca b0 d s a b M N r M') (M N : nb_M) (p0 : Int32) (h : f_X1_readsOne rc M p0 = some (r, M')) : nb_C l D ad ca b0 yX1_readsOne wsX1_readsOne (d + 3) [.ref (ad 35), .int p0] M N (some (.int r)) M' N := by
  refine nb_of (cc := cX1_readsOne) (maxL := 4) (ret := (some .boolean)) (own := RX1) (by decide +kernel) rfl rfl (Nat.le_of_ble_eq_true rfl) ?_
  intro p e s m args below meth c ls X hP hS hl
  have hl : lv_has ls 4 [(0, .ref (ad 35)), (1, .int p0)] := hl
  obtain ⟨hx, hb, hml, hown, hts, hr, hlk, hK, hZ⟩ := id X
  have w_1 := hts (.fieldLink RX1 31 "NineBreakages$Reader" "at" "I") (by decide +kernel)
  have in1 : ∀ w ∈ u_ws RX1 TX1 6, w ∈ wsX1_readsOne := fun w q => List.mem_cons_of_mem _ (List.mem_append_right _ q)
  unfold f_X1_readsOne at h
  refine lv_aload_n hx hb dX1_readsOne_0 rfl (lv_at hl 0 rfl) ?_
  obtain ⟨r_1, e_1, h⟩ := nb_oE h
  refine nb_callV (n := 0) (As := []) (rest := []) hx hb hml hown hts hK hZ hP hS (k_X1_next had M N e_1) gX1_readsOne_X1_next rfl (by decide +kernel) (nb_rm (by omega) (Nat.le_of_ble_eq_true rfl)) nb_a35 rfl rfl rfl hl.1 rfl (Nat.le_of_ble_eq_true rfl) dX1_readsOne_1 (fun H locs hP hS => ?_)
  refine W.eq (g2 := F0 m 4 ls [.int r_1]) rfl ?_
  refine lv_istore_n (lv' := [(2, .int r_1), (0, .ref (ad 35)), (1, .int p0)]) hx hb dX1_readsOne_4 rfl hl (by decide) rfl (fun ls hl => ?_)
  refine lv_iload_n hx hb dX1_readsOne_5 rfl (lv_at hl 0 rfl) ?_
  refine nb_callS (n := 1) (As := [.int r_1]) (rest := []) hx hb hml hown hts hK hZ hP hS (k_X1_isDigit had M N r_1) gX1_readsOne_X1_isDigit rfl (by decide +kernel) (nb_rm (by omega) (Nat.le_of_ble_eq_true rfl)) rfl hl.1 rfl (Nat.le_of_ble_eq_true rfl) dX1_readsOne_6 (fun H locs hP hS => ?_)
  refine W.eq (g2 := F0 m 9 ls [.int (f_X1_isDigit r_1)]) rfl ?_
  refine lv_if_eq (tgt := 18) hx hb dX1_readsOne_9 (by decide) (fun c_3 => ?_) (fun c_3 => ?_)
  · have h := nb_t c_3 h
    refine lv_aload_n hx hb dX1_readsOne_18 rfl (lv_at hl 1 rfl) ?_
    refine lv_iload_n hx hb dX1_readsOne_19 rfl (lv_at hl 0 rfl) ?_
    obtain ⟨r_4, e_4, h⟩ := nb_oE h
    refine nb_callV (n := 1) (As := [.int r_1]) (rest := []) hx hb hml hown hts hK hZ hP hS (k_X1_nameOf had M N r_1 e_4) gX1_readsOne_X1_nameOf rfl (by decide +kernel) (nb_rm (by omega) (Nat.le_of_ble_eq_true rfl)) nb_a35 rfl rfl rfl hl.1 rfl (Nat.le_of_ble_eq_true rfl) dX1_readsOne_20 (fun H locs hP hS => ?_)
    refine W.eq (g2 := F0 m 23 ls [.int r_4]) rfl ?_
    refine lv_istore_n (lv' := [(3, .int r_4), (2, .int r_1), (0, .ref (ad 35)), (1, .int p0)]) hx hb dX1_readsOne_23 rfl hl (by decide) rfl (fun ls hl => ?_)
    refine lv_iload_n hx hb dX1_readsOne_24 rfl (lv_at hl 0 rfl) ?_
    refine lv_iconst (v := (3 : Int32)) hx hb dX1_readsOne_25 (by decide) ?_
    refine lv_icmp_ge (tgt := 50) hx hb dX1_readsOne_26 (by decide) (fun c_5 => ?_) (fun c_5 => ?_)
    · have h := nb_t c_5 h
      refine lv_iload_n hx hb dX1_readsOne_50 rfl (lv_at hl 3 rfl) ?_
      refine lv_iconst (v := (5 : Int32)) hx hb dX1_readsOne_51 (by decide) ?_
      refine lv_icmp_lt (tgt := 57) hx hb dX1_readsOne_52 (by decide) (fun c_6 => ?_) (fun c_6 => ?_)
      · have h := nb_t c_6 h
        refine lv_iload_n hx hb dX1_readsOne_57 rfl (lv_at hl 1 rfl) ?_
        refine lv_bipush (v := (33 : Int32)) hx hb dX1_readsOne_58 (by decide) ?_
        refine lv_icmp_ne (tgt := 71) hx hb dX1_readsOne_60 (by decide) (fun c_7 => ?_) (fun c_7 => ?_)
        · have h := nb_f c_7 h
          refine lv_iload_n hx hb dX1_readsOne_71 rfl (lv_at hl 1 rfl) ?_
          refine lv_bipush (v := (40 : Int32)) hx hb dX1_readsOne_72 (by decide) ?_
          refine lv_icmp_ne (tgt := 91) hx hb dX1_readsOne_74 (by decide) (fun c_8 => ?_) (fun c_8 => ?_)
          · have h := nb_f c_8 h
            refine lv_iconst (v := (0 : Int32)) hx hb dX1_readsOne_91 (by decide) ?_
            obtain ⟨rfl, rfl⟩ := nb_e2 h
            exact nb_zret (by decide) hx hb hr hlk hP hS dX1_readsOne_92
          · have h := nb_t c_8 h
            refine lv_aload_n hx hb dX1_readsOne_77 rfl (lv_at hl 2 rfl) ?_
            refine lv_iload_n hx hb dX1_readsOne_78 rfl (lv_at hl 3 rfl) ?_
            refine lv_iconst (v := (1 : Int32)) hx hb dX1_readsOne_79 (by decide) ?_
            refine lv_iadd hx hb dX1_readsOne_80 ?_
            obtain ⟨r_9, M_9, e_9, h⟩ := nb_pE h
            refine nb_callV (n := 1) (As := [.int (p0 + (1 : Int32))]) (rest := []) hx hb hml hown hts hK hZ hP hS (g_RD_3 (hrc 3 _ (p0 + (1 : Int32)) 0 _ _ e_9 N)) gX1_readsOne_X1_readsBraced rfl (by decide +kernel) (nb_rm (by omega) (Nat.le_of_ble_eq_true rfl)) nb_a35 rfl rfl rfl hl.1 rfl (Nat.le_of_ble_eq_true rfl) dX1_readsOne_81 (fun H locs hP hS => ?_)
            refine W.eq (g2 := F0 m 84 ls [.int r_9]) rfl ?_
            refine lv_if_eq (tgt := 91) hx hb dX1_readsOne_84 (by decide) (fun c_10 => ?_) (fun c_10 => ?_)
            · have h := nb_t c_10 h
              refine lv_iconst (v := (0 : Int32)) hx hb dX1_readsOne_91 (by decide) ?_
              obtain ⟨rfl, rfl⟩ := nb_e2 h
              exact nb_zret (by decide) hx hb hr hlk hP hS dX1_readsOne_92
            · have h := nb_f c_10 h
              refine lv_iconst (v := (1 : Int32)) hx hb dX1_readsOne_87 (by decide) ?_
              refine lv_goto (tgt := 92) hx hb dX1_readsOne_88 (by decide) ?_
              obtain ⟨rfl, rfl⟩ := nb_e2 h
              exact nb_zret (by decide) hx hb hr hlk hP hS dX1_readsOne_92
        · have h := nb_t c_7 h
          refine lv_aload_n hx hb dX1_readsOne_63 rfl (lv_at hl 2 rfl) ?_
          refine lv_iload_n hx hb dX1_readsOne_64 rfl (lv_at hl 3 rfl) ?_
          refine lv_iconst (v := (1 : Int32)) hx hb dX1_readsOne_65 (by decide) ?_
          refine lv_iadd hx hb dX1_readsOne_66 ?_
          obtain ⟨r_11, M_11, e_11, h⟩ := nb_pE h
          refine nb_callV (n := 1) (As := [.int (p0 + (1 : Int32))]) (rest := []) hx hb hml hown hts hK hZ hP hS (g_RD_2 (hrc 2 _ (p0 + (1 : Int32)) 0 _ _ e_11 N)) gX1_readsOne_X1_readsNot rfl (by decide +kernel) (nb_rm (by omega) (Nat.le_of_ble_eq_true rfl)) nb_a35 rfl rfl rfl hl.1 rfl (Nat.le_of_ble_eq_true rfl) dX1_readsOne_67 (fun H locs hP hS => ?_)
          refine W.eq (g2 := F0 m 70 ls [.int r_11]) rfl ?_
          obtain ⟨c_12, h⟩ := nb_c h
          obtain ⟨rfl, rfl⟩ := nb_e2 h
          exact nb_zret (Decidable.not_not.mp c_12) hx hb hr hlk hP hS dX1_readsOne_70
      · have h := nb_f c_6 h
        refine lv_iconst (v := (0 : Int32)) hx hb dX1_readsOne_55 (by decide) ?_
        obtain ⟨rfl, rfl⟩ := nb_e2 h
        exact nb_zret (by decide) hx hb hr hlk hP hS dX1_readsOne_56
    · have h := nb_f c_5 h
      refine lv_aload_n hx hb dX1_readsOne_29 rfl (lv_at hl 2 rfl) ?_
      refine lv_dup hx hb dX1_readsOne_30 rfl ?_
      refine va_get (v := .int (M.1 35 2)) (C := RX1) (T := TX1) (N := 6) hx hb hts in1 hown hK.1 hP 35 nb_a35 rfl 2 (by decide) w_1 (fun _ h9 => h9) rfl dX1_readsOne_31 ?_
      refine lv_iconst (v := (1 : Int32)) hx hb dX1_readsOne_34 (by decide) ?_
      refine lv_iadd hx hb dX1_readsOne_35 ?_
      refine nb_put (C := RX1) (T := TX1) (NN := 6) hx hb had hts in1 tyX1 tyX1_ok nmX1 hown hK hP hS nb_a35 rfl 2 (by decide) w_1 rfl (ty := .int) (by decide +kernel) rfl rfl (Nat.le_of_ble_eq_true rfl) (nb_p35_2 _) dX1_readsOne_36 (fun H locs hP hS => ?_)
      obtain ⟨M_13, e_13, h⟩ := nb_nE h
      rw [e_13] at hP
      refine lv_aload_n hx hb dX1_readsOne_39 rfl (lv_at hl 2 rfl) ?_
      refine lv_sipush (v := (10000 : Int32)) hx hb dX1_readsOne_40 (by decide) ?_
      refine lv_iload_n hx hb dX1_readsOne_43 rfl (lv_at hl 0 rfl) ?_
      refine lv_iadd hx hb dX1_readsOne_44 ?_
      obtain ⟨M_14, e_14, h⟩ := nb_oE h
      refine nb_callV (n := 1) (As := [.int ((10000 : Int32) + r_4)]) (rest := []) hx hb hml hown hts hK hZ hP hS (k_X1_step had M_13 N ((10000 : Int32) + r_4) e_14) gX1_readsOne_X1_step rfl (by decide +kernel) (nb_rm (by omega) (Nat.le_of_ble_eq_true rfl)) nb_a35 rfl rfl rfl hl.1 rfl (Nat.le_of_ble_eq_true rfl) dX1_readsOne_45 (fun H locs hP hS => ?_)
      refine W.eq (g2 := F0 m 48 ls []) rfl ?_
      refine lv_iconst (v := (1 : Int32)) hx hb dX1_readsOne_48 (by decide) ?_
      obtain ⟨rfl, rfl⟩ := nb_e2 h
      exact nb_zret (by decide) hx hb hr hlk hP hS dX1_readsOne_49
  · have h := nb_f c_3 h
    refine lv_aload_n hx hb dX1_readsOne_12 rfl (lv_at hl 1 rfl) ?_
    obtain ⟨M_15, e_15, h⟩ := nb_oE h
    refine nb_callV (n := 0) (As := []) (rest := []) hx hb hml hown hts hK hZ hP hS (k_X1_readNumber had M N e_15) gX1_readsOne_X1_readNumber rfl (by decide +kernel) (nb_rm (by omega) (Nat.le_of_ble_eq_true rfl)) nb_a35 rfl rfl rfl hl.1 rfl (Nat.le_of_ble_eq_true rfl) dX1_readsOne_13 (fun H locs hP hS => ?_)
    refine W.eq (g2 := F0 m 16 ls []) rfl ?_
    refine lv_iconst (v := (1 : Int32)) hx hb dX1_readsOne_16 (by decide) ?_
    obtain ⟨rfl, rfl⟩ := nb_e2 h
    exact nb_zret (by decide) hx hb hr hlk hP hS dX1_readsOne_17
set_option maxHeartbeats 4000000 in
set_option maxRecDepth 100000 in
theorem k_X1_readsNot {d : Nat} {r : Int32} {M' : nb_M} (had : nb_AD ad b0) (rc : Nat → nb_M → Int32 → Int32 → Option (Int32 × nb_M)) (hrc : ∀ (s : Nat) (M : nb_M) (a b : Int32) (r : Int32) (M' : nb_M), rc s M a b = some (r, M') → ∀ N : nb_M, g_RD l D ad ca b0 d s a b M N r M') (M N : nb_M) (p0 : Int32) (h : f_X1_readsNot rc M p0 = some (r, M')) : nb_C l D ad ca b0 yX1_readsNot wsX1_readsNot (d + 3) [.ref (ad 35), .int p0] M N (some (.int r)) M' N := by
  refine nb_of (cc := cX1_readsNot) (maxL := 2) (ret := (some .boolean)) (own := RX1) (by decide +kernel) rfl rfl (Nat.le_of_ble_eq_true rfl) ?_
  intro p e s m args below meth c ls X hP hS hl
  have hl : lv_has ls 2 [(0, .ref (ad 35)), (1, .int p0)] := hl
  obtain ⟨hx, hb, hml, hown, hts, hr, hlk, hK, hZ⟩ := id X
  have w_1 := hts (.fieldLink RX1 31 "NineBreakages$Reader" "at" "I") (by decide +kernel)
  have in1 : ∀ w ∈ u_ws RX1 TX1 6, w ∈ wsX1_readsNot := fun w q => List.mem_cons_of_mem _ (List.mem_append_right _ q)
  unfold f_X1_readsNot at h
  refine lv_aload_n hx hb dX1_readsNot_0 rfl (lv_at hl 0 rfl) ?_
  refine lv_dup hx hb dX1_readsNot_1 rfl ?_
  refine va_get (v := .int (M.1 35 2)) (C := RX1) (T := TX1) (N := 6) hx hb hts in1 hown hK.1 hP 35 nb_a35 rfl 2 (by decide) w_1 (fun _ h9 => h9) rfl dX1_readsNot_2 ?_
  refine lv_iconst (v := (1 : Int32)) hx hb dX1_readsNot_5 (by decide) ?_
  refine lv_iadd hx hb dX1_readsNot_6 ?_
  refine nb_put (C := RX1) (T := TX1) (NN := 6) hx hb had hts in1 tyX1 tyX1_ok nmX1 hown hK hP hS nb_a35 rfl 2 (by decide) w_1 rfl (ty := .int) (by decide +kernel) rfl rfl (Nat.le_of_ble_eq_true rfl) (nb_p35_2 _) dX1_readsNot_7 (fun H locs hP hS => ?_)
  obtain ⟨M_1, e_1, h⟩ := nb_nE h
  rw [e_1] at hP
  refine lv_aload_n hx hb dX1_readsNot_10 rfl (lv_at hl 0 rfl) ?_
  refine lv_iload_n hx hb dX1_readsNot_11 rfl (lv_at hl 1 rfl) ?_
  obtain ⟨r_2, M_2, e_2, h⟩ := nb_pE h
  refine nb_callV (n := 1) (As := [.int p0]) (rest := []) hx hb hml hown hts hK hZ hP hS (g_RD_1 (hrc 1 _ p0 0 _ _ e_2 N)) gX1_readsNot_X1_readsOne rfl (by decide +kernel) (nb_rm (by omega) (Nat.le_of_ble_eq_true rfl)) nb_a35 rfl rfl rfl hl.1 rfl (Nat.le_of_ble_eq_true rfl) dX1_readsNot_12 (fun H locs hP hS => ?_)
  refine W.eq (g2 := F0 m 15 ls [.int r_2]) rfl ?_
  refine lv_if_ne (tgt := 20) hx hb dX1_readsNot_15 (by decide) (fun c_3 => ?_) (fun c_3 => ?_)
  · have h := nb_f c_3 h
    refine lv_aload_n hx hb dX1_readsNot_20 rfl (lv_at hl 0 rfl) ?_
    refine lv_sipush (v := (20033 : Int32)) hx hb dX1_readsNot_21 (by decide) ?_
    obtain ⟨M_4, e_4, h⟩ := nb_oE h
    refine nb_callV (n := 1) (As := [.int (20033 : Int32)]) (rest := []) hx hb hml hown hts hK hZ hP hS (k_X1_step had M_2 N (20033 : Int32) e_4) gX1_readsNot_X1_step rfl (by decide +kernel) (nb_rm (by omega) (Nat.le_of_ble_eq_true rfl)) nb_a35 rfl rfl rfl hl.1 rfl (Nat.le_of_ble_eq_true rfl) dX1_readsNot_24 (fun H locs hP hS => ?_)
    refine W.eq (g2 := F0 m 27 ls []) rfl ?_
    refine lv_iconst (v := (1 : Int32)) hx hb dX1_readsNot_27 (by decide) ?_
    obtain ⟨rfl, rfl⟩ := nb_e2 h
    exact nb_zret (by decide) hx hb hr hlk hP hS dX1_readsNot_28
  · have h := nb_t c_3 h
    refine lv_iconst (v := (0 : Int32)) hx hb dX1_readsNot_18 (by decide) ?_
    obtain ⟨rfl, rfl⟩ := nb_e2 h
    exact nb_zret (by decide) hx hb hr hlk hP hS dX1_readsNot_19
set_option maxHeartbeats 4000000 in
set_option maxRecDepth 100000 in
theorem k_X1_readsBraced {d : Nat} {r : Int32} {M' : nb_M} (had : nb_AD ad b0) (rc : Nat → nb_M → Int32 → Int32 → Option (Int32 × nb_M)) (hrc : ∀ (s : Nat) (M : nb_M) (a b : Int32) (r : Int32) (M' : nb_M), rc s M a b = some (r, M') → ∀ N : nb_M, g_RD l D ad ca b0 d s a b M N r M') (M N : nb_M) (p0 : Int32) (h : f_X1_readsBraced rc M p0 = some (r, M')) : nb_C l D ad ca b0 yX1_readsBraced wsX1_readsBraced (d + 3) [.ref (ad 35), .int p0] M N (some (.int r)) M' N := by
  refine nb_of (cc := cX1_readsBraced) (maxL := 2) (ret := (some .boolean)) (own := RX1) (by decide +kernel) rfl rfl (Nat.le_of_ble_eq_true rfl) ?_
  intro p e s m args below meth c ls X hP hS hl
  have hl : lv_has ls 2 [(0, .ref (ad 35)), (1, .int p0)] := hl
  obtain ⟨hx, hb, hml, hown, hts, hr, hlk, hK, hZ⟩ := id X
  have w_1 := hts (.fieldLink RX1 31 "NineBreakages$Reader" "at" "I") (by decide +kernel)
  have in1 : ∀ w ∈ u_ws RX1 TX1 6, w ∈ wsX1_readsBraced := fun w q => List.mem_cons_of_mem _ (List.mem_append_right _ q)
  unfold f_X1_readsBraced at h
  refine lv_aload_n hx hb dX1_readsBraced_0 rfl (lv_at hl 0 rfl) ?_
  refine lv_dup hx hb dX1_readsBraced_1 rfl ?_
  refine va_get (v := .int (M.1 35 2)) (C := RX1) (T := TX1) (N := 6) hx hb hts in1 hown hK.1 hP 35 nb_a35 rfl 2 (by decide) w_1 (fun _ h9 => h9) rfl dX1_readsBraced_2 ?_
  refine lv_iconst (v := (1 : Int32)) hx hb dX1_readsBraced_5 (by decide) ?_
  refine lv_iadd hx hb dX1_readsBraced_6 ?_
  refine nb_put (C := RX1) (T := TX1) (NN := 6) hx hb had hts in1 tyX1 tyX1_ok nmX1 hown hK hP hS nb_a35 rfl 2 (by decide) w_1 rfl (ty := .int) (by decide +kernel) rfl rfl (Nat.le_of_ble_eq_true rfl) (nb_p35_2 _) dX1_readsBraced_7 (fun H locs hP hS => ?_)
  obtain ⟨M_1, e_1, h⟩ := nb_nE h
  rw [e_1] at hP
  refine lv_aload_n hx hb dX1_readsBraced_10 rfl (lv_at hl 0 rfl) ?_
  refine lv_iconst (v := (0 : Int32)) hx hb dX1_readsBraced_11 (by decide) ?_
  refine lv_iload_n hx hb dX1_readsBraced_12 rfl (lv_at hl 1 rfl) ?_
  obtain ⟨r_2, M_2, e_2, h⟩ := nb_pE h
  refine nb_callV (n := 2) (As := [.int (0 : Int32), .int p0]) (rest := []) hx hb hml hown hts hK hZ hP hS (g_RD_0 (hrc 0 _ (0 : Int32) p0 _ _ e_2 N)) gX1_readsBraced_X1_readsLevel rfl (by decide +kernel) (nb_rm (by omega) (Nat.le_of_ble_eq_true rfl)) nb_a35 rfl rfl rfl hl.1 rfl (Nat.le_of_ble_eq_true rfl) dX1_readsBraced_13 (fun H locs hP hS => ?_)
  refine W.eq (g2 := F0 m 16 ls [.int r_2]) rfl ?_
  refine lv_if_eq (tgt := 28) hx hb dX1_readsBraced_16 (by decide) (fun c_3 => ?_) (fun c_3 => ?_)
  · have h := nb_t c_3 h
    refine lv_iconst (v := (0 : Int32)) hx hb dX1_readsBraced_28 (by decide) ?_
    obtain ⟨rfl, rfl⟩ := nb_e2 h
    exact nb_zret (by decide) hx hb hr hlk hP hS dX1_readsBraced_29
  · have h := nb_f c_3 h
    refine lv_aload_n hx hb dX1_readsBraced_19 rfl (lv_at hl 0 rfl) ?_
    obtain ⟨r_4, e_4, h⟩ := nb_oE h
    refine nb_callV (n := 0) (As := []) (rest := []) hx hb hml hown hts hK hZ hP hS (k_X1_next had M_2 N e_4) gX1_readsBraced_X1_next rfl (by decide +kernel) (nb_rm (by omega) (Nat.le_of_ble_eq_true rfl)) nb_a35 rfl rfl rfl hl.1 rfl (Nat.le_of_ble_eq_true rfl) dX1_readsBraced_20 (fun H locs hP hS => ?_)
    refine W.eq (g2 := F0 m 23 ls [.int r_4]) rfl ?_
    refine lv_bipush (v := (41 : Int32)) hx hb dX1_readsBraced_23 (by decide) ?_
    refine lv_icmp_eq (tgt := 30) hx hb dX1_readsBraced_25 (by decide) (fun c_5 => ?_) (fun c_5 => ?_)
    · have h := nb_t c_5 h
      refine lv_aload_n hx hb dX1_readsBraced_30 rfl (lv_at hl 0 rfl) ?_
      refine lv_dup hx hb dX1_readsBraced_31 rfl ?_
      refine va_get (v := .int (M_2.1 35 2)) (C := RX1) (T := TX1) (N := 6) hx hb hts in1 hown hK.1 hP 35 nb_a35 rfl 2 (by decide) w_1 (fun _ h9 => h9) rfl dX1_readsBraced_32 ?_
      refine lv_iconst (v := (1 : Int32)) hx hb dX1_readsBraced_35 (by decide) ?_
      refine lv_iadd hx hb dX1_readsBraced_36 ?_
      refine nb_put (C := RX1) (T := TX1) (NN := 6) hx hb had hts in1 tyX1 tyX1_ok nmX1 hown hK hP hS nb_a35 rfl 2 (by decide) w_1 rfl (ty := .int) (by decide +kernel) rfl rfl (Nat.le_of_ble_eq_true rfl) (nb_p35_2 _) dX1_readsBraced_37 (fun H locs hP hS => ?_)
      obtain ⟨M_6, e_6, h⟩ := nb_nE h
      rw [e_6] at hP
      refine lv_iconst (v := (1 : Int32)) hx hb dX1_readsBraced_40 (by decide) ?_
      obtain ⟨rfl, rfl⟩ := nb_e2 h
      exact nb_zret (by decide) hx hb hr hlk hP hS dX1_readsBraced_41
    · have h := nb_f c_5 h
      refine lv_iconst (v := (0 : Int32)) hx hb dX1_readsBraced_28 (by decide) ?_
      obtain ⟨rfl, rfl⟩ := nb_e2 h
      exact nb_zret (by decide) hx hb hr hlk hP hS dX1_readsBraced_29
theorem k_RD (had : nb_AD ad b0) : ∀ (d s : Nat) (M : nb_M) (a b : Int32) (r : Int32) (M' : nb_M), f_RD d s M a b = some (r, M') → ∀ N : nb_M, g_RD l D ad ca b0 d s a b M N r M' := by
  intro d
  induction d with
  | zero => intro s M a b r M' h; rw [f_RD] at h; cases h
  | succ d ih =>
    intro s M a b r M' h N
    rw [f_RD] at h
    by_cases s_0 : s = 0
    · have h := nb_t s_0 h
      subst s_0
      have q := k_X1_readsLevel (l := l) (D := D) (ad := ad) (ca := ca) (b0 := b0) (d := d) had (f_RD d) ih M N a b h
      have e : d + 3 = d + 1 + 2 := by omega
      rw [e] at q
      exact q
    have h := nb_f s_0 h
    by_cases s_1 : s = 1
    · have h := nb_t s_1 h
      subst s_1
      have q := k_X1_readsOne (l := l) (D := D) (ad := ad) (ca := ca) (b0 := b0) (d := d) had (f_RD d) ih M N a h
      have e : d + 3 = d + 1 + 2 := by omega
      rw [e] at q
      exact q
    have h := nb_f s_1 h
    by_cases s_2 : s = 2
    · have h := nb_t s_2 h
      subst s_2
      have q := k_X1_readsNot (l := l) (D := D) (ad := ad) (ca := ca) (b0 := b0) (d := d) had (f_RD d) ih M N a h
      have e : d + 3 = d + 1 + 2 := by omega
      rw [e] at q
      exact q
    have h := nb_f s_2 h
    by_cases s_3 : s = 3
    · have h := nb_t s_3 h
      subst s_3
      have q := k_X1_readsBraced (l := l) (D := D) (ad := ad) (ca := ca) (b0 := b0) (d := d) had (f_RD d) ih M N a h
      have e : d + 3 = d + 1 + 2 := by omega
      rw [e] at q
      exact q
    have h := nb_f s_3 h
    cases h
theorem k_X1_readsLevel_x {r : Int32} {M' : nb_M} (had : nb_AD ad b0) (M N : nb_M) (p0 : Int32) (p1 : Int32) (h : f_X1_readsLevel_x M p0 p1 = some (r, M')) : nb_C l D ad ca b0 yX1_readsLevel wsX1_readsLevel 66 [.ref (ad 35), .int p0, .int p1] M N (some (.int r)) M' N := g_RD_0 (k_RD had nb_dp 0 M p0 p1 _ _ h N)
theorem k_X1_readsOne_x {r : Int32} {M' : nb_M} (had : nb_AD ad b0) (M N : nb_M) (p0 : Int32) (h : f_X1_readsOne_x M p0 = some (r, M')) : nb_C l D ad ca b0 yX1_readsOne wsX1_readsOne 66 [.ref (ad 35), .int p0] M N (some (.int r)) M' N := g_RD_1 (k_RD had nb_dp 1 M p0 0 _ _ h N)
theorem k_X1_readsNot_x {r : Int32} {M' : nb_M} (had : nb_AD ad b0) (M N : nb_M) (p0 : Int32) (h : f_X1_readsNot_x M p0 = some (r, M')) : nb_C l D ad ca b0 yX1_readsNot wsX1_readsNot 66 [.ref (ad 35), .int p0] M N (some (.int r)) M' N := g_RD_2 (k_RD had nb_dp 2 M p0 0 _ _ h N)
theorem k_X1_readsBraced_x {r : Int32} {M' : nb_M} (had : nb_AD ad b0) (M N : nb_M) (p0 : Int32) (h : f_X1_readsBraced_x M p0 = some (r, M')) : nb_C l D ad ca b0 yX1_readsBraced wsX1_readsBraced 66 [.ref (ad 35), .int p0] M N (some (.int r)) M' N := g_RD_3 (k_RD had nb_dp 3 M p0 0 _ _ h N)
set_option maxHeartbeats 4000000 in
set_option maxRecDepth 100000 in
theorem k_X1_reads {r : Int32} {M' : nb_M} (had : nb_AD ad b0) (M N : nb_M) (p0 : Int32) (p1 : Int32) (h : f_X1_reads M p0 p1 = some (r, M')) : nb_C l D ad ca b0 yX1_reads wsX1_reads 67 [.ref (ad 35), .ref (ad 10), .int p0, .int p1] M N (some (.int r)) M' N := by
  refine nb_of (cc := cX1_reads) (maxL := 4) (ret := (some .boolean)) (own := RX1) (by decide +kernel) rfl rfl (Nat.le_of_ble_eq_true rfl) ?_
  intro p e s m args below meth c ls X hP hS hl
  have hl : lv_has ls 4 [(0, .ref (ad 35)), (1, .ref (ad 10)), (2, .int p0), (3, .int p1)] := hl
  obtain ⟨hx, hb, hml, hown, hts, hr, hlk, hK, hZ⟩ := id X
  have w_1 := hts (.fieldLink RX1 15 "NineBreakages$Reader" "tape" "[I") (by decide +kernel)
  have in1 : ∀ w ∈ u_ws RX1 TX1 6, w ∈ wsX1_reads := fun w q => List.mem_cons_of_mem _ (List.mem_append_right _ q)
  have w_3 := hts (.methodLink RX1 18 arraycopyName) (by decide +kernel)
  have w_4 := hts (.native arraycopyName) (by decide +kernel)
  have w_5 := hts (.static arraycopyName) (by decide +kernel)
  have w_6 := hts (.initialized "java/lang/System") (by decide +kernel)
  have w_7 := hts (.fieldLink RX1 24 "NineBreakages$Reader" "size" "I") (by decide +kernel)
  have w_8 := hts (.fieldLink RX1 28 "NineBreakages$Reader" "use" "I") (by decide +kernel)
  have w_9 := hts (.fieldLink RX1 31 "NineBreakages$Reader" "at" "I") (by decide +kernel)
  have w_10 := hts (.fieldLink RX1 34 "NineBreakages$Reader" "stepped" "I") (by decide +kernel)
  unfold f_X1_reads at h
  refine lv_aload_n hx hb dX1_reads_0 rfl (lv_at hl 1 rfl) ?_
  refine lv_iconst (v := (0 : Int32)) hx hb dX1_reads_1 (by decide) ?_
  refine lv_aload_n hx hb dX1_reads_2 rfl (lv_at hl 0 rfl) ?_
  refine va_get (v := .ref (ad 37)) (C := RX1) (T := TX1) (N := 6) hx hb hts in1 hown hK.1 hP 35 nb_a35 rfl 3 (by decide) w_1 (fun _ h9 => h9) rfl dX1_reads_3 ?_
  refine lv_iconst (v := (0 : Int32)) hx hb dX1_reads_6 (by decide) ?_
  refine lv_bipush (v := (60 : Int32)) hx hb dX1_reads_7 (by decide) ?_
  refine nb_copy hx hb hml hl.1 had hown w_3 w_4 w_5 w_6 hK hP hS nb_a10 nb_a37 (Nat.le_of_ble_eq_true rfl) (Nat.le_of_ble_eq_true rfl) (by decide) (nb_s37 _) dX1_reads_9 (fun H locs hP hS => ?_)
  obtain ⟨M_1, e_1, h⟩ := nb_nE h
  rw [e_1] at hP
  refine lv_aload_n hx hb dX1_reads_12 rfl (lv_at hl 0 rfl) ?_
  refine lv_iload_n hx hb dX1_reads_13 rfl (lv_at hl 2 rfl) ?_
  refine nb_put (C := RX1) (T := TX1) (NN := 6) hx hb had hts in1 tyX1 tyX1_ok nmX1 hown hK hP hS nb_a35 rfl 4 (by decide) w_7 rfl (ty := .int) (by decide +kernel) rfl rfl (Nat.le_of_ble_eq_true rfl) (nb_p35_4 _) dX1_reads_14 (fun H locs hP hS => ?_)
  obtain ⟨M_2, e_2, h⟩ := nb_nE h
  rw [e_2] at hP
  refine lv_aload_n hx hb dX1_reads_17 rfl (lv_at hl 0 rfl) ?_
  refine lv_iload_n hx hb dX1_reads_18 rfl (lv_at hl 3 rfl) ?_
  refine nb_put (C := RX1) (T := TX1) (NN := 6) hx hb had hts in1 tyX1 tyX1_ok nmX1 hown hK hP hS nb_a35 rfl 5 (by decide) w_8 rfl (ty := .int) (by decide +kernel) rfl rfl (Nat.le_of_ble_eq_true rfl) (nb_p35_5 _) dX1_reads_19 (fun H locs hP hS => ?_)
  obtain ⟨M_3, e_3, h⟩ := nb_nE h
  rw [e_3] at hP
  refine lv_aload_n hx hb dX1_reads_22 rfl (lv_at hl 0 rfl) ?_
  refine lv_iconst (v := (0 : Int32)) hx hb dX1_reads_23 (by decide) ?_
  refine nb_put (C := RX1) (T := TX1) (NN := 6) hx hb had hts in1 tyX1 tyX1_ok nmX1 hown hK hP hS nb_a35 rfl 2 (by decide) w_9 rfl (ty := .int) (by decide +kernel) rfl rfl (Nat.le_of_ble_eq_true rfl) (nb_p35_2 _) dX1_reads_24 (fun H locs hP hS => ?_)
  obtain ⟨M_4, e_4, h⟩ := nb_nE h
  rw [e_4] at hP
  refine lv_aload_n hx hb dX1_reads_27 rfl (lv_at hl 0 rfl) ?_
  refine lv_iconst (v := (0 : Int32)) hx hb dX1_reads_28 (by decide) ?_
  refine nb_put (C := RX1) (T := TX1) (NN := 6) hx hb had hts in1 tyX1 tyX1_ok nmX1 hown hK hP hS nb_a35 rfl 1 (by decide) w_10 rfl (ty := .int) (by decide +kernel) rfl rfl (Nat.le_of_ble_eq_true rfl) (nb_p35_1 _) dX1_reads_29 (fun H locs hP hS => ?_)
  obtain ⟨M_5, e_5, h⟩ := nb_nE h
  rw [e_5] at hP
  refine lv_aload_n hx hb dX1_reads_32 rfl (lv_at hl 0 rfl) ?_
  refine lv_iconst (v := (0 : Int32)) hx hb dX1_reads_33 (by decide) ?_
  refine lv_iconst (v := (0 : Int32)) hx hb dX1_reads_34 (by decide) ?_
  obtain ⟨r_6, M_6, e_6, h⟩ := nb_pE h
  refine nb_callV (n := 2) (As := [.int (0 : Int32), .int (0 : Int32)]) (rest := []) hx hb hml hown hts hK hZ hP hS (k_X1_readsLevel_x had M_5 N (0 : Int32) (0 : Int32) e_6) gX1_reads_X1_readsLevel rfl (by decide +kernel) (nb_rm (Nat.le_of_ble_eq_true rfl) (Nat.le_of_ble_eq_true rfl)) nb_a35 rfl rfl rfl hl.1 rfl (Nat.le_of_ble_eq_true rfl) dX1_reads_35 (fun H locs hP hS => ?_)
  refine W.eq (g2 := F0 m 38 ls [.int r_6]) rfl ?_
  refine lv_if_eq (tgt := 56) hx hb dX1_reads_38 (by decide) (fun c_7 => ?_) (fun c_7 => ?_)
  · have h := nb_t c_7 h
    refine lv_iconst (v := (0 : Int32)) hx hb dX1_reads_56 (by decide) ?_
    obtain ⟨rfl, rfl⟩ := nb_e2 h
    exact nb_zret (by decide) hx hb hr hlk hP hS dX1_reads_57
  · have h := nb_f c_7 h
    refine lv_aload_n hx hb dX1_reads_41 rfl (lv_at hl 0 rfl) ?_
    refine va_get (v := .int (M_6.1 35 2)) (C := RX1) (T := TX1) (N := 6) hx hb hts in1 hown hK.1 hP 35 nb_a35 rfl 2 (by decide) w_9 (fun _ h9 => h9) rfl dX1_reads_42 ?_
    refine lv_aload_n hx hb dX1_reads_45 rfl (lv_at hl 0 rfl) ?_
    refine va_get (v := .int (M_6.1 35 4)) (C := RX1) (T := TX1) (N := 6) hx hb hts in1 hown hK.1 hP 35 nb_a35 rfl 4 (by decide) w_7 (fun _ h9 => h9) rfl dX1_reads_46 ?_
    refine lv_icmp_ne (tgt := 56) hx hb dX1_reads_49 (by decide) (fun c_8 => ?_) (fun c_8 => ?_)
    · have h := nb_f c_8 h
      refine lv_iconst (v := (0 : Int32)) hx hb dX1_reads_56 (by decide) ?_
      obtain ⟨rfl, rfl⟩ := nb_e2 h
      exact nb_zret (by decide) hx hb hr hlk hP hS dX1_reads_57
    · have h := nb_t c_8 h
      refine lv_iconst (v := (1 : Int32)) hx hb dX1_reads_52 (by decide) ?_
      refine lv_goto (tgt := 57) hx hb dX1_reads_53 (by decide) ?_
      obtain ⟨rfl, rfl⟩ := nb_e2 h
      exact nb_zret (by decide) hx hb hr hlk hP hS dX1_reads_57
set_option maxHeartbeats 4000000 in
set_option maxRecDepth 100000 in
theorem k_X3_hold_12_36 {M' : nb_M} (had : nb_AD ad b0) (M N : nb_M) (p0 : Int32) (h : f_X3_hold_12_36 M p0 = some (M')) : nb_C l D ad ca b0 yX3_hold wsX3_hold 1 [.ref (ad 12), .ref (ad 36), .int p0] M N none M' N := by
  refine nb_of (cc := cX3_hold) (maxL := 3) (ret := none) (own := RX3) (by decide +kernel) rfl rfl (Nat.le_of_ble_eq_true rfl) ?_
  intro p e s m args below meth c ls X hP hS hl
  have hl : lv_has ls 3 [(0, .ref (ad 12)), (1, .ref (ad 36)), (2, .int p0)] := hl
  obtain ⟨hx, hb, hml, hown, hts, hr, hlk, hK, hZ⟩ := id X
  have w_1 := hts (.fieldLink RX3 9 "NineBreakages$Text" "steps" "[I") (by decide +kernel)
  have in3 : ∀ w ∈ u_ws RX3 TX3 3, w ∈ wsX3_hold := fun w q => List.mem_cons_of_mem _ (List.mem_append_right _ q)
  have w_3 := hts (.methodLink RX3 22 arraycopyName) (by decide +kernel)
  have w_4 := hts (.native arraycopyName) (by decide +kernel)
  have w_5 := hts (.static arraycopyName) (by decide +kernel)
  have w_6 := hts (.initialized "java/lang/System") (by decide +kernel)
  have w_7 := hts (.fieldLink RX3 18 "NineBreakages$Text" "stepped" "I") (by decide +kernel)
  unfold f_X3_hold_12_36 at h
  refine lv_aload_n hx hb dX3_hold_0 rfl (lv_at hl 1 rfl) ?_
  refine lv_iconst (v := (0 : Int32)) hx hb dX3_hold_1 (by decide) ?_
  refine lv_aload_n hx hb dX3_hold_2 rfl (lv_at hl 0 rfl) ?_
  refine va_get (v := .ref (ad 13)) (C := RX3) (T := TX3) (N := 3) hx hb hts in3 hown hK.1 hP 12 nb_a12 rfl 0 (by decide) w_1 (fun _ h9 => h9) rfl dX3_hold_3 ?_
  refine lv_iconst (v := (0 : Int32)) hx hb dX3_hold_6 (by decide) ?_
  refine lv_iload_n hx hb dX3_hold_7 rfl (lv_at hl 2 rfl) ?_
  obtain ⟨c_1, h⟩ := nb_c h
  refine nb_copy hx hb hml hl.1 had hown w_3 w_4 w_5 w_6 hK hP hS nb_a36 nb_a13 (Nat.le_of_ble_eq_true rfl) (Nat.le_of_ble_eq_true rfl) c_1 (nb_s13 _) dX3_hold_8 (fun H locs hP hS => ?_)
  obtain ⟨M_1, e_1, h⟩ := nb_nE h
  rw [e_1] at hP
  refine lv_aload_n hx hb dX3_hold_11 rfl (lv_at hl 0 rfl) ?_
  refine lv_iload_n hx hb dX3_hold_12 rfl (lv_at hl 2 rfl) ?_
  refine nb_put (C := RX3) (T := TX3) (NN := 3) hx hb had hts in3 tyX3 tyX3_ok nmX3 hown hK hP hS nb_a12 rfl 1 (by decide) w_7 rfl (ty := .int) (by decide +kernel) rfl rfl (Nat.le_of_ble_eq_true rfl) (nb_p12_1 _) dX3_hold_13 (fun H locs hP hS => ?_)
  obtain ⟨M_2, e_2, h⟩ := nb_nE h
  rw [e_2] at hP
  obtain rfl := nb_e1 h
  exact nb_vret hx hb hr hlk hP hS dX3_hold_16
set_option maxHeartbeats 4000000 in
set_option maxRecDepth 100000 in
theorem k_X3_hold_15_36 {M' : nb_M} (had : nb_AD ad b0) (M N : nb_M) (p0 : Int32) (h : f_X3_hold_15_36 M p0 = some (M')) : nb_C l D ad ca b0 yX3_hold wsX3_hold 1 [.ref (ad 15), .ref (ad 36), .int p0] M N none M' N := by
  refine nb_of (cc := cX3_hold) (maxL := 3) (ret := none) (own := RX3) (by decide +kernel) rfl rfl (Nat.le_of_ble_eq_true rfl) ?_
  intro p e s m args below meth c ls X hP hS hl
  have hl : lv_has ls 3 [(0, .ref (ad 15)), (1, .ref (ad 36)), (2, .int p0)] := hl
  obtain ⟨hx, hb, hml, hown, hts, hr, hlk, hK, hZ⟩ := id X
  have w_1 := hts (.fieldLink RX3 9 "NineBreakages$Text" "steps" "[I") (by decide +kernel)
  have in3 : ∀ w ∈ u_ws RX3 TX3 3, w ∈ wsX3_hold := fun w q => List.mem_cons_of_mem _ (List.mem_append_right _ q)
  have w_3 := hts (.methodLink RX3 22 arraycopyName) (by decide +kernel)
  have w_4 := hts (.native arraycopyName) (by decide +kernel)
  have w_5 := hts (.static arraycopyName) (by decide +kernel)
  have w_6 := hts (.initialized "java/lang/System") (by decide +kernel)
  have w_7 := hts (.fieldLink RX3 18 "NineBreakages$Text" "stepped" "I") (by decide +kernel)
  unfold f_X3_hold_15_36 at h
  refine lv_aload_n hx hb dX3_hold_0 rfl (lv_at hl 1 rfl) ?_
  refine lv_iconst (v := (0 : Int32)) hx hb dX3_hold_1 (by decide) ?_
  refine lv_aload_n hx hb dX3_hold_2 rfl (lv_at hl 0 rfl) ?_
  refine va_get (v := .ref (ad 16)) (C := RX3) (T := TX3) (N := 3) hx hb hts in3 hown hK.1 hP 15 nb_a15 rfl 0 (by decide) w_1 (fun _ h9 => h9) rfl dX3_hold_3 ?_
  refine lv_iconst (v := (0 : Int32)) hx hb dX3_hold_6 (by decide) ?_
  refine lv_iload_n hx hb dX3_hold_7 rfl (lv_at hl 2 rfl) ?_
  obtain ⟨c_1, h⟩ := nb_c h
  refine nb_copy hx hb hml hl.1 had hown w_3 w_4 w_5 w_6 hK hP hS nb_a36 nb_a16 (Nat.le_of_ble_eq_true rfl) (Nat.le_of_ble_eq_true rfl) c_1 (nb_s16 _) dX3_hold_8 (fun H locs hP hS => ?_)
  obtain ⟨M_1, e_1, h⟩ := nb_nE h
  rw [e_1] at hP
  refine lv_aload_n hx hb dX3_hold_11 rfl (lv_at hl 0 rfl) ?_
  refine lv_iload_n hx hb dX3_hold_12 rfl (lv_at hl 2 rfl) ?_
  refine nb_put (C := RX3) (T := TX3) (NN := 3) hx hb had hts in3 tyX3 tyX3_ok nmX3 hown hK hP hS nb_a15 rfl 1 (by decide) w_7 rfl (ty := .int) (by decide +kernel) rfl rfl (Nat.le_of_ble_eq_true rfl) (nb_p15_1 _) dX3_hold_13 (fun H locs hP hS => ?_)
  obtain ⟨M_2, e_2, h⟩ := nb_nE h
  rw [e_2] at hP
  obtain rfl := nb_e1 h
  exact nb_vret hx hb hr hlk hP hS dX3_hold_16
set_option maxHeartbeats 4000000 in
set_option maxRecDepth 100000 in
theorem k_X6_text {r : Int32} {M' : nb_M} (had : nb_AD ad b0) (M N : nb_M) (p0 : Int32) (h : f_X6_text M p0 = some (r, M')) : nb_C l D ad ca b0 yX6_text wsX6_text 68 [.ref (ad 0), .int p0] M N (some (.int r)) M' N := by
  refine nb_of (cc := cX6_text) (maxL := 3) (ret := (some .int)) (own := RX6) (by decide +kernel) rfl rfl (Nat.le_of_ble_eq_true rfl) ?_
  intro p e s m args below meth c ls X hP hS hl
  have hl : lv_has ls 3 [(0, .ref (ad 0)), (1, .int p0)] := hl
  obtain ⟨hx, hb, hml, hown, hts, hr, hlk, hK, hZ⟩ := id X
  have w_1 := hts (.fieldLink RX6 22 "NineBreakages" "reader" "LNineBreakages$Reader;") (by decide +kernel)
  have in6 : ∀ w ∈ u_ws RX6 TX6 8, w ∈ wsX6_text := fun w q => List.mem_cons_of_mem _ (List.mem_append_left _ (List.mem_append_left _ (List.mem_append_left _ (List.mem_append_right _ q))))
  have w_3 := hts (.fieldLink RX6 12 "NineBreakages" "now" "LNineBreakages$House;") (by decide +kernel)
  have w_4 := hts (.fieldLink RX6 137 "NineBreakages$House" "tape" "[I") (by decide +kernel)
  have in0 : ∀ w ∈ u_ws RX0 TX0 16, w ∈ wsX6_text := fun w q => List.mem_cons_of_mem _ (List.mem_append_left _ (List.mem_append_left _ (List.mem_append_right _ q)))
  have w_6 := hts (.fieldLink RX6 130 "NineBreakages$House" "taped" "I") (by decide +kernel)
  have w_7 := hts (.fieldLink RX6 147 "NineBreakages$House" "texts" "[LNineBreakages$Text;") (by decide +kernel)
  have w_8 := hts (.fieldLink RX6 151 "NineBreakages$Reader" "steps" "[I") (by decide +kernel)
  have in1 : ∀ w ∈ u_ws RX1 TX1 6, w ∈ wsX6_text := fun w q => List.mem_cons_of_mem _ (List.mem_append_left _ (List.mem_append_right _ q))
  have w_10 := hts (.fieldLink RX6 154 "NineBreakages$Reader" "stepped" "I") (by decide +kernel)
  have w_11 := hts (.fieldLink RX6 144 "NineBreakages$Reader" "at" "I") (by decide +kernel)
  unfold f_X6_text at h
  refine lv_iload_n hx hb dX6_text_0 rfl (lv_at hl 1 rfl) ?_
  refine lv_iconst (v := (1 : Int32)) hx hb dX6_text_1 (by decide) ?_
  refine nb_callS (n := 2) (As := [.int p0, .int (1 : Int32)]) (rest := []) hx hb hml hown hts hK hZ hP hS (k_X6_within had M N p0 (1 : Int32)) gX6_text_X6_within rfl (by decide +kernel) (nb_rm (Nat.le_of_ble_eq_true rfl) (Nat.le_of_ble_eq_true rfl)) rfl hl.1 rfl (Nat.le_of_ble_eq_true rfl) dX6_text_2 (fun H locs hP hS => ?_)
  refine W.eq (g2 := F0 m 5 ls [.int (f_X6_within p0 (1 : Int32))]) rfl ?_
  refine lv_if_ne (tgt := 14) hx hb dX6_text_5 (by decide) (fun c_2 => ?_) (fun c_2 => ?_)
  · have h := nb_f c_2 h
    refine lv_aload_n hx hb dX6_text_14 rfl (lv_at hl 0 rfl) ?_
    refine va_get (v := .ref (ad 35)) (C := RX6) (T := TX6) (N := 8) hx hb hts in6 hown hK.1 hP 0 nb_a0 rfl 2 (by decide) w_1 (fun _ h9 => h9) rfl dX6_text_15 ?_
    refine lv_aload_n hx hb dX6_text_18 rfl (lv_at hl 0 rfl) ?_
    refine va_get (v := .ref (ad 1)) (C := RX6) (T := TX6) (N := 8) hx hb hts in6 hown hK.1 hP 0 nb_a0 rfl 0 (by decide) w_3 (fun _ h9 => h9) rfl dX6_text_19 ?_
    refine va_get (v := .ref (ad 10)) (C := RX0) (T := TX0) (N := 16) hx hb hts in0 hown hK.1 hP 1 nb_a1 rfl 12 (by decide) w_4 (fun _ h9 => h9) rfl dX6_text_22 ?_
    refine lv_aload_n hx hb dX6_text_25 rfl (lv_at hl 0 rfl) ?_
    refine va_get (v := .ref (ad 1)) (C := RX6) (T := TX6) (N := 8) hx hb hts in6 hown hK.1 hP 0 nb_a0 rfl 0 (by decide) w_3 (fun _ h9 => h9) rfl dX6_text_26 ?_
    refine va_get (v := .int (M.1 1 13)) (C := RX0) (T := TX0) (N := 16) hx hb hts in0 hown hK.1 hP 1 nb_a1 rfl 13 (by decide) w_6 (fun _ h9 => h9) rfl dX6_text_29 ?_
    refine lv_iload_n hx hb dX6_text_32 rfl (lv_at hl 1 rfl) ?_
    obtain ⟨r_3, M_3, e_3, h⟩ := nb_pE h
    refine nb_callV (n := 3) (As := [.ref (ad 10), .int (M.1 1 13), .int p0]) (rest := []) hx hb hml hown hts hK hZ hP hS (k_X1_reads had M N (M.1 1 13) p0 e_3) gX6_text_X1_reads rfl (by decide +kernel) (nb_rm (Nat.le_of_ble_eq_true rfl) (Nat.le_of_ble_eq_true rfl)) nb_a35 rfl rfl rfl hl.1 rfl (Nat.le_of_ble_eq_true rfl) dX6_text_33 (fun H locs hP hS => ?_)
    refine W.eq (g2 := F0 m 36 ls [.int r_3]) rfl ?_
    refine lv_istore_n (lv' := [(2, .int r_3), (0, .ref (ad 0)), (1, .int p0)]) hx hb dX6_text_36 rfl hl (by decide) rfl (fun ls hl => ?_)
    refine lv_aload_n hx hb dX6_text_37 rfl (lv_at hl 1 rfl) ?_
    refine va_get (v := .ref (ad 1)) (C := RX6) (T := TX6) (N := 8) hx hb hts in6 hown hK.1 hP 0 nb_a0 rfl 0 (by decide) w_3 (fun _ h9 => h9) rfl dX6_text_38 ?_
    refine lv_iconst (v := (0 : Int32)) hx hb dX6_text_41 (by decide) ?_
    refine nb_put (C := RX0) (T := TX0) (NN := 16) hx hb had hts in0 tyX0 tyX0_ok nmX0 hown hK hP hS nb_a1 rfl 13 (by decide) w_6 rfl (ty := .int) (by decide +kernel) rfl rfl (Nat.le_of_ble_eq_true rfl) (nb_p1_13 _) dX6_text_42 (fun H locs hP hS => ?_)
    obtain ⟨M_4, e_4, h⟩ := nb_nE h
    rw [e_4] at hP
    refine lv_iload_n hx hb dX6_text_45 rfl (lv_at hl 0 rfl) ?_
    refine lv_if_ne (tgt := 60) hx hb dX6_text_46 (by decide) (fun c_5 => ?_) (fun c_5 => ?_)
    · have h := nb_f c_5 h
      refine lv_aload_n hx hb dX6_text_60 rfl (lv_at hl 1 rfl) ?_
      refine va_get (v := .ref (ad 1)) (C := RX6) (T := TX6) (N := 8) hx hb hts in6 hown hK.1 hP 0 nb_a0 rfl 0 (by decide) w_3 (fun _ h9 => h9) rfl dX6_text_61 ?_
      refine va_get (v := .ref (ad 9)) (C := RX0) (T := TX0) (N := 16) hx hb hts in0 hown hK.1 hP 1 nb_a1 rfl 11 (by decide) w_7 (fun _ h9 => h9) rfl dX6_text_64 ?_
      refine lv_iload_n hx hb dX6_text_67 rfl (lv_at hl 2 rfl) ?_
      by_cases c_6 : p0 = 0
      · have h := nb_t c_6 h
        refine nb_ald (t0 := 2) (E := RX3) (v := (0 : Int32)) hx hb hK hP nb_a9 rfl c_6 (nb_lit rfl) rfl dX6_text_68 ?_
        refine lv_aload_n hx hb dX6_text_69 rfl (lv_at hl 1 rfl) ?_
        refine va_get (v := .ref (ad 35)) (C := RX6) (T := TX6) (N := 8) hx hb hts in6 hown hK.1 hP 0 nb_a0 rfl 2 (by decide) w_1 (fun _ h9 => h9) rfl dX6_text_70 ?_
        refine va_get (v := .ref (ad 36)) (C := RX1) (T := TX1) (N := 6) hx hb hts in1 hown hK.1 hP 35 nb_a35 rfl 0 (by decide) w_8 (fun _ h9 => h9) rfl dX6_text_73 ?_
        refine lv_aload_n hx hb dX6_text_76 rfl (lv_at hl 1 rfl) ?_
        refine va_get (v := .ref (ad 35)) (C := RX6) (T := TX6) (N := 8) hx hb hts in6 hown hK.1 hP 0 nb_a0 rfl 2 (by decide) w_1 (fun _ h9 => h9) rfl dX6_text_77 ?_
        refine va_get (v := .int (M_4.1 35 1)) (C := RX1) (T := TX1) (N := 6) hx hb hts in1 hown hK.1 hP 35 nb_a35 rfl 1 (by decide) w_10 (fun _ h9 => h9) rfl dX6_text_80 ?_
        obtain ⟨M_7, e_7, h⟩ := nb_oE h
        refine nb_callV (n := 2) (As := [.ref (ad 36), .int (M_4.1 35 1)]) (rest := []) hx hb hml hown hts hK hZ hP hS (k_X3_hold_12_36 had M_4 N (M_4.1 35 1) e_7) gX6_text_X3_hold rfl (by decide +kernel) (nb_rm (Nat.le_of_ble_eq_true rfl) (Nat.le_of_ble_eq_true rfl)) nb_a12 rfl rfl rfl hl.1 rfl (Nat.le_of_ble_eq_true rfl) dX6_text_83 (fun H locs hP hS => ?_)
        refine W.eq (g2 := F0 m 86 ls []) rfl ?_
        refine lv_iconst (v := (1 : Int32)) hx hb dX6_text_86 (by decide) ?_
        obtain ⟨rfl, rfl⟩ := nb_e2 h
        exact nb_iret hx hb hr hlk hP hS dX6_text_87
      · have h := nb_f c_6 h
        by_cases c_8 : p0 = 1
        · have h := nb_t c_8 h
          refine nb_ald (t0 := 2) (E := RX3) (v := (1 : Int32)) hx hb hK hP nb_a9 rfl c_8 (nb_lit rfl) rfl dX6_text_68 ?_
          refine lv_aload_n hx hb dX6_text_69 rfl (lv_at hl 1 rfl) ?_
          refine va_get (v := .ref (ad 35)) (C := RX6) (T := TX6) (N := 8) hx hb hts in6 hown hK.1 hP 0 nb_a0 rfl 2 (by decide) w_1 (fun _ h9 => h9) rfl dX6_text_70 ?_
          refine va_get (v := .ref (ad 36)) (C := RX1) (T := TX1) (N := 6) hx hb hts in1 hown hK.1 hP 35 nb_a35 rfl 0 (by decide) w_8 (fun _ h9 => h9) rfl dX6_text_73 ?_
          refine lv_aload_n hx hb dX6_text_76 rfl (lv_at hl 1 rfl) ?_
          refine va_get (v := .ref (ad 35)) (C := RX6) (T := TX6) (N := 8) hx hb hts in6 hown hK.1 hP 0 nb_a0 rfl 2 (by decide) w_1 (fun _ h9 => h9) rfl dX6_text_77 ?_
          refine va_get (v := .int (M_4.1 35 1)) (C := RX1) (T := TX1) (N := 6) hx hb hts in1 hown hK.1 hP 35 nb_a35 rfl 1 (by decide) w_10 (fun _ h9 => h9) rfl dX6_text_80 ?_
          obtain ⟨M_9, e_9, h⟩ := nb_oE h
          refine nb_callV (n := 2) (As := [.ref (ad 36), .int (M_4.1 35 1)]) (rest := []) hx hb hml hown hts hK hZ hP hS (k_X3_hold_15_36 had M_4 N (M_4.1 35 1) e_9) gX6_text_X3_hold rfl (by decide +kernel) (nb_rm (Nat.le_of_ble_eq_true rfl) (Nat.le_of_ble_eq_true rfl)) nb_a15 rfl rfl rfl hl.1 rfl (Nat.le_of_ble_eq_true rfl) dX6_text_83 (fun H locs hP hS => ?_)
          refine W.eq (g2 := F0 m 86 ls []) rfl ?_
          refine lv_iconst (v := (1 : Int32)) hx hb dX6_text_86 (by decide) ?_
          obtain ⟨rfl, rfl⟩ := nb_e2 h
          exact nb_iret hx hb hr hlk hP hS dX6_text_87
        · have h := nb_f c_8 h
          cases h
    · have h := nb_t c_5 h
      refine lv_bipush (v := (-10 : Int32)) hx hb dX6_text_49 (by decide) ?_
      refine lv_aload_n hx hb dX6_text_51 rfl (lv_at hl 1 rfl) ?_
      refine va_get (v := .ref (ad 35)) (C := RX6) (T := TX6) (N := 8) hx hb hts in6 hown hK.1 hP 0 nb_a0 rfl 2 (by decide) w_1 (fun _ h9 => h9) rfl dX6_text_52 ?_
      refine va_get (v := .int (M_4.1 35 2)) (C := RX1) (T := TX1) (N := 6) hx hb hts in1 hown hK.1 hP 35 nb_a35 rfl 2 (by decide) w_11 (fun _ h9 => h9) rfl dX6_text_55 ?_
      refine lv_isub hx hb dX6_text_58 ?_
      obtain ⟨rfl, rfl⟩ := nb_e2 h
      exact nb_iret hx hb hr hlk hP hS dX6_text_59
  · have h := nb_t c_2 h
    refine lv_aload_n hx hb dX6_text_8 rfl (lv_at hl 0 rfl) ?_
    refine lv_iconst (v := (1 : Int32)) hx hb dX6_text_9 (by decide) ?_
    obtain ⟨r_10, M_10, e_10, h⟩ := nb_pE h
    refine nb_callV (n := 1) (As := [.int (1 : Int32)]) (rest := []) hx hb hml hown hts hK hZ hP hS (k_X6_fail had M N (1 : Int32) e_10) gX6_text_X6_fail rfl (by decide +kernel) (nb_rm (Nat.le_of_ble_eq_true rfl) (Nat.le_of_ble_eq_true rfl)) nb_a0 rfl rfl rfl hl.1 rfl (Nat.le_of_ble_eq_true rfl) dX6_text_10 (fun H locs hP hS => ?_)
    refine W.eq (g2 := F0 m 13 ls [.int r_10]) rfl ?_
    obtain ⟨rfl, rfl⟩ := nb_e2 h
    exact nb_iret hx hb hr hlk hP hS dX6_text_13
set_option maxHeartbeats 4000000 in
set_option maxRecDepth 100000 in
theorem k_X3_forget_12 {M' : nb_M} (had : nb_AD ad b0) (M N : nb_M) (h : f_X3_forget_12 M = M') : nb_C l D ad ca b0 yX3_forget wsX3_forget 0 [.ref (ad 12)] M N none M' N := by
  refine nb_of (cc := cX3_forget) (maxL := 1) (ret := none) (own := RX3) (by decide +kernel) rfl rfl (Nat.le_of_ble_eq_true rfl) ?_
  intro p e s m args below meth c ls X hP hS hl
  have hl : lv_has ls 1 [(0, .ref (ad 12))] := hl
  obtain ⟨hx, hb, hml, hown, hts, hr, hlk, hK, hZ⟩ := id X
  have w_1 := hts (.fieldLink RX3 18 "NineBreakages$Text" "stepped" "I") (by decide +kernel)
  have in3 : ∀ w ∈ u_ws RX3 TX3 3, w ∈ wsX3_forget := fun w q => List.mem_cons_of_mem _ (List.mem_append_right _ q)
  unfold f_X3_forget_12 at h
  refine lv_aload_n hx hb dX3_forget_0 rfl (lv_at hl 0 rfl) ?_
  refine lv_iconst (v := (0 : Int32)) hx hb dX3_forget_1 (by decide) ?_
  refine nb_put (C := RX3) (T := TX3) (NN := 3) hx hb had hts in3 tyX3 tyX3_ok nmX3 hown hK hP hS nb_a12 rfl 1 (by decide) w_1 rfl (ty := .int) (by decide +kernel) rfl rfl (Nat.le_of_ble_eq_true rfl) (nb_p12_1 _) dX3_forget_2 (fun H locs hP hS => ?_)
  obtain ⟨M_1, e_1, h⟩ := nb_nE h
  rw [e_1] at hP
  obtain rfl := nb_e3 h
  exact nb_vret hx hb hr hlk hP hS dX3_forget_5
set_option maxHeartbeats 4000000 in
set_option maxRecDepth 100000 in
theorem k_X3_forget_15 {M' : nb_M} (had : nb_AD ad b0) (M N : nb_M) (h : f_X3_forget_15 M = M') : nb_C l D ad ca b0 yX3_forget wsX3_forget 0 [.ref (ad 15)] M N none M' N := by
  refine nb_of (cc := cX3_forget) (maxL := 1) (ret := none) (own := RX3) (by decide +kernel) rfl rfl (Nat.le_of_ble_eq_true rfl) ?_
  intro p e s m args below meth c ls X hP hS hl
  have hl : lv_has ls 1 [(0, .ref (ad 15))] := hl
  obtain ⟨hx, hb, hml, hown, hts, hr, hlk, hK, hZ⟩ := id X
  have w_1 := hts (.fieldLink RX3 18 "NineBreakages$Text" "stepped" "I") (by decide +kernel)
  have in3 : ∀ w ∈ u_ws RX3 TX3 3, w ∈ wsX3_forget := fun w q => List.mem_cons_of_mem _ (List.mem_append_right _ q)
  unfold f_X3_forget_15 at h
  refine lv_aload_n hx hb dX3_forget_0 rfl (lv_at hl 0 rfl) ?_
  refine lv_iconst (v := (0 : Int32)) hx hb dX3_forget_1 (by decide) ?_
  refine nb_put (C := RX3) (T := TX3) (NN := 3) hx hb had hts in3 tyX3 tyX3_ok nmX3 hown hK hP hS nb_a15 rfl 1 (by decide) w_1 rfl (ty := .int) (by decide +kernel) rfl rfl (Nat.le_of_ble_eq_true rfl) (nb_p15_1 _) dX3_forget_2 (fun H locs hP hS => ?_)
  obtain ⟨M_1, e_1, h⟩ := nb_nE h
  rw [e_1] at hP
  obtain rfl := nb_e3 h
  exact nb_vret hx hb hr hlk hP hS dX3_forget_5
set_option maxHeartbeats 4000000 in
set_option maxRecDepth 100000 in
theorem k_X6_untell {r : Int32} {M' : nb_M} (had : nb_AD ad b0) (M N : nb_M) (p0 : Int32) (h : f_X6_untell M p0 = some (r, M')) : nb_C l D ad ca b0 yX6_untell wsX6_untell 1 [.ref (ad 0), .int p0] M N (some (.int r)) M' N := by
  refine nb_of (cc := cX6_untell) (maxL := 3) (ret := (some .int)) (own := RX6) (by decide +kernel) rfl rfl (Nat.le_of_ble_eq_true rfl) ?_
  intro p e s m args below meth c ls X hP hS hl
  have hl : lv_has ls 3 [(0, .ref (ad 0)), (1, .int p0)] := hl
  obtain ⟨hx, hb, hml, hown, hts, hr, hlk, hK, hZ⟩ := id X
  have w_1 := hts (.fieldLink RX6 12 "NineBreakages" "now" "LNineBreakages$House;") (by decide +kernel)
  have in6 : ∀ w ∈ u_ws RX6 TX6 8, w ∈ wsX6_untell := fun w q => List.mem_cons_of_mem _ (List.mem_append_left _ (List.mem_append_left _ (List.mem_append_right _ q)))
  have w_3 := hts (.fieldLink RX6 147 "NineBreakages$House" "texts" "[LNineBreakages$Text;") (by decide +kernel)
  have in0 : ∀ w ∈ u_ws RX0 TX0 16, w ∈ wsX6_untell := fun w q => List.mem_cons_of_mem _ (List.mem_append_left _ (List.mem_append_right _ q))
  unfold f_X6_untell at h
  refine lv_iload_n hx hb dX6_untell_0 rfl (lv_at hl 1 rfl) ?_
  refine lv_iconst (v := (1 : Int32)) hx hb dX6_untell_1 (by decide) ?_
  refine nb_callS (n := 2) (As := [.int p0, .int (1 : Int32)]) (rest := []) hx hb hml hown hts hK hZ hP hS (k_X6_within had M N p0 (1 : Int32)) gX6_untell_X6_within rfl (by decide +kernel) (nb_rm (Nat.le_of_ble_eq_true rfl) (Nat.le_of_ble_eq_true rfl)) rfl hl.1 rfl (Nat.le_of_ble_eq_true rfl) dX6_untell_2 (fun H locs hP hS => ?_)
  refine W.eq (g2 := F0 m 5 ls [.int (f_X6_within p0 (1 : Int32))]) rfl ?_
  refine lv_if_ne (tgt := 14) hx hb dX6_untell_5 (by decide) (fun c_2 => ?_) (fun c_2 => ?_)
  · have h := nb_f c_2 h
    refine lv_aload_n hx hb dX6_untell_14 rfl (lv_at hl 0 rfl) ?_
    refine va_get (v := .ref (ad 1)) (C := RX6) (T := TX6) (N := 8) hx hb hts in6 hown hK.1 hP 0 nb_a0 rfl 0 (by decide) w_1 (fun _ h9 => h9) rfl dX6_untell_15 ?_
    refine va_get (v := .ref (ad 9)) (C := RX0) (T := TX0) (N := 16) hx hb hts in0 hown hK.1 hP 1 nb_a1 rfl 11 (by decide) w_3 (fun _ h9 => h9) rfl dX6_untell_18 ?_
    refine lv_iload_n hx hb dX6_untell_21 rfl (lv_at hl 1 rfl) ?_
    by_cases c_3 : p0 = 0
    · have h := nb_t c_3 h
      refine nb_ald (t0 := 2) (E := RX3) (v := (0 : Int32)) hx hb hK hP nb_a9 rfl c_3 (nb_lit rfl) rfl dX6_untell_22 ?_
      refine nb_callV (n := 0) (As := []) (rest := []) hx hb hml hown hts hK hZ hP hS (k_X3_isThere_12 had M N) gX6_untell_X3_isThere rfl (by decide +kernel) (nb_rm (Nat.le_of_ble_eq_true rfl) (Nat.le_of_ble_eq_true rfl)) nb_a12 rfl rfl rfl hl.1 rfl (Nat.le_of_ble_eq_true rfl) dX6_untell_23 (fun H locs hP hS => ?_)
      refine W.eq (g2 := F0 m 26 ls [.int (f_X3_isThere_12 M)]) rfl ?_
      refine lv_topi (fun v_5 e_5 => ?_)
      have h := nb_nA e_5 h
      refine lv_istore_n (lv' := [(2, .int v_5), (0, .ref (ad 0)), (1, .int p0)]) hx hb dX6_untell_26 rfl hl (by decide) rfl (fun ls hl => ?_)
      refine lv_aload_n hx hb dX6_untell_27 rfl (lv_at hl 1 rfl) ?_
      refine va_get (v := .ref (ad 1)) (C := RX6) (T := TX6) (N := 8) hx hb hts in6 hown hK.1 hP 0 nb_a0 rfl 0 (by decide) w_1 (fun _ h9 => h9) rfl dX6_untell_28 ?_
      refine va_get (v := .ref (ad 9)) (C := RX0) (T := TX0) (N := 16) hx hb hts in0 hown hK.1 hP 1 nb_a1 rfl 11 (by decide) w_3 (fun _ h9 => h9) rfl dX6_untell_31 ?_
      refine lv_iload_n hx hb dX6_untell_34 rfl (lv_at hl 2 rfl) ?_
      refine nb_ald (t0 := 2) (E := RX3) (v := (0 : Int32)) hx hb hK hP nb_a9 rfl c_3 (nb_lit rfl) rfl dX6_untell_35 ?_
      obtain ⟨M_6, e_6, h⟩ := nb_nE h
      refine nb_callV (n := 0) (As := []) (rest := []) hx hb hml hown hts hK hZ hP hS (k_X3_forget_12 had M N e_6) gX6_untell_X3_forget rfl (by decide +kernel) (nb_rm (Nat.le_of_ble_eq_true rfl) (Nat.le_of_ble_eq_true rfl)) nb_a12 rfl rfl rfl hl.1 rfl (Nat.le_of_ble_eq_true rfl) dX6_untell_36 (fun H locs hP hS => ?_)
      refine W.eq (g2 := F0 m 39 ls []) rfl ?_
      refine lv_iload_n hx hb dX6_untell_39 rfl (lv_at hl 0 rfl) ?_
      refine nb_callS (n := 1) (As := [.int v_5]) (rest := []) hx hb hml hown hts hK hZ hP hS (k_X6_bit had M_6 N v_5) gX6_untell_X6_bit rfl (by decide +kernel) (nb_rm (Nat.le_of_ble_eq_true rfl) (Nat.le_of_ble_eq_true rfl)) rfl hl.1 rfl (Nat.le_of_ble_eq_true rfl) dX6_untell_40 (fun H locs hP hS => ?_)
      refine W.eq (g2 := F0 m 43 ls [.int (f_X6_bit v_5)]) rfl ?_
      obtain ⟨rfl, rfl⟩ := nb_e2 h
      exact nb_iret hx hb hr hlk hP hS dX6_untell_43
    · have h := nb_f c_3 h
      by_cases c_8 : p0 = 1
      · have h := nb_t c_8 h
        refine nb_ald (t0 := 2) (E := RX3) (v := (1 : Int32)) hx hb hK hP nb_a9 rfl c_8 (nb_lit rfl) rfl dX6_untell_22 ?_
        refine nb_callV (n := 0) (As := []) (rest := []) hx hb hml hown hts hK hZ hP hS (k_X3_isThere_15 had M N) gX6_untell_X3_isThere rfl (by decide +kernel) (nb_rm (Nat.le_of_ble_eq_true rfl) (Nat.le_of_ble_eq_true rfl)) nb_a15 rfl rfl rfl hl.1 rfl (Nat.le_of_ble_eq_true rfl) dX6_untell_23 (fun H locs hP hS => ?_)
        refine W.eq (g2 := F0 m 26 ls [.int (f_X3_isThere_15 M)]) rfl ?_
        refine lv_topi (fun v_10 e_10 => ?_)
        have h := nb_nA e_10 h
        refine lv_istore_n (lv' := [(2, .int v_10), (0, .ref (ad 0)), (1, .int p0)]) hx hb dX6_untell_26 rfl hl (by decide) rfl (fun ls hl => ?_)
        refine lv_aload_n hx hb dX6_untell_27 rfl (lv_at hl 1 rfl) ?_
        refine va_get (v := .ref (ad 1)) (C := RX6) (T := TX6) (N := 8) hx hb hts in6 hown hK.1 hP 0 nb_a0 rfl 0 (by decide) w_1 (fun _ h9 => h9) rfl dX6_untell_28 ?_
        refine va_get (v := .ref (ad 9)) (C := RX0) (T := TX0) (N := 16) hx hb hts in0 hown hK.1 hP 1 nb_a1 rfl 11 (by decide) w_3 (fun _ h9 => h9) rfl dX6_untell_31 ?_
        refine lv_iload_n hx hb dX6_untell_34 rfl (lv_at hl 2 rfl) ?_
        refine nb_ald (t0 := 2) (E := RX3) (v := (1 : Int32)) hx hb hK hP nb_a9 rfl c_8 (nb_lit rfl) rfl dX6_untell_35 ?_
        obtain ⟨M_11, e_11, h⟩ := nb_nE h
        refine nb_callV (n := 0) (As := []) (rest := []) hx hb hml hown hts hK hZ hP hS (k_X3_forget_15 had M N e_11) gX6_untell_X3_forget rfl (by decide +kernel) (nb_rm (Nat.le_of_ble_eq_true rfl) (Nat.le_of_ble_eq_true rfl)) nb_a15 rfl rfl rfl hl.1 rfl (Nat.le_of_ble_eq_true rfl) dX6_untell_36 (fun H locs hP hS => ?_)
        refine W.eq (g2 := F0 m 39 ls []) rfl ?_
        refine lv_iload_n hx hb dX6_untell_39 rfl (lv_at hl 0 rfl) ?_
        refine nb_callS (n := 1) (As := [.int v_10]) (rest := []) hx hb hml hown hts hK hZ hP hS (k_X6_bit had M_11 N v_10) gX6_untell_X6_bit rfl (by decide +kernel) (nb_rm (Nat.le_of_ble_eq_true rfl) (Nat.le_of_ble_eq_true rfl)) rfl hl.1 rfl (Nat.le_of_ble_eq_true rfl) dX6_untell_40 (fun H locs hP hS => ?_)
        refine W.eq (g2 := F0 m 43 ls [.int (f_X6_bit v_10)]) rfl ?_
        obtain ⟨rfl, rfl⟩ := nb_e2 h
        exact nb_iret hx hb hr hlk hP hS dX6_untell_43
      · have h := nb_f c_8 h
        cases h
  · have h := nb_t c_2 h
    refine lv_aload_n hx hb dX6_untell_8 rfl (lv_at hl 0 rfl) ?_
    refine lv_iconst (v := (1 : Int32)) hx hb dX6_untell_9 (by decide) ?_
    obtain ⟨r_13, M_13, e_13, h⟩ := nb_pE h
    refine nb_callV (n := 1) (As := [.int (1 : Int32)]) (rest := []) hx hb hml hown hts hK hZ hP hS (k_X6_fail had M N (1 : Int32) e_13) gX6_untell_X6_fail rfl (by decide +kernel) (nb_rm (Nat.le_of_ble_eq_true rfl) (Nat.le_of_ble_eq_true rfl)) nb_a0 rfl rfl rfl hl.1 rfl (Nat.le_of_ble_eq_true rfl) dX6_untell_10 (fun H locs hP hS => ?_)
    refine W.eq (g2 := F0 m 13 ls [.int r_13]) rfl ?_
    obtain ⟨rfl, rfl⟩ := nb_e2 h
    exact nb_iret hx hb hr hlk hP hS dX6_untell_13
set_option maxHeartbeats 4000000 in
set_option maxRecDepth 100000 in
theorem k_X6_law {r : Int32} {M' : nb_M} (had : nb_AD ad b0) (M N : nb_M) (p0 : Int32) (p1 : Int32) (p2 : Int32) (p3 : Int32) (h : f_X6_law M p0 p1 p2 p3 = some (r, M')) : nb_C l D ad ca b0 yX6_law wsX6_law 3 [.ref (ad 0), .int p0, .int p1, .int p2, .int p3] M N (some (.int r)) M' N := by
  refine nb_of (cc := cX6_law) (maxL := 5) (ret := (some .int)) (own := RX6) (by decide +kernel) rfl rfl (Nat.le_of_ble_eq_true rfl) ?_
  intro p e s m args below meth c ls X hP hS hl
  have hl : lv_has ls 5 [(0, .ref (ad 0)), (1, .int p0), (2, .int p1), (3, .int p2), (4, .int p3)] := hl
  obtain ⟨hx, hb, hml, hown, hts, hr, hlk, hK, hZ⟩ := id X
  have w_1 := hts (.fieldLink RX6 12 "NineBreakages" "now" "LNineBreakages$House;") (by decide +kernel)
  have in6 : ∀ w ∈ u_ws RX6 TX6 8, w ∈ wsX6_law := fun w q => List.mem_cons_of_mem _ (List.mem_append_left _ (List.mem_append_left _ (List.mem_append_right _ q)))
  unfold f_X6_law at h
  refine lv_iload_n hx hb dX6_law_0 rfl (lv_at hl 1 rfl) ?_
  refine lv_iconst (v := (1 : Int32)) hx hb dX6_law_1 (by decide) ?_
  refine nb_callS (n := 2) (As := [.int p0, .int (1 : Int32)]) (rest := []) hx hb hml hown hts hK hZ hP hS (k_X6_within had M N p0 (1 : Int32)) gX6_law_X6_within rfl (by decide +kernel) (nb_rm (Nat.le_of_ble_eq_true rfl) (Nat.le_of_ble_eq_true rfl)) rfl hl.1 rfl (Nat.le_of_ble_eq_true rfl) dX6_law_2 (fun H locs hP hS => ?_)
  refine W.eq (g2 := F0 m 5 ls [.int (f_X6_within p0 (1 : Int32))]) rfl ?_
  refine lv_if_ne (tgt := 14) hx hb dX6_law_5 (by decide) (fun c_2 => ?_) (fun c_2 => ?_)
  · have h := nb_f c_2 h
    refine lv_aload_n hx hb dX6_law_14 rfl (lv_at hl 0 rfl) ?_
    refine va_get (v := .ref (ad 1)) (C := RX6) (T := TX6) (N := 8) hx hb hts in6 hown hK.1 hP 0 nb_a0 rfl 0 (by decide) w_1 (fun _ h9 => h9) rfl dX6_law_15 ?_
    refine lv_iload_n hx hb dX6_law_18 rfl (lv_at hl 1 rfl) ?_
    refine lv_iload_n hx hb dX6_law_19 rfl (lv_at hl 2 rfl) ?_
    refine lv_iload_n hx hb dX6_law_20 rfl (lv_at hl 3 rfl) ?_
    refine lv_iload hx hb dX6_law_21 (lv_at hl 4 rfl) ?_
    obtain ⟨r_3, M_3, e_3, h⟩ := nb_pE h
    refine nb_callV (n := 4) (As := [.int p0, .int p1, .int p2, .int p3]) (rest := []) hx hb hml hown hts hK hZ hP hS (k_X0_gives had M N p0 p1 p2 p3 e_3) gX6_law_X0_gives rfl (by decide +kernel) (nb_rm (Nat.le_of_ble_eq_true rfl) (Nat.le_of_ble_eq_true rfl)) nb_a1 rfl rfl rfl hl.1 rfl (Nat.le_of_ble_eq_true rfl) dX6_law_23 (fun H locs hP hS => ?_)
    refine W.eq (g2 := F0 m 26 ls [.int r_3]) rfl ?_
    obtain ⟨rfl, rfl⟩ := nb_e2 h
    exact nb_iret hx hb hr hlk hP hS dX6_law_26
  · have h := nb_t c_2 h
    refine lv_aload_n hx hb dX6_law_8 rfl (lv_at hl 0 rfl) ?_
    refine lv_iconst (v := (1 : Int32)) hx hb dX6_law_9 (by decide) ?_
    obtain ⟨r_4, M_4, e_4, h⟩ := nb_pE h
    refine nb_callV (n := 1) (As := [.int (1 : Int32)]) (rest := []) hx hb hml hown hts hK hZ hP hS (k_X6_fail had M N (1 : Int32) e_4) gX6_law_X6_fail rfl (by decide +kernel) (nb_rm (Nat.le_of_ble_eq_true rfl) (Nat.le_of_ble_eq_true rfl)) nb_a0 rfl rfl rfl hl.1 rfl (Nat.le_of_ble_eq_true rfl) dX6_law_10 (fun H locs hP hS => ?_)
    refine W.eq (g2 := F0 m 13 ls [.int r_4]) rfl ?_
    obtain ⟨rfl, rfl⟩ := nb_e2 h
    exact nb_iret hx hb hr hlk hP hS dX6_law_13
set_option maxHeartbeats 4000000 in
set_option maxRecDepth 100000 in
theorem k_X6_days {r : Int32} {M' : nb_M} (had : nb_AD ad b0) (M N : nb_M) (p0 : Int32) (h : f_X6_days M p0 = some (r, M')) : nb_C l D ad ca b0 yX6_days wsX6_days 1 [.ref (ad 0), .int p0] M N (some (.int r)) M' N := by
  refine nb_of (cc := cX6_days) (maxL := 2) (ret := (some .int)) (own := RX6) (by decide +kernel) rfl rfl (Nat.le_of_ble_eq_true rfl) ?_
  intro p e s m args below meth c ls X hP hS hl
  have hl : lv_has ls 2 [(0, .ref (ad 0)), (1, .int p0)] := hl
  obtain ⟨hx, hb, hml, hown, hts, hr, hlk, hK, hZ⟩ := id X
  have w_1 := hts (.fieldLink RX6 12 "NineBreakages" "now" "LNineBreakages$House;") (by decide +kernel)
  have in6 : ∀ w ∈ u_ws RX6 TX6 8, w ∈ wsX6_days := fun w q => List.mem_cons_of_mem _ (List.mem_append_left _ (List.mem_append_right _ q))
  have w_3 := hts (.fieldLink RX6 111 "NineBreakages$House" "day" "I") (by decide +kernel)
  have in0 : ∀ w ∈ u_ws RX0 TX0 16, w ∈ wsX6_days := fun w q => List.mem_cons_of_mem _ (List.mem_append_right _ q)
  unfold f_X6_days at h
  refine lv_iload_n hx hb dX6_days_0 rfl (lv_at hl 1 rfl) ?_
  refine lv_iconst (v := (1 : Int32)) hx hb dX6_days_1 (by decide) ?_
  refine lv_icmp_lt (tgt := 11) hx hb dX6_days_2 (by decide) (fun c_1 => ?_) (fun c_1 => ?_)
  · have h := nb_t c_1 h
    refine lv_aload_n hx hb dX6_days_11 rfl (lv_at hl 0 rfl) ?_
    refine lv_iconst (v := (1 : Int32)) hx hb dX6_days_12 (by decide) ?_
    obtain ⟨r_2, M_2, e_2, h⟩ := nb_pE h
    refine nb_callV (n := 1) (As := [.int (1 : Int32)]) (rest := []) hx hb hml hown hts hK hZ hP hS (k_X6_fail had M N (1 : Int32) e_2) gX6_days_X6_fail rfl (by decide +kernel) (nb_rm (Nat.le_of_ble_eq_true rfl) (Nat.le_of_ble_eq_true rfl)) nb_a0 rfl rfl rfl hl.1 rfl (Nat.le_of_ble_eq_true rfl) dX6_days_13 (fun H locs hP hS => ?_)
    refine W.eq (g2 := F0 m 16 ls [.int r_2]) rfl ?_
    obtain ⟨rfl, rfl⟩ := nb_e2 h
    exact nb_iret hx hb hr hlk hP hS dX6_days_16
  · have h := nb_f c_1 h
    refine lv_iload_n hx hb dX6_days_5 rfl (lv_at hl 1 rfl) ?_
    refine lv_bipush (v := (60 : Int32)) hx hb dX6_days_6 (by decide) ?_
    refine lv_icmp_le (tgt := 17) hx hb dX6_days_8 (by decide) (fun c_3 => ?_) (fun c_3 => ?_)
    · have h := nb_t c_3 h
      refine lv_aload_n hx hb dX6_days_17 rfl (lv_at hl 0 rfl) ?_
      refine va_get (v := .ref (ad 1)) (C := RX6) (T := TX6) (N := 8) hx hb hts in6 hown hK.1 hP 0 nb_a0 rfl 0 (by decide) w_1 (fun _ h9 => h9) rfl dX6_days_18 ?_
      refine va_get (v := .int (M.1 1 0)) (C := RX0) (T := TX0) (N := 16) hx hb hts in0 hown hK.1 hP 1 nb_a1 rfl 0 (by decide) w_3 (fun _ h9 => h9) rfl dX6_days_21 ?_
      refine lv_iload_n hx hb dX6_days_24 rfl (lv_at hl 1 rfl) ?_
      refine lv_iadd hx hb dX6_days_25 ?_
      refine lv_sipush (v := (9999 : Int32)) hx hb dX6_days_26 (by decide) ?_
      refine lv_icmp_le (tgt := 38) hx hb dX6_days_29 (by decide) (fun c_4 => ?_) (fun c_4 => ?_)
      · have h := nb_t c_4 h
        refine lv_aload_n hx hb dX6_days_38 rfl (lv_at hl 0 rfl) ?_
        refine va_get (v := .ref (ad 1)) (C := RX6) (T := TX6) (N := 8) hx hb hts in6 hown hK.1 hP 0 nb_a0 rfl 0 (by decide) w_1 (fun _ h9 => h9) rfl dX6_days_39 ?_
        refine lv_dup hx hb dX6_days_42 rfl ?_
        refine va_get (v := .int (M.1 1 0)) (C := RX0) (T := TX0) (N := 16) hx hb hts in0 hown hK.1 hP 1 nb_a1 rfl 0 (by decide) w_3 (fun _ h9 => h9) rfl dX6_days_43 ?_
        refine lv_iload_n hx hb dX6_days_46 rfl (lv_at hl 1 rfl) ?_
        refine lv_iadd hx hb dX6_days_47 ?_
        refine nb_put (C := RX0) (T := TX0) (NN := 16) hx hb had hts in0 tyX0 tyX0_ok nmX0 hown hK hP hS nb_a1 rfl 0 (by decide) w_3 rfl (ty := .int) (by decide +kernel) rfl rfl (Nat.le_of_ble_eq_true rfl) (nb_p1_0 _) dX6_days_48 (fun H locs hP hS => ?_)
        obtain ⟨M_5, e_5, h⟩ := nb_nE h
        rw [e_5] at hP
        refine lv_aload_n hx hb dX6_days_51 rfl (lv_at hl 0 rfl) ?_
        refine va_get (v := .ref (ad 1)) (C := RX6) (T := TX6) (N := 8) hx hb hts in6 hown hK.1 hP 0 nb_a0 rfl 0 (by decide) w_1 (fun _ h9 => h9) rfl dX6_days_52 ?_
        refine va_get (v := .int (M_5.1 1 0)) (C := RX0) (T := TX0) (N := 16) hx hb hts in0 hown hK.1 hP 1 nb_a1 rfl 0 (by decide) w_3 (fun _ h9 => h9) rfl dX6_days_55 ?_
        obtain ⟨rfl, rfl⟩ := nb_e2 h
        exact nb_iret hx hb hr hlk hP hS dX6_days_58
      · have h := nb_f c_4 h
        refine lv_aload_n hx hb dX6_days_32 rfl (lv_at hl 0 rfl) ?_
        refine lv_iconst (v := (3 : Int32)) hx hb dX6_days_33 (by decide) ?_
        obtain ⟨r_6, M_6, e_6, h⟩ := nb_pE h
        refine nb_callV (n := 1) (As := [.int (3 : Int32)]) (rest := []) hx hb hml hown hts hK hZ hP hS (k_X6_fail had M N (3 : Int32) e_6) gX6_days_X6_fail rfl (by decide +kernel) (nb_rm (Nat.le_of_ble_eq_true rfl) (Nat.le_of_ble_eq_true rfl)) nb_a0 rfl rfl rfl hl.1 rfl (Nat.le_of_ble_eq_true rfl) dX6_days_34 (fun H locs hP hS => ?_)
        refine W.eq (g2 := F0 m 37 ls [.int r_6]) rfl ?_
        obtain ⟨rfl, rfl⟩ := nb_e2 h
        exact nb_iret hx hb hr hlk hP hS dX6_days_37
    · have h := nb_f c_3 h
      refine lv_aload_n hx hb dX6_days_11 rfl (lv_at hl 0 rfl) ?_
      refine lv_iconst (v := (1 : Int32)) hx hb dX6_days_12 (by decide) ?_
      obtain ⟨r_7, M_7, e_7, h⟩ := nb_pE h
      refine nb_callV (n := 1) (As := [.int (1 : Int32)]) (rest := []) hx hb hml hown hts hK hZ hP hS (k_X6_fail had M N (1 : Int32) e_7) gX6_days_X6_fail rfl (by decide +kernel) (nb_rm (Nat.le_of_ble_eq_true rfl) (Nat.le_of_ble_eq_true rfl)) nb_a0 rfl rfl rfl hl.1 rfl (Nat.le_of_ble_eq_true rfl) dX6_days_13 (fun H locs hP hS => ?_)
      refine W.eq (g2 := F0 m 16 ls [.int r_7]) rfl ?_
      obtain ⟨rfl, rfl⟩ := nb_e2 h
      exact nb_iret hx hb hr hlk hP hS dX6_days_16
set_option maxHeartbeats 4000000 in
set_option maxRecDepth 100000 in
theorem k_X0_draw {r : Int32} {M' : nb_M} (had : nb_AD ad b0) (M N : nb_M) (h : f_X0_draw M = (r, M')) : nb_C l D ad ca b0 yX0_draw wsX0_draw 0 [.ref (ad 1)] M N (some (.int r)) M' N := by
  refine nb_of (cc := cX0_draw) (maxL := 1) (ret := (some .int)) (own := RX0) (by decide +kernel) rfl rfl (Nat.le_of_ble_eq_true rfl) ?_
  intro p e s m args below meth c ls X hP hS hl
  have hl : lv_has ls 1 [(0, .ref (ad 1))] := hl
  obtain ⟨hx, hb, hml, hown, hts, hr, hlk, hK, hZ⟩ := id X
  have w_1 := hts (.fieldLink RX0 9 "NineBreakages$House" "z" "I") (by decide +kernel)
  have in0 : ∀ w ∈ u_ws RX0 TX0 16, w ∈ wsX0_draw := fun w q => List.mem_cons_of_mem _ (List.mem_append_right _ q)
  have w_3 := hts (.constant RX0 141 (1103515245)) (by decide +kernel)
  unfold f_X0_draw at h
  refine lv_aload_n hx hb dX0_draw_0 rfl (lv_at hl 0 rfl) ?_
  refine lv_aload_n hx hb dX0_draw_1 rfl (lv_at hl 0 rfl) ?_
  refine va_get (v := .int (M.1 1 1)) (C := RX0) (T := TX0) (N := 16) hx hb hts in0 hown hK.1 hP 1 nb_a1 rfl 1 (by decide) w_1 (fun _ h9 => h9) rfl dX0_draw_2 ?_
  refine lv_ldc (v := (1103515245 : Int32)) hx hb hown w_3 dX0_draw_5 ?_
  refine lv_imul hx hb dX0_draw_7 ?_
  refine lv_sipush (v := (12345 : Int32)) hx hb dX0_draw_8 (by decide) ?_
  refine lv_iadd hx hb dX0_draw_11 ?_
  refine nb_put (C := RX0) (T := TX0) (NN := 16) hx hb had hts in0 tyX0 tyX0_ok nmX0 hown hK hP hS nb_a1 rfl 1 (by decide) w_1 rfl (ty := .int) (by decide +kernel) rfl rfl (Nat.le_of_ble_eq_true rfl) (nb_p1_1 _) dX0_draw_12 (fun H locs hP hS => ?_)
  obtain ⟨M_1, e_1, h⟩ := nb_nE h
  rw [e_1] at hP
  refine lv_aload_n hx hb dX0_draw_15 rfl (lv_at hl 0 rfl) ?_
  refine va_get (v := .int (M_1.1 1 1)) (C := RX0) (T := TX0) (N := 16) hx hb hts in0 hown hK.1 hP 1 nb_a1 rfl 1 (by decide) w_1 (fun _ h9 => h9) rfl dX0_draw_16 ?_
  refine lv_bipush (v := (8 : Int32)) hx hb dX0_draw_19 (by decide) ?_
  refine lv_iushr hx hb dX0_draw_21 rfl ?_
  obtain ⟨rfl, rfl⟩ := nb_e4 h
  exact nb_iret hx hb hr hlk hP hS dX0_draw_22
set_option maxHeartbeats 4000000 in
set_option maxRecDepth 100000 in
theorem w_X0_dayByDraws_4 {N : nb_M} {r : Int32} {M' : nb_M} (had : nb_AD ad b0) (X : nb_X p s m args meth c cX0_dayByDraws 4 RX0 (some .int) wsX0_dayByDraws D ca b0) : ∀ (n : Nat) (M : nb_M) (x1 : Int32) (x2 : Int32), f_X0_dayByDraws_4 n M x1 x2 = some (r, M') → ∀ (H : Heap) (locs : List Loc), va_P D vwCl (nb_w ad ca M N) H → va_S (fun q => b0 ≤ q) s.heap H locs → ∀ ls : Array Slot, lv_has ls 4 [(0, .ref (ad 1)), (1, .int x1), (2, .int x2)] → W p l e (nb_R 5) s m args below meth c H locs 0 0 (nb_Q below args s D ad ca b0 (some (.int r)) M' N) (F0 m 4 ls []) := by
  obtain ⟨hx, hb, hml, hown, hts, hr, hlk, hK, hZ⟩ := id X
  have w_1 := hts (.fieldLink RX0 56 "NineBreakages$House" "pieces" "I") (by decide +kernel)
  have in0 : ∀ w ∈ u_ws RX0 TX0 16, w ∈ wsX0_dayByDraws := fun w q => List.mem_cons_of_mem _ (List.mem_append_left _ (List.mem_append_right _ q))
  have w_3 := hts (.fieldLink RX0 50 "NineBreakages$House" "day" "I") (by decide +kernel)
  have w_4 := hts (.fieldLink RX0 31 "NineBreakages$House" "owner" "[I") (by decide +kernel)
  have w_5 := hts (.fieldLink RX0 34 "NineBreakages$House" "state" "[I") (by decide +kernel)
  intro n
  induction n with
  | zero =>
    intro M x1 x2 h
    rw [f_X0_dayByDraws_4] at h
    cases h
  | succ n ih =>
    intro M x1 x2 h H locs hP hS ls hl
    rw [f_X0_dayByDraws_4] at h
    refine lv_iload_n hx hb dX0_dayByDraws_4 rfl (lv_at hl 2 rfl) ?_
    refine lv_aload_n hx hb dX0_dayByDraws_5 rfl (lv_at hl 0 rfl) ?_
    refine va_get (v := .int (M.1 1 6)) (C := RX0) (T := TX0) (N := 16) hx hb hts in0 hown hK.1 hP 1 nb_a1 rfl 6 (by decide) w_1 (fun _ h9 => h9) rfl dX0_dayByDraws_6 ?_
    refine lv_icmp_ge (tgt := 67) hx hb dX0_dayByDraws_9 (by decide) (fun c_1 => ?_) (fun c_1 => ?_)
    · have h := nb_t c_1 h
      refine lv_aload_n hx hb dX0_dayByDraws_67 rfl (lv_at hl 0 rfl) ?_
      refine lv_dup hx hb dX0_dayByDraws_68 rfl ?_
      refine va_get (v := .int (M.1 1 0)) (C := RX0) (T := TX0) (N := 16) hx hb hts in0 hown hK.1 hP 1 nb_a1 rfl 0 (by decide) w_3 (fun _ h9 => h9) rfl dX0_dayByDraws_69 ?_
      refine lv_iconst (v := (1 : Int32)) hx hb dX0_dayByDraws_72 (by decide) ?_
      refine lv_iadd hx hb dX0_dayByDraws_73 ?_
      refine nb_put (C := RX0) (T := TX0) (NN := 16) hx hb had hts in0 tyX0 tyX0_ok nmX0 hown hK hP hS nb_a1 rfl 0 (by decide) w_3 rfl (ty := .int) (by decide +kernel) rfl rfl (Nat.le_of_ble_eq_true rfl) (nb_p1_0 _) dX0_dayByDraws_74 (fun H locs hP hS => ?_)
      obtain ⟨M_2, e_2, h⟩ := nb_nE h
      rw [e_2] at hP
      refine lv_iload_n hx hb dX0_dayByDraws_77 rfl (lv_at hl 1 rfl) ?_
      obtain ⟨rfl, rfl⟩ := nb_e2 h
      exact nb_iret hx hb hr hlk hP hS dX0_dayByDraws_78
    · have h := nb_f c_1 h
      refine lv_aload_n hx hb dX0_dayByDraws_12 rfl (lv_at hl 0 rfl) ?_
      refine va_get (v := .ref (ad 7)) (C := RX0) (T := TX0) (N := 16) hx hb hts in0 hown hK.1 hP 1 nb_a1 rfl 9 (by decide) w_4 (fun _ h9 => h9) rfl dX0_dayByDraws_13 ?_
      refine lv_iload_n hx hb dX0_dayByDraws_16 rfl (lv_at hl 2 rfl) ?_
      obtain ⟨c_3, h⟩ := nb_c h
      refine va_iald hx hb hK.1 hP 7 0 nb_a7 rfl c_3 dX0_dayByDraws_17 ?_
      refine lv_topi (fun v_4 e_4 => ?_)
      have h := nb_nA e_4 h
      refine lv_istore_n (lv' := [(3, .int v_4), (0, .ref (ad 1)), (1, .int x1), (2, .int x2)]) hx hb dX0_dayByDraws_18 rfl hl (by decide) rfl (fun ls hl => ?_)
      refine lv_aload_n hx hb dX0_dayByDraws_19 rfl (lv_at hl 1 rfl) ?_
      refine va_get (v := .ref (ad 8)) (C := RX0) (T := TX0) (N := 16) hx hb hts in0 hown hK.1 hP 1 nb_a1 rfl 10 (by decide) w_5 (fun _ h9 => h9) rfl dX0_dayByDraws_20 ?_
      refine lv_iload_n hx hb dX0_dayByDraws_23 rfl (lv_at hl 3 rfl) ?_
      refine va_iald hx hb hK.1 hP 8 0 nb_a8 rfl c_3 dX0_dayByDraws_24 ?_
      refine lv_if_ne (tgt := 61) hx hb dX0_dayByDraws_25 (by decide) (fun c_5 => ?_) (fun c_5 => ?_)
      · have h := nb_f c_5 h
        refine lv_iinc (v := x2 + 1) (lv' := [(2, .int (x2 + 1)), (3, .int v_4), (0, .ref (ad 1)), (1, .int x1)]) hx hb dX0_dayByDraws_61 hl (k := 3) rfl (congrArg (HAdd.hAdd x2) (by decide)) (by decide) rfl (fun ls hl => ?_)
        refine lv_goto (tgt := 4) hx hb dX0_dayByDraws_64 (by decide) ?_
        exact ih _ _ _ h _ _ hP hS _ (lv_sub hl [2, 3, 0] rfl)
      · have h := nb_t c_5 h
        refine lv_aload_n hx hb dX0_dayByDraws_28 rfl (lv_at hl 1 rfl) ?_
        refine lv_iload_n hx hb dX0_dayByDraws_29 rfl (lv_at hl 0 rfl) ?_
        obtain ⟨r_6, e_6, h⟩ := nb_oE h
        refine nb_callV (n := 1) (As := [.int v_4]) (rest := []) hx hb hml hown hts hK hZ hP hS (k_X0_isThrough had M N v_4 e_6) gX0_dayByDraws_X0_isThrough rfl (by decide +kernel) (nb_rm (Nat.le_of_ble_eq_true rfl) (Nat.le_of_ble_eq_true rfl)) nb_a1 rfl rfl rfl hl.1 rfl (Nat.le_of_ble_eq_true rfl) dX0_dayByDraws_30 (fun H locs hP hS => ?_)
        refine W.eq (g2 := F0 m 33 ls [.int r_6]) rfl ?_
        refine lv_if_ne (tgt := 61) hx hb dX0_dayByDraws_33 (by decide) (fun c_7 => ?_) (fun c_7 => ?_)
        · have h := nb_f c_7 h
          refine lv_iinc (v := x2 + 1) (lv' := [(2, .int (x2 + 1)), (3, .int v_4), (0, .ref (ad 1)), (1, .int x1)]) hx hb dX0_dayByDraws_61 hl (k := 3) rfl (congrArg (HAdd.hAdd x2) (by decide)) (by decide) rfl (fun ls hl => ?_)
          refine lv_goto (tgt := 4) hx hb dX0_dayByDraws_64 (by decide) ?_
          exact ih _ _ _ h _ _ hP hS _ (lv_sub hl [2, 3, 0] rfl)
        · have h := nb_t c_7 h
          refine lv_aload_n hx hb dX0_dayByDraws_36 rfl (lv_at hl 1 rfl) ?_
          obtain ⟨r_8, M_8, e_8, h⟩ := nb_qE h
          refine nb_callV (n := 0) (As := []) (rest := []) hx hb hml hown hts hK hZ hP hS (k_X0_draw had M N e_8) gX0_dayByDraws_X0_draw rfl (by decide +kernel) (nb_rm (Nat.le_of_ble_eq_true rfl) (Nat.le_of_ble_eq_true rfl)) nb_a1 rfl rfl rfl hl.1 rfl (Nat.le_of_ble_eq_true rfl) dX0_dayByDraws_37 (fun H locs hP hS => ?_)
          refine W.eq (g2 := F0 m 40 ls [.int r_8]) rfl ?_
          refine lv_bipush (v := (16 : Int32)) hx hb dX0_dayByDraws_40 (by decide) ?_
          refine lv_irem hx hb dX0_dayByDraws_42 (by decide) ?_
          refine lv_aload_n hx hb dX0_dayByDraws_43 rfl (lv_at hl 1 rfl) ?_
          refine lv_iload_n hx hb dX0_dayByDraws_44 rfl (lv_at hl 3 rfl) ?_
          refine lv_iload_n hx hb dX0_dayByDraws_45 rfl (lv_at hl 0 rfl) ?_
          obtain ⟨r_9, M_9, e_9, h⟩ := nb_pE h
          refine nb_callV (n := 2) (As := [.int x2, .int v_4]) (rest := [.int (r_8 - r_8 / (16 : Int32) * (16 : Int32))]) hx hb hml hown hts hK hZ hP hS (k_X0_riskIn had M_8 N x2 v_4 e_9) gX0_dayByDraws_X0_riskIn rfl (by decide +kernel) (nb_rm (Nat.le_of_ble_eq_true rfl) (Nat.le_of_ble_eq_true rfl)) nb_a1 rfl rfl rfl hl.1 rfl (Nat.le_of_ble_eq_true rfl) dX0_dayByDraws_46 (fun H locs hP hS => ?_)
          refine W.eq (g2 := F0 m 49 ls [.int r_9, .int (r_8 - r_8 / (16 : Int32) * (16 : Int32))]) rfl ?_
          refine lv_icmp_ge (tgt := 61) hx hb dX0_dayByDraws_49 (by decide) (fun c_10 => ?_) (fun c_10 => ?_)
          · have h := nb_t c_10 h
            refine lv_iinc (v := x2 + 1) (lv' := [(2, .int (x2 + 1)), (3, .int v_4), (0, .ref (ad 1)), (1, .int x1)]) hx hb dX0_dayByDraws_61 hl (k := 3) rfl (congrArg (HAdd.hAdd x2) (by decide)) (by decide) rfl (fun ls hl => ?_)
            refine lv_goto (tgt := 4) hx hb dX0_dayByDraws_64 (by decide) ?_
            exact ih _ _ _ h _ _ hP hS _ (lv_sub hl [2, 3, 0] rfl)
          · have h := nb_f c_10 h
            refine lv_aload_n hx hb dX0_dayByDraws_52 rfl (lv_at hl 1 rfl) ?_
            refine lv_iload_n hx hb dX0_dayByDraws_53 rfl (lv_at hl 3 rfl) ?_
            obtain ⟨r_11, M_11, e_11, h⟩ := nb_pE h
            refine nb_callV (n := 1) (As := [.int x2]) (rest := []) hx hb hml hown hts hK hZ hP hS (k_X0_breakPiece had M_9 N x2 e_11) gX0_dayByDraws_X0_breakPiece rfl (by decide +kernel) (nb_rm (Nat.le_of_ble_eq_true rfl) (Nat.le_of_ble_eq_true rfl)) nb_a1 rfl rfl rfl hl.1 rfl (Nat.le_of_ble_eq_true rfl) dX0_dayByDraws_54 (fun H locs hP hS => ?_)
            refine W.eq (g2 := F0 m 57 ls [.int r_11]) rfl ?_
            refine lv_pop hx hb dX0_dayByDraws_57 rfl ?_
            refine lv_iinc (v := x1 + 1) (lv' := [(1, .int (x1 + 1)), (3, .int v_4), (0, .ref (ad 1)), (2, .int x2)]) hx hb dX0_dayByDraws_58 hl (k := 2) rfl (congrArg (HAdd.hAdd x1) (by decide)) (by decide) rfl (fun ls hl => ?_)
            refine lv_iinc (v := x2 + 1) (lv' := [(2, .int (x2 + 1)), (1, .int (x1 + 1)), (3, .int v_4), (0, .ref (ad 1))]) hx hb dX0_dayByDraws_61 hl (k := 3) rfl (congrArg (HAdd.hAdd x2) (by decide)) (by decide) rfl (fun ls hl => ?_)
            refine lv_goto (tgt := 4) hx hb dX0_dayByDraws_64 (by decide) ?_
            exact ih _ _ _ h _ _ hP hS _ (lv_sub hl [3, 1, 0] rfl)
set_option maxHeartbeats 4000000 in
set_option maxRecDepth 100000 in
theorem k_X0_dayByDraws {r : Int32} {M' : nb_M} (had : nb_AD ad b0) (M N : nb_M) (h : f_X0_dayByDraws M = some (r, M')) : nb_C l D ad ca b0 yX0_dayByDraws wsX0_dayByDraws 5 [.ref (ad 1)] M N (some (.int r)) M' N := by
  refine nb_of (cc := cX0_dayByDraws) (maxL := 4) (ret := (some .int)) (own := RX0) (by decide +kernel) rfl rfl (Nat.le_of_ble_eq_true rfl) ?_
  intro p e s m args below meth c ls X hP hS hl
  have hl : lv_has ls 4 [(0, .ref (ad 1))] := hl
  obtain ⟨hx, hb, hml, hown, hts, hr, hlk, hK, hZ⟩ := id X
  unfold f_X0_dayByDraws at h
  refine lv_iconst (v := (0 : Int32)) hx hb dX0_dayByDraws_0 (by decide) ?_
  refine lv_istore_n (lv' := [(1, .int (0 : Int32)), (0, .ref (ad 1))]) hx hb dX0_dayByDraws_1 rfl hl (by decide) rfl (fun ls hl => ?_)
  refine lv_iconst (v := (0 : Int32)) hx hb dX0_dayByDraws_2 (by decide) ?_
  refine lv_istore_n (lv' := [(2, .int (0 : Int32)), (1, .int (0 : Int32)), (0, .ref (ad 1))]) hx hb dX0_dayByDraws_3 rfl hl (by decide) rfl (fun ls hl => ?_)
  exact w_X0_dayByDraws_4 had X nb_F _ _ _ h _ _ hP hS _ (lv_sub hl [2, 1, 0] rfl)
set_option maxHeartbeats 4000000 in
set_option maxRecDepth 100000 in
theorem w_X6_loose_42 {N : nb_M} {r : Int32} {M' : nb_M} (had : nb_AD ad b0) (X : nb_X p s m args meth c cX6_loose 4 RX6 (some .int) wsX6_loose D ca b0) : ∀ (n : Nat) (M : nb_M) (x1 : Int32) (x2 : Int32) (x3 : Int32), f_X6_loose_42 n M x1 x2 x3 = some (r, M') → ∀ (H : Heap) (locs : List Loc), va_P D vwCl (nb_w ad ca M N) H → va_S (fun q => b0 ≤ q) s.heap H locs → ∀ ls : Array Slot, lv_has ls 4 [(0, .ref (ad 0)), (1, .int x1), (2, .int x2), (3, .int x3)] → W p l e (nb_R 6) s m args below meth c H locs 0 0 (nb_Q below args s D ad ca b0 (some (.int r)) M' N) (F0 m 42 ls []) := by
  obtain ⟨hx, hb, hml, hown, hts, hr, hlk, hK, hZ⟩ := id X
  have w_1 := hts (.fieldLink RX6 12 "NineBreakages" "now" "LNineBreakages$House;") (by decide +kernel)
  have in6 : ∀ w ∈ u_ws RX6 TX6 8, w ∈ wsX6_loose := fun w q => List.mem_cons_of_mem _ (List.mem_append_left _ (List.mem_append_left _ (List.mem_append_right _ q)))
  intro n
  induction n with
  | zero =>
    intro M x1 x2 x3 h
    rw [f_X6_loose_42] at h
    cases h
  | succ n ih =>
    intro M x1 x2 x3 h H locs hP hS ls hl
    rw [f_X6_loose_42] at h
    refine lv_iload_n hx hb dX6_loose_42 rfl (lv_at hl 3 rfl) ?_
    refine lv_iload_n hx hb dX6_loose_43 rfl (lv_at hl 1 rfl) ?_
    refine lv_icmp_ge (tgt := 63) hx hb dX6_loose_44 (by decide) (fun c_5 => ?_) (fun c_5 => ?_)
    · have h := nb_t c_5 h
      refine lv_iload_n hx hb dX6_loose_63 rfl (lv_at hl 2 rfl) ?_
      obtain ⟨rfl, rfl⟩ := nb_e2 h
      exact nb_iret hx hb hr hlk hP hS dX6_loose_64
    · have h := nb_f c_5 h
      refine lv_iload_n hx hb dX6_loose_47 rfl (lv_at hl 2 rfl) ?_
      refine lv_aload_n hx hb dX6_loose_48 rfl (lv_at hl 0 rfl) ?_
      refine va_get (v := .ref (ad 1)) (C := RX6) (T := TX6) (N := 8) hx hb hts in6 hown hK.1 hP 0 nb_a0 rfl 0 (by decide) w_1 (fun _ h9 => h9) rfl dX6_loose_49 ?_
      obtain ⟨r_6, M_6, e_6, h⟩ := nb_pE h
      refine nb_callV (n := 0) (As := []) (rest := [.int x2]) hx hb hml hown hts hK hZ hP hS (k_X0_dayByDraws had M N e_6) gX6_loose_X0_dayByDraws rfl (by decide +kernel) (nb_rm (Nat.le_of_ble_eq_true rfl) (Nat.le_of_ble_eq_true rfl)) nb_a1 rfl rfl rfl hl.1 rfl (Nat.le_of_ble_eq_true rfl) dX6_loose_52 (fun H locs hP hS => ?_)
      refine W.eq (g2 := F0 m 55 ls [.int r_6, .int x2]) rfl ?_
      refine lv_iadd hx hb dX6_loose_55 ?_
      refine lv_topi (fun v_7 e_7 => ?_)
      have h := nb_nA e_7 h
      refine lv_istore_n (lv' := [(2, .int v_7), (0, .ref (ad 0)), (1, .int x1), (3, .int x3)]) hx hb dX6_loose_56 rfl hl (by decide) rfl (fun ls hl => ?_)
      refine lv_iinc (v := x3 + 1) (lv' := [(3, .int (x3 + 1)), (2, .int v_7), (0, .ref (ad 0)), (1, .int x1)]) hx hb dX6_loose_57 hl (k := 3) rfl (congrArg (HAdd.hAdd x3) (by decide)) (by decide) rfl (fun ls hl => ?_)
      refine lv_goto (tgt := 42) hx hb dX6_loose_60 (by decide) ?_
      exact ih _ _ _ _ h _ _ hP hS _ (lv_sub hl [2, 3, 1, 0] rfl)
set_option maxHeartbeats 4000000 in
set_option maxRecDepth 100000 in
theorem k_X6_loose {r : Int32} {M' : nb_M} (had : nb_AD ad b0) (M N : nb_M) (p0 : Int32) (h : f_X6_loose M p0 = some (r, M')) : nb_C l D ad ca b0 yX6_loose wsX6_loose 6 [.ref (ad 0), .int p0] M N (some (.int r)) M' N := by
  refine nb_of (cc := cX6_loose) (maxL := 4) (ret := (some .int)) (own := RX6) (by decide +kernel) rfl rfl (Nat.le_of_ble_eq_true rfl) ?_
  intro p e s m args below meth c ls X hP hS hl
  have hl : lv_has ls 4 [(0, .ref (ad 0)), (1, .int p0)] := hl
  obtain ⟨hx, hb, hml, hown, hts, hr, hlk, hK, hZ⟩ := id X
  have w_1 := hts (.fieldLink RX6 12 "NineBreakages" "now" "LNineBreakages$House;") (by decide +kernel)
  have in6 : ∀ w ∈ u_ws RX6 TX6 8, w ∈ wsX6_loose := fun w q => List.mem_cons_of_mem _ (List.mem_append_left _ (List.mem_append_left _ (List.mem_append_right _ q)))
  have w_3 := hts (.fieldLink RX6 111 "NineBreakages$House" "day" "I") (by decide +kernel)
  have in0 : ∀ w ∈ u_ws RX0 TX0 16, w ∈ wsX6_loose := fun w q => List.mem_cons_of_mem _ (List.mem_append_left _ (List.mem_append_right _ q))
  unfold f_X6_loose at h
  refine lv_iload_n hx hb dX6_loose_0 rfl (lv_at hl 1 rfl) ?_
  refine lv_iconst (v := (1 : Int32)) hx hb dX6_loose_1 (by decide) ?_
  refine lv_icmp_lt (tgt := 11) hx hb dX6_loose_2 (by decide) (fun c_1 => ?_) (fun c_1 => ?_)
  · have h := nb_t c_1 h
    refine lv_aload_n hx hb dX6_loose_11 rfl (lv_at hl 0 rfl) ?_
    refine lv_iconst (v := (1 : Int32)) hx hb dX6_loose_12 (by decide) ?_
    obtain ⟨r_2, M_2, e_2, h⟩ := nb_pE h
    refine nb_callV (n := 1) (As := [.int (1 : Int32)]) (rest := []) hx hb hml hown hts hK hZ hP hS (k_X6_fail had M N (1 : Int32) e_2) gX6_loose_X6_fail rfl (by decide +kernel) (nb_rm (Nat.le_of_ble_eq_true rfl) (Nat.le_of_ble_eq_true rfl)) nb_a0 rfl rfl rfl hl.1 rfl (Nat.le_of_ble_eq_true rfl) dX6_loose_13 (fun H locs hP hS => ?_)
    refine W.eq (g2 := F0 m 16 ls [.int r_2]) rfl ?_
    obtain ⟨rfl, rfl⟩ := nb_e2 h
    exact nb_iret hx hb hr hlk hP hS dX6_loose_16
  · have h := nb_f c_1 h
    refine lv_iload_n hx hb dX6_loose_5 rfl (lv_at hl 1 rfl) ?_
    refine lv_bipush (v := (30 : Int32)) hx hb dX6_loose_6 (by decide) ?_
    refine lv_icmp_le (tgt := 17) hx hb dX6_loose_8 (by decide) (fun c_3 => ?_) (fun c_3 => ?_)
    · have h := nb_t c_3 h
      refine lv_aload_n hx hb dX6_loose_17 rfl (lv_at hl 0 rfl) ?_
      refine va_get (v := .ref (ad 1)) (C := RX6) (T := TX6) (N := 8) hx hb hts in6 hown hK.1 hP 0 nb_a0 rfl 0 (by decide) w_1 (fun _ h9 => h9) rfl dX6_loose_18 ?_
      refine va_get (v := .int (M.1 1 0)) (C := RX0) (T := TX0) (N := 16) hx hb hts in0 hown hK.1 hP 1 nb_a1 rfl 0 (by decide) w_3 (fun _ h9 => h9) rfl dX6_loose_21 ?_
      refine lv_iload_n hx hb dX6_loose_24 rfl (lv_at hl 1 rfl) ?_
      refine lv_iadd hx hb dX6_loose_25 ?_
      refine lv_sipush (v := (9999 : Int32)) hx hb dX6_loose_26 (by decide) ?_
      refine lv_icmp_le (tgt := 38) hx hb dX6_loose_29 (by decide) (fun c_4 => ?_) (fun c_4 => ?_)
      · have h := nb_t c_4 h
        refine lv_iconst (v := (0 : Int32)) hx hb dX6_loose_38 (by decide) ?_
        refine lv_istore_n (lv' := [(2, .int (0 : Int32)), (0, .ref (ad 0)), (1, .int p0)]) hx hb dX6_loose_39 rfl hl (by decide) rfl (fun ls hl => ?_)
        refine lv_iconst (v := (0 : Int32)) hx hb dX6_loose_40 (by decide) ?_
        refine lv_istore_n (lv' := [(3, .int (0 : Int32)), (2, .int (0 : Int32)), (0, .ref (ad 0)), (1, .int p0)]) hx hb dX6_loose_41 rfl hl (by decide) rfl (fun ls hl => ?_)
        exact w_X6_loose_42 had X nb_F _ _ _ _ h _ _ hP hS _ (lv_sub hl [2, 3, 1, 0] rfl)
      · have h := nb_f c_4 h
        refine lv_aload_n hx hb dX6_loose_32 rfl (lv_at hl 0 rfl) ?_
        refine lv_iconst (v := (3 : Int32)) hx hb dX6_loose_33 (by decide) ?_
        obtain ⟨r_8, M_8, e_8, h⟩ := nb_pE h
        refine nb_callV (n := 1) (As := [.int (3 : Int32)]) (rest := []) hx hb hml hown hts hK hZ hP hS (k_X6_fail had M N (3 : Int32) e_8) gX6_loose_X6_fail rfl (by decide +kernel) (nb_rm (Nat.le_of_ble_eq_true rfl) (Nat.le_of_ble_eq_true rfl)) nb_a0 rfl rfl rfl hl.1 rfl (Nat.le_of_ble_eq_true rfl) dX6_loose_34 (fun H locs hP hS => ?_)
        refine W.eq (g2 := F0 m 37 ls [.int r_8]) rfl ?_
        obtain ⟨rfl, rfl⟩ := nb_e2 h
        exact nb_iret hx hb hr hlk hP hS dX6_loose_37
    · have h := nb_f c_3 h
      refine lv_aload_n hx hb dX6_loose_11 rfl (lv_at hl 0 rfl) ?_
      refine lv_iconst (v := (1 : Int32)) hx hb dX6_loose_12 (by decide) ?_
      obtain ⟨r_9, M_9, e_9, h⟩ := nb_pE h
      refine nb_callV (n := 1) (As := [.int (1 : Int32)]) (rest := []) hx hb hml hown hts hK hZ hP hS (k_X6_fail had M N (1 : Int32) e_9) gX6_loose_X6_fail rfl (by decide +kernel) (nb_rm (Nat.le_of_ble_eq_true rfl) (Nat.le_of_ble_eq_true rfl)) nb_a0 rfl rfl rfl hl.1 rfl (Nat.le_of_ble_eq_true rfl) dX6_loose_13 (fun H locs hP hS => ?_)
      refine W.eq (g2 := F0 m 16 ls [.int r_9]) rfl ?_
      obtain ⟨rfl, rfl⟩ := nb_e2 h
      exact nb_iret hx hb hr hlk hP hS dX6_loose_16
set_option maxHeartbeats 4000000 in
set_option maxRecDepth 100000 in
theorem k_X6_seed {r : Int32} {M' : nb_M} (had : nb_AD ad b0) (M N : nb_M) (p0 : Int32) (h : f_X6_seed M p0 = (r, M')) : nb_C l D ad ca b0 yX6_seed wsX6_seed 0 [.ref (ad 0), .int p0] M N (some (.int r)) M' N := by
  refine nb_of (cc := cX6_seed) (maxL := 3) (ret := (some .int)) (own := RX6) (by decide +kernel) rfl rfl (Nat.le_of_ble_eq_true rfl) ?_
  intro p e s m args below meth c ls X hP hS hl
  have hl : lv_has ls 3 [(0, .ref (ad 0)), (1, .int p0)] := hl
  obtain ⟨hx, hb, hml, hown, hts, hr, hlk, hK, hZ⟩ := id X
  have w_1 := hts (.fieldLink RX6 12 "NineBreakages" "now" "LNineBreakages$House;") (by decide +kernel)
  have in6 : ∀ w ∈ u_ws RX6 TX6 8, w ∈ wsX6_seed := fun w q => List.mem_cons_of_mem _ (List.mem_append_left _ (List.mem_append_right _ q))
  have w_3 := hts (.fieldLink RX6 178 "NineBreakages$House" "z" "I") (by decide +kernel)
  have in0 : ∀ w ∈ u_ws RX0 TX0 16, w ∈ wsX6_seed := fun w q => List.mem_cons_of_mem _ (List.mem_append_right _ q)
  unfold f_X6_seed at h
  refine lv_aload_n hx hb dX6_seed_0 rfl (lv_at hl 0 rfl) ?_
  refine va_get (v := .ref (ad 1)) (C := RX6) (T := TX6) (N := 8) hx hb hts in6 hown hK.1 hP 0 nb_a0 rfl 0 (by decide) w_1 (fun _ h9 => h9) rfl dX6_seed_1 ?_
  refine va_get (v := .int (M.1 1 1)) (C := RX0) (T := TX0) (N := 16) hx hb hts in0 hown hK.1 hP 1 nb_a1 rfl 1 (by decide) w_3 (fun _ h9 => h9) rfl dX6_seed_4 ?_
  refine lv_istore_n (lv' := [(2, .int (M.1 1 1)), (0, .ref (ad 0)), (1, .int p0)]) hx hb dX6_seed_7 rfl hl (by decide) rfl (fun ls hl => ?_)
  refine lv_aload_n hx hb dX6_seed_8 rfl (lv_at hl 1 rfl) ?_
  refine va_get (v := .ref (ad 1)) (C := RX6) (T := TX6) (N := 8) hx hb hts in6 hown hK.1 hP 0 nb_a0 rfl 0 (by decide) w_1 (fun _ h9 => h9) rfl dX6_seed_9 ?_
  refine lv_iload_n hx hb dX6_seed_12 rfl (lv_at hl 2 rfl) ?_
  refine nb_put (C := RX0) (T := TX0) (NN := 16) hx hb had hts in0 tyX0 tyX0_ok nmX0 hown hK hP hS nb_a1 rfl 1 (by decide) w_3 rfl (ty := .int) (by decide +kernel) rfl rfl (Nat.le_of_ble_eq_true rfl) (nb_p1_1 _) dX6_seed_13 (fun H locs hP hS => ?_)
  obtain ⟨M_1, e_1, h⟩ := nb_nE h
  rw [e_1] at hP
  refine lv_iload_n hx hb dX6_seed_16 rfl (lv_at hl 0 rfl) ?_
  obtain ⟨rfl, rfl⟩ := nb_e4 h
  exact nb_iret hx hb hr hlk hP hS dX6_seed_17
set_option maxHeartbeats 4000000 in
set_option maxRecDepth 100000 in
theorem k_X4_isLeft {r : Int32} (had : nb_AD ad b0) (M N : nb_M) (p0 : Int32) (p1 : Int32) (h : f_X4_isLeft M p0 p1 = some r) : nb_C l D ad ca b0 yX4_isLeft wsX4_isLeft 3 [.ref (ad 38), .ref (ad 1), .int p0, .int p1] M N (some (.int r)) M N := by
  refine nb_of (cc := cX4_isLeft) (maxL := 4) (ret := (some .boolean)) (own := RX4) (by decide +kernel) rfl rfl (Nat.le_of_ble_eq_true rfl) ?_
  intro p e s m args below meth c ls X hP hS hl
  have hl : lv_has ls 4 [(0, .ref (ad 38)), (1, .ref (ad 1)), (2, .int p0), (3, .int p1)] := hl
  obtain ⟨hx, hb, hml, hown, hts, hr, hlk, hK, hZ⟩ := id X
  have w_1 := hts (.fieldLink RX4 25 "NineBreakages$House" "owner" "[I") (by decide +kernel)
  have in0 : ∀ w ∈ u_ws RX0 TX0 16, w ∈ wsX4_isLeft := fun w q => List.mem_cons_of_mem _ (List.mem_append_right _ q)
  have w_3 := hts (.fieldLink RX4 29 "NineBreakages$House" "state" "[I") (by decide +kernel)
  have w_4 := hts (.fieldLink RX4 32 "NineBreakages$House" "day" "I") (by decide +kernel)
  unfold f_X4_isLeft at h
  refine lv_aload_n hx hb dX4_isLeft_0 rfl (lv_at hl 1 rfl) ?_
  refine va_get (v := .ref (ad 7)) (C := RX0) (T := TX0) (N := 16) hx hb hts in0 hown hK.1 hP 1 nb_a1 rfl 9 (by decide) w_1 (fun _ h9 => h9) rfl dX4_isLeft_1 ?_
  refine lv_iload_n hx hb dX4_isLeft_4 rfl (lv_at hl 2 rfl) ?_
  obtain ⟨c_1, h⟩ := nb_c h
  refine va_iald hx hb hK.1 hP 7 0 nb_a7 rfl c_1 dX4_isLeft_5 ?_
  refine lv_iload_n hx hb dX4_isLeft_6 rfl (lv_at hl 3 rfl) ?_
  refine lv_icmp_ne (tgt := 35) hx hb dX4_isLeft_7 (by decide) (fun c_2 => ?_) (fun c_2 => ?_)
  · have h := nb_f c_2 h
    refine lv_iconst (v := (0 : Int32)) hx hb dX4_isLeft_35 (by decide) ?_
    obtain rfl := nb_e1 h
    exact nb_zret (by decide) hx hb hr hlk hP hS dX4_isLeft_36
  · have h := nb_t c_2 h
    refine lv_aload_n hx hb dX4_isLeft_10 rfl (lv_at hl 1 rfl) ?_
    refine va_get (v := .ref (ad 8)) (C := RX0) (T := TX0) (N := 16) hx hb hts in0 hown hK.1 hP 1 nb_a1 rfl 10 (by decide) w_3 (fun _ h9 => h9) rfl dX4_isLeft_11 ?_
    refine lv_iload_n hx hb dX4_isLeft_14 rfl (lv_at hl 2 rfl) ?_
    refine va_iald hx hb hK.1 hP 8 0 nb_a8 rfl c_1 dX4_isLeft_15 ?_
    refine lv_if_ne (tgt := 35) hx hb dX4_isLeft_16 (by decide) (fun c_3 => ?_) (fun c_3 => ?_)
    · have h := nb_f c_3 h
      refine lv_iconst (v := (0 : Int32)) hx hb dX4_isLeft_35 (by decide) ?_
      obtain rfl := nb_e1 h
      exact nb_zret (by decide) hx hb hr hlk hP hS dX4_isLeft_36
    · have h := nb_t c_3 h
      refine lv_aload_n hx hb dX4_isLeft_19 rfl (lv_at hl 1 rfl) ?_
      refine lv_iload_n hx hb dX4_isLeft_20 rfl (lv_at hl 2 rfl) ?_
      refine lv_aload_n hx hb dX4_isLeft_21 rfl (lv_at hl 1 rfl) ?_
      refine va_get (v := .int (M.1 1 0)) (C := RX0) (T := TX0) (N := 16) hx hb hts in0 hown hK.1 hP 1 nb_a1 rfl 0 (by decide) w_4 (fun _ h9 => h9) rfl dX4_isLeft_22 ?_
      obtain ⟨r_4, e_4, h⟩ := nb_oE h
      refine nb_callV (n := 2) (As := [.int p0, .int (M.1 1 0)]) (rest := []) hx hb hml hown hts hK hZ hP hS (k_X0_countsOn had M N p0 (M.1 1 0) e_4) gX4_isLeft_X0_countsOn rfl (by decide +kernel) (nb_rm (Nat.le_of_ble_eq_true rfl) (Nat.le_of_ble_eq_true rfl)) nb_a1 rfl rfl rfl hl.1 rfl (Nat.le_of_ble_eq_true rfl) dX4_isLeft_25 (fun H locs hP hS => ?_)
      refine W.eq (g2 := F0 m 28 ls [.int r_4]) rfl ?_
      refine lv_if_eq (tgt := 35) hx hb dX4_isLeft_28 (by decide) (fun c_5 => ?_) (fun c_5 => ?_)
      · have h := nb_t c_5 h
        refine lv_iconst (v := (0 : Int32)) hx hb dX4_isLeft_35 (by decide) ?_
        obtain rfl := nb_e1 h
        exact nb_zret (by decide) hx hb hr hlk hP hS dX4_isLeft_36
      · have h := nb_f c_5 h
        refine lv_iconst (v := (1 : Int32)) hx hb dX4_isLeft_31 (by decide) ?_
        refine lv_goto (tgt := 36) hx hb dX4_isLeft_32 (by decide) ?_
        obtain rfl := nb_e1 h
        exact nb_zret (by decide) hx hb hr hlk hP hS dX4_isLeft_36
set_option maxHeartbeats 4000000 in
set_option maxRecDepth 100000 in
theorem w_X4_leftOf_5 {N : nb_M} {r : Int32} (had : nb_AD ad b0) (X : nb_X p s m args meth c cX4_leftOf 5 RX4 (some .int) wsX4_leftOf D ca b0) : ∀ (n : Nat) (M : nb_M) (x2 : Int32) (x3 : Int32) (x4 : Int32), f_X4_leftOf_5 n M x2 x3 x4 = some r → ∀ (H : Heap) (locs : List Loc), va_P D vwCl (nb_w ad ca M N) H → va_S (fun q => b0 ≤ q) s.heap H locs → ∀ ls : Array Slot, lv_has ls 5 [(0, .ref (ad 38)), (1, .ref (ad 1)), (2, .int x2), (3, .int x3), (4, .int x4)] → W p l e (nb_R 4) s m args below meth c H locs 0 0 (nb_Q below args s D ad ca b0 (some (.int r)) M N) (F0 m 5 ls []) := by
  obtain ⟨hx, hb, hml, hown, hts, hr, hlk, hK, hZ⟩ := id X
  have w_1 := hts (.fieldLink RX4 15 "NineBreakages$House" "pieces" "I") (by decide +kernel)
  have in0 : ∀ w ∈ u_ws RX0 TX0 16, w ∈ wsX4_leftOf := fun w q => List.mem_cons_of_mem _ (List.mem_append_right _ q)
  intro n
  induction n with
  | zero =>
    intro M x2 x3 x4 h
    rw [f_X4_leftOf_5] at h
    cases h
  | succ n ih =>
    intro M x2 x3 x4 h H locs hP hS ls hl
    rw [f_X4_leftOf_5] at h
    refine lv_iload hx hb dX4_leftOf_5 (lv_at hl 4 rfl) ?_
    refine lv_aload_n hx hb dX4_leftOf_7 rfl (lv_at hl 1 rfl) ?_
    refine va_get (v := .int (M.1 1 6)) (C := RX0) (T := TX0) (N := 16) hx hb hts in0 hown hK.1 hP 1 nb_a1 rfl 6 (by decide) w_1 (fun _ h9 => h9) rfl dX4_leftOf_8 ?_
    refine lv_icmp_ge (tgt := 38) hx hb dX4_leftOf_11 (by decide) (fun c_1 => ?_) (fun c_1 => ?_)
    · have h := nb_t c_1 h
      refine lv_iload_n hx hb dX4_leftOf_38 rfl (lv_at hl 3 rfl) ?_
      obtain rfl := nb_e1 h
      exact nb_iret hx hb hr hlk hP hS dX4_leftOf_39
    · have h := nb_f c_1 h
      refine lv_aload_n hx hb dX4_leftOf_14 rfl (lv_at hl 0 rfl) ?_
      refine lv_aload_n hx hb dX4_leftOf_15 rfl (lv_at hl 1 rfl) ?_
      refine lv_iload hx hb dX4_leftOf_16 (lv_at hl 4 rfl) ?_
      refine lv_iload_n hx hb dX4_leftOf_18 rfl (lv_at hl 2 rfl) ?_
      obtain ⟨r_2, e_2, h⟩ := nb_oE h
      refine nb_callV (n := 3) (As := [.ref (ad 1), .int x4, .int x2]) (rest := []) hx hb hml hown hts hK hZ hP hS (k_X4_isLeft had M N x4 x2 e_2) gX4_leftOf_X4_isLeft rfl (by decide +kernel) (nb_rm (Nat.le_of_ble_eq_true rfl) (Nat.le_of_ble_eq_true rfl)) nb_a38 rfl rfl rfl hl.1 rfl (Nat.le_of_ble_eq_true rfl) dX4_leftOf_19 (fun H locs hP hS => ?_)
      refine W.eq (g2 := F0 m 22 ls [.int r_2]) rfl ?_
      refine lv_if_eq (tgt := 32) hx hb dX4_leftOf_22 (by decide) (fun c_3 => ?_) (fun c_3 => ?_)
      · have h := nb_t c_3 h
        refine lv_iinc (v := x4 + 1) (lv' := [(4, .int (x4 + 1)), (0, .ref (ad 38)), (1, .ref (ad 1)), (2, .int x2), (3, .int x3)]) hx hb dX4_leftOf_32 hl (k := 4) rfl (congrArg (HAdd.hAdd x4) (by decide)) (by decide) rfl (fun ls hl => ?_)
        refine lv_goto (tgt := 5) hx hb dX4_leftOf_35 (by decide) ?_
        exact ih _ _ _ _ h _ _ hP hS _ (lv_sub hl [1, 2, 3, 4, 0] rfl)
      · have h := nb_f c_3 h
        refine lv_iload_n hx hb dX4_leftOf_25 rfl (lv_at hl 3 rfl) ?_
        refine lv_iconst (v := (1 : Int32)) hx hb dX4_leftOf_26 (by decide) ?_
        refine lv_iload hx hb dX4_leftOf_27 (lv_at hl 4 rfl) ?_
        refine lv_ishl hx hb dX4_leftOf_29 ?_
        refine lv_ior hx hb dX4_leftOf_30 ?_
        refine lv_topi (fun v_4 e_4 => ?_)
        have h := nb_nA e_4 h
        refine lv_istore_n (lv' := [(3, .int v_4), (0, .ref (ad 38)), (1, .ref (ad 1)), (2, .int x2), (4, .int x4)]) hx hb dX4_leftOf_31 rfl hl (by decide) rfl (fun ls hl => ?_)
        refine lv_iinc (v := x4 + 1) (lv' := [(4, .int (x4 + 1)), (3, .int v_4), (0, .ref (ad 38)), (1, .ref (ad 1)), (2, .int x2)]) hx hb dX4_leftOf_32 hl (k := 4) rfl (congrArg (HAdd.hAdd x4) (by decide)) (by decide) rfl (fun ls hl => ?_)
        refine lv_goto (tgt := 5) hx hb dX4_leftOf_35 (by decide) ?_
        exact ih _ _ _ _ h _ _ hP hS _ (lv_sub hl [2, 3, 4, 1, 0] rfl)
set_option maxHeartbeats 4000000 in
set_option maxRecDepth 100000 in
theorem k_X4_leftOf {r : Int32} (had : nb_AD ad b0) (M N : nb_M) (p0 : Int32) (h : f_X4_leftOf M p0 = some r) : nb_C l D ad ca b0 yX4_leftOf wsX4_leftOf 4 [.ref (ad 38), .ref (ad 1), .int p0] M N (some (.int r)) M N := by
  refine nb_of (cc := cX4_leftOf) (maxL := 5) (ret := (some .int)) (own := RX4) (by decide +kernel) rfl rfl (Nat.le_of_ble_eq_true rfl) ?_
  intro p e s m args below meth c ls X hP hS hl
  have hl : lv_has ls 5 [(0, .ref (ad 38)), (1, .ref (ad 1)), (2, .int p0)] := hl
  obtain ⟨hx, hb, hml, hown, hts, hr, hlk, hK, hZ⟩ := id X
  unfold f_X4_leftOf at h
  refine lv_iconst (v := (0 : Int32)) hx hb dX4_leftOf_0 (by decide) ?_
  refine lv_istore_n (lv' := [(3, .int (0 : Int32)), (0, .ref (ad 38)), (1, .ref (ad 1)), (2, .int p0)]) hx hb dX4_leftOf_1 rfl hl (by decide) rfl (fun ls hl => ?_)
  refine lv_iconst (v := (0 : Int32)) hx hb dX4_leftOf_2 (by decide) ?_
  refine lv_istore (lv' := [(4, .int (0 : Int32)), (3, .int (0 : Int32)), (0, .ref (ad 38)), (1, .ref (ad 1)), (2, .int p0)]) hx hb dX4_leftOf_3 hl (by decide) rfl (fun ls hl => ?_)
  exact w_X4_leftOf_5 had X nb_F _ _ _ _ h _ _ hP hS _ (lv_sub hl [2, 3, 4, 1, 0] rfl)
set_option maxHeartbeats 4000000 in
set_option maxRecDepth 100000 in
theorem k_J6_bitCount_0f7a4 (had : nb_AD ad b0) (M N : nb_M) (p0 : Int32) : nb_C l D ad ca b0 yJ6_bitCount_0f7a4 wsJ6_bitCount_0f7a4 0 [.int p0] M N (some (.int (f_J6_bitCount_0f7a4 p0))) M N := by
  obtain ⟨r, h⟩ : ∃ r, f_J6_bitCount_0f7a4 p0 = r := ⟨_, rfl⟩
  rw [h]
  refine nb_of (cc := cJ6_bitCount_0f7a4) (maxL := 1) (ret := (some .int)) (own := RJ6) (by decide +kernel) rfl rfl (Nat.le_of_ble_eq_true rfl) ?_
  intro p e s m args below meth c ls X hP hS hl
  have hl : lv_has ls 1 [(0, .int p0)] := hl
  obtain ⟨hx, hb, hml, hown, hts, hr, hlk, hK, hZ⟩ := id X
  have w_1 := hts (.constant RJ6 265 (1431655765)) (by decide +kernel)
  have w_2 := hts (.constant RJ6 266 (858993459)) (by decide +kernel)
  have w_3 := hts (.constant RJ6 267 (252645135)) (by decide +kernel)
  unfold f_J6_bitCount_0f7a4 at h
  refine lv_iload_n hx hb dJ6_bitCount_0f7a4_0 rfl (lv_at hl 0 rfl) ?_
  refine lv_iload_n hx hb dJ6_bitCount_0f7a4_1 rfl (lv_at hl 0 rfl) ?_
  refine lv_iconst (v := (1 : Int32)) hx hb dJ6_bitCount_0f7a4_2 (by decide) ?_
  refine lv_iushr hx hb dJ6_bitCount_0f7a4_3 rfl ?_
  refine lv_ldcw (v := (1431655765 : Int32)) hx hb hown w_1 dJ6_bitCount_0f7a4_4 ?_
  refine lv_iand hx hb dJ6_bitCount_0f7a4_7 ?_
  refine lv_isub hx hb dJ6_bitCount_0f7a4_8 ?_
  refine lv_topi (fun v_1 e_1 => ?_)
  have h := nb_nA e_1 h
  refine lv_istore_n (lv' := [(0, .int v_1)]) hx hb dJ6_bitCount_0f7a4_9 rfl hl (by decide) rfl (fun ls hl => ?_)
  refine lv_iload_n hx hb dJ6_bitCount_0f7a4_10 rfl (lv_at hl 0 rfl) ?_
  refine lv_ldcw (v := (858993459 : Int32)) hx hb hown w_2 dJ6_bitCount_0f7a4_11 ?_
  refine lv_iand hx hb dJ6_bitCount_0f7a4_14 ?_
  refine lv_iload_n hx hb dJ6_bitCount_0f7a4_15 rfl (lv_at hl 0 rfl) ?_
  refine lv_iconst (v := (2 : Int32)) hx hb dJ6_bitCount_0f7a4_16 (by decide) ?_
  refine lv_iushr hx hb dJ6_bitCount_0f7a4_17 rfl ?_
  refine lv_ldcw (v := (858993459 : Int32)) hx hb hown w_2 dJ6_bitCount_0f7a4_18 ?_
  refine lv_iand hx hb dJ6_bitCount_0f7a4_21 ?_
  refine lv_iadd hx hb dJ6_bitCount_0f7a4_22 ?_
  refine lv_topi (fun v_2 e_2 => ?_)
  have h := nb_nA e_2 h
  refine lv_istore_n (lv' := [(0, .int v_2)]) hx hb dJ6_bitCount_0f7a4_23 rfl hl (by decide) rfl (fun ls hl => ?_)
  refine lv_iload_n hx hb dJ6_bitCount_0f7a4_24 rfl (lv_at hl 0 rfl) ?_
  refine lv_iload_n hx hb dJ6_bitCount_0f7a4_25 rfl (lv_at hl 0 rfl) ?_
  refine lv_iconst (v := (4 : Int32)) hx hb dJ6_bitCount_0f7a4_26 (by decide) ?_
  refine lv_iushr hx hb dJ6_bitCount_0f7a4_27 rfl ?_
  refine lv_iadd hx hb dJ6_bitCount_0f7a4_28 ?_
  refine lv_ldcw (v := (252645135 : Int32)) hx hb hown w_3 dJ6_bitCount_0f7a4_29 ?_
  refine lv_iand hx hb dJ6_bitCount_0f7a4_32 ?_
  refine lv_topi (fun v_3 e_3 => ?_)
  have h := nb_nA e_3 h
  refine lv_istore_n (lv' := [(0, .int v_3)]) hx hb dJ6_bitCount_0f7a4_33 rfl hl (by decide) rfl (fun ls hl => ?_)
  refine lv_iload_n hx hb dJ6_bitCount_0f7a4_34 rfl (lv_at hl 0 rfl) ?_
  refine lv_iload_n hx hb dJ6_bitCount_0f7a4_35 rfl (lv_at hl 0 rfl) ?_
  refine lv_bipush (v := (8 : Int32)) hx hb dJ6_bitCount_0f7a4_36 (by decide) ?_
  refine lv_iushr hx hb dJ6_bitCount_0f7a4_38 rfl ?_
  refine lv_iadd hx hb dJ6_bitCount_0f7a4_39 ?_
  refine lv_topi (fun v_4 e_4 => ?_)
  have h := nb_nA e_4 h
  refine lv_istore_n (lv' := [(0, .int v_4)]) hx hb dJ6_bitCount_0f7a4_40 rfl hl (by decide) rfl (fun ls hl => ?_)
  refine lv_iload_n hx hb dJ6_bitCount_0f7a4_41 rfl (lv_at hl 0 rfl) ?_
  refine lv_iload_n hx hb dJ6_bitCount_0f7a4_42 rfl (lv_at hl 0 rfl) ?_
  refine lv_bipush (v := (16 : Int32)) hx hb dJ6_bitCount_0f7a4_43 (by decide) ?_
  refine lv_iushr hx hb dJ6_bitCount_0f7a4_45 rfl ?_
  refine lv_iadd hx hb dJ6_bitCount_0f7a4_46 ?_
  refine lv_topi (fun v_5 e_5 => ?_)
  have h := nb_nA e_5 h
  refine lv_istore_n (lv' := [(0, .int v_5)]) hx hb dJ6_bitCount_0f7a4_47 rfl hl (by decide) rfl (fun ls hl => ?_)
  refine lv_iload_n hx hb dJ6_bitCount_0f7a4_48 rfl (lv_at hl 0 rfl) ?_
  refine lv_bipush (v := (63 : Int32)) hx hb dJ6_bitCount_0f7a4_49 (by decide) ?_
  refine lv_iand hx hb dJ6_bitCount_0f7a4_51 ?_
  obtain rfl := nb_e3 h
  exact nb_iret hx hb hr hlk hP hS dJ6_bitCount_0f7a4_52
set_option maxHeartbeats 4000000 in
set_option maxRecDepth 100000 in
theorem k_X6_bitsIn (had : nb_AD ad b0) (M N : nb_M) (p0 : Int32) : nb_C l D ad ca b0 yX6_bitsIn wsX6_bitsIn 1 [.int p0] M N (some (.int (f_X6_bitsIn p0))) M N := by
  obtain ⟨r, h⟩ : ∃ r, f_X6_bitsIn p0 = r := ⟨_, rfl⟩
  rw [h]
  refine nb_of (cc := cX6_bitsIn) (maxL := 1) (ret := (some .int)) (own := RX6) (by decide +kernel) rfl rfl (Nat.le_of_ble_eq_true rfl) ?_
  intro p e s m args below meth c ls X hP hS hl
  have hl : lv_has ls 1 [(0, .int p0)] := hl
  obtain ⟨hx, hb, hml, hown, hts, hr, hlk, hK, hZ⟩ := id X
  unfold f_X6_bitsIn at h
  refine lv_iload_n hx hb dX6_bitsIn_0 rfl (lv_at hl 0 rfl) ?_
  refine nb_callS (n := 1) (As := [.int p0]) (rest := []) hx hb hml hown hts hK hZ hP hS (k_J6_bitCount_0f7a4 had M N p0) gX6_bitsIn_J6_bitCount_0f7a4 rfl (by decide +kernel) (nb_rm (Nat.le_of_ble_eq_true rfl) (Nat.le_of_ble_eq_true rfl)) rfl hl.1 rfl (Nat.le_of_ble_eq_true rfl) dX6_bitsIn_1 (fun H locs hP hS => ?_)
  refine W.eq (g2 := F0 m 4 ls [.int (f_J6_bitCount_0f7a4 p0)]) rfl ?_
  obtain rfl := nb_e3 h
  exact nb_iret hx hb hr hlk hP hS dX6_bitsIn_4
set_option maxHeartbeats 4000000 in
set_option maxRecDepth 100000 in
theorem k_X6_left {r : Int32} {M' : nb_M} (had : nb_AD ad b0) (M N : nb_M) (p0 : Int32) (p1 : Int32) (h : f_X6_left M p0 p1 = some (r, M')) : nb_C l D ad ca b0 yX6_left wsX6_left 5 [.ref (ad 0), .int p0, .int p1] M N (some (.int r)) M' N := by
  refine nb_of (cc := cX6_left) (maxL := 3) (ret := (some .int)) (own := RX6) (by decide +kernel) rfl rfl (Nat.le_of_ble_eq_true rfl) ?_
  intro p e s m args below meth c ls X hP hS hl
  have hl : lv_has ls 3 [(0, .ref (ad 0)), (1, .int p0), (2, .int p1)] := hl
  obtain ⟨hx, hb, hml, hown, hts, hr, hlk, hK, hZ⟩ := id X
  have w_1 := hts (.fieldLink RX6 12 "NineBreakages" "now" "LNineBreakages$House;") (by decide +kernel)
  have in6 : ∀ w ∈ u_ws RX6 TX6 8, w ∈ wsX6_left := fun w q => List.mem_cons_of_mem _ (List.mem_append_left _ (List.mem_append_right _ q))
  have w_3 := hts (.fieldLink RX6 29 "NineBreakages" "thought" "LNineBreakages$Thought;") (by decide +kernel)
  unfold f_X6_left at h
  refine lv_aload_n hx hb dX6_left_0 rfl (lv_at hl 0 rfl) ?_
  refine va_get (v := .ref (ad 1)) (C := RX6) (T := TX6) (N := 8) hx hb hts in6 hown hK.1 hP 0 nb_a0 rfl 0 (by decide) w_1 (fun _ h9 => h9) rfl dX6_left_1 ?_
  refine lv_iload_n hx hb dX6_left_4 rfl (lv_at hl 1 rfl) ?_
  refine nb_callV (n := 1) (As := [.int p0]) (rest := []) hx hb hml hown hts hK hZ hP hS (k_X0_isPerson had M N p0) gX6_left_X0_isPerson rfl (by decide +kernel) (nb_rm (Nat.le_of_ble_eq_true rfl) (Nat.le_of_ble_eq_true rfl)) nb_a1 rfl rfl rfl hl.1 rfl (Nat.le_of_ble_eq_true rfl) dX6_left_5 (fun H locs hP hS => ?_)
  refine W.eq (g2 := F0 m 8 ls [.int (f_X0_isPerson M p0)]) rfl ?_
  refine lv_if_ne (tgt := 17) hx hb dX6_left_8 (by decide) (fun c_2 => ?_) (fun c_2 => ?_)
  · have h := nb_f c_2 h
    refine lv_iload_n hx hb dX6_left_17 rfl (lv_at hl 2 rfl) ?_
    refine nb_tsw [(0, 44), (1, 57), (2, 73)] 82 hx hb dX6_left_18 (by decide +kernel) ?_
    refine nb_split (fun c_3 => ?_) (fun c_3 => ?_)
    · have h := nb_t c_3 h
      refine lv_aload_n hx hb dX6_left_44 rfl (lv_at hl 0 rfl) ?_
      refine va_get (v := .ref (ad 38)) (C := RX6) (T := TX6) (N := 8) hx hb hts in6 hown hK.1 hP 0 nb_a0 rfl 3 (by decide) w_3 (fun _ h9 => h9) rfl dX6_left_45 ?_
      refine lv_aload_n hx hb dX6_left_48 rfl (lv_at hl 0 rfl) ?_
      refine va_get (v := .ref (ad 1)) (C := RX6) (T := TX6) (N := 8) hx hb hts in6 hown hK.1 hP 0 nb_a0 rfl 0 (by decide) w_1 (fun _ h9 => h9) rfl dX6_left_49 ?_
      refine lv_iload_n hx hb dX6_left_52 rfl (lv_at hl 1 rfl) ?_
      obtain ⟨r_4, e_4, h⟩ := nb_oE h
      refine nb_callV (n := 2) (As := [.ref (ad 1), .int p0]) (rest := []) hx hb hml hown hts hK hZ hP hS (k_X4_leftOf had M N p0 e_4) gX6_left_X4_leftOf rfl (by decide +kernel) (nb_rm (Nat.le_of_ble_eq_true rfl) (Nat.le_of_ble_eq_true rfl)) nb_a38 rfl rfl rfl hl.1 rfl (Nat.le_of_ble_eq_true rfl) dX6_left_53 (fun H locs hP hS => ?_)
      refine W.eq (g2 := F0 m 56 ls [.int r_4]) rfl ?_
      obtain ⟨rfl, rfl⟩ := nb_e2 h
      exact nb_iret hx hb hr hlk hP hS dX6_left_56
    · have h := nb_f c_3 h
      refine nb_split (fun c_5 => ?_) (fun c_5 => ?_)
      · have h := nb_t c_5 h
        refine lv_aload_n hx hb dX6_left_57 rfl (lv_at hl 0 rfl) ?_
        refine va_get (v := .ref (ad 38)) (C := RX6) (T := TX6) (N := 8) hx hb hts in6 hown hK.1 hP 0 nb_a0 rfl 3 (by decide) w_3 (fun _ h9 => h9) rfl dX6_left_58 ?_
        refine lv_aload_n hx hb dX6_left_61 rfl (lv_at hl 0 rfl) ?_
        refine va_get (v := .ref (ad 1)) (C := RX6) (T := TX6) (N := 8) hx hb hts in6 hown hK.1 hP 0 nb_a0 rfl 0 (by decide) w_1 (fun _ h9 => h9) rfl dX6_left_62 ?_
        refine lv_iload_n hx hb dX6_left_65 rfl (lv_at hl 1 rfl) ?_
        obtain ⟨r_6, e_6, h⟩ := nb_oE h
        refine nb_callV (n := 2) (As := [.ref (ad 1), .int p0]) (rest := []) hx hb hml hown hts hK hZ hP hS (k_X4_leftOf had M N p0 e_6) gX6_left_X4_leftOf rfl (by decide +kernel) (nb_rm (Nat.le_of_ble_eq_true rfl) (Nat.le_of_ble_eq_true rfl)) nb_a38 rfl rfl rfl hl.1 rfl (Nat.le_of_ble_eq_true rfl) dX6_left_66 (fun H locs hP hS => ?_)
        refine W.eq (g2 := F0 m 69 ls [.int r_6]) rfl ?_
        refine nb_callS (n := 1) (As := [.int r_6]) (rest := []) hx hb hml hown hts hK hZ hP hS (k_X6_bitsIn had M N r_6) gX6_left_X6_bitsIn rfl (by decide +kernel) (nb_rm (Nat.le_of_ble_eq_true rfl) (Nat.le_of_ble_eq_true rfl)) rfl hl.1 rfl (Nat.le_of_ble_eq_true rfl) dX6_left_69 (fun H locs hP hS => ?_)
        refine W.eq (g2 := F0 m 72 ls [.int (f_X6_bitsIn r_6)]) rfl ?_
        obtain ⟨rfl, rfl⟩ := nb_e2 h
        exact nb_iret hx hb hr hlk hP hS dX6_left_72
      · have h := nb_f c_5 h
        refine nb_split (fun c_8 => ?_) (fun c_8 => ?_)
        · have h := nb_t c_8 h
          refine lv_aload_n hx hb dX6_left_73 rfl (lv_at hl 0 rfl) ?_
          refine va_get (v := .ref (ad 1)) (C := RX6) (T := TX6) (N := 8) hx hb hts in6 hown hK.1 hP 0 nb_a0 rfl 0 (by decide) w_1 (fun _ h9 => h9) rfl dX6_left_74 ?_
          refine lv_iload_n hx hb dX6_left_77 rfl (lv_at hl 1 rfl) ?_
          obtain ⟨r_9, e_9, h⟩ := nb_oE h
          refine nb_callV (n := 1) (As := [.int p0]) (rest := []) hx hb hml hown hts hK hZ hP hS (k_X0_toComeOf had M N p0 e_9) gX6_left_X0_toComeOf rfl (by decide +kernel) (nb_rm (Nat.le_of_ble_eq_true rfl) (Nat.le_of_ble_eq_true rfl)) nb_a1 rfl rfl rfl hl.1 rfl (Nat.le_of_ble_eq_true rfl) dX6_left_78 (fun H locs hP hS => ?_)
          refine W.eq (g2 := F0 m 81 ls [.int r_9]) rfl ?_
          obtain ⟨rfl, rfl⟩ := nb_e2 h
          exact nb_iret hx hb hr hlk hP hS dX6_left_81
        · have h := nb_f c_8 h
          refine W.eq (g2 := F0 m 82 ls []) rfl ?_
          refine lv_aload_n hx hb dX6_left_82 rfl (lv_at hl 0 rfl) ?_
          refine lv_iconst (v := (1 : Int32)) hx hb dX6_left_83 (by decide) ?_
          obtain ⟨r_10, M_10, e_10, h⟩ := nb_pE h
          refine nb_callV (n := 1) (As := [.int (1 : Int32)]) (rest := []) hx hb hml hown hts hK hZ hP hS (k_X6_fail had M N (1 : Int32) e_10) gX6_left_X6_fail rfl (by decide +kernel) (nb_rm (Nat.le_of_ble_eq_true rfl) (Nat.le_of_ble_eq_true rfl)) nb_a0 rfl rfl rfl hl.1 rfl (Nat.le_of_ble_eq_true rfl) dX6_left_84 (fun H locs hP hS => ?_)
          refine W.eq (g2 := F0 m 87 ls [.int r_10]) rfl ?_
          obtain ⟨rfl, rfl⟩ := nb_e2 h
          exact nb_iret hx hb hr hlk hP hS dX6_left_87
  · have h := nb_t c_2 h
    refine lv_aload_n hx hb dX6_left_11 rfl (lv_at hl 0 rfl) ?_
    refine lv_iconst (v := (1 : Int32)) hx hb dX6_left_12 (by decide) ?_
    obtain ⟨r_11, M_11, e_11, h⟩ := nb_pE h
    refine nb_callV (n := 1) (As := [.int (1 : Int32)]) (rest := []) hx hb hml hown hts hK hZ hP hS (k_X6_fail had M N (1 : Int32) e_11) gX6_left_X6_fail rfl (by decide +kernel) (nb_rm (Nat.le_of_ble_eq_true rfl) (Nat.le_of_ble_eq_true rfl)) nb_a0 rfl rfl rfl hl.1 rfl (Nat.le_of_ble_eq_true rfl) dX6_left_13 (fun H locs hP hS => ?_)
    refine W.eq (g2 := F0 m 16 ls [.int r_11]) rfl ?_
    obtain ⟨rfl, rfl⟩ := nb_e2 h
    exact nb_iret hx hb hr hlk hP hS dX6_left_16
set_option maxHeartbeats 4000000 in
set_option maxRecDepth 100000 in
theorem w_X4_countWays_36 {N : nb_M} {r : Int64} {M' : nb_M} (had : nb_AD ad b0) (X : nb_X p s m args meth c cX4_countWays 8 RX4 (some .long) wsX4_countWays D ca b0) : ∀ (n : Nat) (M : nb_M) (x2 : Int32) (x3 : Int64) (x5 : Int32), f_X4_countWays_36 n M x2 x3 x5 = some (r, M') → ∀ (H : Heap) (locs : List Loc), va_P D vwCl (nb_w ad ca M N) H → va_S (fun q => b0 ≤ q) s.heap H locs → ∀ ls : Array Slot, lv_has ls 8 [(0, .ref (ad 38)), (1, .ref (ad 1)), (2, .int x2), (3, .long x3), (5, .int x5)] → W p l e (nb_R 4) s m args below meth c H locs 0 0 (nb_Q below args s D ad ca b0 (some (.long r)) M' N) (F0 m 36 ls []) := by
  obtain ⟨hx, hb, hml, hown, hts, hr, hlk, hK, hZ⟩ := id X
  have w_1 := hts (.fieldLink RX4 15 "NineBreakages$House" "pieces" "I") (by decide +kernel)
  have in0 : ∀ w ∈ u_ws RX0 TX0 16, w ∈ wsX4_countWays := fun w q => List.mem_cons_of_mem _ (List.mem_append_left _ (List.mem_append_right _ q))
  have w_3 := hts (.fieldLink RX4 51 "NineBreakages$House" "care" "[I") (by decide +kernel)
  have w_4 := hts (.fieldLink RX4 9 "NineBreakages$Thought" "ways" "[J") (by decide +kernel)
  have in4 : ∀ w ∈ u_ws RX4 TX4 3, w ∈ wsX4_countWays := fun w q => List.mem_cons_of_mem _ (List.mem_append_left _ (List.mem_append_left _ (List.mem_append_right _ q)))
  have w_6 := hts (.constantLong RX4 58 (16)) (by decide +kernel)
  intro n
  induction n with
  | zero =>
    intro M x2 x3 x5 h
    rw [f_X4_countWays_36] at h
    cases h
  | succ n ih =>
    intro M x2 x3 x5 h H locs hP hS ls hl
    rw [f_X4_countWays_36] at h
    refine lv_iload hx hb dX4_countWays_36 (lv_at hl 4 rfl) ?_
    refine lv_aload_n hx hb dX4_countWays_38 rfl (lv_at hl 1 rfl) ?_
    refine va_get (v := .int (M.1 1 6)) (C := RX0) (T := TX0) (N := 16) hx hb hts in0 hown hK.1 hP 1 nb_a1 rfl 6 (by decide) w_1 (fun _ h9 => h9) rfl dX4_countWays_39 ?_
    refine lv_icmp_ge (tgt := 151) hx hb dX4_countWays_42 (by decide) (fun c_3 => ?_) (fun c_3 => ?_)
    · have h := nb_t c_3 h
      refine lv_lload_n hx hb dX4_countWays_151 rfl (lv_at hl 3 rfl) ?_
      obtain ⟨rfl, rfl⟩ := nb_e2 h
      exact nb_lret hx hb hr hlk hP hS dX4_countWays_152
    · have h := nb_f c_3 h
      refine lv_aload_n hx hb dX4_countWays_45 rfl (lv_at hl 0 rfl) ?_
      refine lv_aload_n hx hb dX4_countWays_46 rfl (lv_at hl 1 rfl) ?_
      refine lv_iload hx hb dX4_countWays_47 (lv_at hl 4 rfl) ?_
      refine lv_iload_n hx hb dX4_countWays_49 rfl (lv_at hl 2 rfl) ?_
      obtain ⟨r_4, e_4, h⟩ := nb_oE h
      refine nb_callV (n := 3) (As := [.ref (ad 1), .int x5, .int x2]) (rest := []) hx hb hml hown hts hK hZ hP hS (k_X4_isLeft had M N x5 x2 e_4) gX4_countWays_X4_isLeft rfl (by decide +kernel) (nb_rm (Nat.le_of_ble_eq_true rfl) (Nat.le_of_ble_eq_true rfl)) nb_a38 rfl rfl rfl hl.1 rfl (Nat.le_of_ble_eq_true rfl) dX4_countWays_50 (fun H locs hP hS => ?_)
      refine W.eq (g2 := F0 m 53 ls [.int r_4]) rfl ?_
      refine lv_if_eq (tgt := 145) hx hb dX4_countWays_53 (by decide) (fun c_5 => ?_) (fun c_5 => ?_)
      · have h := nb_t c_5 h
        refine lv_iinc (v := x5 + 1) (lv' := [(5, .int (x5 + 1)), (0, .ref (ad 38)), (1, .ref (ad 1)), (2, .int x2), (3, .long x3)]) hx hb dX4_countWays_145 hl (k := 4) rfl (congrArg (HAdd.hAdd x5) (by decide)) (by decide) rfl (fun ls hl => ?_)
        refine lv_goto (tgt := 36) hx hb dX4_countWays_148 (by decide) ?_
        exact ih _ _ _ _ h _ _ hP hS _ (lv_sub hl [1, 2, 3, 4, 0] rfl)
      · have h := nb_f c_5 h
        refine lv_aload_n hx hb dX4_countWays_56 rfl (lv_at hl 1 rfl) ?_
        refine lv_iload hx hb dX4_countWays_57 (lv_at hl 4 rfl) ?_
        refine lv_aload_n hx hb dX4_countWays_59 rfl (lv_at hl 1 rfl) ?_
        refine va_get (v := .ref (ad 2)) (C := RX0) (T := TX0) (N := 16) hx hb hts in0 hown hK.1 hP 1 nb_a1 rfl 3 (by decide) w_3 (fun _ h9 => h9) rfl dX4_countWays_60 ?_
        refine lv_iload_n hx hb dX4_countWays_63 rfl (lv_at hl 2 rfl) ?_
        obtain ⟨c_6, h⟩ := nb_c h
        refine va_iald hx hb hK.1 hP 2 0 nb_a2 rfl c_6 dX4_countWays_64 ?_
        obtain ⟨r_7, M_7, e_7, h⟩ := nb_pE h
        refine nb_callV (n := 2) (As := [.int x5, .int (M.1 2 x2.toNatClampNeg)]) (rest := []) hx hb hml hown hts hK hZ hP hS (k_X0_riskBy had M N x5 (M.1 2 x2.toNatClampNeg) e_7) gX4_countWays_X0_riskBy rfl (by decide +kernel) (nb_rm (Nat.le_of_ble_eq_true rfl) (Nat.le_of_ble_eq_true rfl)) nb_a1 rfl rfl rfl hl.1 rfl (Nat.le_of_ble_eq_true rfl) dX4_countWays_65 (fun H locs hP hS => ?_)
        refine W.eq (g2 := F0 m 68 ls [.int r_7]) rfl ?_
        refine lv_istore (lv' := [(6, .int r_7), (0, .ref (ad 38)), (1, .ref (ad 1)), (2, .int x2), (3, .long x3), (5, .int x5)]) hx hb dX4_countWays_68 hl (by decide) rfl (fun ls hl => ?_)
        refine lv_bipush (v := (9 : Int32)) hx hb dX4_countWays_70 (by decide) ?_
        refine lv_istore (lv' := [(7, .int (9 : Int32)), (6, .int r_7), (0, .ref (ad 38)), (1, .ref (ad 1)), (2, .int x2), (3, .long x3), (5, .int x5)]) hx hb dX4_countWays_72 hl (by decide) rfl (fun ls hl => ?_)
        refine lv_iload hx hb dX4_countWays_74 (lv_at hl 0 rfl) ?_
        refine lv_if_le (tgt := 120) hx hb dX4_countWays_76 (by decide) (fun c_8 => absurd c_8 (by decide)) (fun _ => ?_)
        refine lv_aload_n hx hb dX4_countWays_79 rfl (lv_at hl 2 rfl) ?_
        refine va_get (v := .ref (ad 39)) (C := RX4) (T := TX4) (N := 3) hx hb hts in4 hown hK.1 hP 38 nb_a38 rfl 2 (by decide) w_4 (fun _ h9 => h9) rfl dX4_countWays_80 ?_
        refine lv_iload hx hb dX4_countWays_83 (lv_at hl 0 rfl) ?_
        refine lv_aload_n hx hb dX4_countWays_85 rfl (lv_at hl 2 rfl) ?_
        refine va_get (v := .ref (ad 39)) (C := RX4) (T := TX4) (N := 3) hx hb hts in4 hown hK.1 hP 38 nb_a38 rfl 2 (by decide) w_4 (fun _ h9 => h9) rfl dX4_countWays_86 ?_
        refine lv_iload hx hb dX4_countWays_89 (lv_at hl 0 rfl) ?_
        refine va_lald hx hb hK.1 hP 39 1 nb_a39 rfl (nb_lit rfl) dX4_countWays_91 ?_
        refine lv_bipush (v := (16 : Int32)) hx hb dX4_countWays_92 (by decide) ?_
        refine lv_iload hx hb dX4_countWays_94 (lv_at hl 1 rfl) ?_
        refine lv_isub hx hb dX4_countWays_96 ?_
        refine lv_i2l hx hb dX4_countWays_97 rfl ?_
        refine lv_lmul hx hb dX4_countWays_98 ?_
        refine lv_aload_n hx hb dX4_countWays_99 rfl (lv_at hl 2 rfl) ?_
        refine va_get (v := .ref (ad 39)) (C := RX4) (T := TX4) (N := 3) hx hb hts in4 hown hK.1 hP 38 nb_a38 rfl 2 (by decide) w_4 (fun _ h9 => h9) rfl dX4_countWays_100 ?_
        refine lv_iload hx hb dX4_countWays_103 (lv_at hl 0 rfl) ?_
        refine lv_iconst (v := (1 : Int32)) hx hb dX4_countWays_105 (by decide) ?_
        refine lv_isub hx hb dX4_countWays_106 ?_
        refine va_lald hx hb hK.1 hP 39 1 nb_a39 rfl (nb_lit rfl) dX4_countWays_107 ?_
        refine lv_iload hx hb dX4_countWays_108 (lv_at hl 1 rfl) ?_
        refine lv_i2l hx hb dX4_countWays_110 rfl ?_
        refine lv_lmul hx hb dX4_countWays_111 ?_
        refine lv_ladd hx hb dX4_countWays_112 ?_
        refine nb_last hx hb had hK hP hS nb_a39 (nb_lit rfl) (nb_s39 _ _) dX4_countWays_113 (fun H locs hP hS => ?_)
        obtain ⟨M_9, e_9, h⟩ := nb_nE h
        rw [e_9] at hP
        refine lv_iinc (v := (8 : Int32)) (lv' := [(7, .int (8 : Int32)), (6, .int r_7), (0, .ref (ad 38)), (1, .ref (ad 1)), (2, .int x2), (3, .long x3), (5, .int x5)]) hx hb dX4_countWays_114 hl (k := 0) rfl (by decide) (by decide) rfl (fun ls hl => ?_)
        refine lv_goto (tgt := 74) hx hb dX4_countWays_117 (by decide) ?_
        refine lv_iload hx hb dX4_countWays_74 (lv_at hl 0 rfl) ?_
        refine lv_if_le (tgt := 120) hx hb dX4_countWays_76 (by decide) (fun c_10 => absurd c_10 (by decide)) (fun _ => ?_)
        refine lv_aload_n hx hb dX4_countWays_79 rfl (lv_at hl 2 rfl) ?_
        refine va_get (v := .ref (ad 39)) (C := RX4) (T := TX4) (N := 3) hx hb hts in4 hown hK.1 hP 38 nb_a38 rfl 2 (by decide) w_4 (fun _ h9 => h9) rfl dX4_countWays_80 ?_
        refine lv_iload hx hb dX4_countWays_83 (lv_at hl 0 rfl) ?_
        refine lv_aload_n hx hb dX4_countWays_85 rfl (lv_at hl 2 rfl) ?_
        refine va_get (v := .ref (ad 39)) (C := RX4) (T := TX4) (N := 3) hx hb hts in4 hown hK.1 hP 38 nb_a38 rfl 2 (by decide) w_4 (fun _ h9 => h9) rfl dX4_countWays_86 ?_
        refine lv_iload hx hb dX4_countWays_89 (lv_at hl 0 rfl) ?_
        refine va_lald hx hb hK.1 hP 39 1 nb_a39 rfl (nb_lit rfl) dX4_countWays_91 ?_
        refine lv_bipush (v := (16 : Int32)) hx hb dX4_countWays_92 (by decide) ?_
        refine lv_iload hx hb dX4_countWays_94 (lv_at hl 1 rfl) ?_
        refine lv_isub hx hb dX4_countWays_96 ?_
        refine lv_i2l hx hb dX4_countWays_97 rfl ?_
        refine lv_lmul hx hb dX4_countWays_98 ?_
        refine lv_aload_n hx hb dX4_countWays_99 rfl (lv_at hl 2 rfl) ?_
        refine va_get (v := .ref (ad 39)) (C := RX4) (T := TX4) (N := 3) hx hb hts in4 hown hK.1 hP 38 nb_a38 rfl 2 (by decide) w_4 (fun _ h9 => h9) rfl dX4_countWays_100 ?_
        refine lv_iload hx hb dX4_countWays_103 (lv_at hl 0 rfl) ?_
        refine lv_iconst (v := (1 : Int32)) hx hb dX4_countWays_105 (by decide) ?_
        refine lv_isub hx hb dX4_countWays_106 ?_
        refine va_lald hx hb hK.1 hP 39 1 nb_a39 rfl (nb_lit rfl) dX4_countWays_107 ?_
        refine lv_iload hx hb dX4_countWays_108 (lv_at hl 1 rfl) ?_
        refine lv_i2l hx hb dX4_countWays_110 rfl ?_
        refine lv_lmul hx hb dX4_countWays_111 ?_
        refine lv_ladd hx hb dX4_countWays_112 ?_
        refine nb_last hx hb had hK hP hS nb_a39 (nb_lit rfl) (nb_s39 _ _) dX4_countWays_113 (fun H locs hP hS => ?_)
        obtain ⟨M_11, e_11, h⟩ := nb_nE h
        rw [e_11] at hP
        refine lv_iinc (v := (7 : Int32)) (lv' := [(7, .int (7 : Int32)), (6, .int r_7), (0, .ref (ad 38)), (1, .ref (ad 1)), (2, .int x2), (3, .long x3), (5, .int x5)]) hx hb dX4_countWays_114 hl (k := 0) rfl (by decide) (by decide) rfl (fun ls hl => ?_)
        refine lv_goto (tgt := 74) hx hb dX4_countWays_117 (by decide) ?_
        refine lv_iload hx hb dX4_countWays_74 (lv_at hl 0 rfl) ?_
        refine lv_if_le (tgt := 120) hx hb dX4_countWays_76 (by decide) (fun c_12 => absurd c_12 (by decide)) (fun _ => ?_)
        refine lv_aload_n hx hb dX4_countWays_79 rfl (lv_at hl 2 rfl) ?_
        refine va_get (v := .ref (ad 39)) (C := RX4) (T := TX4) (N := 3) hx hb hts in4 hown hK.1 hP 38 nb_a38 rfl 2 (by decide) w_4 (fun _ h9 => h9) rfl dX4_countWays_80 ?_
        refine lv_iload hx hb dX4_countWays_83 (lv_at hl 0 rfl) ?_
        refine lv_aload_n hx hb dX4_countWays_85 rfl (lv_at hl 2 rfl) ?_
        refine va_get (v := .ref (ad 39)) (C := RX4) (T := TX4) (N := 3) hx hb hts in4 hown hK.1 hP 38 nb_a38 rfl 2 (by decide) w_4 (fun _ h9 => h9) rfl dX4_countWays_86 ?_
        refine lv_iload hx hb dX4_countWays_89 (lv_at hl 0 rfl) ?_
        refine va_lald hx hb hK.1 hP 39 1 nb_a39 rfl (nb_lit rfl) dX4_countWays_91 ?_
        refine lv_bipush (v := (16 : Int32)) hx hb dX4_countWays_92 (by decide) ?_
        refine lv_iload hx hb dX4_countWays_94 (lv_at hl 1 rfl) ?_
        refine lv_isub hx hb dX4_countWays_96 ?_
        refine lv_i2l hx hb dX4_countWays_97 rfl ?_
        refine lv_lmul hx hb dX4_countWays_98 ?_
        refine lv_aload_n hx hb dX4_countWays_99 rfl (lv_at hl 2 rfl) ?_
        refine va_get (v := .ref (ad 39)) (C := RX4) (T := TX4) (N := 3) hx hb hts in4 hown hK.1 hP 38 nb_a38 rfl 2 (by decide) w_4 (fun _ h9 => h9) rfl dX4_countWays_100 ?_
        refine lv_iload hx hb dX4_countWays_103 (lv_at hl 0 rfl) ?_
        refine lv_iconst (v := (1 : Int32)) hx hb dX4_countWays_105 (by decide) ?_
        refine lv_isub hx hb dX4_countWays_106 ?_
        refine va_lald hx hb hK.1 hP 39 1 nb_a39 rfl (nb_lit rfl) dX4_countWays_107 ?_
        refine lv_iload hx hb dX4_countWays_108 (lv_at hl 1 rfl) ?_
        refine lv_i2l hx hb dX4_countWays_110 rfl ?_
        refine lv_lmul hx hb dX4_countWays_111 ?_
        refine lv_ladd hx hb dX4_countWays_112 ?_
        refine nb_last hx hb had hK hP hS nb_a39 (nb_lit rfl) (nb_s39 _ _) dX4_countWays_113 (fun H locs hP hS => ?_)
        obtain ⟨M_13, e_13, h⟩ := nb_nE h
        rw [e_13] at hP
        refine lv_iinc (v := (6 : Int32)) (lv' := [(7, .int (6 : Int32)), (6, .int r_7), (0, .ref (ad 38)), (1, .ref (ad 1)), (2, .int x2), (3, .long x3), (5, .int x5)]) hx hb dX4_countWays_114 hl (k := 0) rfl (by decide) (by decide) rfl (fun ls hl => ?_)
        refine lv_goto (tgt := 74) hx hb dX4_countWays_117 (by decide) ?_
        refine lv_iload hx hb dX4_countWays_74 (lv_at hl 0 rfl) ?_
        refine lv_if_le (tgt := 120) hx hb dX4_countWays_76 (by decide) (fun c_14 => absurd c_14 (by decide)) (fun _ => ?_)
        refine lv_aload_n hx hb dX4_countWays_79 rfl (lv_at hl 2 rfl) ?_
        refine va_get (v := .ref (ad 39)) (C := RX4) (T := TX4) (N := 3) hx hb hts in4 hown hK.1 hP 38 nb_a38 rfl 2 (by decide) w_4 (fun _ h9 => h9) rfl dX4_countWays_80 ?_
        refine lv_iload hx hb dX4_countWays_83 (lv_at hl 0 rfl) ?_
        refine lv_aload_n hx hb dX4_countWays_85 rfl (lv_at hl 2 rfl) ?_
        refine va_get (v := .ref (ad 39)) (C := RX4) (T := TX4) (N := 3) hx hb hts in4 hown hK.1 hP 38 nb_a38 rfl 2 (by decide) w_4 (fun _ h9 => h9) rfl dX4_countWays_86 ?_
        refine lv_iload hx hb dX4_countWays_89 (lv_at hl 0 rfl) ?_
        refine va_lald hx hb hK.1 hP 39 1 nb_a39 rfl (nb_lit rfl) dX4_countWays_91 ?_
        refine lv_bipush (v := (16 : Int32)) hx hb dX4_countWays_92 (by decide) ?_
        refine lv_iload hx hb dX4_countWays_94 (lv_at hl 1 rfl) ?_
        refine lv_isub hx hb dX4_countWays_96 ?_
        refine lv_i2l hx hb dX4_countWays_97 rfl ?_
        refine lv_lmul hx hb dX4_countWays_98 ?_
        refine lv_aload_n hx hb dX4_countWays_99 rfl (lv_at hl 2 rfl) ?_
        refine va_get (v := .ref (ad 39)) (C := RX4) (T := TX4) (N := 3) hx hb hts in4 hown hK.1 hP 38 nb_a38 rfl 2 (by decide) w_4 (fun _ h9 => h9) rfl dX4_countWays_100 ?_
        refine lv_iload hx hb dX4_countWays_103 (lv_at hl 0 rfl) ?_
        refine lv_iconst (v := (1 : Int32)) hx hb dX4_countWays_105 (by decide) ?_
        refine lv_isub hx hb dX4_countWays_106 ?_
        refine va_lald hx hb hK.1 hP 39 1 nb_a39 rfl (nb_lit rfl) dX4_countWays_107 ?_
        refine lv_iload hx hb dX4_countWays_108 (lv_at hl 1 rfl) ?_
        refine lv_i2l hx hb dX4_countWays_110 rfl ?_
        refine lv_lmul hx hb dX4_countWays_111 ?_
        refine lv_ladd hx hb dX4_countWays_112 ?_
        refine nb_last hx hb had hK hP hS nb_a39 (nb_lit rfl) (nb_s39 _ _) dX4_countWays_113 (fun H locs hP hS => ?_)
        obtain ⟨M_15, e_15, h⟩ := nb_nE h
        rw [e_15] at hP
        refine lv_iinc (v := (5 : Int32)) (lv' := [(7, .int (5 : Int32)), (6, .int r_7), (0, .ref (ad 38)), (1, .ref (ad 1)), (2, .int x2), (3, .long x3), (5, .int x5)]) hx hb dX4_countWays_114 hl (k := 0) rfl (by decide) (by decide) rfl (fun ls hl => ?_)
        refine lv_goto (tgt := 74) hx hb dX4_countWays_117 (by decide) ?_
        refine lv_iload hx hb dX4_countWays_74 (lv_at hl 0 rfl) ?_
        refine lv_if_le (tgt := 120) hx hb dX4_countWays_76 (by decide) (fun c_16 => absurd c_16 (by decide)) (fun _ => ?_)
        refine lv_aload_n hx hb dX4_countWays_79 rfl (lv_at hl 2 rfl) ?_
        refine va_get (v := .ref (ad 39)) (C := RX4) (T := TX4) (N := 3) hx hb hts in4 hown hK.1 hP 38 nb_a38 rfl 2 (by decide) w_4 (fun _ h9 => h9) rfl dX4_countWays_80 ?_
        refine lv_iload hx hb dX4_countWays_83 (lv_at hl 0 rfl) ?_
        refine lv_aload_n hx hb dX4_countWays_85 rfl (lv_at hl 2 rfl) ?_
        refine va_get (v := .ref (ad 39)) (C := RX4) (T := TX4) (N := 3) hx hb hts in4 hown hK.1 hP 38 nb_a38 rfl 2 (by decide) w_4 (fun _ h9 => h9) rfl dX4_countWays_86 ?_
        refine lv_iload hx hb dX4_countWays_89 (lv_at hl 0 rfl) ?_
        refine va_lald hx hb hK.1 hP 39 1 nb_a39 rfl (nb_lit rfl) dX4_countWays_91 ?_
        refine lv_bipush (v := (16 : Int32)) hx hb dX4_countWays_92 (by decide) ?_
        refine lv_iload hx hb dX4_countWays_94 (lv_at hl 1 rfl) ?_
        refine lv_isub hx hb dX4_countWays_96 ?_
        refine lv_i2l hx hb dX4_countWays_97 rfl ?_
        refine lv_lmul hx hb dX4_countWays_98 ?_
        refine lv_aload_n hx hb dX4_countWays_99 rfl (lv_at hl 2 rfl) ?_
        refine va_get (v := .ref (ad 39)) (C := RX4) (T := TX4) (N := 3) hx hb hts in4 hown hK.1 hP 38 nb_a38 rfl 2 (by decide) w_4 (fun _ h9 => h9) rfl dX4_countWays_100 ?_
        refine lv_iload hx hb dX4_countWays_103 (lv_at hl 0 rfl) ?_
        refine lv_iconst (v := (1 : Int32)) hx hb dX4_countWays_105 (by decide) ?_
        refine lv_isub hx hb dX4_countWays_106 ?_
        refine va_lald hx hb hK.1 hP 39 1 nb_a39 rfl (nb_lit rfl) dX4_countWays_107 ?_
        refine lv_iload hx hb dX4_countWays_108 (lv_at hl 1 rfl) ?_
        refine lv_i2l hx hb dX4_countWays_110 rfl ?_
        refine lv_lmul hx hb dX4_countWays_111 ?_
        refine lv_ladd hx hb dX4_countWays_112 ?_
        refine nb_last hx hb had hK hP hS nb_a39 (nb_lit rfl) (nb_s39 _ _) dX4_countWays_113 (fun H locs hP hS => ?_)
        obtain ⟨M_17, e_17, h⟩ := nb_nE h
        rw [e_17] at hP
        refine lv_iinc (v := (4 : Int32)) (lv' := [(7, .int (4 : Int32)), (6, .int r_7), (0, .ref (ad 38)), (1, .ref (ad 1)), (2, .int x2), (3, .long x3), (5, .int x5)]) hx hb dX4_countWays_114 hl (k := 0) rfl (by decide) (by decide) rfl (fun ls hl => ?_)
        refine lv_goto (tgt := 74) hx hb dX4_countWays_117 (by decide) ?_
        refine lv_iload hx hb dX4_countWays_74 (lv_at hl 0 rfl) ?_
        refine lv_if_le (tgt := 120) hx hb dX4_countWays_76 (by decide) (fun c_18 => absurd c_18 (by decide)) (fun _ => ?_)
        refine lv_aload_n hx hb dX4_countWays_79 rfl (lv_at hl 2 rfl) ?_
        refine va_get (v := .ref (ad 39)) (C := RX4) (T := TX4) (N := 3) hx hb hts in4 hown hK.1 hP 38 nb_a38 rfl 2 (by decide) w_4 (fun _ h9 => h9) rfl dX4_countWays_80 ?_
        refine lv_iload hx hb dX4_countWays_83 (lv_at hl 0 rfl) ?_
        refine lv_aload_n hx hb dX4_countWays_85 rfl (lv_at hl 2 rfl) ?_
        refine va_get (v := .ref (ad 39)) (C := RX4) (T := TX4) (N := 3) hx hb hts in4 hown hK.1 hP 38 nb_a38 rfl 2 (by decide) w_4 (fun _ h9 => h9) rfl dX4_countWays_86 ?_
        refine lv_iload hx hb dX4_countWays_89 (lv_at hl 0 rfl) ?_
        refine va_lald hx hb hK.1 hP 39 1 nb_a39 rfl (nb_lit rfl) dX4_countWays_91 ?_
        refine lv_bipush (v := (16 : Int32)) hx hb dX4_countWays_92 (by decide) ?_
        refine lv_iload hx hb dX4_countWays_94 (lv_at hl 1 rfl) ?_
        refine lv_isub hx hb dX4_countWays_96 ?_
        refine lv_i2l hx hb dX4_countWays_97 rfl ?_
        refine lv_lmul hx hb dX4_countWays_98 ?_
        refine lv_aload_n hx hb dX4_countWays_99 rfl (lv_at hl 2 rfl) ?_
        refine va_get (v := .ref (ad 39)) (C := RX4) (T := TX4) (N := 3) hx hb hts in4 hown hK.1 hP 38 nb_a38 rfl 2 (by decide) w_4 (fun _ h9 => h9) rfl dX4_countWays_100 ?_
        refine lv_iload hx hb dX4_countWays_103 (lv_at hl 0 rfl) ?_
        refine lv_iconst (v := (1 : Int32)) hx hb dX4_countWays_105 (by decide) ?_
        refine lv_isub hx hb dX4_countWays_106 ?_
        refine va_lald hx hb hK.1 hP 39 1 nb_a39 rfl (nb_lit rfl) dX4_countWays_107 ?_
        refine lv_iload hx hb dX4_countWays_108 (lv_at hl 1 rfl) ?_
        refine lv_i2l hx hb dX4_countWays_110 rfl ?_
        refine lv_lmul hx hb dX4_countWays_111 ?_
        refine lv_ladd hx hb dX4_countWays_112 ?_
        refine nb_last hx hb had hK hP hS nb_a39 (nb_lit rfl) (nb_s39 _ _) dX4_countWays_113 (fun H locs hP hS => ?_)
        obtain ⟨M_19, e_19, h⟩ := nb_nE h
        rw [e_19] at hP
        refine lv_iinc (v := (3 : Int32)) (lv' := [(7, .int (3 : Int32)), (6, .int r_7), (0, .ref (ad 38)), (1, .ref (ad 1)), (2, .int x2), (3, .long x3), (5, .int x5)]) hx hb dX4_countWays_114 hl (k := 0) rfl (by decide) (by decide) rfl (fun ls hl => ?_)
        refine lv_goto (tgt := 74) hx hb dX4_countWays_117 (by decide) ?_
        refine lv_iload hx hb dX4_countWays_74 (lv_at hl 0 rfl) ?_
        refine lv_if_le (tgt := 120) hx hb dX4_countWays_76 (by decide) (fun c_20 => absurd c_20 (by decide)) (fun _ => ?_)
        refine lv_aload_n hx hb dX4_countWays_79 rfl (lv_at hl 2 rfl) ?_
        refine va_get (v := .ref (ad 39)) (C := RX4) (T := TX4) (N := 3) hx hb hts in4 hown hK.1 hP 38 nb_a38 rfl 2 (by decide) w_4 (fun _ h9 => h9) rfl dX4_countWays_80 ?_
        refine lv_iload hx hb dX4_countWays_83 (lv_at hl 0 rfl) ?_
        refine lv_aload_n hx hb dX4_countWays_85 rfl (lv_at hl 2 rfl) ?_
        refine va_get (v := .ref (ad 39)) (C := RX4) (T := TX4) (N := 3) hx hb hts in4 hown hK.1 hP 38 nb_a38 rfl 2 (by decide) w_4 (fun _ h9 => h9) rfl dX4_countWays_86 ?_
        refine lv_iload hx hb dX4_countWays_89 (lv_at hl 0 rfl) ?_
        refine va_lald hx hb hK.1 hP 39 1 nb_a39 rfl (nb_lit rfl) dX4_countWays_91 ?_
        refine lv_bipush (v := (16 : Int32)) hx hb dX4_countWays_92 (by decide) ?_
        refine lv_iload hx hb dX4_countWays_94 (lv_at hl 1 rfl) ?_
        refine lv_isub hx hb dX4_countWays_96 ?_
        refine lv_i2l hx hb dX4_countWays_97 rfl ?_
        refine lv_lmul hx hb dX4_countWays_98 ?_
        refine lv_aload_n hx hb dX4_countWays_99 rfl (lv_at hl 2 rfl) ?_
        refine va_get (v := .ref (ad 39)) (C := RX4) (T := TX4) (N := 3) hx hb hts in4 hown hK.1 hP 38 nb_a38 rfl 2 (by decide) w_4 (fun _ h9 => h9) rfl dX4_countWays_100 ?_
        refine lv_iload hx hb dX4_countWays_103 (lv_at hl 0 rfl) ?_
        refine lv_iconst (v := (1 : Int32)) hx hb dX4_countWays_105 (by decide) ?_
        refine lv_isub hx hb dX4_countWays_106 ?_
        refine va_lald hx hb hK.1 hP 39 1 nb_a39 rfl (nb_lit rfl) dX4_countWays_107 ?_
        refine lv_iload hx hb dX4_countWays_108 (lv_at hl 1 rfl) ?_
        refine lv_i2l hx hb dX4_countWays_110 rfl ?_
        refine lv_lmul hx hb dX4_countWays_111 ?_
        refine lv_ladd hx hb dX4_countWays_112 ?_
        refine nb_last hx hb had hK hP hS nb_a39 (nb_lit rfl) (nb_s39 _ _) dX4_countWays_113 (fun H locs hP hS => ?_)
        obtain ⟨M_21, e_21, h⟩ := nb_nE h
        rw [e_21] at hP
        refine lv_iinc (v := (2 : Int32)) (lv' := [(7, .int (2 : Int32)), (6, .int r_7), (0, .ref (ad 38)), (1, .ref (ad 1)), (2, .int x2), (3, .long x3), (5, .int x5)]) hx hb dX4_countWays_114 hl (k := 0) rfl (by decide) (by decide) rfl (fun ls hl => ?_)
        refine lv_goto (tgt := 74) hx hb dX4_countWays_117 (by decide) ?_
        refine lv_iload hx hb dX4_countWays_74 (lv_at hl 0 rfl) ?_
        refine lv_if_le (tgt := 120) hx hb dX4_countWays_76 (by decide) (fun c_22 => absurd c_22 (by decide)) (fun _ => ?_)
        refine lv_aload_n hx hb dX4_countWays_79 rfl (lv_at hl 2 rfl) ?_
        refine va_get (v := .ref (ad 39)) (C := RX4) (T := TX4) (N := 3) hx hb hts in4 hown hK.1 hP 38 nb_a38 rfl 2 (by decide) w_4 (fun _ h9 => h9) rfl dX4_countWays_80 ?_
        refine lv_iload hx hb dX4_countWays_83 (lv_at hl 0 rfl) ?_
        refine lv_aload_n hx hb dX4_countWays_85 rfl (lv_at hl 2 rfl) ?_
        refine va_get (v := .ref (ad 39)) (C := RX4) (T := TX4) (N := 3) hx hb hts in4 hown hK.1 hP 38 nb_a38 rfl 2 (by decide) w_4 (fun _ h9 => h9) rfl dX4_countWays_86 ?_
        refine lv_iload hx hb dX4_countWays_89 (lv_at hl 0 rfl) ?_
        refine va_lald hx hb hK.1 hP 39 1 nb_a39 rfl (nb_lit rfl) dX4_countWays_91 ?_
        refine lv_bipush (v := (16 : Int32)) hx hb dX4_countWays_92 (by decide) ?_
        refine lv_iload hx hb dX4_countWays_94 (lv_at hl 1 rfl) ?_
        refine lv_isub hx hb dX4_countWays_96 ?_
        refine lv_i2l hx hb dX4_countWays_97 rfl ?_
        refine lv_lmul hx hb dX4_countWays_98 ?_
        refine lv_aload_n hx hb dX4_countWays_99 rfl (lv_at hl 2 rfl) ?_
        refine va_get (v := .ref (ad 39)) (C := RX4) (T := TX4) (N := 3) hx hb hts in4 hown hK.1 hP 38 nb_a38 rfl 2 (by decide) w_4 (fun _ h9 => h9) rfl dX4_countWays_100 ?_
        refine lv_iload hx hb dX4_countWays_103 (lv_at hl 0 rfl) ?_
        refine lv_iconst (v := (1 : Int32)) hx hb dX4_countWays_105 (by decide) ?_
        refine lv_isub hx hb dX4_countWays_106 ?_
        refine va_lald hx hb hK.1 hP 39 1 nb_a39 rfl (nb_lit rfl) dX4_countWays_107 ?_
        refine lv_iload hx hb dX4_countWays_108 (lv_at hl 1 rfl) ?_
        refine lv_i2l hx hb dX4_countWays_110 rfl ?_
        refine lv_lmul hx hb dX4_countWays_111 ?_
        refine lv_ladd hx hb dX4_countWays_112 ?_
        refine nb_last hx hb had hK hP hS nb_a39 (nb_lit rfl) (nb_s39 _ _) dX4_countWays_113 (fun H locs hP hS => ?_)
        obtain ⟨M_23, e_23, h⟩ := nb_nE h
        rw [e_23] at hP
        refine lv_iinc (v := (1 : Int32)) (lv' := [(7, .int (1 : Int32)), (6, .int r_7), (0, .ref (ad 38)), (1, .ref (ad 1)), (2, .int x2), (3, .long x3), (5, .int x5)]) hx hb dX4_countWays_114 hl (k := 0) rfl (by decide) (by decide) rfl (fun ls hl => ?_)
        refine lv_goto (tgt := 74) hx hb dX4_countWays_117 (by decide) ?_
        refine lv_iload hx hb dX4_countWays_74 (lv_at hl 0 rfl) ?_
        refine lv_if_le (tgt := 120) hx hb dX4_countWays_76 (by decide) (fun c_24 => absurd c_24 (by decide)) (fun _ => ?_)
        refine lv_aload_n hx hb dX4_countWays_79 rfl (lv_at hl 2 rfl) ?_
        refine va_get (v := .ref (ad 39)) (C := RX4) (T := TX4) (N := 3) hx hb hts in4 hown hK.1 hP 38 nb_a38 rfl 2 (by decide) w_4 (fun _ h9 => h9) rfl dX4_countWays_80 ?_
        refine lv_iload hx hb dX4_countWays_83 (lv_at hl 0 rfl) ?_
        refine lv_aload_n hx hb dX4_countWays_85 rfl (lv_at hl 2 rfl) ?_
        refine va_get (v := .ref (ad 39)) (C := RX4) (T := TX4) (N := 3) hx hb hts in4 hown hK.1 hP 38 nb_a38 rfl 2 (by decide) w_4 (fun _ h9 => h9) rfl dX4_countWays_86 ?_
        refine lv_iload hx hb dX4_countWays_89 (lv_at hl 0 rfl) ?_
        refine va_lald hx hb hK.1 hP 39 1 nb_a39 rfl (nb_lit rfl) dX4_countWays_91 ?_
        refine lv_bipush (v := (16 : Int32)) hx hb dX4_countWays_92 (by decide) ?_
        refine lv_iload hx hb dX4_countWays_94 (lv_at hl 1 rfl) ?_
        refine lv_isub hx hb dX4_countWays_96 ?_
        refine lv_i2l hx hb dX4_countWays_97 rfl ?_
        refine lv_lmul hx hb dX4_countWays_98 ?_
        refine lv_aload_n hx hb dX4_countWays_99 rfl (lv_at hl 2 rfl) ?_
        refine va_get (v := .ref (ad 39)) (C := RX4) (T := TX4) (N := 3) hx hb hts in4 hown hK.1 hP 38 nb_a38 rfl 2 (by decide) w_4 (fun _ h9 => h9) rfl dX4_countWays_100 ?_
        refine lv_iload hx hb dX4_countWays_103 (lv_at hl 0 rfl) ?_
        refine lv_iconst (v := (1 : Int32)) hx hb dX4_countWays_105 (by decide) ?_
        refine lv_isub hx hb dX4_countWays_106 ?_
        refine va_lald hx hb hK.1 hP 39 1 nb_a39 rfl (nb_lit rfl) dX4_countWays_107 ?_
        refine lv_iload hx hb dX4_countWays_108 (lv_at hl 1 rfl) ?_
        refine lv_i2l hx hb dX4_countWays_110 rfl ?_
        refine lv_lmul hx hb dX4_countWays_111 ?_
        refine lv_ladd hx hb dX4_countWays_112 ?_
        refine nb_last hx hb had hK hP hS nb_a39 (nb_lit rfl) (nb_s39 _ _) dX4_countWays_113 (fun H locs hP hS => ?_)
        obtain ⟨M_25, e_25, h⟩ := nb_nE h
        rw [e_25] at hP
        refine lv_iinc (v := (0 : Int32)) (lv' := [(7, .int (0 : Int32)), (6, .int r_7), (0, .ref (ad 38)), (1, .ref (ad 1)), (2, .int x2), (3, .long x3), (5, .int x5)]) hx hb dX4_countWays_114 hl (k := 0) rfl (by decide) (by decide) rfl (fun ls hl => ?_)
        refine lv_goto (tgt := 74) hx hb dX4_countWays_117 (by decide) ?_
        refine lv_iload hx hb dX4_countWays_74 (lv_at hl 0 rfl) ?_
        refine lv_if_le (tgt := 120) hx hb dX4_countWays_76 (by decide) (fun _ => ?_) (fun c_26 => absurd (by decide) c_26)
        refine lv_aload_n hx hb dX4_countWays_120 rfl (lv_at hl 2 rfl) ?_
        refine va_get (v := .ref (ad 39)) (C := RX4) (T := TX4) (N := 3) hx hb hts in4 hown hK.1 hP 38 nb_a38 rfl 2 (by decide) w_4 (fun _ h9 => h9) rfl dX4_countWays_121 ?_
        refine lv_iconst (v := (0 : Int32)) hx hb dX4_countWays_124 (by decide) ?_
        refine lv_aload_n hx hb dX4_countWays_125 rfl (lv_at hl 2 rfl) ?_
        refine va_get (v := .ref (ad 39)) (C := RX4) (T := TX4) (N := 3) hx hb hts in4 hown hK.1 hP 38 nb_a38 rfl 2 (by decide) w_4 (fun _ h9 => h9) rfl dX4_countWays_126 ?_
        refine lv_iconst (v := (0 : Int32)) hx hb dX4_countWays_129 (by decide) ?_
        refine va_lald hx hb hK.1 hP 39 1 nb_a39 rfl (nb_lit rfl) dX4_countWays_130 ?_
        refine lv_bipush (v := (16 : Int32)) hx hb dX4_countWays_131 (by decide) ?_
        refine lv_iload hx hb dX4_countWays_133 (lv_at hl 1 rfl) ?_
        refine lv_isub hx hb dX4_countWays_135 ?_
        refine lv_i2l hx hb dX4_countWays_136 rfl ?_
        refine lv_lmul hx hb dX4_countWays_137 ?_
        refine nb_last hx hb had hK hP hS nb_a39 (nb_lit rfl) (nb_s39 _ _) dX4_countWays_138 (fun H locs hP hS => ?_)
        obtain ⟨M_27, e_27, h⟩ := nb_nE h
        rw [e_27] at hP
        refine lv_lload_n hx hb dX4_countWays_139 rfl (lv_at hl 5 rfl) ?_
        refine lv_ldc2 (v := (16 : Int64)) hx hb hown w_6 dX4_countWays_140 ?_
        refine lv_lmul hx hb dX4_countWays_143 ?_
        refine lv_topl (fun v_28 e_28 => ?_)
        have h := nb_nA e_28 h
        refine lv_lstore_n (lv' := [(3, .long v_28), (7, .int (0 : Int32)), (6, .int r_7), (0, .ref (ad 38)), (1, .ref (ad 1)), (2, .int x2), (5, .int x5)]) hx hb dX4_countWays_144 rfl hl (by decide) rfl (fun ls hl => ?_)
        refine lv_iinc (v := x5 + 1) (lv' := [(5, .int (x5 + 1)), (3, .long v_28), (7, .int (0 : Int32)), (6, .int r_7), (0, .ref (ad 38)), (1, .ref (ad 1)), (2, .int x2)]) hx hb dX4_countWays_145 hl (k := 6) rfl (congrArg (HAdd.hAdd x5) (by decide)) (by decide) rfl (fun ls hl => ?_)
        refine lv_goto (tgt := 36) hx hb dX4_countWays_148 (by decide) ?_
        exact ih _ _ _ _ h _ _ hP hS _ (lv_sub hl [4, 5, 6, 1, 0] rfl)
set_option maxHeartbeats 4000000 in
set_option maxRecDepth 100000 in
theorem w_X4_countWays_5 {N : nb_M} {r : Int64} {M' : nb_M} (had : nb_AD ad b0) (X : nb_X p s m args meth c cX4_countWays 8 RX4 (some .long) wsX4_countWays D ca b0) : ∀ (n : Nat) (M : nb_M) (x2 : Int32) (x3 : Int64) (x5 : Int32), f_X4_countWays_5 n M x2 x3 x5 = some (r, M') → ∀ (H : Heap) (locs : List Loc), va_P D vwCl (nb_w ad ca M N) H → va_S (fun q => b0 ≤ q) s.heap H locs → ∀ ls : Array Slot, lv_has ls 8 [(0, .ref (ad 38)), (1, .ref (ad 1)), (2, .int x2), (3, .long x3), (5, .int x5)] → W p l e (nb_R 4) s m args below meth c H locs 0 0 (nb_Q below args s D ad ca b0 (some (.long r)) M' N) (F0 m 5 ls []) := by
  obtain ⟨hx, hb, hml, hown, hts, hr, hlk, hK, hZ⟩ := id X
  have w_1 := hts (.fieldLink RX4 9 "NineBreakages$Thought" "ways" "[J") (by decide +kernel)
  have in4 : ∀ w ∈ u_ws RX4 TX4 3, w ∈ wsX4_countWays := fun w q => List.mem_cons_of_mem _ (List.mem_append_left _ (List.mem_append_left _ (List.mem_append_right _ q)))
  intro n
  induction n with
  | zero =>
    intro M x2 x3 x5 h
    rw [f_X4_countWays_5] at h
    cases h
  | succ n ih =>
    intro M x2 x3 x5 h H locs hP hS ls hl
    rw [f_X4_countWays_5] at h
    refine lv_iload hx hb dX4_countWays_5 (lv_at hl 4 rfl) ?_
    refine lv_bipush (v := (9 : Int32)) hx hb dX4_countWays_7 (by decide) ?_
    refine lv_icmp_gt (tgt := 26) hx hb dX4_countWays_9 (by decide) (fun c_1 => ?_) (fun c_1 => ?_)
    · have h := nb_t c_1 h
      refine lv_aload_n hx hb dX4_countWays_26 rfl (lv_at hl 0 rfl) ?_
      refine va_get (v := .ref (ad 39)) (C := RX4) (T := TX4) (N := 3) hx hb hts in4 hown hK.1 hP 38 nb_a38 rfl 2 (by decide) w_1 (fun _ h9 => h9) rfl dX4_countWays_27 ?_
      refine lv_iconst (v := (0 : Int32)) hx hb dX4_countWays_30 (by decide) ?_
      refine lv_lconst (v := (1 : Int64)) hx hb dX4_countWays_31 (by decide) ?_
      refine nb_last hx hb had hK hP hS nb_a39 (nb_lit rfl) (nb_s39 _ _) dX4_countWays_32 (fun H locs hP hS => ?_)
      obtain ⟨M_2, e_2, h⟩ := nb_nE h
      rw [e_2] at hP
      refine lv_iconst (v := (0 : Int32)) hx hb dX4_countWays_33 (by decide) ?_
      refine lv_istore (lv' := [(5, .int (0 : Int32)), (0, .ref (ad 38)), (1, .ref (ad 1)), (2, .int x2), (3, .long x3)]) hx hb dX4_countWays_34 hl (by decide) rfl (fun ls hl => ?_)
      exact w_X4_countWays_36 had X nb_F _ _ _ _ h _ _ hP hS _ (lv_sub hl [1, 2, 3, 4, 0] rfl)
    · have h := nb_f c_1 h
      refine lv_aload_n hx hb dX4_countWays_12 rfl (lv_at hl 0 rfl) ?_
      refine va_get (v := .ref (ad 39)) (C := RX4) (T := TX4) (N := 3) hx hb hts in4 hown hK.1 hP 38 nb_a38 rfl 2 (by decide) w_1 (fun _ h9 => h9) rfl dX4_countWays_13 ?_
      refine lv_iload hx hb dX4_countWays_16 (lv_at hl 4 rfl) ?_
      refine lv_lconst (v := (0 : Int64)) hx hb dX4_countWays_18 (by decide) ?_
      obtain ⟨c_29, h⟩ := nb_c h
      refine nb_last hx hb had hK hP hS nb_a39 c_29 (nb_s39 _ _) dX4_countWays_19 (fun H locs hP hS => ?_)
      obtain ⟨M_30, e_30, h⟩ := nb_nE h
      rw [e_30] at hP
      refine lv_iinc (v := x5 + 1) (lv' := [(5, .int (x5 + 1)), (0, .ref (ad 38)), (1, .ref (ad 1)), (2, .int x2), (3, .long x3)]) hx hb dX4_countWays_20 hl (k := 4) rfl (congrArg (HAdd.hAdd x5) (by decide)) (by decide) rfl (fun ls hl => ?_)
      refine lv_goto (tgt := 5) hx hb dX4_countWays_23 (by decide) ?_
      exact ih _ _ _ _ h _ _ hP hS _ (lv_sub hl [1, 2, 3, 4, 0] rfl)
set_option maxHeartbeats 4000000 in
set_option maxRecDepth 100000 in
theorem k_X4_countWays {r : Int64} {M' : nb_M} (had : nb_AD ad b0) (M N : nb_M) (p0 : Int32) (h : f_X4_countWays M p0 = some (r, M')) : nb_C l D ad ca b0 yX4_countWays wsX4_countWays 4 [.ref (ad 38), .ref (ad 1), .int p0] M N (some (.long r)) M' N := by
  refine nb_of (cc := cX4_countWays) (maxL := 8) (ret := (some .long)) (own := RX4) (by decide +kernel) rfl rfl (Nat.le_of_ble_eq_true rfl) ?_
  intro p e s m args below meth c ls X hP hS hl
  have hl : lv_has ls 8 [(0, .ref (ad 38)), (1, .ref (ad 1)), (2, .int p0)] := hl
  obtain ⟨hx, hb, hml, hown, hts, hr, hlk, hK, hZ⟩ := id X
  unfold f_X4_countWays at h
  refine lv_lconst (v := (1 : Int64)) hx hb dX4_countWays_0 (by decide) ?_
  refine lv_lstore_n (lv' := [(3, .long (1 : Int64)), (0, .ref (ad 38)), (1, .ref (ad 1)), (2, .int p0)]) hx hb dX4_countWays_1 rfl hl (by decide) rfl (fun ls hl => ?_)
  refine lv_iconst (v := (1 : Int32)) hx hb dX4_countWays_2 (by decide) ?_
  refine lv_istore (lv' := [(5, .int (1 : Int32)), (3, .long (1 : Int64)), (0, .ref (ad 38)), (1, .ref (ad 1)), (2, .int p0)]) hx hb dX4_countWays_3 hl (by decide) rfl (fun ls hl => ?_)
  exact w_X4_countWays_5 had X nb_F _ _ _ _ h _ _ hP hS _ (lv_sub hl [2, 3, 4, 1, 0] rfl)
set_option maxHeartbeats 4000000 in
set_option maxRecDepth 100000 in
theorem w_X4_setFraction_13 {N : nb_M} {M' : nb_M} (had : nb_AD ad b0) (X : nb_X p s m args meth c cX4_setFraction 6 RX4 none wsX4_setFraction D ca b0) : ∀ (n : Nat) (M : nb_M) (x5 : Int32), f_X4_setFraction_13 n M x5 = some (M') → ∀ (H : Heap) (locs : List Loc), va_P D vwCl (nb_w ad ca M N) H → va_S (fun q => b0 ≤ q) s.heap H locs → ∀ ls : Array Slot, lv_has ls 6 [(0, .ref (ad 38)), (5, .int x5)] → W p l e (nb_R 0) s m args below meth c H locs 0 0 (nb_Q below args s D ad ca b0 none M' N) (F0 m 13 ls []) := by
  obtain ⟨hx, hb, hml, hown, hts, hr, hlk, hK, hZ⟩ := id X
  have w_1 := hts (.fieldLink RX4 64 "NineBreakages$Thought" "below" "J") (by decide +kernel)
  have in4 : ∀ w ∈ u_ws RX4 TX4 3, w ∈ wsX4_setFraction := fun w q => List.mem_cons_of_mem _ (List.mem_append_right _ q)
  have w_3 := hts (.fieldLink RX4 60 "NineBreakages$Thought" "above" "J") (by decide +kernel)
  have w_4 := hts (.constantLong RX4 67 (2)) (by decide +kernel)
  intro n
  induction n with
  | zero =>
    intro M x5 h
    rw [f_X4_setFraction_13] at h
    cases h
  | succ n ih =>
    intro M x5 h H locs hP hS ls hl
    rw [f_X4_setFraction_13] at h
    refine lv_iload hx hb dX4_setFraction_13 (lv_at hl 1 rfl) ?_
    refine lv_bipush (v := (36 : Int32)) hx hb dX4_setFraction_15 (by decide) ?_
    refine lv_icmp_ge (tgt := 72) hx hb dX4_setFraction_17 (by decide) (fun c_3 => ?_) (fun c_3 => ?_)
    · have h := nb_t c_3 h
      obtain rfl := nb_e1 h
      exact nb_vret hx hb hr hlk hP hS dX4_setFraction_72
    · have h := nb_f c_3 h
      refine lv_aload_n hx hb dX4_setFraction_20 rfl (lv_at hl 0 rfl) ?_
      refine va_get (v := .long (M.2 38 1)) (C := RX4) (T := TX4) (N := 3) hx hb hts in4 hown hK.1 hP 38 nb_a38 rfl 1 (by decide) w_1 (fun _ h9 => h9) rfl dX4_setFraction_21 ?_
      refine lv_lconst (v := (1 : Int64)) hx hb dX4_setFraction_24 (by decide) ?_
      refine W.lcmp hx hb dX4_setFraction_25 ?_
      refine lv_if_le (tgt := 72) hx hb dX4_setFraction_26 (by decide) (fun c_4 => ?_) (fun c_4 => ?_)
      · have h := nb_t c_4 h
        obtain rfl := nb_e1 h
        exact nb_vret hx hb hr hlk hP hS dX4_setFraction_72
      · have h := nb_f c_4 h
        refine lv_aload_n hx hb dX4_setFraction_29 rfl (lv_at hl 0 rfl) ?_
        refine va_get (v := .long (M.2 38 0)) (C := RX4) (T := TX4) (N := 3) hx hb hts in4 hown hK.1 hP 38 nb_a38 rfl 0 (by decide) w_3 (fun _ h9 => h9) rfl dX4_setFraction_30 ?_
        refine lv_ldc2 (v := (2 : Int64)) hx hb hown w_4 dX4_setFraction_33 ?_
        refine lv_lrem hx hb dX4_setFraction_36 (by decide) ?_
        refine lv_lconst (v := (0 : Int64)) hx hb dX4_setFraction_37 (by decide) ?_
        refine W.lcmp hx hb dX4_setFraction_38 ?_
        refine lv_if_ne (tgt := 72) hx hb dX4_setFraction_39 (by decide) (fun c_5 => ?_) (fun c_5 => ?_)
        · have h := nb_f c_5 h
          obtain rfl := nb_e1 h
          exact nb_vret hx hb hr hlk hP hS dX4_setFraction_72
        · have h := nb_t c_5 h
          refine lv_aload_n hx hb dX4_setFraction_42 rfl (lv_at hl 0 rfl) ?_
          refine lv_dup hx hb dX4_setFraction_43 rfl ?_
          refine va_get (v := .long (M.2 38 0)) (C := RX4) (T := TX4) (N := 3) hx hb hts in4 hown hK.1 hP 38 nb_a38 rfl 0 (by decide) w_3 (fun _ h9 => h9) rfl dX4_setFraction_44 ?_
          refine lv_ldc2 (v := (2 : Int64)) hx hb hown w_4 dX4_setFraction_47 ?_
          refine lv_ldiv hx hb dX4_setFraction_50 (by decide) ?_
          refine nb_put (C := RX4) (T := TX4) (NN := 3) hx hb had hts in4 tyX4 tyX4_ok nmX4 hown hK hP hS nb_a38 rfl 0 (by decide) w_3 rfl (ty := .long) (by decide +kernel) rfl rfl (Nat.le_of_ble_eq_true rfl) (nb_p38_0 _) dX4_setFraction_51 (fun H locs hP hS => ?_)
          obtain ⟨M_6, e_6, h⟩ := nb_nE h
          rw [e_6] at hP
          refine lv_aload_n hx hb dX4_setFraction_54 rfl (lv_at hl 0 rfl) ?_
          refine lv_dup hx hb dX4_setFraction_55 rfl ?_
          refine va_get (v := .long (M_6.2 38 1)) (C := RX4) (T := TX4) (N := 3) hx hb hts in4 hown hK.1 hP 38 nb_a38 rfl 1 (by decide) w_1 (fun _ h9 => h9) rfl dX4_setFraction_56 ?_
          refine lv_ldc2 (v := (2 : Int64)) hx hb hown w_4 dX4_setFraction_59 ?_
          refine lv_ldiv hx hb dX4_setFraction_62 (by decide) ?_
          refine nb_put (C := RX4) (T := TX4) (NN := 3) hx hb had hts in4 tyX4 tyX4_ok nmX4 hown hK hP hS nb_a38 rfl 1 (by decide) w_1 rfl (ty := .long) (by decide +kernel) rfl rfl (Nat.le_of_ble_eq_true rfl) (nb_p38_1 _) dX4_setFraction_63 (fun H locs hP hS => ?_)
          obtain ⟨M_7, e_7, h⟩ := nb_nE h
          rw [e_7] at hP
          refine lv_iinc (v := x5 + 1) (lv' := [(5, .int (x5 + 1)), (0, .ref (ad 38))]) hx hb dX4_setFraction_66 hl (k := 1) rfl (congrArg (HAdd.hAdd x5) (by decide)) (by decide) rfl (fun ls hl => ?_)
          refine lv_goto (tgt := 13) hx hb dX4_setFraction_69 (by decide) ?_
          exact ih _ _ h _ _ hP hS _ (lv_sub hl [1, 0] rfl)
set_option maxHeartbeats 4000000 in
set_option maxRecDepth 100000 in
theorem k_X4_setFraction {M' : nb_M} (had : nb_AD ad b0) (M N : nb_M) (p0 : Int64) (p1 : Int64) (h : f_X4_setFraction M p0 p1 = some (M')) : nb_C l D ad ca b0 yX4_setFraction wsX4_setFraction 0 [.ref (ad 38), .long p0, .long p1] M N none M' N := by
  refine nb_of (cc := cX4_setFraction) (maxL := 6) (ret := none) (own := RX4) (by decide +kernel) rfl rfl (Nat.le_of_ble_eq_true rfl) ?_
  intro p e s m args below meth c ls X hP hS hl
  have hl : lv_has ls 6 [(0, .ref (ad 38)), (1, .long p0), (3, .long p1)] := hl
  obtain ⟨hx, hb, hml, hown, hts, hr, hlk, hK, hZ⟩ := id X
  have w_1 := hts (.fieldLink RX4 60 "NineBreakages$Thought" "above" "J") (by decide +kernel)
  have in4 : ∀ w ∈ u_ws RX4 TX4 3, w ∈ wsX4_setFraction := fun w q => List.mem_cons_of_mem _ (List.mem_append_right _ q)
  have w_3 := hts (.fieldLink RX4 64 "NineBreakages$Thought" "below" "J") (by decide +kernel)
  unfold f_X4_setFraction at h
  refine lv_aload_n hx hb dX4_setFraction_0 rfl (lv_at hl 0 rfl) ?_
  refine lv_lload_n hx hb dX4_setFraction_1 rfl (lv_at hl 1 rfl) ?_
  refine nb_put (C := RX4) (T := TX4) (NN := 3) hx hb had hts in4 tyX4 tyX4_ok nmX4 hown hK hP hS nb_a38 rfl 0 (by decide) w_1 rfl (ty := .long) (by decide +kernel) rfl rfl (Nat.le_of_ble_eq_true rfl) (nb_p38_0 _) dX4_setFraction_2 (fun H locs hP hS => ?_)
  obtain ⟨M_1, e_1, h⟩ := nb_nE h
  rw [e_1] at hP
  refine lv_aload_n hx hb dX4_setFraction_5 rfl (lv_at hl 0 rfl) ?_
  refine lv_lload_n hx hb dX4_setFraction_6 rfl (lv_at hl 2 rfl) ?_
  refine nb_put (C := RX4) (T := TX4) (NN := 3) hx hb had hts in4 tyX4 tyX4_ok nmX4 hown hK hP hS nb_a38 rfl 1 (by decide) w_3 rfl (ty := .long) (by decide +kernel) rfl rfl (Nat.le_of_ble_eq_true rfl) (nb_p38_1 _) dX4_setFraction_7 (fun H locs hP hS => ?_)
  obtain ⟨M_2, e_2, h⟩ := nb_nE h
  rw [e_2] at hP
  refine lv_iconst (v := (0 : Int32)) hx hb dX4_setFraction_10 (by decide) ?_
  refine lv_istore (lv' := [(5, .int (0 : Int32)), (0, .ref (ad 38)), (1, .long p0), (3, .long p1)]) hx hb dX4_setFraction_11 hl (by decide) rfl (fun ls hl => ?_)
  exact w_X4_setFraction_13 had X nb_F _ _ h _ _ hP hS _ (lv_sub hl [1, 0] rfl)
set_option maxHeartbeats 4000000 in
set_option maxRecDepth 100000 in
theorem k_X4_thinkOdds {M' : nb_M} (had : nb_AD ad b0) (M N : nb_M) (p0 : Int32) (p1 : Int32) (h : f_X4_thinkOdds M p0 p1 = some (M')) : nb_C l D ad ca b0 yX4_thinkOdds wsX4_thinkOdds 5 [.ref (ad 38), .ref (ad 1), .int p0, .int p1] M N none M' N := by
  refine nb_of (cc := cX4_thinkOdds) (maxL := 6) (ret := none) (own := RX4) (by decide +kernel) rfl rfl (Nat.le_of_ble_eq_true rfl) ?_
  intro p e s m args below meth c ls X hP hS hl
  have hl : lv_has ls 6 [(0, .ref (ad 38)), (1, .ref (ad 1)), (2, .int p0), (3, .int p1)] := hl
  obtain ⟨hx, hb, hml, hown, hts, hr, hlk, hK, hZ⟩ := id X
  have w_1 := hts (.fieldLink RX4 9 "NineBreakages$Thought" "ways" "[J") (by decide +kernel)
  have in4 : ∀ w ∈ u_ws RX4 TX4 3, w ∈ wsX4_thinkOdds := fun w q => List.mem_cons_of_mem _ (List.mem_append_left _ (List.mem_append_left _ (List.mem_append_right _ q)))
  unfold f_X4_thinkOdds at h
  refine lv_aload_n hx hb dX4_thinkOdds_0 rfl (lv_at hl 0 rfl) ?_
  refine lv_aload_n hx hb dX4_thinkOdds_1 rfl (lv_at hl 1 rfl) ?_
  refine lv_iload_n hx hb dX4_thinkOdds_2 rfl (lv_at hl 2 rfl) ?_
  obtain ⟨r_1, M_1, e_1, h⟩ := nb_pE h
  refine nb_callV (n := 2) (As := [.ref (ad 1), .int p0]) (rest := []) hx hb hml hown hts hK hZ hP hS (k_X4_countWays had M N p0 e_1) gX4_thinkOdds_X4_countWays rfl (by decide +kernel) (nb_rm (Nat.le_of_ble_eq_true rfl) (Nat.le_of_ble_eq_true rfl)) nb_a38 rfl rfl rfl hl.1 rfl (Nat.le_of_ble_eq_true rfl) dX4_thinkOdds_3 (fun H locs hP hS => ?_)
  refine W.eq (g2 := F0 m 6 ls [.long r_1]) rfl ?_
  refine lv_lstore (lv' := [(4, .long r_1), (0, .ref (ad 38)), (1, .ref (ad 1)), (2, .int p0), (3, .int p1)]) hx hb dX4_thinkOdds_6 hl (by decide) rfl (fun ls hl => ?_)
  refine lv_aload_n hx hb dX4_thinkOdds_8 rfl (lv_at hl 1 rfl) ?_
  refine lv_aload_n hx hb dX4_thinkOdds_9 rfl (lv_at hl 1 rfl) ?_
  refine va_get (v := .ref (ad 39)) (C := RX4) (T := TX4) (N := 3) hx hb hts in4 hown hK.1 hP 38 nb_a38 rfl 2 (by decide) w_1 (fun _ h9 => h9) rfl dX4_thinkOdds_10 ?_
  refine lv_iload_n hx hb dX4_thinkOdds_13 rfl (lv_at hl 4 rfl) ?_
  obtain ⟨c_2, h⟩ := nb_c h
  refine va_lald hx hb hK.1 hP 39 1 nb_a39 rfl c_2 dX4_thinkOdds_14 ?_
  refine lv_lload hx hb dX4_thinkOdds_15 (lv_at hl 0 rfl) ?_
  obtain ⟨M_3, e_3, h⟩ := nb_oE h
  refine nb_callV (n := 2) (As := [.long (M_1.2 39 p1.toNatClampNeg), .long r_1]) (rest := []) hx hb hml hown hts hK hZ hP hS (k_X4_setFraction had M_1 N (M_1.2 39 p1.toNatClampNeg) r_1 e_3) gX4_thinkOdds_X4_setFraction rfl (by decide +kernel) (nb_rm (Nat.le_of_ble_eq_true rfl) (Nat.le_of_ble_eq_true rfl)) nb_a38 rfl rfl rfl hl.1 rfl (Nat.le_of_ble_eq_true rfl) dX4_thinkOdds_17 (fun H locs hP hS => ?_)
  refine W.eq (g2 := F0 m 20 ls []) rfl ?_
  obtain rfl := nb_e1 h
  exact nb_vret hx hb hr hlk hP hS dX4_thinkOdds_20
set_option maxHeartbeats 4000000 in
set_option maxRecDepth 100000 in
theorem k_X6_odds {r : Int64} {M' : nb_M} (had : nb_AD ad b0) (M N : nb_M) (p0 : Int32) (p1 : Int32) (p2 : Int32) (h : f_X6_odds M p0 p1 p2 = some (r, M')) : nb_C l D ad ca b0 yX6_odds wsX6_odds 6 [.ref (ad 0), .int p0, .int p1, .int p2] M N (some (.long r)) M' N := by
  refine nb_of (cc := cX6_odds) (maxL := 4) (ret := (some .long)) (own := RX6) (by decide +kernel) rfl rfl (Nat.le_of_ble_eq_true rfl) ?_
  intro p e s m args below meth c ls X hP hS hl
  have hl : lv_has ls 4 [(0, .ref (ad 0)), (1, .int p0), (2, .int p1), (3, .int p2)] := hl
  obtain ⟨hx, hb, hml, hown, hts, hr, hlk, hK, hZ⟩ := id X
  have w_1 := hts (.fieldLink RX6 12 "NineBreakages" "now" "LNineBreakages$House;") (by decide +kernel)
  have in6 : ∀ w ∈ u_ws RX6 TX6 8, w ∈ wsX6_odds := fun w q => List.mem_cons_of_mem _ (List.mem_append_left _ (List.mem_append_left _ (List.mem_append_left _ (List.mem_append_right _ q))))
  have w_3 := hts (.fieldLink RX6 29 "NineBreakages" "thought" "LNineBreakages$Thought;") (by decide +kernel)
  have w_4 := hts (.fieldLink RX6 199 "NineBreakages$Thought" "below" "J") (by decide +kernel)
  have in4 : ∀ w ∈ u_ws RX4 TX4 3, w ∈ wsX6_odds := fun w q => List.mem_cons_of_mem _ (List.mem_append_left _ (List.mem_append_left _ (List.mem_append_right _ q)))
  have w_6 := hts (.fieldLink RX6 195 "NineBreakages$Thought" "above" "J") (by decide +kernel)
  unfold f_X6_odds at h
  refine lv_aload_n hx hb dX6_odds_0 rfl (lv_at hl 0 rfl) ?_
  refine va_get (v := .ref (ad 1)) (C := RX6) (T := TX6) (N := 8) hx hb hts in6 hown hK.1 hP 0 nb_a0 rfl 0 (by decide) w_1 (fun _ h9 => h9) rfl dX6_odds_1 ?_
  refine lv_iload_n hx hb dX6_odds_4 rfl (lv_at hl 1 rfl) ?_
  refine nb_callV (n := 1) (As := [.int p0]) (rest := []) hx hb hml hown hts hK hZ hP hS (k_X0_isPerson had M N p0) gX6_odds_X0_isPerson rfl (by decide +kernel) (nb_rm (Nat.le_of_ble_eq_true rfl) (Nat.le_of_ble_eq_true rfl)) nb_a1 rfl rfl rfl hl.1 rfl (Nat.le_of_ble_eq_true rfl) dX6_odds_5 (fun H locs hP hS => ?_)
  refine W.eq (g2 := F0 m 8 ls [.int (f_X0_isPerson M p0)]) rfl ?_
  refine lv_if_eq (tgt := 28) hx hb dX6_odds_8 (by decide) (fun c_2 => ?_) (fun c_2 => ?_)
  · have h := nb_t c_2 h
    refine lv_aload_n hx hb dX6_odds_28 rfl (lv_at hl 0 rfl) ?_
    refine lv_iconst (v := (1 : Int32)) hx hb dX6_odds_29 (by decide) ?_
    obtain ⟨r_3, M_3, e_3, h⟩ := nb_pE h
    refine nb_callV (n := 1) (As := [.int (1 : Int32)]) (rest := []) hx hb hml hown hts hK hZ hP hS (k_X6_fail had M N (1 : Int32) e_3) gX6_odds_X6_fail rfl (by decide +kernel) (nb_rm (Nat.le_of_ble_eq_true rfl) (Nat.le_of_ble_eq_true rfl)) nb_a0 rfl rfl rfl hl.1 rfl (Nat.le_of_ble_eq_true rfl) dX6_odds_30 (fun H locs hP hS => ?_)
    refine W.eq (g2 := F0 m 33 ls [.int r_3]) rfl ?_
    refine lv_i2l hx hb dX6_odds_33 rfl ?_
    obtain ⟨rfl, rfl⟩ := nb_e2 h
    exact nb_lret hx hb hr hlk hP hS dX6_odds_34
  · have h := nb_f c_2 h
    refine lv_iload_n hx hb dX6_odds_11 rfl (lv_at hl 2 rfl) ?_
    refine lv_bipush (v := (9 : Int32)) hx hb dX6_odds_12 (by decide) ?_
    refine nb_callS (n := 2) (As := [.int p1, .int (9 : Int32)]) (rest := []) hx hb hml hown hts hK hZ hP hS (k_X6_within had M N p1 (9 : Int32)) gX6_odds_X6_within rfl (by decide +kernel) (nb_rm (Nat.le_of_ble_eq_true rfl) (Nat.le_of_ble_eq_true rfl)) rfl hl.1 rfl (Nat.le_of_ble_eq_true rfl) dX6_odds_14 (fun H locs hP hS => ?_)
    refine W.eq (g2 := F0 m 17 ls [.int (f_X6_within p1 (9 : Int32))]) rfl ?_
    refine lv_if_eq (tgt := 28) hx hb dX6_odds_17 (by decide) (fun c_5 => ?_) (fun c_5 => ?_)
    · have h := nb_t c_5 h
      refine lv_aload_n hx hb dX6_odds_28 rfl (lv_at hl 0 rfl) ?_
      refine lv_iconst (v := (1 : Int32)) hx hb dX6_odds_29 (by decide) ?_
      obtain ⟨r_6, M_6, e_6, h⟩ := nb_pE h
      refine nb_callV (n := 1) (As := [.int (1 : Int32)]) (rest := []) hx hb hml hown hts hK hZ hP hS (k_X6_fail had M N (1 : Int32) e_6) gX6_odds_X6_fail rfl (by decide +kernel) (nb_rm (Nat.le_of_ble_eq_true rfl) (Nat.le_of_ble_eq_true rfl)) nb_a0 rfl rfl rfl hl.1 rfl (Nat.le_of_ble_eq_true rfl) dX6_odds_30 (fun H locs hP hS => ?_)
      refine W.eq (g2 := F0 m 33 ls [.int r_6]) rfl ?_
      refine lv_i2l hx hb dX6_odds_33 rfl ?_
      obtain ⟨rfl, rfl⟩ := nb_e2 h
      exact nb_lret hx hb hr hlk hP hS dX6_odds_34
    · have h := nb_f c_5 h
      refine lv_iload_n hx hb dX6_odds_20 rfl (lv_at hl 3 rfl) ?_
      refine lv_iconst (v := (1 : Int32)) hx hb dX6_odds_21 (by decide) ?_
      refine nb_callS (n := 2) (As := [.int p2, .int (1 : Int32)]) (rest := []) hx hb hml hown hts hK hZ hP hS (k_X6_within had M N p2 (1 : Int32)) gX6_odds_X6_within rfl (by decide +kernel) (nb_rm (Nat.le_of_ble_eq_true rfl) (Nat.le_of_ble_eq_true rfl)) rfl hl.1 rfl (Nat.le_of_ble_eq_true rfl) dX6_odds_22 (fun H locs hP hS => ?_)
      refine W.eq (g2 := F0 m 25 ls [.int (f_X6_within p2 (1 : Int32))]) rfl ?_
      refine lv_if_ne (tgt := 35) hx hb dX6_odds_25 (by decide) (fun c_8 => ?_) (fun c_8 => ?_)
      · have h := nb_f c_8 h
        refine lv_aload_n hx hb dX6_odds_35 rfl (lv_at hl 0 rfl) ?_
        refine va_get (v := .ref (ad 38)) (C := RX6) (T := TX6) (N := 8) hx hb hts in6 hown hK.1 hP 0 nb_a0 rfl 3 (by decide) w_3 (fun _ h9 => h9) rfl dX6_odds_36 ?_
        refine lv_aload_n hx hb dX6_odds_39 rfl (lv_at hl 0 rfl) ?_
        refine va_get (v := .ref (ad 1)) (C := RX6) (T := TX6) (N := 8) hx hb hts in6 hown hK.1 hP 0 nb_a0 rfl 0 (by decide) w_1 (fun _ h9 => h9) rfl dX6_odds_40 ?_
        refine lv_iload_n hx hb dX6_odds_43 rfl (lv_at hl 1 rfl) ?_
        refine lv_iload_n hx hb dX6_odds_44 rfl (lv_at hl 2 rfl) ?_
        obtain ⟨M_9, e_9, h⟩ := nb_oE h
        refine nb_callV (n := 3) (As := [.ref (ad 1), .int p0, .int p1]) (rest := []) hx hb hml hown hts hK hZ hP hS (k_X4_thinkOdds had M N p0 p1 e_9) gX6_odds_X4_thinkOdds rfl (by decide +kernel) (nb_rm (Nat.le_of_ble_eq_true rfl) (Nat.le_of_ble_eq_true rfl)) nb_a38 rfl rfl rfl hl.1 rfl (Nat.le_of_ble_eq_true rfl) dX6_odds_45 (fun H locs hP hS => ?_)
        refine W.eq (g2 := F0 m 48 ls []) rfl ?_
        refine lv_iload_n hx hb dX6_odds_48 rfl (lv_at hl 3 rfl) ?_
        refine lv_if_ne (tgt := 62) hx hb dX6_odds_49 (by decide) (fun c_10 => ?_) (fun c_10 => ?_)
        · have h := nb_f c_10 h
          refine lv_aload_n hx hb dX6_odds_62 rfl (lv_at hl 0 rfl) ?_
          refine va_get (v := .ref (ad 38)) (C := RX6) (T := TX6) (N := 8) hx hb hts in6 hown hK.1 hP 0 nb_a0 rfl 3 (by decide) w_3 (fun _ h9 => h9) rfl dX6_odds_63 ?_
          refine va_get (v := .long (M_9.2 38 1)) (C := RX4) (T := TX4) (N := 3) hx hb hts in4 hown hK.1 hP 38 nb_a38 rfl 1 (by decide) w_4 (fun _ h9 => h9) rfl dX6_odds_66 ?_
          obtain ⟨rfl, rfl⟩ := nb_e2 h
          exact nb_lret hx hb hr hlk hP hS dX6_odds_69
        · have h := nb_t c_10 h
          refine lv_aload_n hx hb dX6_odds_52 rfl (lv_at hl 0 rfl) ?_
          refine va_get (v := .ref (ad 38)) (C := RX6) (T := TX6) (N := 8) hx hb hts in6 hown hK.1 hP 0 nb_a0 rfl 3 (by decide) w_3 (fun _ h9 => h9) rfl dX6_odds_53 ?_
          refine va_get (v := .long (M_9.2 38 0)) (C := RX4) (T := TX4) (N := 3) hx hb hts in4 hown hK.1 hP 38 nb_a38 rfl 0 (by decide) w_6 (fun _ h9 => h9) rfl dX6_odds_56 ?_
          refine lv_goto (tgt := 69) hx hb dX6_odds_59 (by decide) ?_
          obtain ⟨rfl, rfl⟩ := nb_e2 h
          exact nb_lret hx hb hr hlk hP hS dX6_odds_69
      · have h := nb_t c_8 h
        refine lv_aload_n hx hb dX6_odds_28 rfl (lv_at hl 0 rfl) ?_
        refine lv_iconst (v := (1 : Int32)) hx hb dX6_odds_29 (by decide) ?_
        obtain ⟨r_11, M_11, e_11, h⟩ := nb_pE h
        refine nb_callV (n := 1) (As := [.int (1 : Int32)]) (rest := []) hx hb hml hown hts hK hZ hP hS (k_X6_fail had M N (1 : Int32) e_11) gX6_odds_X6_fail rfl (by decide +kernel) (nb_rm (Nat.le_of_ble_eq_true rfl) (Nat.le_of_ble_eq_true rfl)) nb_a0 rfl rfl rfl hl.1 rfl (Nat.le_of_ble_eq_true rfl) dX6_odds_30 (fun H locs hP hS => ?_)
        refine W.eq (g2 := F0 m 33 ls [.int r_11]) rfl ?_
        refine lv_i2l hx hb dX6_odds_33 rfl ?_
        obtain ⟨rfl, rfl⟩ := nb_e2 h
        exact nb_lret hx hb hr hlk hP hS dX6_odds_34
set_option maxHeartbeats 4000000 in
set_option maxRecDepth 100000 in
theorem w_X4_thinkOut_17 {N : nb_M} {M' : nb_M} (had : nb_AD ad b0) (X : nb_X p s m args meth c cX4_thinkOut 8 RX4 none wsX4_thinkOut D ca b0) : ∀ (n : Nat) (M : nb_M) (x3 : Int64) (x5 : Int64) (x7 : Int32), f_X4_thinkOut_17 n M x3 x5 x7 = some (M') → ∀ (H : Heap) (locs : List Loc), va_P D vwCl (nb_w ad ca M N) H → va_S (fun q => b0 ≤ q) s.heap H locs → ∀ ls : Array Slot, lv_has ls 8 [(0, .ref (ad 38)), (3, .long x3), (5, .long x5), (7, .int x7)] → W p l e (nb_R 5) s m args below meth c H locs 0 0 (nb_Q below args s D ad ca b0 none M' N) (F0 m 17 ls []) := by
  obtain ⟨hx, hb, hml, hown, hts, hr, hlk, hK, hZ⟩ := id X
  have w_1 := hts (.fieldLink RX4 9 "NineBreakages$Thought" "ways" "[J") (by decide +kernel)
  have in4 : ∀ w ∈ u_ws RX4 TX4 3, w ∈ wsX4_thinkOut := fun w q => List.mem_cons_of_mem _ (List.mem_append_left _ (List.mem_append_left _ (List.mem_append_right _ q)))
  intro n
  induction n with
  | zero =>
    intro M x3 x5 x7 h
    rw [f_X4_thinkOut_17] at h
    cases h
  | succ n ih =>
    intro M x3 x5 x7 h H locs hP hS ls hl
    rw [f_X4_thinkOut_17] at h
    refine lv_iload hx hb dX4_thinkOut_17 (lv_at hl 3 rfl) ?_
    refine lv_bipush (v := (9 : Int32)) hx hb dX4_thinkOut_19 (by decide) ?_
    refine lv_icmp_gt (tgt := 42) hx hb dX4_thinkOut_21 (by decide) (fun c_3 => ?_) (fun c_3 => ?_)
    · have h := nb_t c_3 h
      refine lv_aload_n hx hb dX4_thinkOut_42 rfl (lv_at hl 0 rfl) ?_
      refine lv_lload hx hb dX4_thinkOut_43 (lv_at hl 2 rfl) ?_
      refine lv_lload_n hx hb dX4_thinkOut_45 rfl (lv_at hl 1 rfl) ?_
      obtain ⟨M_4, e_4, h⟩ := nb_oE h
      refine nb_callV (n := 2) (As := [.long x5, .long x3]) (rest := []) hx hb hml hown hts hK hZ hP hS (k_X4_setFraction had M N x5 x3 e_4) gX4_thinkOut_X4_setFraction rfl (by decide +kernel) (nb_rm (Nat.le_of_ble_eq_true rfl) (Nat.le_of_ble_eq_true rfl)) nb_a38 rfl rfl rfl hl.1 rfl (Nat.le_of_ble_eq_true rfl) dX4_thinkOut_46 (fun H locs hP hS => ?_)
      refine W.eq (g2 := F0 m 49 ls []) rfl ?_
      obtain rfl := nb_e1 h
      exact nb_vret hx hb hr hlk hP hS dX4_thinkOut_49
    · have h := nb_f c_3 h
      refine lv_lload hx hb dX4_thinkOut_24 (lv_at hl 2 rfl) ?_
      refine lv_aload_n hx hb dX4_thinkOut_26 rfl (lv_at hl 0 rfl) ?_
      refine va_get (v := .ref (ad 39)) (C := RX4) (T := TX4) (N := 3) hx hb hts in4 hown hK.1 hP 38 nb_a38 rfl 2 (by decide) w_1 (fun _ h9 => h9) rfl dX4_thinkOut_27 ?_
      refine lv_iload hx hb dX4_thinkOut_30 (lv_at hl 3 rfl) ?_
      obtain ⟨c_5, h⟩ := nb_c h
      refine va_lald hx hb hK.1 hP 39 1 nb_a39 rfl c_5 dX4_thinkOut_32 ?_
      refine lv_ladd hx hb dX4_thinkOut_33 ?_
      refine lv_topl (fun v_6 e_6 => ?_)
      have h := nb_nA e_6 h
      refine lv_lstore (lv' := [(5, .long v_6), (0, .ref (ad 38)), (3, .long x3), (7, .int x7)]) hx hb dX4_thinkOut_34 hl (by decide) rfl (fun ls hl => ?_)
      refine lv_iinc (v := x7 + 1) (lv' := [(7, .int (x7 + 1)), (5, .long v_6), (0, .ref (ad 38)), (3, .long x3)]) hx hb dX4_thinkOut_36 hl (k := 3) rfl (congrArg (HAdd.hAdd x7) (by decide)) (by decide) rfl (fun ls hl => ?_)
      refine lv_goto (tgt := 17) hx hb dX4_thinkOut_39 (by decide) ?_
      exact ih _ _ _ _ h _ _ hP hS _ (lv_sub hl [2, 3, 1, 0] rfl)
set_option maxHeartbeats 4000000 in
set_option maxRecDepth 100000 in
theorem k_X4_thinkOut {M' : nb_M} (had : nb_AD ad b0) (M N : nb_M) (p0 : Int32) (h : f_X4_thinkOut M p0 = some (M')) : nb_C l D ad ca b0 yX4_thinkOut wsX4_thinkOut 5 [.ref (ad 38), .ref (ad 1), .int p0] M N none M' N := by
  refine nb_of (cc := cX4_thinkOut) (maxL := 8) (ret := none) (own := RX4) (by decide +kernel) rfl rfl (Nat.le_of_ble_eq_true rfl) ?_
  intro p e s m args below meth c ls X hP hS hl
  have hl : lv_has ls 8 [(0, .ref (ad 38)), (1, .ref (ad 1)), (2, .int p0)] := hl
  obtain ⟨hx, hb, hml, hown, hts, hr, hlk, hK, hZ⟩ := id X
  unfold f_X4_thinkOut at h
  refine lv_aload_n hx hb dX4_thinkOut_0 rfl (lv_at hl 0 rfl) ?_
  refine lv_aload_n hx hb dX4_thinkOut_1 rfl (lv_at hl 1 rfl) ?_
  refine lv_iload_n hx hb dX4_thinkOut_2 rfl (lv_at hl 2 rfl) ?_
  obtain ⟨r_1, M_1, e_1, h⟩ := nb_pE h
  refine nb_callV (n := 2) (As := [.ref (ad 1), .int p0]) (rest := []) hx hb hml hown hts hK hZ hP hS (k_X4_countWays had M N p0 e_1) gX4_thinkOut_X4_countWays rfl (by decide +kernel) (nb_rm (Nat.le_of_ble_eq_true rfl) (Nat.le_of_ble_eq_true rfl)) nb_a38 rfl rfl rfl hl.1 rfl (Nat.le_of_ble_eq_true rfl) dX4_thinkOut_3 (fun H locs hP hS => ?_)
  refine W.eq (g2 := F0 m 6 ls [.long r_1]) rfl ?_
  refine lv_lstore_n (lv' := [(3, .long r_1), (0, .ref (ad 38)), (1, .ref (ad 1)), (2, .int p0)]) hx hb dX4_thinkOut_6 rfl hl (by decide) rfl (fun ls hl => ?_)
  refine lv_lconst (v := (0 : Int64)) hx hb dX4_thinkOut_7 (by decide) ?_
  refine lv_lstore (lv' := [(5, .long (0 : Int64)), (3, .long r_1), (0, .ref (ad 38)), (1, .ref (ad 1)), (2, .int p0)]) hx hb dX4_thinkOut_8 hl (by decide) rfl (fun ls hl => ?_)
  refine lv_aload_n hx hb dX4_thinkOut_10 rfl (lv_at hl 3 rfl) ?_
  refine lv_iload_n hx hb dX4_thinkOut_11 rfl (lv_at hl 4 rfl) ?_
  obtain ⟨r_2, e_2, h⟩ := nb_oE h
  refine nb_callV (n := 1) (As := [.int p0]) (rest := []) hx hb hml hown hts hK hZ hP hS (k_X0_toComeOf had M_1 N p0 e_2) gX4_thinkOut_X0_toComeOf rfl (by decide +kernel) (nb_rm (Nat.le_of_ble_eq_true rfl) (Nat.le_of_ble_eq_true rfl)) nb_a1 rfl rfl rfl hl.1 rfl (Nat.le_of_ble_eq_true rfl) dX4_thinkOut_12 (fun H locs hP hS => ?_)
  refine W.eq (g2 := F0 m 15 ls [.int r_2]) rfl ?_
  refine lv_istore (lv' := [(7, .int r_2), (5, .long (0 : Int64)), (3, .long r_1), (0, .ref (ad 38)), (1, .ref (ad 1)), (2, .int p0)]) hx hb dX4_thinkOut_15 hl (by decide) rfl (fun ls hl => ?_)
  exact w_X4_thinkOut_17 had X nb_F _ _ _ _ h _ _ hP hS _ (lv_sub hl [3, 2, 1, 0] rfl)
set_option maxHeartbeats 4000000 in
set_option maxRecDepth 100000 in
theorem k_X6_through {r : Int64} {M' : nb_M} (had : nb_AD ad b0) (M N : nb_M) (p0 : Int32) (p1 : Int32) (h : f_X6_through M p0 p1 = some (r, M')) : nb_C l D ad ca b0 yX6_through wsX6_through 6 [.ref (ad 0), .int p0, .int p1] M N (some (.long r)) M' N := by
  refine nb_of (cc := cX6_through) (maxL := 3) (ret := (some .long)) (own := RX6) (by decide +kernel) rfl rfl (Nat.le_of_ble_eq_true rfl) ?_
  intro p e s m args below meth c ls X hP hS hl
  have hl : lv_has ls 3 [(0, .ref (ad 0)), (1, .int p0), (2, .int p1)] := hl
  obtain ⟨hx, hb, hml, hown, hts, hr, hlk, hK, hZ⟩ := id X
  have w_1 := hts (.fieldLink RX6 12 "NineBreakages" "now" "LNineBreakages$House;") (by decide +kernel)
  have in6 : ∀ w ∈ u_ws RX6 TX6 8, w ∈ wsX6_through := fun w q => List.mem_cons_of_mem _ (List.mem_append_left _ (List.mem_append_left _ (List.mem_append_left _ (List.mem_append_right _ q))))
  have w_3 := hts (.fieldLink RX6 29 "NineBreakages" "thought" "LNineBreakages$Thought;") (by decide +kernel)
  have w_4 := hts (.fieldLink RX6 199 "NineBreakages$Thought" "below" "J") (by decide +kernel)
  have in4 : ∀ w ∈ u_ws RX4 TX4 3, w ∈ wsX6_through := fun w q => List.mem_cons_of_mem _ (List.mem_append_left _ (List.mem_append_left _ (List.mem_append_right _ q)))
  have w_6 := hts (.fieldLink RX6 195 "NineBreakages$Thought" "above" "J") (by decide +kernel)
  unfold f_X6_through at h
  refine lv_aload_n hx hb dX6_through_0 rfl (lv_at hl 0 rfl) ?_
  refine va_get (v := .ref (ad 1)) (C := RX6) (T := TX6) (N := 8) hx hb hts in6 hown hK.1 hP 0 nb_a0 rfl 0 (by decide) w_1 (fun _ h9 => h9) rfl dX6_through_1 ?_
  refine lv_iload_n hx hb dX6_through_4 rfl (lv_at hl 1 rfl) ?_
  refine nb_callV (n := 1) (As := [.int p0]) (rest := []) hx hb hml hown hts hK hZ hP hS (k_X0_isPerson had M N p0) gX6_through_X0_isPerson rfl (by decide +kernel) (nb_rm (Nat.le_of_ble_eq_true rfl) (Nat.le_of_ble_eq_true rfl)) nb_a1 rfl rfl rfl hl.1 rfl (Nat.le_of_ble_eq_true rfl) dX6_through_5 (fun H locs hP hS => ?_)
  refine W.eq (g2 := F0 m 8 ls [.int (f_X0_isPerson M p0)]) rfl ?_
  refine lv_if_eq (tgt := 19) hx hb dX6_through_8 (by decide) (fun c_2 => ?_) (fun c_2 => ?_)
  · have h := nb_t c_2 h
    refine lv_aload_n hx hb dX6_through_19 rfl (lv_at hl 0 rfl) ?_
    refine lv_iconst (v := (1 : Int32)) hx hb dX6_through_20 (by decide) ?_
    obtain ⟨r_3, M_3, e_3, h⟩ := nb_pE h
    refine nb_callV (n := 1) (As := [.int (1 : Int32)]) (rest := []) hx hb hml hown hts hK hZ hP hS (k_X6_fail had M N (1 : Int32) e_3) gX6_through_X6_fail rfl (by decide +kernel) (nb_rm (Nat.le_of_ble_eq_true rfl) (Nat.le_of_ble_eq_true rfl)) nb_a0 rfl rfl rfl hl.1 rfl (Nat.le_of_ble_eq_true rfl) dX6_through_21 (fun H locs hP hS => ?_)
    refine W.eq (g2 := F0 m 24 ls [.int r_3]) rfl ?_
    refine lv_i2l hx hb dX6_through_24 rfl ?_
    obtain ⟨rfl, rfl⟩ := nb_e2 h
    exact nb_lret hx hb hr hlk hP hS dX6_through_25
  · have h := nb_f c_2 h
    refine lv_iload_n hx hb dX6_through_11 rfl (lv_at hl 2 rfl) ?_
    refine lv_iconst (v := (1 : Int32)) hx hb dX6_through_12 (by decide) ?_
    refine nb_callS (n := 2) (As := [.int p1, .int (1 : Int32)]) (rest := []) hx hb hml hown hts hK hZ hP hS (k_X6_within had M N p1 (1 : Int32)) gX6_through_X6_within rfl (by decide +kernel) (nb_rm (Nat.le_of_ble_eq_true rfl) (Nat.le_of_ble_eq_true rfl)) rfl hl.1 rfl (Nat.le_of_ble_eq_true rfl) dX6_through_13 (fun H locs hP hS => ?_)
    refine W.eq (g2 := F0 m 16 ls [.int (f_X6_within p1 (1 : Int32))]) rfl ?_
    refine lv_if_ne (tgt := 26) hx hb dX6_through_16 (by decide) (fun c_5 => ?_) (fun c_5 => ?_)
    · have h := nb_f c_5 h
      refine lv_aload_n hx hb dX6_through_26 rfl (lv_at hl 0 rfl) ?_
      refine va_get (v := .ref (ad 38)) (C := RX6) (T := TX6) (N := 8) hx hb hts in6 hown hK.1 hP 0 nb_a0 rfl 3 (by decide) w_3 (fun _ h9 => h9) rfl dX6_through_27 ?_
      refine lv_aload_n hx hb dX6_through_30 rfl (lv_at hl 0 rfl) ?_
      refine va_get (v := .ref (ad 1)) (C := RX6) (T := TX6) (N := 8) hx hb hts in6 hown hK.1 hP 0 nb_a0 rfl 0 (by decide) w_1 (fun _ h9 => h9) rfl dX6_through_31 ?_
      refine lv_iload_n hx hb dX6_through_34 rfl (lv_at hl 1 rfl) ?_
      obtain ⟨M_6, e_6, h⟩ := nb_oE h
      refine nb_callV (n := 2) (As := [.ref (ad 1), .int p0]) (rest := []) hx hb hml hown hts hK hZ hP hS (k_X4_thinkOut had M N p0 e_6) gX6_through_X4_thinkOut rfl (by decide +kernel) (nb_rm (Nat.le_of_ble_eq_true rfl) (Nat.le_of_ble_eq_true rfl)) nb_a38 rfl rfl rfl hl.1 rfl (Nat.le_of_ble_eq_true rfl) dX6_through_35 (fun H locs hP hS => ?_)
      refine W.eq (g2 := F0 m 38 ls []) rfl ?_
      refine lv_iload_n hx hb dX6_through_38 rfl (lv_at hl 2 rfl) ?_
      refine lv_if_ne (tgt := 52) hx hb dX6_through_39 (by decide) (fun c_7 => ?_) (fun c_7 => ?_)
      · have h := nb_f c_7 h
        refine lv_aload_n hx hb dX6_through_52 rfl (lv_at hl 0 rfl) ?_
        refine va_get (v := .ref (ad 38)) (C := RX6) (T := TX6) (N := 8) hx hb hts in6 hown hK.1 hP 0 nb_a0 rfl 3 (by decide) w_3 (fun _ h9 => h9) rfl dX6_through_53 ?_
        refine va_get (v := .long (M_6.2 38 1)) (C := RX4) (T := TX4) (N := 3) hx hb hts in4 hown hK.1 hP 38 nb_a38 rfl 1 (by decide) w_4 (fun _ h9 => h9) rfl dX6_through_56 ?_
        obtain ⟨rfl, rfl⟩ := nb_e2 h
        exact nb_lret hx hb hr hlk hP hS dX6_through_59
      · have h := nb_t c_7 h
        refine lv_aload_n hx hb dX6_through_42 rfl (lv_at hl 0 rfl) ?_
        refine va_get (v := .ref (ad 38)) (C := RX6) (T := TX6) (N := 8) hx hb hts in6 hown hK.1 hP 0 nb_a0 rfl 3 (by decide) w_3 (fun _ h9 => h9) rfl dX6_through_43 ?_
        refine va_get (v := .long (M_6.2 38 0)) (C := RX4) (T := TX4) (N := 3) hx hb hts in4 hown hK.1 hP 38 nb_a38 rfl 0 (by decide) w_6 (fun _ h9 => h9) rfl dX6_through_46 ?_
        refine lv_goto (tgt := 59) hx hb dX6_through_49 (by decide) ?_
        obtain ⟨rfl, rfl⟩ := nb_e2 h
        exact nb_lret hx hb hr hlk hP hS dX6_through_59
    · have h := nb_t c_5 h
      refine lv_aload_n hx hb dX6_through_19 rfl (lv_at hl 0 rfl) ?_
      refine lv_iconst (v := (1 : Int32)) hx hb dX6_through_20 (by decide) ?_
      obtain ⟨r_8, M_8, e_8, h⟩ := nb_pE h
      refine nb_callV (n := 1) (As := [.int (1 : Int32)]) (rest := []) hx hb hml hown hts hK hZ hP hS (k_X6_fail had M N (1 : Int32) e_8) gX6_through_X6_fail rfl (by decide +kernel) (nb_rm (Nat.le_of_ble_eq_true rfl) (Nat.le_of_ble_eq_true rfl)) nb_a0 rfl rfl rfl hl.1 rfl (Nat.le_of_ble_eq_true rfl) dX6_through_21 (fun H locs hP hS => ?_)
      refine W.eq (g2 := F0 m 24 ls [.int r_8]) rfl ?_
      refine lv_i2l hx hb dX6_through_24 rfl ?_
      obtain ⟨rfl, rfl⟩ := nb_e2 h
      exact nb_lret hx hb hr hlk hP hS dX6_through_25
set_option maxHeartbeats 4000000 in
set_option maxRecDepth 100000 in
theorem w_X4_safestFor_18 {N : nb_M} {r : Int32} {M' : nb_M} (had : nb_AD ad b0) (X : nb_X p s m args meth c cX4_safestFor 7 RX4 (some .int) wsX4_safestFor D ca b0) : ∀ (n : Nat) (M : nb_M) (x2 : Int32) (x3 : Int32) (x4 : Int32) (x5 : Int32), f_X4_safestFor_18 n M x2 x3 x4 x5 = some (r, M') → ∀ (H : Heap) (locs : List Loc), va_P D vwCl (nb_w ad ca M N) H → va_S (fun q => b0 ≤ q) s.heap H locs → ∀ ls : Array Slot, lv_has ls 7 [(1, .ref (ad 1)), (2, .int x2), (3, .int x3), (4, .int x4), (5, .int x5)] → W p l e (nb_R 4) s m args below meth c H locs 0 0 (nb_Q below args s D ad ca b0 (some (.int r)) M' N) (F0 m 18 ls []) := by
  obtain ⟨hx, hb, hml, hown, hts, hr, hlk, hK, hZ⟩ := id X
  have w_1 := hts (.fieldLink RX4 69 "NineBreakages$House" "people" "I") (by decide +kernel)
  have in0 : ∀ w ∈ u_ws RX0 TX0 16, w ∈ wsX4_safestFor := fun w q => List.mem_cons_of_mem _ (List.mem_append_left _ (List.mem_append_right _ q))
  have w_3 := hts (.fieldLink RX4 51 "NineBreakages$House" "care" "[I") (by decide +kernel)
  intro n
  induction n with
  | zero =>
    intro M x2 x3 x4 x5 h
    rw [f_X4_safestFor_18] at h
    cases h
  | succ n ih =>
    intro M x2 x3 x4 x5 h H locs hP hS ls hl
    rw [f_X4_safestFor_18] at h
    refine lv_iload hx hb dX4_safestFor_18 (lv_at hl 4 rfl) ?_
    refine lv_aload_n hx hb dX4_safestFor_20 rfl (lv_at hl 0 rfl) ?_
    refine va_get (v := .int (M.1 1 2)) (C := RX0) (T := TX0) (N := 16) hx hb hts in0 hown hK.1 hP 1 nb_a1 rfl 2 (by decide) w_1 (fun _ h9 => h9) rfl dX4_safestFor_21 ?_
    refine lv_icmp_ge (tgt := 61) hx hb dX4_safestFor_24 (by decide) (fun c_2 => ?_) (fun c_2 => ?_)
    · have h := nb_t c_2 h
      refine lv_iload_n hx hb dX4_safestFor_61 rfl (lv_at hl 2 rfl) ?_
      obtain ⟨rfl, rfl⟩ := nb_e2 h
      exact nb_iret hx hb hr hlk hP hS dX4_safestFor_62
    · have h := nb_f c_2 h
      refine lv_aload_n hx hb dX4_safestFor_27 rfl (lv_at hl 0 rfl) ?_
      refine lv_iload_n hx hb dX4_safestFor_28 rfl (lv_at hl 1 rfl) ?_
      refine lv_aload_n hx hb dX4_safestFor_29 rfl (lv_at hl 0 rfl) ?_
      refine va_get (v := .ref (ad 2)) (C := RX0) (T := TX0) (N := 16) hx hb hts in0 hown hK.1 hP 1 nb_a1 rfl 3 (by decide) w_3 (fun _ h9 => h9) rfl dX4_safestFor_30 ?_
      refine lv_iload hx hb dX4_safestFor_33 (lv_at hl 4 rfl) ?_
      obtain ⟨c_3, h⟩ := nb_c h
      refine va_iald hx hb hK.1 hP 2 0 nb_a2 rfl c_3 dX4_safestFor_35 ?_
      obtain ⟨r_4, M_4, e_4, h⟩ := nb_pE h
      refine nb_callV (n := 2) (As := [.int x2, .int (M.1 2 x5.toNatClampNeg)]) (rest := []) hx hb hml hown hts hK hZ hP hS (k_X0_riskBy had M N x2 (M.1 2 x5.toNatClampNeg) e_4) gX4_safestFor_X0_riskBy rfl (by decide +kernel) (nb_rm (Nat.le_of_ble_eq_true rfl) (Nat.le_of_ble_eq_true rfl)) nb_a1 rfl rfl rfl hl.1 rfl (Nat.le_of_ble_eq_true rfl) dX4_safestFor_36 (fun H locs hP hS => ?_)
      refine W.eq (g2 := F0 m 39 ls [.int r_4]) rfl ?_
      refine lv_istore (lv' := [(6, .int r_4), (1, .ref (ad 1)), (2, .int x2), (3, .int x3), (4, .int x4), (5, .int x5)]) hx hb dX4_safestFor_39 hl (by decide) rfl (fun ls hl => ?_)
      refine lv_iload hx hb dX4_safestFor_41 (lv_at hl 0 rfl) ?_
      refine lv_iload hx hb dX4_safestFor_43 (lv_at hl 4 rfl) ?_
      refine lv_icmp_ge (tgt := 55) hx hb dX4_safestFor_45 (by decide) (fun c_5 => ?_) (fun c_5 => ?_)
      · have h := nb_t c_5 h
        refine lv_iinc (v := x5 + 1) (lv' := [(5, .int (x5 + 1)), (6, .int r_4), (1, .ref (ad 1)), (2, .int x2), (3, .int x3), (4, .int x4)]) hx hb dX4_safestFor_55 hl (k := 5) rfl (congrArg (HAdd.hAdd x5) (by decide)) (by decide) rfl (fun ls hl => ?_)
        refine lv_goto (tgt := 18) hx hb dX4_safestFor_58 (by decide) ?_
        exact ih _ _ _ _ _ h _ _ hP hS _ (lv_sub hl [2, 3, 4, 5, 0] rfl)
      · have h := nb_f c_5 h
        refine lv_iload hx hb dX4_safestFor_48 (lv_at hl 5 rfl) ?_
        refine lv_istore_n (lv' := [(3, .int x5), (6, .int r_4), (1, .ref (ad 1)), (2, .int x2), (4, .int x4), (5, .int x5)]) hx hb dX4_safestFor_50 rfl hl (by decide) rfl (fun ls hl => ?_)
        refine lv_iload hx hb dX4_safestFor_51 (lv_at hl 1 rfl) ?_
        refine lv_istore (lv' := [(4, .int r_4), (3, .int x5), (6, .int r_4), (1, .ref (ad 1)), (2, .int x2), (5, .int x5)]) hx hb dX4_safestFor_53 hl (by decide) rfl (fun ls hl => ?_)
        refine lv_iinc (v := x5 + 1) (lv' := [(5, .int (x5 + 1)), (4, .int r_4), (3, .int x5), (6, .int r_4), (1, .ref (ad 1)), (2, .int x2)]) hx hb dX4_safestFor_55 hl (k := 5) rfl (congrArg (HAdd.hAdd x5) (by decide)) (by decide) rfl (fun ls hl => ?_)
        refine lv_goto (tgt := 18) hx hb dX4_safestFor_58 (by decide) ?_
        exact ih _ _ _ _ _ h _ _ hP hS _ (lv_sub hl [4, 5, 2, 1, 0] rfl)
end GEN
