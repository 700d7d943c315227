section GEN
variable {p : Program} {l : Launch} {e : Env} {s : State} {m : MethodId} {args : Array Value} {below : List Frame} {meth : Method} {c : Code} {D : va_G} {ad : Nat → Nat} {ca : Nat → ClassId} {b0 : Nat}
set_option maxHeartbeats 4000000 in
set_option maxRecDepth 100000 in
theorem k_X7_wall {r : Int32} {M' : nb_M} (had : nb_AD ad b0) (M N : nb_M) (p0 : Int32) (p1 : Int32) (h : f_X7_wall M p0 p1 = some (r, M')) : nb_C l D ad ca b0 yX7_wall wsX7_wall 2 [.ref (ad 52), .int p0, .int p1] N M (some (.int r)) N M' := by
  refine nb_of (cc := cX7_wall) (maxL := 4) (ret := (some .int)) (own := RX7) (by decide +kernel) rfl rfl (Nat.le_of_ble_eq_true rfl) ?_
  intro p e s m args below meth c ls X hP hS hl
  have hl : lv_has ls 4 [(0, .ref (ad 52)), (1, .int p0), (2, .int p1)] := hl
  obtain ⟨hx, hb, hml, hown, hts, hr, hlk, hK, hZ⟩ := id X
  have w_1 := hts (.constant RX7 77 (-1000000001)) (by decide +kernel)
  have w_2 := hts (.constant RX7 113 (-1000000003)) (by decide +kernel)
  unfold f_X7_wall at h
  refine lv_aload_n hx hb dX7_wall_0 rfl (lv_at hl 0 rfl) ?_
  refine lv_iload_n hx hb dX7_wall_1 rfl (lv_at hl 1 rfl) ?_
  refine nb_callV (n := 1) (As := [.int p0]) (rest := []) hx hb hml hown hts hK hZ hP hS (k_X7_isPiece had M N p0) gX7_wall_X7_isPiece rfl (by decide +kernel) (nb_rm (Nat.le_of_ble_eq_true rfl) (Nat.le_of_ble_eq_true rfl)) nb_a52 rfl rfl rfl hl.1 rfl (Nat.le_of_ble_eq_true rfl) dX7_wall_2 (fun H locs hP hS => ?_)
  refine W.eq (g2 := F0 m 5 ls [.int (f_X7_isPiece M p0)]) rfl ?_
  refine lv_if_eq (tgt := 17) hx hb dX7_wall_5 (by decide) (fun c_2 => ?_) (fun c_2 => ?_)
  · have h := nb_t c_2 h
    refine lv_aload_n hx hb dX7_wall_17 rfl (lv_at hl 0 rfl) ?_
    refine lv_ldc (v := (-1000000001 : Int32)) hx hb hown w_1 dX7_wall_18 ?_
    obtain ⟨r_3, M_3, e_3, h⟩ := nb_pE h
    refine nb_callV (n := 1) (As := [.int (-1000000001 : Int32)]) (rest := []) hx hb hml hown hts hK hZ hP hS (k_X7_error had M N (-1000000001 : Int32) e_3) gX7_wall_X7_error rfl (by decide +kernel) (nb_rm (Nat.le_of_ble_eq_true rfl) (Nat.le_of_ble_eq_true rfl)) nb_a52 rfl rfl rfl hl.1 rfl (Nat.le_of_ble_eq_true rfl) dX7_wall_20 (fun H locs hP hS => ?_)
    refine W.eq (g2 := F0 m 23 ls [.int r_3]) rfl ?_
    obtain ⟨rfl, rfl⟩ := nb_e2 h
    exact nb_iret hx hb hr hlk hP hS dX7_wall_23
  · have h := nb_f c_2 h
    refine lv_iload_n hx hb dX7_wall_8 rfl (lv_at hl 2 rfl) ?_
    refine lv_iconst (v := (0 : Int32)) hx hb dX7_wall_9 (by decide) ?_
    refine lv_iconst (v := (1 : Int32)) hx hb dX7_wall_10 (by decide) ?_
    refine nb_callS (n := 3) (As := [.int p1, .int (0 : Int32), .int (1 : Int32)]) (rest := []) hx hb hml hown hts hK hZ hP hS (k_X7_in had M N p1 (0 : Int32) (1 : Int32)) gX7_wall_X7_in rfl (by decide +kernel) (nb_rm (Nat.le_of_ble_eq_true rfl) (Nat.le_of_ble_eq_true rfl)) rfl hl.1 rfl (Nat.le_of_ble_eq_true rfl) dX7_wall_11 (fun H locs hP hS => ?_)
    refine W.eq (g2 := F0 m 14 ls [.int (f_X7_in p1 (0 : Int32) (1 : Int32))]) rfl ?_
    refine lv_if_ne (tgt := 24) hx hb dX7_wall_14 (by decide) (fun c_5 => ?_) (fun c_5 => ?_)
    · have h := nb_f c_5 h
      refine lv_aload_n hx hb dX7_wall_24 rfl (lv_at hl 0 rfl) ?_
      refine lv_iload_n hx hb dX7_wall_25 rfl (lv_at hl 1 rfl) ?_
      refine lv_iconst (v := (3 : Int32)) hx hb dX7_wall_26 (by decide) ?_
      obtain ⟨r_6, e_6, h⟩ := nb_oE h
      refine nb_callV (n := 2) (As := [.int p0, .int (3 : Int32)]) (rest := []) hx hb hml hown hts hK hZ hP hS (k_X7_of had M N p0 (3 : Int32) e_6) gX7_wall_X7_of rfl (by decide +kernel) (nb_rm (Nat.le_of_ble_eq_true rfl) (Nat.le_of_ble_eq_true rfl)) nb_a52 rfl rfl rfl hl.1 rfl (Nat.le_of_ble_eq_true rfl) dX7_wall_27 (fun H locs hP hS => ?_)
      refine W.eq (g2 := F0 m 30 ls [.int r_6]) rfl ?_
      refine lv_iconst (v := (1 : Int32)) hx hb dX7_wall_30 (by decide) ?_
      refine lv_icmp_ne (tgt := 41) hx hb dX7_wall_31 (by decide) (fun c_7 => ?_) (fun c_7 => ?_)
      · have h := nb_f c_7 h
        refine lv_aload_n hx hb dX7_wall_41 rfl (lv_at hl 0 rfl) ?_
        refine lv_iload_n hx hb dX7_wall_42 rfl (lv_at hl 1 rfl) ?_
        refine lv_iconst (v := (3 : Int32)) hx hb dX7_wall_43 (by decide) ?_
        obtain ⟨r_8, e_8, h⟩ := nb_oE h
        refine nb_callV (n := 2) (As := [.int p0, .int (3 : Int32)]) (rest := []) hx hb hml hown hts hK hZ hP hS (k_X7_of had M N p0 (3 : Int32) e_8) gX7_wall_X7_of rfl (by decide +kernel) (nb_rm (Nat.le_of_ble_eq_true rfl) (Nat.le_of_ble_eq_true rfl)) nb_a52 rfl rfl rfl hl.1 rfl (Nat.le_of_ble_eq_true rfl) dX7_wall_44 (fun H locs hP hS => ?_)
        refine W.eq (g2 := F0 m 47 ls [.int r_8]) rfl ?_
        refine lv_iconst (v := (2 : Int32)) hx hb dX7_wall_47 (by decide) ?_
        refine lv_icmp_ne (tgt := 55) hx hb dX7_wall_48 (by decide) (fun c_9 => ?_) (fun c_9 => ?_)
        · have h := nb_f c_9 h
          refine lv_iconst (v := (0 : Int32)) hx hb dX7_wall_55 (by decide) ?_
          refine lv_istore_n (lv' := [(3, .int (0 : Int32)), (0, .ref (ad 52)), (1, .int p0), (2, .int p1)]) hx hb dX7_wall_56 rfl hl (by decide) rfl (fun ls hl => ?_)
          refine lv_aload_n hx hb dX7_wall_57 rfl (lv_at hl 1 rfl) ?_
          refine lv_iload_n hx hb dX7_wall_58 rfl (lv_at hl 2 rfl) ?_
          refine lv_iconst (v := (3 : Int32)) hx hb dX7_wall_59 (by decide) ?_
          refine lv_iload_n hx hb dX7_wall_60 rfl (lv_at hl 3 rfl) ?_
          refine lv_iconst (v := (1 : Int32)) hx hb dX7_wall_61 (by decide) ?_
          refine lv_icmp_ne (tgt := 69) hx hb dX7_wall_62 (by decide) (fun c_10 => ?_) (fun c_10 => ?_)
          · have h := nb_f c_10 h
            refine lv_iconst (v := (0 : Int32)) hx hb dX7_wall_69 (by decide) ?_
            obtain ⟨M_11, e_11, h⟩ := nb_oE h
            refine nb_callV (n := 3) (As := [.int p0, .int (3 : Int32), .int (0 : Int32)]) (rest := []) hx hb hml hown hts hK hZ hP hS (k_X7_lets had M N p0 (3 : Int32) (0 : Int32) e_11) gX7_wall_X7_lets rfl (by decide +kernel) (nb_rm (Nat.le_of_ble_eq_true rfl) (Nat.le_of_ble_eq_true rfl)) nb_a52 rfl rfl rfl hl.1 rfl (Nat.le_of_ble_eq_true rfl) dX7_wall_70 (fun H locs hP hS => ?_)
            refine W.eq (g2 := F0 m 73 ls []) rfl ?_
            refine lv_iload_n hx hb dX7_wall_73 rfl (lv_at hl 0 rfl) ?_
            obtain ⟨rfl, rfl⟩ := nb_e2 h
            exact nb_iret hx hb hr hlk hP hS dX7_wall_74
          · have h := nb_t c_10 h
            refine lv_iconst (v := (2 : Int32)) hx hb dX7_wall_65 (by decide) ?_
            refine lv_goto (tgt := 70) hx hb dX7_wall_66 (by decide) ?_
            obtain ⟨M_12, e_12, h⟩ := nb_oE h
            refine nb_callV (n := 3) (As := [.int p0, .int (3 : Int32), .int (2 : Int32)]) (rest := []) hx hb hml hown hts hK hZ hP hS (k_X7_lets had M N p0 (3 : Int32) (2 : Int32) e_12) gX7_wall_X7_lets rfl (by decide +kernel) (nb_rm (Nat.le_of_ble_eq_true rfl) (Nat.le_of_ble_eq_true rfl)) nb_a52 rfl rfl rfl hl.1 rfl (Nat.le_of_ble_eq_true rfl) dX7_wall_70 (fun H locs hP hS => ?_)
            refine W.eq (g2 := F0 m 73 ls []) rfl ?_
            refine lv_iload_n hx hb dX7_wall_73 rfl (lv_at hl 0 rfl) ?_
            obtain ⟨rfl, rfl⟩ := nb_e2 h
            exact nb_iret hx hb hr hlk hP hS dX7_wall_74
        · have h := nb_t c_9 h
          refine lv_iconst (v := (1 : Int32)) hx hb dX7_wall_51 (by decide) ?_
          refine lv_goto (tgt := 56) hx hb dX7_wall_52 (by decide) ?_
          refine lv_istore_n (lv' := [(3, .int (1 : Int32)), (0, .ref (ad 52)), (1, .int p0), (2, .int p1)]) hx hb dX7_wall_56 rfl hl (by decide) rfl (fun ls hl => ?_)
          refine lv_aload_n hx hb dX7_wall_57 rfl (lv_at hl 1 rfl) ?_
          refine lv_iload_n hx hb dX7_wall_58 rfl (lv_at hl 2 rfl) ?_
          refine lv_iconst (v := (3 : Int32)) hx hb dX7_wall_59 (by decide) ?_
          refine lv_iload_n hx hb dX7_wall_60 rfl (lv_at hl 3 rfl) ?_
          refine lv_iconst (v := (1 : Int32)) hx hb dX7_wall_61 (by decide) ?_
          refine lv_icmp_ne (tgt := 69) hx hb dX7_wall_62 (by decide) (fun c_13 => ?_) (fun c_13 => ?_)
          · have h := nb_f c_13 h
            refine lv_iconst (v := (0 : Int32)) hx hb dX7_wall_69 (by decide) ?_
            obtain ⟨M_14, e_14, h⟩ := nb_oE h
            refine nb_callV (n := 3) (As := [.int p0, .int (3 : Int32), .int (0 : Int32)]) (rest := []) hx hb hml hown hts hK hZ hP hS (k_X7_lets had M N p0 (3 : Int32) (0 : Int32) e_14) gX7_wall_X7_lets rfl (by decide +kernel) (nb_rm (Nat.le_of_ble_eq_true rfl) (Nat.le_of_ble_eq_true rfl)) nb_a52 rfl rfl rfl hl.1 rfl (Nat.le_of_ble_eq_true rfl) dX7_wall_70 (fun H locs hP hS => ?_)
            refine W.eq (g2 := F0 m 73 ls []) rfl ?_
            refine lv_iload_n hx hb dX7_wall_73 rfl (lv_at hl 0 rfl) ?_
            obtain ⟨rfl, rfl⟩ := nb_e2 h
            exact nb_iret hx hb hr hlk hP hS dX7_wall_74
          · have h := nb_t c_13 h
            refine lv_iconst (v := (2 : Int32)) hx hb dX7_wall_65 (by decide) ?_
            refine lv_goto (tgt := 70) hx hb dX7_wall_66 (by decide) ?_
            obtain ⟨M_15, e_15, h⟩ := nb_oE h
            refine nb_callV (n := 3) (As := [.int p0, .int (3 : Int32), .int (2 : Int32)]) (rest := []) hx hb hml hown hts hK hZ hP hS (k_X7_lets had M N p0 (3 : Int32) (2 : Int32) e_15) gX7_wall_X7_lets rfl (by decide +kernel) (nb_rm (Nat.le_of_ble_eq_true rfl) (Nat.le_of_ble_eq_true rfl)) nb_a52 rfl rfl rfl hl.1 rfl (Nat.le_of_ble_eq_true rfl) dX7_wall_70 (fun H locs hP hS => ?_)
            refine W.eq (g2 := F0 m 73 ls []) rfl ?_
            refine lv_iload_n hx hb dX7_wall_73 rfl (lv_at hl 0 rfl) ?_
            obtain ⟨rfl, rfl⟩ := nb_e2 h
            exact nb_iret hx hb hr hlk hP hS dX7_wall_74
      · have h := nb_t c_7 h
        refine lv_aload_n hx hb dX7_wall_34 rfl (lv_at hl 0 rfl) ?_
        refine lv_ldc (v := (-1000000003 : Int32)) hx hb hown w_2 dX7_wall_35 ?_
        obtain ⟨r_16, M_16, e_16, h⟩ := nb_pE h
        refine nb_callV (n := 1) (As := [.int (-1000000003 : Int32)]) (rest := []) hx hb hml hown hts hK hZ hP hS (k_X7_error had M N (-1000000003 : Int32) e_16) gX7_wall_X7_error rfl (by decide +kernel) (nb_rm (Nat.le_of_ble_eq_true rfl) (Nat.le_of_ble_eq_true rfl)) nb_a52 rfl rfl rfl hl.1 rfl (Nat.le_of_ble_eq_true rfl) dX7_wall_37 (fun H locs hP hS => ?_)
        refine W.eq (g2 := F0 m 40 ls [.int r_16]) rfl ?_
        obtain ⟨rfl, rfl⟩ := nb_e2 h
        exact nb_iret hx hb hr hlk hP hS dX7_wall_40
    · have h := nb_t c_5 h
      refine lv_aload_n hx hb dX7_wall_17 rfl (lv_at hl 0 rfl) ?_
      refine lv_ldc (v := (-1000000001 : Int32)) hx hb hown w_1 dX7_wall_18 ?_
      obtain ⟨r_17, M_17, e_17, h⟩ := nb_pE h
      refine nb_callV (n := 1) (As := [.int (-1000000001 : Int32)]) (rest := []) hx hb hml hown hts hK hZ hP hS (k_X7_error had M N (-1000000001 : Int32) e_17) gX7_wall_X7_error rfl (by decide +kernel) (nb_rm (Nat.le_of_ble_eq_true rfl) (Nat.le_of_ble_eq_true rfl)) nb_a52 rfl rfl rfl hl.1 rfl (Nat.le_of_ble_eq_true rfl) dX7_wall_20 (fun H locs hP hS => ?_)
      refine W.eq (g2 := F0 m 23 ls [.int r_17]) rfl ?_
      obtain ⟨rfl, rfl⟩ := nb_e2 h
      exact nb_iret hx hb hr hlk hP hS dX7_wall_23
set_option maxHeartbeats 4000000 in
set_option maxRecDepth 100000 in
theorem k_X7_risk {r : Int32} {M' : nb_M} (had : nb_AD ad b0) (M N : nb_M) (p0 : Int32) (p1 : Int32) (h : f_X7_risk M p0 p1 = some (r, M')) : nb_C l D ad ca b0 yX7_risk wsX7_risk 5 [.ref (ad 52), .int p0, .int p1] N M (some (.int r)) N M' := by
  refine nb_of (cc := cX7_risk) (maxL := 3) (ret := (some .int)) (own := RX7) (by decide +kernel) rfl rfl (Nat.le_of_ble_eq_true rfl) ?_
  intro p e s m args below meth c ls X hP hS hl
  have hl : lv_has ls 3 [(0, .ref (ad 52)), (1, .int p0), (2, .int p1)] := hl
  obtain ⟨hx, hb, hml, hown, hts, hr, hlk, hK, hZ⟩ := id X
  have w_1 := hts (.constant RX7 77 (-1000000001)) (by decide +kernel)
  unfold f_X7_risk at h
  refine lv_aload_n hx hb dX7_risk_0 rfl (lv_at hl 0 rfl) ?_
  refine lv_iload_n hx hb dX7_risk_1 rfl (lv_at hl 1 rfl) ?_
  refine nb_callV (n := 1) (As := [.int p0]) (rest := []) hx hb hml hown hts hK hZ hP hS (k_X7_isPiece had M N p0) gX7_risk_X7_isPiece rfl (by decide +kernel) (nb_rm (Nat.le_of_ble_eq_true rfl) (Nat.le_of_ble_eq_true rfl)) nb_a52 rfl rfl rfl hl.1 rfl (Nat.le_of_ble_eq_true rfl) dX7_risk_2 (fun H locs hP hS => ?_)
  refine W.eq (g2 := F0 m 5 ls [.int (f_X7_isPiece M p0)]) rfl ?_
  refine lv_if_eq (tgt := 25) hx hb dX7_risk_5 (by decide) (fun c_2 => ?_) (fun c_2 => ?_)
  · have h := nb_t c_2 h
    refine lv_aload_n hx hb dX7_risk_25 rfl (lv_at hl 0 rfl) ?_
    refine lv_ldc (v := (-1000000001 : Int32)) hx hb hown w_1 dX7_risk_26 ?_
    obtain ⟨r_3, M_3, e_3, h⟩ := nb_pE h
    refine nb_callV (n := 1) (As := [.int (-1000000001 : Int32)]) (rest := []) hx hb hml hown hts hK hZ hP hS (k_X7_error had M N (-1000000001 : Int32) e_3) gX7_risk_X7_error rfl (by decide +kernel) (nb_rm (Nat.le_of_ble_eq_true rfl) (Nat.le_of_ble_eq_true rfl)) nb_a52 rfl rfl rfl hl.1 rfl (Nat.le_of_ble_eq_true rfl) dX7_risk_28 (fun H locs hP hS => ?_)
    refine W.eq (g2 := F0 m 31 ls [.int r_3]) rfl ?_
    obtain ⟨rfl, rfl⟩ := nb_e2 h
    exact nb_iret hx hb hr hlk hP hS dX7_risk_31
  · have h := nb_f c_2 h
    refine lv_aload_n hx hb dX7_risk_8 rfl (lv_at hl 0 rfl) ?_
    refine lv_iload_n hx hb dX7_risk_9 rfl (lv_at hl 2 rfl) ?_
    refine nb_callV (n := 1) (As := [.int p1]) (rest := []) hx hb hml hown hts hK hZ hP hS (k_X7_isPerson had M N p1) gX7_risk_X7_isPerson rfl (by decide +kernel) (nb_rm (Nat.le_of_ble_eq_true rfl) (Nat.le_of_ble_eq_true rfl)) nb_a52 rfl rfl rfl hl.1 rfl (Nat.le_of_ble_eq_true rfl) dX7_risk_10 (fun H locs hP hS => ?_)
    refine W.eq (g2 := F0 m 13 ls [.int (f_X7_isPerson M p1)]) rfl ?_
    refine lv_if_eq (tgt := 25) hx hb dX7_risk_13 (by decide) (fun c_5 => ?_) (fun c_5 => ?_)
    · have h := nb_t c_5 h
      refine lv_aload_n hx hb dX7_risk_25 rfl (lv_at hl 0 rfl) ?_
      refine lv_ldc (v := (-1000000001 : Int32)) hx hb hown w_1 dX7_risk_26 ?_
      obtain ⟨r_6, M_6, e_6, h⟩ := nb_pE h
      refine nb_callV (n := 1) (As := [.int (-1000000001 : Int32)]) (rest := []) hx hb hml hown hts hK hZ hP hS (k_X7_error had M N (-1000000001 : Int32) e_6) gX7_risk_X7_error rfl (by decide +kernel) (nb_rm (Nat.le_of_ble_eq_true rfl) (Nat.le_of_ble_eq_true rfl)) nb_a52 rfl rfl rfl hl.1 rfl (Nat.le_of_ble_eq_true rfl) dX7_risk_28 (fun H locs hP hS => ?_)
      refine W.eq (g2 := F0 m 31 ls [.int r_6]) rfl ?_
      obtain ⟨rfl, rfl⟩ := nb_e2 h
      exact nb_iret hx hb hr hlk hP hS dX7_risk_31
    · have h := nb_f c_5 h
      refine lv_aload_n hx hb dX7_risk_16 rfl (lv_at hl 0 rfl) ?_
      refine lv_iload_n hx hb dX7_risk_17 rfl (lv_at hl 1 rfl) ?_
      refine lv_iload_n hx hb dX7_risk_18 rfl (lv_at hl 2 rfl) ?_
      obtain ⟨r_7, M_7, e_7, h⟩ := nb_pE h
      refine nb_callV (n := 2) (As := [.int p0, .int p1]) (rest := []) hx hb hml hown hts hK hZ hP hS (k_X7_riskOf had M N p0 p1 e_7) gX7_risk_X7_riskOf rfl (by decide +kernel) (nb_rm (Nat.le_of_ble_eq_true rfl) (Nat.le_of_ble_eq_true rfl)) nb_a52 rfl rfl rfl hl.1 rfl (Nat.le_of_ble_eq_true rfl) dX7_risk_19 (fun H locs hP hS => ?_)
      refine W.eq (g2 := F0 m 22 ls [.int r_7]) rfl ?_
      refine lv_goto (tgt := 31) hx hb dX7_risk_22 (by decide) ?_
      obtain ⟨rfl, rfl⟩ := nb_e2 h
      exact nb_iret hx hb hr hlk hP hS dX7_risk_31
set_option maxHeartbeats 4000000 in
set_option maxRecDepth 100000 in
theorem k_X7_breaksDown {r : Int32} {M' : nb_M} (had : nb_AD ad b0) (M N : nb_M) (p0 : Int32) (h : f_X7_breaksDown M p0 = some (r, M')) : nb_C l D ad ca b0 yX7_breaksDown wsX7_breaksDown 4 [.ref (ad 52), .int p0] N M (some (.int r)) N M' := by
  refine nb_of (cc := cX7_breaksDown) (maxL := 4) (ret := (some .boolean)) (own := RX7) (by decide +kernel) rfl rfl (Nat.le_of_ble_eq_true rfl) ?_
  intro p e s m args below meth c ls X hP hS hl
  have hl : lv_has ls 4 [(0, .ref (ad 52)), (1, .int p0)] := hl
  obtain ⟨hx, hb, hml, hown, hts, hr, hlk, hK, hZ⟩ := id X
  have w_1 := hts (.fieldLink RX7 9 "NineBreakagesModel" "row" "[I") (by decide +kernel)
  have in7 : ∀ w ∈ u_ws RX7 TX7 21, w ∈ wsX7_breaksDown := fun w q => List.mem_cons_of_mem _ (List.mem_append_right _ q)
  unfold f_X7_breaksDown at h
  refine lv_aload_n hx hb dX7_breaksDown_0 rfl (lv_at hl 0 rfl) ?_
  refine lv_iload_n hx hb dX7_breaksDown_1 rfl (lv_at hl 1 rfl) ?_
  obtain ⟨r_1, e_1, h⟩ := nb_oE h
  refine nb_callV (n := 1) (As := [.int p0]) (rest := []) hx hb hml hown hts hK hZ hP hS (k_X7_doesCount had M N p0 e_1) gX7_breaksDown_X7_doesCount rfl (by decide +kernel) (nb_rm (Nat.le_of_ble_eq_true rfl) (Nat.le_of_ble_eq_true rfl)) nb_a52 rfl rfl rfl hl.1 rfl (Nat.le_of_ble_eq_true rfl) dX7_breaksDown_2 (fun H locs hP hS => ?_)
  refine W.eq (g2 := F0 m 5 ls [.int r_1]) rfl ?_
  refine lv_istore_n (lv' := [(2, .int r_1), (0, .ref (ad 52)), (1, .int p0)]) hx hb dX7_breaksDown_5 rfl hl (by decide) rfl (fun ls hl => ?_)
  refine lv_bipush (v := (6 : Int32)) hx hb dX7_breaksDown_6 (by decide) ?_
  refine lv_iconst (v := (3 : Int32)) hx hb dX7_breaksDown_8 (by decide) ?_
  refine lv_aload_n hx hb dX7_breaksDown_9 rfl (lv_at hl 1 rfl) ?_
  refine lv_iload_n hx hb dX7_breaksDown_10 rfl (lv_at hl 2 rfl) ?_
  refine lv_iconst (v := (2 : Int32)) hx hb dX7_breaksDown_11 (by decide) ?_
  obtain ⟨r_2, e_2, h⟩ := nb_oE h
  refine nb_callV (n := 2) (As := [.int p0, .int (2 : Int32)]) (rest := [.int (3 : Int32), .int (6 : Int32)]) hx hb hml hown hts hK hZ hP hS (k_X7_of had M N p0 (2 : Int32) e_2) gX7_breaksDown_X7_of rfl (by decide +kernel) (nb_rm (Nat.le_of_ble_eq_true rfl) (Nat.le_of_ble_eq_true rfl)) nb_a52 rfl rfl rfl hl.1 rfl (Nat.le_of_ble_eq_true rfl) dX7_breaksDown_12 (fun H locs hP hS => ?_)
  refine W.eq (g2 := F0 m 15 ls [.int r_2, .int (3 : Int32), .int (6 : Int32)]) rfl ?_
  refine lv_imul hx hb dX7_breaksDown_15 ?_
  refine lv_iadd hx hb dX7_breaksDown_16 ?_
  refine lv_iconst (v := (2 : Int32)) hx hb dX7_breaksDown_17 (by decide) ?_
  refine lv_iadd hx hb dX7_breaksDown_18 ?_
  refine lv_topi (fun v_3 e_3 => ?_)
  have h := nb_nA e_3 h
  refine lv_istore_n (lv' := [(3, .int v_3), (2, .int r_1), (0, .ref (ad 52)), (1, .int p0)]) hx hb dX7_breaksDown_19 rfl hl (by decide) rfl (fun ls hl => ?_)
  refine lv_aload_n hx hb dX7_breaksDown_20 rfl (lv_at hl 2 rfl) ?_
  refine va_get (v := .ref (ad 53)) (C := RX7) (T := TX7) (N := 21) hx hb hts in7 hown hK.1 hP 52 nb_a52 rfl 0 (by decide) w_1 (fun _ h9 => h9) rfl dX7_breaksDown_21 ?_
  refine lv_iload_n hx hb dX7_breaksDown_24 rfl (lv_at hl 0 rfl) ?_
  refine lv_aload_n hx hb dX7_breaksDown_25 rfl (lv_at hl 2 rfl) ?_
  refine va_get (v := .ref (ad 53)) (C := RX7) (T := TX7) (N := 21) hx hb hts in7 hown hK.1 hP 52 nb_a52 rfl 0 (by decide) w_1 (fun _ h9 => h9) rfl dX7_breaksDown_26 ?_
  refine lv_iload_n hx hb dX7_breaksDown_29 rfl (lv_at hl 0 rfl) ?_
  obtain ⟨c_4, h⟩ := nb_c h
  refine va_iald hx hb hK.1 hP 53 0 nb_a53 rfl c_4 dX7_breaksDown_30 ?_
  refine lv_iload_n hx hb dX7_breaksDown_31 rfl (lv_at hl 1 rfl) ?_
  refine lv_if_eq (tgt := 39) hx hb dX7_breaksDown_32 (by decide) (fun c_5 => ?_) (fun c_5 => ?_)
  · have h := nb_t c_5 h
    refine lv_iconst (v := (0 : Int32)) hx hb dX7_breaksDown_39 (by decide) ?_
    refine lv_iadd hx hb dX7_breaksDown_40 ?_
    refine lv_iconst (v := (0 : Int32)) hx hb dX7_breaksDown_41 (by decide) ?_
    refine lv_sipush (v := (9999 : Int32)) hx hb dX7_breaksDown_42 (by decide) ?_
    refine nb_callS (n := 3) (As := [.int ((M.1 1 v_3.toNatClampNeg) + (0 : Int32)), .int (0 : Int32), .int (9999 : Int32)]) (rest := [.int v_3, .ref (ad 53)]) hx hb hml hown hts hK hZ hP hS (k_X7_held had M N ((M.1 1 v_3.toNatClampNeg) + (0 : Int32)) (0 : Int32) (9999 : Int32)) gX7_breaksDown_X7_held rfl (by decide +kernel) (nb_rm (Nat.le_of_ble_eq_true rfl) (Nat.le_of_ble_eq_true rfl)) rfl hl.1 rfl (Nat.le_of_ble_eq_true rfl) dX7_breaksDown_45 (fun H locs hP hS => ?_)
    refine W.eq (g2 := F0 m 48 ls [.int (f_X7_held ((M.1 1 v_3.toNatClampNeg) + (0 : Int32)) (0 : Int32) (9999 : Int32)), .int v_3, .ref (ad 53)]) rfl ?_
    refine nb_iast hx hb had hK hP hS nb_a53 c_4 (nb_t53 _ _) dX7_breaksDown_48 (fun H locs hP hS => ?_)
    obtain ⟨M_7, e_7, h⟩ := nb_nE h
    rw [e_7] at hP
    refine lv_aload_n hx hb dX7_breaksDown_49 rfl (lv_at hl 2 rfl) ?_
    refine lv_iload_n hx hb dX7_breaksDown_50 rfl (lv_at hl 3 rfl) ?_
    refine lv_iconst (v := (3 : Int32)) hx hb dX7_breaksDown_51 (by decide) ?_
    refine lv_iconst (v := (1 : Int32)) hx hb dX7_breaksDown_52 (by decide) ?_
    obtain ⟨M_8, e_8, h⟩ := nb_oE h
    refine nb_callV (n := 3) (As := [.int p0, .int (3 : Int32), .int (1 : Int32)]) (rest := []) hx hb hml hown hts hK hZ hP hS (k_X7_lets had M_7 N p0 (3 : Int32) (1 : Int32) e_8) gX7_breaksDown_X7_lets rfl (by decide +kernel) (nb_rm (Nat.le_of_ble_eq_true rfl) (Nat.le_of_ble_eq_true rfl)) nb_a52 rfl rfl rfl hl.1 rfl (Nat.le_of_ble_eq_true rfl) dX7_breaksDown_53 (fun H locs hP hS => ?_)
    refine W.eq (g2 := F0 m 56 ls []) rfl ?_
    refine lv_iload_n hx hb dX7_breaksDown_56 rfl (lv_at hl 1 rfl) ?_
    obtain ⟨c_9, h⟩ := nb_c h
    obtain ⟨rfl, rfl⟩ := nb_e2 h
    exact nb_zret (Decidable.not_not.mp c_9) hx hb hr hlk hP hS dX7_breaksDown_57
  · have h := nb_f c_5 h
    refine lv_iconst (v := (1 : Int32)) hx hb dX7_breaksDown_35 (by decide) ?_
    refine lv_goto (tgt := 40) hx hb dX7_breaksDown_36 (by decide) ?_
    refine lv_iadd hx hb dX7_breaksDown_40 ?_
    refine lv_iconst (v := (0 : Int32)) hx hb dX7_breaksDown_41 (by decide) ?_
    refine lv_sipush (v := (9999 : Int32)) hx hb dX7_breaksDown_42 (by decide) ?_
    refine nb_callS (n := 3) (As := [.int ((M.1 1 v_3.toNatClampNeg) + (1 : Int32)), .int (0 : Int32), .int (9999 : Int32)]) (rest := [.int v_3, .ref (ad 53)]) hx hb hml hown hts hK hZ hP hS (k_X7_held had M N ((M.1 1 v_3.toNatClampNeg) + (1 : Int32)) (0 : Int32) (9999 : Int32)) gX7_breaksDown_X7_held rfl (by decide +kernel) (nb_rm (Nat.le_of_ble_eq_true rfl) (Nat.le_of_ble_eq_true rfl)) rfl hl.1 rfl (Nat.le_of_ble_eq_true rfl) dX7_breaksDown_45 (fun H locs hP hS => ?_)
    refine W.eq (g2 := F0 m 48 ls [.int (f_X7_held ((M.1 1 v_3.toNatClampNeg) + (1 : Int32)) (0 : Int32) (9999 : Int32)), .int v_3, .ref (ad 53)]) rfl ?_
    refine nb_iast hx hb had hK hP hS nb_a53 c_4 (nb_t53 _ _) dX7_breaksDown_48 (fun H locs hP hS => ?_)
    obtain ⟨M_11, e_11, h⟩ := nb_nE h
    rw [e_11] at hP
    refine lv_aload_n hx hb dX7_breaksDown_49 rfl (lv_at hl 2 rfl) ?_
    refine lv_iload_n hx hb dX7_breaksDown_50 rfl (lv_at hl 3 rfl) ?_
    refine lv_iconst (v := (3 : Int32)) hx hb dX7_breaksDown_51 (by decide) ?_
    refine lv_iconst (v := (1 : Int32)) hx hb dX7_breaksDown_52 (by decide) ?_
    obtain ⟨M_12, e_12, h⟩ := nb_oE h
    refine nb_callV (n := 3) (As := [.int p0, .int (3 : Int32), .int (1 : Int32)]) (rest := []) hx hb hml hown hts hK hZ hP hS (k_X7_lets had M_11 N p0 (3 : Int32) (1 : Int32) e_12) gX7_breaksDown_X7_lets rfl (by decide +kernel) (nb_rm (Nat.le_of_ble_eq_true rfl) (Nat.le_of_ble_eq_true rfl)) nb_a52 rfl rfl rfl hl.1 rfl (Nat.le_of_ble_eq_true rfl) dX7_breaksDown_53 (fun H locs hP hS => ?_)
    refine W.eq (g2 := F0 m 56 ls []) rfl ?_
    refine lv_iload_n hx hb dX7_breaksDown_56 rfl (lv_at hl 1 rfl) ?_
    obtain ⟨c_13, h⟩ := nb_c h
    obtain ⟨rfl, rfl⟩ := nb_e2 h
    exact nb_zret (Decidable.not_not.mp c_13) hx hb hr hlk hP hS dX7_breaksDown_57
set_option maxHeartbeats 4000000 in
set_option maxRecDepth 100000 in
theorem k_X7_drop {r : Int32} {M' : nb_M} (had : nb_AD ad b0) (M N : nb_M) (p0 : Int32) (h : f_X7_drop M p0 = some (r, M')) : nb_C l D ad ca b0 yX7_drop wsX7_drop 5 [.ref (ad 52), .int p0] N M (some (.int r)) N M' := by
  refine nb_of (cc := cX7_drop) (maxL := 2) (ret := (some .int)) (own := RX7) (by decide +kernel) rfl rfl (Nat.le_of_ble_eq_true rfl) ?_
  intro p e s m args below meth c ls X hP hS hl
  have hl : lv_has ls 2 [(0, .ref (ad 52)), (1, .int p0)] := hl
  obtain ⟨hx, hb, hml, hown, hts, hr, hlk, hK, hZ⟩ := id X
  have w_1 := hts (.constant RX7 113 (-1000000003)) (by decide +kernel)
  have w_2 := hts (.constant RX7 77 (-1000000001)) (by decide +kernel)
  unfold f_X7_drop at h
  refine lv_aload_n hx hb dX7_drop_0 rfl (lv_at hl 0 rfl) ?_
  refine lv_iload_n hx hb dX7_drop_1 rfl (lv_at hl 1 rfl) ?_
  refine nb_callV (n := 1) (As := [.int p0]) (rest := []) hx hb hml hown hts hK hZ hP hS (k_X7_isPiece had M N p0) gX7_drop_X7_isPiece rfl (by decide +kernel) (nb_rm (Nat.le_of_ble_eq_true rfl) (Nat.le_of_ble_eq_true rfl)) nb_a52 rfl rfl rfl hl.1 rfl (Nat.le_of_ble_eq_true rfl) dX7_drop_2 (fun H locs hP hS => ?_)
  refine W.eq (g2 := F0 m 5 ls [.int (f_X7_isPiece M p0)]) rfl ?_
  refine lv_if_ne (tgt := 15) hx hb dX7_drop_5 (by decide) (fun c_2 => ?_) (fun c_2 => ?_)
  · have h := nb_f c_2 h
    refine lv_aload_n hx hb dX7_drop_15 rfl (lv_at hl 0 rfl) ?_
    refine lv_iload_n hx hb dX7_drop_16 rfl (lv_at hl 1 rfl) ?_
    refine lv_iconst (v := (3 : Int32)) hx hb dX7_drop_17 (by decide) ?_
    obtain ⟨r_3, e_3, h⟩ := nb_oE h
    refine nb_callV (n := 2) (As := [.int p0, .int (3 : Int32)]) (rest := []) hx hb hml hown hts hK hZ hP hS (k_X7_of had M N p0 (3 : Int32) e_3) gX7_drop_X7_of rfl (by decide +kernel) (nb_rm (Nat.le_of_ble_eq_true rfl) (Nat.le_of_ble_eq_true rfl)) nb_a52 rfl rfl rfl hl.1 rfl (Nat.le_of_ble_eq_true rfl) dX7_drop_18 (fun H locs hP hS => ?_)
    refine W.eq (g2 := F0 m 21 ls [.int r_3]) rfl ?_
    refine lv_if_eq (tgt := 31) hx hb dX7_drop_21 (by decide) (fun c_4 => ?_) (fun c_4 => ?_)
    · have h := nb_t c_4 h
      refine lv_aload_n hx hb dX7_drop_31 rfl (lv_at hl 0 rfl) ?_
      refine lv_iload_n hx hb dX7_drop_32 rfl (lv_at hl 1 rfl) ?_
      obtain ⟨r_5, M_5, e_5, h⟩ := nb_pE h
      refine nb_callV (n := 1) (As := [.int p0]) (rest := []) hx hb hml hown hts hK hZ hP hS (k_X7_breaksDown had M N p0 e_5) gX7_drop_X7_breaksDown rfl (by decide +kernel) (nb_rm (Nat.le_of_ble_eq_true rfl) (Nat.le_of_ble_eq_true rfl)) nb_a52 rfl rfl rfl hl.1 rfl (Nat.le_of_ble_eq_true rfl) dX7_drop_33 (fun H locs hP hS => ?_)
      refine W.eq (g2 := F0 m 36 ls [.int r_5]) rfl ?_
      refine lv_if_eq (tgt := 43) hx hb dX7_drop_36 (by decide) (fun c_6 => ?_) (fun c_6 => ?_)
      · have h := nb_t c_6 h
        refine lv_iconst (v := (0 : Int32)) hx hb dX7_drop_43 (by decide) ?_
        obtain ⟨rfl, rfl⟩ := nb_e2 h
        exact nb_iret hx hb hr hlk hP hS dX7_drop_44
      · have h := nb_f c_6 h
        refine lv_iconst (v := (1 : Int32)) hx hb dX7_drop_39 (by decide) ?_
        refine lv_goto (tgt := 44) hx hb dX7_drop_40 (by decide) ?_
        obtain ⟨rfl, rfl⟩ := nb_e2 h
        exact nb_iret hx hb hr hlk hP hS dX7_drop_44
    · have h := nb_f c_4 h
      refine lv_aload_n hx hb dX7_drop_24 rfl (lv_at hl 0 rfl) ?_
      refine lv_ldc (v := (-1000000003 : Int32)) hx hb hown w_1 dX7_drop_25 ?_
      obtain ⟨r_7, M_7, e_7, h⟩ := nb_pE h
      refine nb_callV (n := 1) (As := [.int (-1000000003 : Int32)]) (rest := []) hx hb hml hown hts hK hZ hP hS (k_X7_error had M N (-1000000003 : Int32) e_7) gX7_drop_X7_error rfl (by decide +kernel) (nb_rm (Nat.le_of_ble_eq_true rfl) (Nat.le_of_ble_eq_true rfl)) nb_a52 rfl rfl rfl hl.1 rfl (Nat.le_of_ble_eq_true rfl) dX7_drop_27 (fun H locs hP hS => ?_)
      refine W.eq (g2 := F0 m 30 ls [.int r_7]) rfl ?_
      obtain ⟨rfl, rfl⟩ := nb_e2 h
      exact nb_iret hx hb hr hlk hP hS dX7_drop_30
  · have h := nb_t c_2 h
    refine lv_aload_n hx hb dX7_drop_8 rfl (lv_at hl 0 rfl) ?_
    refine lv_ldc (v := (-1000000001 : Int32)) hx hb hown w_2 dX7_drop_9 ?_
    obtain ⟨r_8, M_8, e_8, h⟩ := nb_pE h
    refine nb_callV (n := 1) (As := [.int (-1000000001 : Int32)]) (rest := []) hx hb hml hown hts hK hZ hP hS (k_X7_error had M N (-1000000001 : Int32) e_8) gX7_drop_X7_error rfl (by decide +kernel) (nb_rm (Nat.le_of_ble_eq_true rfl) (Nat.le_of_ble_eq_true rfl)) nb_a52 rfl rfl rfl hl.1 rfl (Nat.le_of_ble_eq_true rfl) dX7_drop_11 (fun H locs hP hS => ?_)
    refine W.eq (g2 := F0 m 14 ls [.int r_8]) rfl ?_
    obtain ⟨rfl, rfl⟩ := nb_e2 h
    exact nb_iret hx hb hr hlk hP hS dX7_drop_14
set_option maxHeartbeats 4000000 in
set_option maxRecDepth 100000 in
theorem w_X7_feed_40 {N : nb_M} {r : Int32} {M' : nb_M} (had : nb_AD ad b0) (X : nb_X p s m args meth c cX7_feed 5 RX7 (some .int) wsX7_feed D ca b0) : ∀ (n : Nat) (M : nb_M) (x1 : Int64) (x3 : Int32) (x4 : Int32), f_X7_feed_40 n M x1 x3 x4 = some (r, M') → ∀ (H : Heap) (locs : List Loc), va_P D vwCl (nb_w ad ca N M) H → va_S (fun q => b0 ≤ q) s.heap H locs → ∀ ls : Array Slot, lv_has ls 5 [(0, .ref (ad 52)), (1, .long x1), (3, .int x3), (4, .int x4)] → W p l e (nb_R 1) s m args below meth c H locs 0 0 (nb_Q below args s D ad ca b0 (some (.int r)) N M') (F0 m 40 ls []) := by
  obtain ⟨hx, hb, hml, hown, hts, hr, hlk, hK, hZ⟩ := id X
  have w_1 := hts (.fieldLink RX7 9 "NineBreakagesModel" "row" "[I") (by decide +kernel)
  have in7 : ∀ w ∈ u_ws RX7 TX7 21, w ∈ wsX7_feed := fun w q => List.mem_cons_of_mem _ (List.mem_append_right _ q)
  have w_3 := hts (.constantLong RX7 121 (255)) (by decide +kernel)
  intro n
  induction n with
  | zero =>
    intro M x1 x3 x4 h
    rw [f_X7_feed_40] at h
    cases h
  | succ n ih =>
    intro M x1 x3 x4 h H locs hP hS ls hl
    rw [f_X7_feed_40] at h
    refine lv_iload hx hb dX7_feed_40 (lv_at hl 3 rfl) ?_
    refine lv_iload_n hx hb dX7_feed_42 rfl (lv_at hl 2 rfl) ?_
    refine lv_icmp_ge (tgt := 88) hx hb dX7_feed_43 (by decide) (fun c_4 => ?_) (fun c_4 => ?_)
    · have h := nb_t c_4 h
      refine lv_aload_n hx hb dX7_feed_88 rfl (lv_at hl 0 rfl) ?_
      refine va_get (v := .ref (ad 53)) (C := RX7) (T := TX7) (N := 21) hx hb hts in7 hown hK.1 hP 52 nb_a52 rfl 0 (by decide) w_1 (fun _ h9 => h9) rfl dX7_feed_89 ?_
      refine lv_iconst (v := (4 : Int32)) hx hb dX7_feed_92 (by decide) ?_
      refine va_iald hx hb hK.1 hP 53 0 nb_a53 rfl (nb_lit rfl) dX7_feed_93 ?_
      obtain ⟨rfl, rfl⟩ := nb_e2 h
      exact nb_iret hx hb hr hlk hP hS dX7_feed_94
    · have h := nb_f c_4 h
      refine lv_aload_n hx hb dX7_feed_46 rfl (lv_at hl 0 rfl) ?_
      refine va_get (v := .ref (ad 53)) (C := RX7) (T := TX7) (N := 21) hx hb hts in7 hown hK.1 hP 52 nb_a52 rfl 0 (by decide) w_1 (fun _ h9 => h9) rfl dX7_feed_47 ?_
      refine lv_bipush (v := (57 : Int32)) hx hb dX7_feed_50 (by decide) ?_
      refine lv_aload_n hx hb dX7_feed_52 rfl (lv_at hl 0 rfl) ?_
      refine va_get (v := .ref (ad 53)) (C := RX7) (T := TX7) (N := 21) hx hb hts in7 hown hK.1 hP 52 nb_a52 rfl 0 (by decide) w_1 (fun _ h9 => h9) rfl dX7_feed_53 ?_
      refine lv_iconst (v := (4 : Int32)) hx hb dX7_feed_56 (by decide) ?_
      refine va_iald hx hb hK.1 hP 53 0 nb_a53 rfl (nb_lit rfl) dX7_feed_57 ?_
      refine lv_iadd hx hb dX7_feed_58 ?_
      refine lv_lload_n hx hb dX7_feed_59 rfl (lv_at hl 1 rfl) ?_
      refine lv_bipush (v := (8 : Int32)) hx hb dX7_feed_60 (by decide) ?_
      refine lv_iload hx hb dX7_feed_62 (lv_at hl 3 rfl) ?_
      refine lv_imul hx hb dX7_feed_64 ?_
      refine lv_lshr hx hb dX7_feed_65 rfl ?_
      refine lv_ldc2 (v := (255 : Int64)) hx hb hown w_3 dX7_feed_66 ?_
      refine lv_land hx hb dX7_feed_69 ?_
      refine lv_l2i hx hb dX7_feed_70 rfl ?_
      obtain ⟨c_5, h⟩ := nb_c h
      refine nb_iast hx hb had hK hP hS nb_a53 c_5 (nb_t53 _ _) dX7_feed_71 (fun H locs hP hS => ?_)
      obtain ⟨M_6, e_6, h⟩ := nb_nE h
      rw [e_6] at hP
      refine lv_aload_n hx hb dX7_feed_72 rfl (lv_at hl 0 rfl) ?_
      refine va_get (v := .ref (ad 53)) (C := RX7) (T := TX7) (N := 21) hx hb hts in7 hown hK.1 hP 52 nb_a52 rfl 0 (by decide) w_1 (fun _ h9 => h9) rfl dX7_feed_73 ?_
      refine lv_iconst (v := (4 : Int32)) hx hb dX7_feed_76 (by decide) ?_
      refine lv_dup2_11 hx hb dX7_feed_77 rfl rfl ?_
      refine va_iald hx hb hK.1 hP 53 0 nb_a53 rfl (nb_lit rfl) dX7_feed_78 ?_
      refine lv_iconst (v := (1 : Int32)) hx hb dX7_feed_79 (by decide) ?_
      refine lv_iadd hx hb dX7_feed_80 ?_
      refine nb_iast hx hb had hK hP hS nb_a53 (nb_lit rfl) (nb_t53 _ _) dX7_feed_81 (fun H locs hP hS => ?_)
      obtain ⟨M_7, e_7, h⟩ := nb_nE h
      rw [e_7] at hP
      refine lv_iinc (v := x4 + 1) (lv' := [(4, .int (x4 + 1)), (0, .ref (ad 52)), (1, .long x1), (3, .int x3)]) hx hb dX7_feed_82 hl (k := 3) rfl (congrArg (HAdd.hAdd x4) (by decide)) (by decide) rfl (fun ls hl => ?_)
      refine lv_goto (tgt := 40) hx hb dX7_feed_85 (by decide) ?_
      exact ih _ _ _ _ h _ _ hP hS _ (lv_sub hl [1, 2, 3, 0] rfl)
set_option maxHeartbeats 4000000 in
set_option maxRecDepth 100000 in
theorem k_X7_feed {r : Int32} {M' : nb_M} (had : nb_AD ad b0) (M N : nb_M) (p0 : Int64) (p1 : Int32) (h : f_X7_feed M p0 p1 = some (r, M')) : nb_C l D ad ca b0 yX7_feed wsX7_feed 1 [.ref (ad 52), .long p0, .int p1] N M (some (.int r)) N M' := by
  refine nb_of (cc := cX7_feed) (maxL := 5) (ret := (some .int)) (own := RX7) (by decide +kernel) rfl rfl (Nat.le_of_ble_eq_true rfl) ?_
  intro p e s m args below meth c ls X hP hS hl
  have hl : lv_has ls 5 [(0, .ref (ad 52)), (1, .long p0), (3, .int p1)] := hl
  obtain ⟨hx, hb, hml, hown, hts, hr, hlk, hK, hZ⟩ := id X
  have w_1 := hts (.fieldLink RX7 9 "NineBreakagesModel" "row" "[I") (by decide +kernel)
  have in7 : ∀ w ∈ u_ws RX7 TX7 21, w ∈ wsX7_feed := fun w q => List.mem_cons_of_mem _ (List.mem_append_right _ q)
  have w_3 := hts (.constant RX7 82 (-1000000004)) (by decide +kernel)
  have w_4 := hts (.constant RX7 77 (-1000000001)) (by decide +kernel)
  unfold f_X7_feed at h
  refine lv_iload_n hx hb dX7_feed_0 rfl (lv_at hl 2 rfl) ?_
  refine lv_iconst (v := (1 : Int32)) hx hb dX7_feed_1 (by decide) ?_
  refine lv_bipush (v := (8 : Int32)) hx hb dX7_feed_2 (by decide) ?_
  refine nb_callS (n := 3) (As := [.int p1, .int (1 : Int32), .int (8 : Int32)]) (rest := []) hx hb hml hown hts hK hZ hP hS (k_X7_in had M N p1 (1 : Int32) (8 : Int32)) gX7_feed_X7_in rfl (by decide +kernel) (nb_rm (Nat.le_of_ble_eq_true rfl) (Nat.le_of_ble_eq_true rfl)) rfl hl.1 rfl (Nat.le_of_ble_eq_true rfl) dX7_feed_4 (fun H locs hP hS => ?_)
  refine W.eq (g2 := F0 m 7 ls [.int (f_X7_in p1 (1 : Int32) (8 : Int32))]) rfl ?_
  refine lv_if_ne (tgt := 17) hx hb dX7_feed_7 (by decide) (fun c_2 => ?_) (fun c_2 => ?_)
  · have h := nb_f c_2 h
    refine lv_aload_n hx hb dX7_feed_17 rfl (lv_at hl 0 rfl) ?_
    refine va_get (v := .ref (ad 53)) (C := RX7) (T := TX7) (N := 21) hx hb hts in7 hown hK.1 hP 52 nb_a52 rfl 0 (by decide) w_1 (fun _ h9 => h9) rfl dX7_feed_18 ?_
    refine lv_iconst (v := (4 : Int32)) hx hb dX7_feed_21 (by decide) ?_
    refine va_iald hx hb hK.1 hP 53 0 nb_a53 rfl (nb_lit rfl) dX7_feed_22 ?_
    refine lv_iload_n hx hb dX7_feed_23 rfl (lv_at hl 2 rfl) ?_
    refine lv_iadd hx hb dX7_feed_24 ?_
    refine lv_bipush (v := (60 : Int32)) hx hb dX7_feed_25 (by decide) ?_
    refine lv_icmp_le (tgt := 37) hx hb dX7_feed_27 (by decide) (fun c_3 => ?_) (fun c_3 => ?_)
    · have h := nb_t c_3 h
      refine lv_iconst (v := (0 : Int32)) hx hb dX7_feed_37 (by decide) ?_
      refine lv_istore (lv' := [(4, .int (0 : Int32)), (0, .ref (ad 52)), (1, .long p0), (3, .int p1)]) hx hb dX7_feed_38 hl (by decide) rfl (fun ls hl => ?_)
      exact w_X7_feed_40 had X nb_F _ _ _ _ h _ _ hP hS _ (lv_sub hl [1, 2, 3, 0] rfl)
    · have h := nb_f c_3 h
      refine lv_aload_n hx hb dX7_feed_30 rfl (lv_at hl 0 rfl) ?_
      refine lv_ldc (v := (-1000000004 : Int32)) hx hb hown w_3 dX7_feed_31 ?_
      obtain ⟨r_8, M_8, e_8, h⟩ := nb_pE h
      refine nb_callV (n := 1) (As := [.int (-1000000004 : Int32)]) (rest := []) hx hb hml hown hts hK hZ hP hS (k_X7_error had M N (-1000000004 : Int32) e_8) gX7_feed_X7_error rfl (by decide +kernel) (nb_rm (Nat.le_of_ble_eq_true rfl) (Nat.le_of_ble_eq_true rfl)) nb_a52 rfl rfl rfl hl.1 rfl (Nat.le_of_ble_eq_true rfl) dX7_feed_33 (fun H locs hP hS => ?_)
      refine W.eq (g2 := F0 m 36 ls [.int r_8]) rfl ?_
      obtain ⟨rfl, rfl⟩ := nb_e2 h
      exact nb_iret hx hb hr hlk hP hS dX7_feed_36
  · have h := nb_t c_2 h
    refine lv_aload_n hx hb dX7_feed_10 rfl (lv_at hl 0 rfl) ?_
    refine lv_ldc (v := (-1000000001 : Int32)) hx hb hown w_4 dX7_feed_11 ?_
    obtain ⟨r_9, M_9, e_9, h⟩ := nb_pE h
    refine nb_callV (n := 1) (As := [.int (-1000000001 : Int32)]) (rest := []) hx hb hml hown hts hK hZ hP hS (k_X7_error had M N (-1000000001 : Int32) e_9) gX7_feed_X7_error rfl (by decide +kernel) (nb_rm (Nat.le_of_ble_eq_true rfl) (Nat.le_of_ble_eq_true rfl)) nb_a52 rfl rfl rfl hl.1 rfl (Nat.le_of_ble_eq_true rfl) dX7_feed_13 (fun H locs hP hS => ?_)
    refine W.eq (g2 := F0 m 16 ls [.int r_9]) rfl ?_
    obtain ⟨rfl, rfl⟩ := nb_e2 h
    exact nb_iret hx hb hr hlk hP hS dX7_feed_16
set_option maxHeartbeats 4000000 in
set_option maxRecDepth 100000 in
theorem k_X7_look {r : Int32} (had : nb_AD ad b0) (M N : nb_M) (h : f_X7_look M = some r) : nb_C l D ad ca b0 yX7_look wsX7_look 0 [.ref (ad 52)] N M (some (.int r)) N M := by
  refine nb_of (cc := cX7_look) (maxL := 1) (ret := (some .int)) (own := RX7) (by decide +kernel) rfl rfl (Nat.le_of_ble_eq_true rfl) ?_
  intro p e s m args below meth c ls X hP hS hl
  have hl : lv_has ls 1 [(0, .ref (ad 52))] := hl
  obtain ⟨hx, hb, hml, hown, hts, hr, hlk, hK, hZ⟩ := id X
  have w_1 := hts (.fieldLink RX7 123 "NineBreakagesModel" "here" "I") (by decide +kernel)
  have in7 : ∀ w ∈ u_ws RX7 TX7 21, w ∈ wsX7_look := fun w q => List.mem_cons_of_mem _ (List.mem_append_right _ q)
  have w_3 := hts (.fieldLink RX7 9 "NineBreakagesModel" "row" "[I") (by decide +kernel)
  unfold f_X7_look at h
  refine lv_aload_n hx hb dX7_look_0 rfl (lv_at hl 0 rfl) ?_
  refine va_get (v := .int (M.1 0 12)) (C := RX7) (T := TX7) (N := 21) hx hb hts in7 hown hK.1 hP 52 nb_a52 rfl 12 (by decide) w_1 (fun _ h9 => h9) rfl dX7_look_1 ?_
  refine lv_aload_n hx hb dX7_look_4 rfl (lv_at hl 0 rfl) ?_
  refine va_get (v := .ref (ad 53)) (C := RX7) (T := TX7) (N := 21) hx hb hts in7 hown hK.1 hP 52 nb_a52 rfl 0 (by decide) w_3 (fun _ h9 => h9) rfl dX7_look_5 ?_
  refine lv_iconst (v := (4 : Int32)) hx hb dX7_look_8 (by decide) ?_
  refine va_iald hx hb hK.1 hP 53 0 nb_a53 rfl (nb_lit rfl) dX7_look_9 ?_
  refine lv_icmp_ge (tgt := 28) hx hb dX7_look_10 (by decide) (fun c_1 => ?_) (fun c_1 => ?_)
  · have h := nb_t c_1 h
    refine lv_iconst (v := (-1 : Int32)) hx hb dX7_look_28 (by decide) ?_
    obtain rfl := nb_e1 h
    exact nb_iret hx hb hr hlk hP hS dX7_look_29
  · have h := nb_f c_1 h
    refine lv_aload_n hx hb dX7_look_13 rfl (lv_at hl 0 rfl) ?_
    refine va_get (v := .ref (ad 53)) (C := RX7) (T := TX7) (N := 21) hx hb hts in7 hown hK.1 hP 52 nb_a52 rfl 0 (by decide) w_3 (fun _ h9 => h9) rfl dX7_look_14 ?_
    refine lv_bipush (v := (57 : Int32)) hx hb dX7_look_17 (by decide) ?_
    refine lv_aload_n hx hb dX7_look_19 rfl (lv_at hl 0 rfl) ?_
    refine va_get (v := .int (M.1 0 12)) (C := RX7) (T := TX7) (N := 21) hx hb hts in7 hown hK.1 hP 52 nb_a52 rfl 12 (by decide) w_1 (fun _ h9 => h9) rfl dX7_look_20 ?_
    refine lv_iadd hx hb dX7_look_23 ?_
    obtain ⟨c_2, h⟩ := nb_c h
    refine va_iald hx hb hK.1 hP 53 0 nb_a53 rfl c_2 dX7_look_24 ?_
    refine lv_goto (tgt := 29) hx hb dX7_look_25 (by decide) ?_
    obtain rfl := nb_e1 h
    exact nb_iret hx hb hr hlk hP hS dX7_look_29
set_option maxHeartbeats 4000000 in
set_option maxRecDepth 100000 in
theorem k_X7_lays {M' : nb_M} (had : nb_AD ad b0) (M N : nb_M) (p0 : Int32) (p1 : Int32) (h : f_X7_lays M p0 p1 = some (M')) : nb_C l D ad ca b0 yX7_lays wsX7_lays 0 [.ref (ad 52), .int p0, .int p1] N M none N M' := by
  refine nb_of (cc := cX7_lays) (maxL := 3) (ret := none) (own := RX7) (by decide +kernel) rfl rfl (Nat.le_of_ble_eq_true rfl) ?_
  intro p e s m args below meth c ls X hP hS hl
  have hl : lv_has ls 3 [(0, .ref (ad 52)), (1, .int p0), (2, .int p1)] := hl
  obtain ⟨hx, hb, hml, hown, hts, hr, hlk, hK, hZ⟩ := id X
  have w_1 := hts (.fieldLink RX7 127 "NineBreakagesModel" "laid" "I") (by decide +kernel)
  have in7 : ∀ w ∈ u_ws RX7 TX7 21, w ∈ wsX7_lays := fun w q => List.mem_cons_of_mem _ (List.mem_append_right _ q)
  have w_3 := hts (.fieldLink RX7 28 "NineBreakagesModel" "act" "[I") (by decide +kernel)
  have w_4 := hts (.fieldLink RX7 31 "NineBreakagesModel" "with" "[I") (by decide +kernel)
  unfold f_X7_lays at h
  refine lv_aload_n hx hb dX7_lays_0 rfl (lv_at hl 0 rfl) ?_
  refine va_get (v := .int (M.1 0 11)) (C := RX7) (T := TX7) (N := 21) hx hb hts in7 hown hK.1 hP 52 nb_a52 rfl 11 (by decide) w_1 (fun _ h9 => h9) rfl dX7_lays_1 ?_
  refine lv_aload_n hx hb dX7_lays_4 rfl (lv_at hl 0 rfl) ?_
  refine va_get (v := .ref (ad 59)) (C := RX7) (T := TX7) (N := 21) hx hb hts in7 hown hK.1 hP 52 nb_a52 rfl 7 (by decide) w_3 (fun _ h9 => h9) rfl dX7_lays_5 ?_
  refine va_alen (v := (60 : Int32)) hx hb hK.1 hP 59 0 nb_a59 rfl rfl dX7_lays_8 ?_
  refine lv_icmp_ge (tgt := 42) hx hb dX7_lays_9 (by decide) (fun c_1 => ?_) (fun c_1 => ?_)
  · have h := nb_t c_1 h
    obtain rfl := nb_e1 h
    exact nb_vret hx hb hr hlk hP hS dX7_lays_42
  · have h := nb_f c_1 h
    refine lv_aload_n hx hb dX7_lays_12 rfl (lv_at hl 0 rfl) ?_
    refine va_get (v := .ref (ad 59)) (C := RX7) (T := TX7) (N := 21) hx hb hts in7 hown hK.1 hP 52 nb_a52 rfl 7 (by decide) w_3 (fun _ h9 => h9) rfl dX7_lays_13 ?_
    refine lv_aload_n hx hb dX7_lays_16 rfl (lv_at hl 0 rfl) ?_
    refine va_get (v := .int (M.1 0 11)) (C := RX7) (T := TX7) (N := 21) hx hb hts in7 hown hK.1 hP 52 nb_a52 rfl 11 (by decide) w_1 (fun _ h9 => h9) rfl dX7_lays_17 ?_
    refine lv_iload_n hx hb dX7_lays_20 rfl (lv_at hl 1 rfl) ?_
    obtain ⟨c_2, h⟩ := nb_c h
    refine nb_iast hx hb had hK hP hS nb_a59 c_2 (nb_t59 _ _) dX7_lays_21 (fun H locs hP hS => ?_)
    obtain ⟨M_3, e_3, h⟩ := nb_nE h
    rw [e_3] at hP
    refine lv_aload_n hx hb dX7_lays_22 rfl (lv_at hl 0 rfl) ?_
    refine va_get (v := .ref (ad 60)) (C := RX7) (T := TX7) (N := 21) hx hb hts in7 hown hK.1 hP 52 nb_a52 rfl 8 (by decide) w_4 (fun _ h9 => h9) rfl dX7_lays_23 ?_
    refine lv_aload_n hx hb dX7_lays_26 rfl (lv_at hl 0 rfl) ?_
    refine va_get (v := .int (M_3.1 0 11)) (C := RX7) (T := TX7) (N := 21) hx hb hts in7 hown hK.1 hP 52 nb_a52 rfl 11 (by decide) w_1 (fun _ h9 => h9) rfl dX7_lays_27 ?_
    refine lv_iload_n hx hb dX7_lays_30 rfl (lv_at hl 2 rfl) ?_
    obtain ⟨c_4, h⟩ := nb_c h
    refine nb_iast hx hb had hK hP hS nb_a60 c_4 (nb_t60 _ _) dX7_lays_31 (fun H locs hP hS => ?_)
    obtain ⟨M_5, e_5, h⟩ := nb_nE h
    rw [e_5] at hP
    refine lv_aload_n hx hb dX7_lays_32 rfl (lv_at hl 0 rfl) ?_
    refine lv_dup hx hb dX7_lays_33 rfl ?_
    refine va_get (v := .int (M_5.1 0 11)) (C := RX7) (T := TX7) (N := 21) hx hb hts in7 hown hK.1 hP 52 nb_a52 rfl 11 (by decide) w_1 (fun _ h9 => h9) rfl dX7_lays_34 ?_
    refine lv_iconst (v := (1 : Int32)) hx hb dX7_lays_37 (by decide) ?_
    refine lv_iadd hx hb dX7_lays_38 ?_
    refine nb_put (C := RX7) (T := TX7) (NN := 21) hx hb had hts in7 tyX7 tyX7_ok nmX7 hown hK hP hS nb_a52 rfl 11 (by decide) w_1 rfl (ty := .int) (by decide +kernel) rfl rfl (Nat.le_of_ble_eq_true rfl) (nb_p52_11 _) dX7_lays_39 (fun H locs hP hS => ?_)
    obtain ⟨M_6, e_6, h⟩ := nb_nE h
    rw [e_6] at hP
    obtain rfl := nb_e1 h
    exact nb_vret hx hb hr hlk hP hS dX7_lays_42
set_option maxHeartbeats 4000000 in
set_option maxRecDepth 100000 in
theorem k_X7_nameOf (had : nb_AD ad b0) (M N : nb_M) (p0 : Int32) : nb_C l D ad ca b0 yX7_nameOf wsX7_nameOf 0 [.ref (ad 52), .int p0] N M (some (.int (f_X7_nameOf M p0))) N M := by
  obtain ⟨r, h⟩ : ∃ r, f_X7_nameOf M p0 = r := ⟨_, rfl⟩
  rw [h]
  refine nb_of (cc := cX7_nameOf) (maxL := 2) (ret := (some .int)) (own := RX7) (by decide +kernel) rfl rfl (Nat.le_of_ble_eq_true rfl) ?_
  intro p e s m args below meth c ls X hP hS hl
  have hl : lv_has ls 2 [(0, .ref (ad 52)), (1, .int p0)] := hl
  obtain ⟨hx, hb, hml, hown, hts, hr, hlk, hK, hZ⟩ := id X
  have w_1 := hts (.fieldLink RX7 130 "NineBreakagesModel" "using" "I") (by decide +kernel)
  have in7 : ∀ w ∈ u_ws RX7 TX7 21, w ∈ wsX7_nameOf := fun w q => List.mem_cons_of_mem _ (List.mem_append_right _ q)
  unfold f_X7_nameOf at h
  refine lv_iload_n hx hb dX7_nameOf_0 rfl (lv_at hl 1 rfl) ?_
  refine nb_lsw [(98, 88), (99, 52), (100, 65), (112, 88), (114, 65)] 112 hx hb dX7_nameOf_1 (by decide +kernel) (by decide) (by decide +kernel) ?_
  refine nb_split (fun c_1 => ?_) (fun c_1 => ?_)
  · have h := nb_t c_1 h
    refine lv_aload_n hx hb dX7_nameOf_88 rfl (lv_at hl 0 rfl) ?_
    refine va_get (v := .int (M.1 0 15)) (C := RX7) (T := TX7) (N := 21) hx hb hts in7 hown hK.1 hP 52 nb_a52 rfl 15 (by decide) w_1 (fun _ h9 => h9) rfl dX7_nameOf_89 ?_
    refine lv_iconst (v := (1 : Int32)) hx hb dX7_nameOf_92 (by decide) ?_
    refine lv_icmp_eq (tgt := 100) hx hb dX7_nameOf_93 (by decide) (fun c_2 => ?_) (fun c_2 => ?_)
    · have h := nb_t c_2 h
      refine lv_iload_n hx hb dX7_nameOf_100 rfl (lv_at hl 1 rfl) ?_
      refine lv_bipush (v := (98 : Int32)) hx hb dX7_nameOf_101 (by decide) ?_
      refine lv_icmp_ne (tgt := 110) hx hb dX7_nameOf_103 (by decide) (fun c_3 => absurd c_1 c_3) (fun _ => ?_)
      refine lv_iconst (v := (1 : Int32)) hx hb dX7_nameOf_106 (by decide) ?_
      refine lv_goto (tgt := 111) hx hb dX7_nameOf_107 (by decide) ?_
      obtain rfl := nb_e3 h
      exact nb_iret hx hb hr hlk hP hS dX7_nameOf_111
    · have h := nb_f c_2 h
      refine lv_iconst (v := (-1 : Int32)) hx hb dX7_nameOf_96 (by decide) ?_
      refine lv_goto (tgt := 111) hx hb dX7_nameOf_97 (by decide) ?_
      obtain rfl := nb_e3 h
      exact nb_iret hx hb hr hlk hP hS dX7_nameOf_111
  · have h := nb_f c_1 h
    refine nb_split (fun c_4 => ?_) (fun c_4 => ?_)
    · have h := nb_t c_4 h
      refine lv_aload_n hx hb dX7_nameOf_52 rfl (lv_at hl 0 rfl) ?_
      refine va_get (v := .int (M.1 0 15)) (C := RX7) (T := TX7) (N := 21) hx hb hts in7 hown hK.1 hP 52 nb_a52 rfl 15 (by decide) w_1 (fun _ h9 => h9) rfl dX7_nameOf_53 ?_
      refine lv_if_ne (tgt := 63) hx hb dX7_nameOf_56 (by decide) (fun c_5 => ?_) (fun c_5 => ?_)
      · have h := nb_f c_5 h
        refine lv_iconst (v := (0 : Int32)) hx hb dX7_nameOf_63 (by decide) ?_
        obtain rfl := nb_e3 h
        exact nb_iret hx hb hr hlk hP hS dX7_nameOf_64
      · have h := nb_t c_5 h
        refine lv_iconst (v := (1 : Int32)) hx hb dX7_nameOf_59 (by decide) ?_
        refine lv_goto (tgt := 64) hx hb dX7_nameOf_60 (by decide) ?_
        obtain rfl := nb_e3 h
        exact nb_iret hx hb hr hlk hP hS dX7_nameOf_64
    · have h := nb_f c_4 h
      refine nb_split (fun c_6 => ?_) (fun c_6 => ?_)
      · have h := nb_t c_6 h
        refine lv_aload_n hx hb dX7_nameOf_65 rfl (lv_at hl 0 rfl) ?_
        refine va_get (v := .int (M.1 0 15)) (C := RX7) (T := TX7) (N := 21) hx hb hts in7 hown hK.1 hP 52 nb_a52 rfl 15 (by decide) w_1 (fun _ h9 => h9) rfl dX7_nameOf_66 ?_
        refine lv_if_eq (tgt := 76) hx hb dX7_nameOf_69 (by decide) (fun c_7 => ?_) (fun c_7 => ?_)
        · have h := nb_t c_7 h
          refine lv_iload_n hx hb dX7_nameOf_76 rfl (lv_at hl 1 rfl) ?_
          refine lv_bipush (v := (114 : Int32)) hx hb dX7_nameOf_77 (by decide) ?_
          refine lv_icmp_ne (tgt := 86) hx hb dX7_nameOf_79 (by decide) (fun _ => ?_) (fun c_8 => absurd c_8 (by rw [c_6]; decide))
          refine lv_iconst (v := (2 : Int32)) hx hb dX7_nameOf_86 (by decide) ?_
          obtain rfl := nb_e3 h
          exact nb_iret hx hb hr hlk hP hS dX7_nameOf_87
        · have h := nb_f c_7 h
          refine lv_iconst (v := (-1 : Int32)) hx hb dX7_nameOf_72 (by decide) ?_
          refine lv_goto (tgt := 87) hx hb dX7_nameOf_73 (by decide) ?_
          obtain rfl := nb_e3 h
          exact nb_iret hx hb hr hlk hP hS dX7_nameOf_87
      · have h := nb_f c_6 h
        refine nb_split (fun c_9 => ?_) (fun c_9 => ?_)
        · have h := nb_t c_9 h
          refine lv_aload_n hx hb dX7_nameOf_88 rfl (lv_at hl 0 rfl) ?_
          refine va_get (v := .int (M.1 0 15)) (C := RX7) (T := TX7) (N := 21) hx hb hts in7 hown hK.1 hP 52 nb_a52 rfl 15 (by decide) w_1 (fun _ h9 => h9) rfl dX7_nameOf_89 ?_
          refine lv_iconst (v := (1 : Int32)) hx hb dX7_nameOf_92 (by decide) ?_
          refine lv_icmp_eq (tgt := 100) hx hb dX7_nameOf_93 (by decide) (fun c_10 => ?_) (fun c_10 => ?_)
          · have h := nb_t c_10 h
            refine lv_iload_n hx hb dX7_nameOf_100 rfl (lv_at hl 1 rfl) ?_
            refine lv_bipush (v := (98 : Int32)) hx hb dX7_nameOf_101 (by decide) ?_
            refine lv_icmp_ne (tgt := 110) hx hb dX7_nameOf_103 (by decide) (fun _ => ?_) (fun c_11 => absurd c_11 (by rw [c_9]; decide))
            refine lv_iconst (v := (2 : Int32)) hx hb dX7_nameOf_110 (by decide) ?_
            obtain rfl := nb_e3 h
            exact nb_iret hx hb hr hlk hP hS dX7_nameOf_111
          · have h := nb_f c_10 h
            refine lv_iconst (v := (-1 : Int32)) hx hb dX7_nameOf_96 (by decide) ?_
            refine lv_goto (tgt := 111) hx hb dX7_nameOf_97 (by decide) ?_
            obtain rfl := nb_e3 h
            exact nb_iret hx hb hr hlk hP hS dX7_nameOf_111
        · have h := nb_f c_9 h
          refine nb_split (fun c_12 => ?_) (fun c_12 => ?_)
          · have h := nb_t c_12 h
            refine lv_aload_n hx hb dX7_nameOf_65 rfl (lv_at hl 0 rfl) ?_
            refine va_get (v := .int (M.1 0 15)) (C := RX7) (T := TX7) (N := 21) hx hb hts in7 hown hK.1 hP 52 nb_a52 rfl 15 (by decide) w_1 (fun _ h9 => h9) rfl dX7_nameOf_66 ?_
            refine lv_if_eq (tgt := 76) hx hb dX7_nameOf_69 (by decide) (fun c_13 => ?_) (fun c_13 => ?_)
            · have h := nb_t c_13 h
              refine lv_iload_n hx hb dX7_nameOf_76 rfl (lv_at hl 1 rfl) ?_
              refine lv_bipush (v := (114 : Int32)) hx hb dX7_nameOf_77 (by decide) ?_
              refine lv_icmp_ne (tgt := 86) hx hb dX7_nameOf_79 (by decide) (fun c_14 => absurd c_12 c_14) (fun _ => ?_)
              refine lv_iconst (v := (0 : Int32)) hx hb dX7_nameOf_82 (by decide) ?_
              refine lv_goto (tgt := 87) hx hb dX7_nameOf_83 (by decide) ?_
              obtain rfl := nb_e3 h
              exact nb_iret hx hb hr hlk hP hS dX7_nameOf_87
            · have h := nb_f c_13 h
              refine lv_iconst (v := (-1 : Int32)) hx hb dX7_nameOf_72 (by decide) ?_
              refine lv_goto (tgt := 87) hx hb dX7_nameOf_73 (by decide) ?_
              obtain rfl := nb_e3 h
              exact nb_iret hx hb hr hlk hP hS dX7_nameOf_87
          · have h := nb_f c_12 h
            refine W.eq (g2 := F0 m 112 ls []) rfl ?_
            refine lv_iconst (v := (-1 : Int32)) hx hb dX7_nameOf_112 (by decide) ?_
            obtain rfl := nb_e3 h
            exact nb_iret hx hb hr hlk hP hS dX7_nameOf_113
set_option maxHeartbeats 4000000 in
set_option maxRecDepth 100000 in
theorem w_X7_number_52 {N : nb_M} {M' : nb_M} (had : nb_AD ad b0) (X : nb_X p s m args meth c cX7_number 3 RX7 none wsX7_number D ca b0) : ∀ (M : nb_M) (x1 : Int32) (x2 : Int32), f_X7_number_52 M x1 x2 = some (M') → ∀ (H : Heap) (locs : List Loc), va_P D vwCl (nb_w ad ca N M) H → va_S (fun q => b0 ≤ q) s.heap H locs → ∀ ls : Array Slot, lv_has ls 3 [(0, .ref (ad 52)), (1, .int x1), (2, .int x2)] → W p l e (nb_R 1) s m args below meth c H locs 0 0 (nb_Q below args s D ad ca b0 none N M') (F0 m 52 ls []) := by
  obtain ⟨hx, hb, hml, hown, hts, hr, hlk, hK, hZ⟩ := id X
  have w_1 := hts (.fieldLink RX7 136 "NineBreakagesModel" "bad" "Z") (by decide +kernel)
  have in7 : ∀ w ∈ u_ws RX7 TX7 21, w ∈ wsX7_number := fun w q => List.mem_cons_of_mem _ (List.mem_append_right _ q)
  intro M x1 x2 h H locs hP hS ls hl
  unfold f_X7_number_52 at h
  refine lv_aload_n hx hb dX7_number_52 rfl (lv_at hl 0 rfl) ?_
  refine lv_iload_n hx hb dX7_number_53 rfl (lv_at hl 2 rfl) ?_
  refine lv_if_ne (tgt := 61) hx hb dX7_number_54 (by decide) (fun c_2 => ?_) (fun c_2 => ?_)
  · have h := nb_f c_2 h
    refine lv_iconst (v := (0 : Int32)) hx hb dX7_number_61 (by decide) ?_
    refine nb_put (C := RX7) (T := TX7) (NN := 21) hx hb had hts in7 tyX7 tyX7_ok nmX7 hown hK hP hS nb_a52 rfl 14 (by decide) w_1 rfl (ty := .boolean) (by decide +kernel) rfl rfl (Nat.le_of_ble_eq_true rfl) (nb_p52_14 _) dX7_number_62 (fun H locs hP hS => ?_)
    obtain ⟨M_3, e_3, h⟩ := nb_nE h
    rw [e_3] at hP
    refine lv_aload_n hx hb dX7_number_65 rfl (lv_at hl 0 rfl) ?_
    refine lv_iconst (v := (1 : Int32)) hx hb dX7_number_66 (by decide) ?_
    refine lv_iload_n hx hb dX7_number_67 rfl (lv_at hl 1 rfl) ?_
    obtain ⟨M_4, e_4, h⟩ := nb_oE h
    refine nb_callV (n := 2) (As := [.int (1 : Int32), .int x1]) (rest := []) hx hb hml hown hts hK hZ hP hS (k_X7_lays had M_3 N (1 : Int32) x1 e_4) gX7_number_X7_lays rfl (by decide +kernel) (nb_rm (Nat.le_of_ble_eq_true rfl) (Nat.le_of_ble_eq_true rfl)) nb_a52 rfl rfl rfl hl.1 rfl (Nat.le_of_ble_eq_true rfl) dX7_number_68 (fun H locs hP hS => ?_)
    refine W.eq (g2 := F0 m 71 ls []) rfl ?_
    obtain rfl := nb_e1 h
    exact nb_vret hx hb hr hlk hP hS dX7_number_71
  · have h := nb_t c_2 h
    refine lv_iconst (v := (1 : Int32)) hx hb dX7_number_57 (by decide) ?_
    refine lv_goto (tgt := 62) hx hb dX7_number_58 (by decide) ?_
    refine nb_put (C := RX7) (T := TX7) (NN := 21) hx hb had hts in7 tyX7 tyX7_ok nmX7 hown hK hP hS nb_a52 rfl 14 (by decide) w_1 rfl (ty := .boolean) (by decide +kernel) rfl rfl (Nat.le_of_ble_eq_true rfl) (nb_p52_14 _) dX7_number_62 (fun H locs hP hS => ?_)
    obtain ⟨M_5, e_5, h⟩ := nb_nE h
    rw [e_5] at hP
    refine lv_aload_n hx hb dX7_number_65 rfl (lv_at hl 0 rfl) ?_
    refine lv_iconst (v := (1 : Int32)) hx hb dX7_number_66 (by decide) ?_
    refine lv_iload_n hx hb dX7_number_67 rfl (lv_at hl 1 rfl) ?_
    obtain ⟨M_6, e_6, h⟩ := nb_oE h
    refine nb_callV (n := 2) (As := [.int (1 : Int32), .int x1]) (rest := []) hx hb hml hown hts hK hZ hP hS (k_X7_lays had M_5 N (1 : Int32) x1 e_6) gX7_number_X7_lays rfl (by decide +kernel) (nb_rm (Nat.le_of_ble_eq_true rfl) (Nat.le_of_ble_eq_true rfl)) nb_a52 rfl rfl rfl hl.1 rfl (Nat.le_of_ble_eq_true rfl) dX7_number_68 (fun H locs hP hS => ?_)
    refine W.eq (g2 := F0 m 71 ls []) rfl ?_
    obtain rfl := nb_e1 h
    exact nb_vret hx hb hr hlk hP hS dX7_number_71
set_option maxHeartbeats 4000000 in
set_option maxRecDepth 100000 in
theorem w_X7_number_4 {N : nb_M} {M' : nb_M} (had : nb_AD ad b0) (X : nb_X p s m args meth c cX7_number 3 RX7 none wsX7_number D ca b0) : ∀ (n : Nat) (M : nb_M) (x1 : Int32) (x2 : Int32), f_X7_number_4 n M x1 x2 = some (M') → ∀ (H : Heap) (locs : List Loc), va_P D vwCl (nb_w ad ca N M) H → va_S (fun q => b0 ≤ q) s.heap H locs → ∀ ls : Array Slot, lv_has ls 3 [(0, .ref (ad 52)), (1, .int x1), (2, .int x2)] → W p l e (nb_R 1) s m args below meth c H locs 0 0 (nb_Q below args s D ad ca b0 none N M') (F0 m 4 ls []) := by
  obtain ⟨hx, hb, hml, hown, hts, hr, hlk, hK, hZ⟩ := id X
  have w_1 := hts (.fieldLink RX7 123 "NineBreakagesModel" "here" "I") (by decide +kernel)
  have in7 : ∀ w ∈ u_ws RX7 TX7 21, w ∈ wsX7_number := fun w q => List.mem_cons_of_mem _ (List.mem_append_right _ q)
  intro n
  induction n with
  | zero =>
    intro M x1 x2 h
    rw [f_X7_number_4] at h
    cases h
  | succ n ih =>
    intro M x1 x2 h H locs hP hS ls hl
    rw [f_X7_number_4] at h
    refine lv_iload_n hx hb dX7_number_4 rfl (lv_at hl 2 rfl) ?_
    refine lv_iconst (v := (4 : Int32)) hx hb dX7_number_5 (by decide) ?_
    refine lv_icmp_ge (tgt := 52) hx hb dX7_number_6 (by decide) (fun c_1 => ?_) (fun c_1 => ?_)
    · have h := nb_t c_1 h
      exact w_X7_number_52 had X _ _ _ h _ _ hP hS _ (lv_sub hl [0, 1, 2] rfl)
    · have h := nb_f c_1 h
      refine lv_aload_n hx hb dX7_number_9 rfl (lv_at hl 0 rfl) ?_
      obtain ⟨r_7, e_7, h⟩ := nb_oE h
      refine nb_callV (n := 0) (As := []) (rest := []) hx hb hml hown hts hK hZ hP hS (k_X7_look had M N e_7) gX7_number_X7_look rfl (by decide +kernel) (nb_rm (Nat.le_of_ble_eq_true rfl) (Nat.le_of_ble_eq_true rfl)) nb_a52 rfl rfl rfl hl.1 rfl (Nat.le_of_ble_eq_true rfl) dX7_number_10 (fun H locs hP hS => ?_)
      refine W.eq (g2 := F0 m 13 ls [.int r_7]) rfl ?_
      refine lv_bipush (v := (48 : Int32)) hx hb dX7_number_13 (by decide) ?_
      refine lv_bipush (v := (57 : Int32)) hx hb dX7_number_15 (by decide) ?_
      refine nb_callS (n := 3) (As := [.int r_7, .int (48 : Int32), .int (57 : Int32)]) (rest := []) hx hb hml hown hts hK hZ hP hS (k_X7_in had M N r_7 (48 : Int32) (57 : Int32)) gX7_number_X7_in rfl (by decide +kernel) (nb_rm (Nat.le_of_ble_eq_true rfl) (Nat.le_of_ble_eq_true rfl)) rfl hl.1 rfl (Nat.le_of_ble_eq_true rfl) dX7_number_17 (fun H locs hP hS => ?_)
      refine W.eq (g2 := F0 m 20 ls [.int (f_X7_in r_7 (48 : Int32) (57 : Int32))]) rfl ?_
      refine lv_if_eq (tgt := 52) hx hb dX7_number_20 (by decide) (fun c_9 => ?_) (fun c_9 => ?_)
      · have h := nb_t c_9 h
        exact w_X7_number_52 had X _ _ _ h _ _ hP hS _ (lv_sub hl [0, 1, 2] rfl)
      · have h := nb_f c_9 h
        refine lv_bipush (v := (10 : Int32)) hx hb dX7_number_23 (by decide) ?_
        refine lv_iload_n hx hb dX7_number_25 rfl (lv_at hl 1 rfl) ?_
        refine lv_imul hx hb dX7_number_26 ?_
        refine lv_aload_n hx hb dX7_number_27 rfl (lv_at hl 0 rfl) ?_
        obtain ⟨r_10, e_10, h⟩ := nb_oE h
        refine nb_callV (n := 0) (As := []) (rest := [.int ((10 : Int32) * x1)]) hx hb hml hown hts hK hZ hP hS (k_X7_look had M N e_10) gX7_number_X7_look rfl (by decide +kernel) (nb_rm (Nat.le_of_ble_eq_true rfl) (Nat.le_of_ble_eq_true rfl)) nb_a52 rfl rfl rfl hl.1 rfl (Nat.le_of_ble_eq_true rfl) dX7_number_28 (fun H locs hP hS => ?_)
        refine W.eq (g2 := F0 m 31 ls [.int r_10, .int ((10 : Int32) * x1)]) rfl ?_
        refine lv_iadd hx hb dX7_number_31 ?_
        refine lv_bipush (v := (48 : Int32)) hx hb dX7_number_32 (by decide) ?_
        refine lv_isub hx hb dX7_number_34 ?_
        refine lv_topi (fun v_11 e_11 => ?_)
        have h := nb_nA e_11 h
        refine lv_istore_n (lv' := [(1, .int v_11), (0, .ref (ad 52)), (2, .int x2)]) hx hb dX7_number_35 rfl hl (by decide) rfl (fun ls hl => ?_)
        refine lv_aload_n hx hb dX7_number_36 rfl (lv_at hl 1 rfl) ?_
        refine lv_dup hx hb dX7_number_37 rfl ?_
        refine va_get (v := .int (M.1 0 12)) (C := RX7) (T := TX7) (N := 21) hx hb hts in7 hown hK.1 hP 52 nb_a52 rfl 12 (by decide) w_1 (fun _ h9 => h9) rfl dX7_number_38 ?_
        refine lv_iconst (v := (1 : Int32)) hx hb dX7_number_41 (by decide) ?_
        refine lv_iadd hx hb dX7_number_42 ?_
        refine nb_put (C := RX7) (T := TX7) (NN := 21) hx hb had hts in7 tyX7 tyX7_ok nmX7 hown hK hP hS nb_a52 rfl 12 (by decide) w_1 rfl (ty := .int) (by decide +kernel) rfl rfl (Nat.le_of_ble_eq_true rfl) (nb_p52_12 _) dX7_number_43 (fun H locs hP hS => ?_)
        obtain ⟨M_12, e_12, h⟩ := nb_nE h
        rw [e_12] at hP
        refine lv_iinc (v := x2 + 1) (lv' := [(2, .int (x2 + 1)), (1, .int v_11), (0, .ref (ad 52))]) hx hb dX7_number_46 hl (k := 2) rfl (congrArg (HAdd.hAdd x2) (by decide)) (by decide) rfl (fun ls hl => ?_)
        refine lv_goto (tgt := 4) hx hb dX7_number_49 (by decide) ?_
        exact ih _ _ _ h _ _ hP hS _ (lv_sub hl [2, 1, 0] rfl)
set_option maxHeartbeats 4000000 in
set_option maxRecDepth 100000 in
theorem k_X7_number {M' : nb_M} (had : nb_AD ad b0) (M N : nb_M) (h : f_X7_number M = some (M')) : nb_C l D ad ca b0 yX7_number wsX7_number 1 [.ref (ad 52)] N M none N M' := by
  refine nb_of (cc := cX7_number) (maxL := 3) (ret := none) (own := RX7) (by decide +kernel) rfl rfl (Nat.le_of_ble_eq_true rfl) ?_
  intro p e s m args below meth c ls X hP hS hl
  have hl : lv_has ls 3 [(0, .ref (ad 52))] := hl
  obtain ⟨hx, hb, hml, hown, hts, hr, hlk, hK, hZ⟩ := id X
  unfold f_X7_number at h
  refine lv_iconst (v := (0 : Int32)) hx hb dX7_number_0 (by decide) ?_
  refine lv_istore_n (lv' := [(1, .int (0 : Int32)), (0, .ref (ad 52))]) hx hb dX7_number_1 rfl hl (by decide) rfl (fun ls hl => ?_)
  refine lv_iconst (v := (0 : Int32)) hx hb dX7_number_2 (by decide) ?_
  refine lv_istore_n (lv' := [(2, .int (0 : Int32)), (1, .int (0 : Int32)), (0, .ref (ad 52))]) hx hb dX7_number_3 rfl hl (by decide) rfl (fun ls hl => ?_)
  exact w_X7_number_4 had X nb_F _ _ _ h _ _ hP hS _ (lv_sub hl [2, 1, 0] rfl)
def g_MP (l : Launch) (D : va_G) (ad : Nat → Nat) (ca : Nat → ClassId) (b0 d s : Nat) (a : Int32) (M N : nb_M) (M' : nb_M) : Prop :=
  if s = 0 then nb_C l D ad ca b0 yX7_any wsX7_any (d + 2) [.ref (ad 52)] N M none N M'
  else if s = 1 then nb_C l D ad ca b0 yX7_all wsX7_all (d + 2) [.ref (ad 52)] N M none N M'
  else if s = 2 then nb_C l D ad ca b0 yX7_compares wsX7_compares (d + 2) [.ref (ad 52)] N M none N M'
  else if s = 3 then nb_C l D ad ca b0 yX7_sum wsX7_sum (d + 2) [.ref (ad 52)] N M none N M'
  else if s = 4 then nb_C l D ad ca b0 yX7_times wsX7_times (d + 2) [.ref (ad 52)] N M none N M'
  else if s = 5 then nb_C l D ad ca b0 yX7_one wsX7_one (d + 2) [.ref (ad 52)] N M none N M'
  else if s = 6 then nb_C l D ad ca b0 yX7_opens wsX7_opens (d + 2) [.ref (ad 52), .int a] N M none N M'
  else True
theorem g_MP_0 {d : Nat} {a : Int32} {M N : nb_M} {M' : nb_M} (h : g_MP l D ad ca b0 d 0 a M N M') : nb_C l D ad ca b0 yX7_any wsX7_any (d + 2) [.ref (ad 52)] N M none N M' := h
theorem g_MP_1 {d : Nat} {a : Int32} {M N : nb_M} {M' : nb_M} (h : g_MP l D ad ca b0 d 1 a M N M') : nb_C l D ad ca b0 yX7_all wsX7_all (d + 2) [.ref (ad 52)] N M none N M' := h
theorem g_MP_2 {d : Nat} {a : Int32} {M N : nb_M} {M' : nb_M} (h : g_MP l D ad ca b0 d 2 a M N M') : nb_C l D ad ca b0 yX7_compares wsX7_compares (d + 2) [.ref (ad 52)] N M none N M' := h
theorem g_MP_3 {d : Nat} {a : Int32} {M N : nb_M} {M' : nb_M} (h : g_MP l D ad ca b0 d 3 a M N M') : nb_C l D ad ca b0 yX7_sum wsX7_sum (d + 2) [.ref (ad 52)] N M none N M' := h
theorem g_MP_4 {d : Nat} {a : Int32} {M N : nb_M} {M' : nb_M} (h : g_MP l D ad ca b0 d 4 a M N M') : nb_C l D ad ca b0 yX7_times wsX7_times (d + 2) [.ref (ad 52)] N M none N M' := h
theorem g_MP_5 {d : Nat} {a : Int32} {M N : nb_M} {M' : nb_M} (h : g_MP l D ad ca b0 d 5 a M N M') : nb_C l D ad ca b0 yX7_one wsX7_one (d + 2) [.ref (ad 52)] N M none N M' := h
theorem g_MP_6 {d : Nat} {a : Int32} {M N : nb_M} {M' : nb_M} (h : g_MP l D ad ca b0 d 6 a M N M') : nb_C l D ad ca b0 yX7_opens wsX7_opens (d + 2) [.ref (ad 52), .int a] N M none N M' := h
set_option maxHeartbeats 4000000 in
set_option maxRecDepth 100000 in
theorem w_X7_any_4 {d : Nat} {N : nb_M} {M' : nb_M} (had : nb_AD ad b0) (X : nb_X p s m args meth c cX7_any 1 RX7 none wsX7_any D ca b0) (rc : Nat → nb_M → Int32 → Option nb_M) (hrc : ∀ (s : Nat) (M : nb_M) (a : Int32) (M' : nb_M), rc s M a = some M' → ∀ N : nb_M, g_MP l D ad ca b0 d s a M N M') : ∀ (n : Nat) (M : nb_M), f_X7_any_4 rc n M = some (M') → ∀ (H : Heap) (locs : List Loc), va_P D vwCl (nb_w ad ca N M) H → va_S (fun q => b0 ≤ q) s.heap H locs → ∀ ls : Array Slot, lv_has ls 1 [(0, .ref (ad 52))] → W p l e (nb_R (d + 3)) s m args below meth c H locs 0 0 (nb_Q below args s D ad ca b0 none N M') (F0 m 4 ls []) := by
  obtain ⟨hx, hb, hml, hown, hts, hr, hlk, hK, hZ⟩ := id X
  have w_1 := hts (.fieldLink RX7 136 "NineBreakagesModel" "bad" "Z") (by decide +kernel)
  have in7 : ∀ w ∈ u_ws RX7 TX7 21, w ∈ wsX7_any := fun w q => List.mem_cons_of_mem _ (List.mem_append_right _ q)
  have w_3 := hts (.fieldLink RX7 123 "NineBreakagesModel" "here" "I") (by decide +kernel)
  intro n
  induction n with
  | zero =>
    intro M  h
    rw [f_X7_any_4] at h
    cases h
  | succ n ih =>
    intro M h H locs hP hS ls hl
    rw [f_X7_any_4] at h
    refine lv_aload_n hx hb dX7_any_4 rfl (lv_at hl 0 rfl) ?_
    refine va_get (v := .int (M.1 0 14)) (C := RX7) (T := TX7) (N := 21) hx hb hts in7 hown hK.1 hP 52 nb_a52 rfl 14 (by decide) w_1 (fun _ h9 => h9) rfl dX7_any_5 ?_
    refine lv_if_ne (tgt := 44) hx hb dX7_any_8 (by decide) (fun c_2 => ?_) (fun c_2 => ?_)
    · have h := nb_f c_2 h
      obtain rfl := nb_e1 h
      exact nb_vret hx hb hr hlk hP hS dX7_any_44
    · have h := nb_t c_2 h
      refine lv_aload_n hx hb dX7_any_11 rfl (lv_at hl 0 rfl) ?_
      obtain ⟨r_3, e_3, h⟩ := nb_oE h
      refine nb_callV (n := 0) (As := []) (rest := []) hx hb hml hown hts hK hZ hP hS (k_X7_look had M N e_3) gX7_any_X7_look rfl (by decide +kernel) (nb_rm (by omega) (Nat.le_of_ble_eq_true rfl)) nb_a52 rfl rfl rfl hl.1 rfl (Nat.le_of_ble_eq_true rfl) dX7_any_12 (fun H locs hP hS => ?_)
      refine W.eq (g2 := F0 m 15 ls [.int r_3]) rfl ?_
      refine lv_bipush (v := (124 : Int32)) hx hb dX7_any_15 (by decide) ?_
      refine lv_icmp_ne (tgt := 44) hx hb dX7_any_17 (by decide) (fun c_4 => ?_) (fun c_4 => ?_)
      · have h := nb_f c_4 h
        obtain rfl := nb_e1 h
        exact nb_vret hx hb hr hlk hP hS dX7_any_44
      · have h := nb_t c_4 h
        refine lv_aload_n hx hb dX7_any_20 rfl (lv_at hl 0 rfl) ?_
        refine lv_dup hx hb dX7_any_21 rfl ?_
        refine va_get (v := .int (M.1 0 12)) (C := RX7) (T := TX7) (N := 21) hx hb hts in7 hown hK.1 hP 52 nb_a52 rfl 12 (by decide) w_3 (fun _ h9 => h9) rfl dX7_any_22 ?_
        refine lv_iconst (v := (1 : Int32)) hx hb dX7_any_25 (by decide) ?_
        refine lv_iadd hx hb dX7_any_26 ?_
        refine nb_put (C := RX7) (T := TX7) (NN := 21) hx hb had hts in7 tyX7 tyX7_ok nmX7 hown hK hP hS nb_a52 rfl 12 (by decide) w_3 rfl (ty := .int) (by decide +kernel) rfl rfl (Nat.le_of_ble_eq_true rfl) (nb_p52_12 _) dX7_any_27 (fun H locs hP hS => ?_)
        obtain ⟨M_5, e_5, h⟩ := nb_nE h
        rw [e_5] at hP
        refine lv_aload_n hx hb dX7_any_30 rfl (lv_at hl 0 rfl) ?_
        obtain ⟨M_6, e_6, h⟩ := nb_oE h
        refine nb_callV (n := 0) (As := []) (rest := []) hx hb hml hown hts hK hZ hP hS (g_MP_1 (hrc 1 _ 0 _ e_6 N)) gX7_any_X7_all rfl (by decide +kernel) (nb_rm (by omega) (Nat.le_of_ble_eq_true rfl)) nb_a52 rfl rfl rfl hl.1 rfl (Nat.le_of_ble_eq_true rfl) dX7_any_31 (fun H locs hP hS => ?_)
        refine W.eq (g2 := F0 m 34 ls []) rfl ?_
        refine lv_aload_n hx hb dX7_any_34 rfl (lv_at hl 0 rfl) ?_
        refine lv_bipush (v := (124 : Int32)) hx hb dX7_any_35 (by decide) ?_
        refine lv_iconst (v := (0 : Int32)) hx hb dX7_any_37 (by decide) ?_
        obtain ⟨M_7, e_7, h⟩ := nb_oE h
        refine nb_callV (n := 2) (As := [.int (124 : Int32), .int (0 : Int32)]) (rest := []) hx hb hml hown hts hK hZ hP hS (k_X7_lays had M_6 N (124 : Int32) (0 : Int32) e_7) gX7_any_X7_lays rfl (by decide +kernel) (nb_rm (by omega) (Nat.le_of_ble_eq_true rfl)) nb_a52 rfl rfl rfl hl.1 rfl (Nat.le_of_ble_eq_true rfl) dX7_any_38 (fun H locs hP hS => ?_)
        refine W.eq (g2 := F0 m 41 ls []) rfl ?_
        refine lv_goto (tgt := 4) hx hb dX7_any_41 (by decide) ?_
        exact ih _  h _ _ hP hS _ (lv_sub hl [0] rfl)
set_option maxHeartbeats 4000000 in
set_option maxRecDepth 100000 in
theorem k_X7_any {d : Nat} {M' : nb_M} (had : nb_AD ad b0) (rc : Nat → nb_M → Int32 → Option nb_M) (hrc : ∀ (s : Nat) (M : nb_M) (a : Int32) (M' : nb_M), rc s M a = some M' → ∀ N : nb_M, g_MP l D ad ca b0 d s a M N M') (M N : nb_M) (h : f_X7_any rc M = some (M')) : nb_C l D ad ca b0 yX7_any wsX7_any (d + 3) [.ref (ad 52)] N M none N M' := by
  refine nb_of (cc := cX7_any) (maxL := 1) (ret := none) (own := RX7) (by decide +kernel) rfl rfl (Nat.le_of_ble_eq_true rfl) ?_
  intro p e s m args below meth c ls X hP hS hl
  have hl : lv_has ls 1 [(0, .ref (ad 52))] := hl
  obtain ⟨hx, hb, hml, hown, hts, hr, hlk, hK, hZ⟩ := id X
  unfold f_X7_any at h
  refine lv_aload_n hx hb dX7_any_0 rfl (lv_at hl 0 rfl) ?_
  obtain ⟨M_1, e_1, h⟩ := nb_oE h
  refine nb_callV (n := 0) (As := []) (rest := []) hx hb hml hown hts hK hZ hP hS (g_MP_1 (hrc 1 _ 0 _ e_1 N)) gX7_any_X7_all rfl (by decide +kernel) (nb_rm (by omega) (Nat.le_of_ble_eq_true rfl)) nb_a52 rfl rfl rfl hl.1 rfl (Nat.le_of_ble_eq_true rfl) dX7_any_1 (fun H locs hP hS => ?_)
  refine W.eq (g2 := F0 m 4 ls []) rfl ?_
  exact w_X7_any_4 had X rc hrc nb_F _  h _ _ hP hS _ (lv_sub hl [0] rfl)
set_option maxHeartbeats 4000000 in
set_option maxRecDepth 100000 in
theorem w_X7_all_4 {d : Nat} {N : nb_M} {M' : nb_M} (had : nb_AD ad b0) (X : nb_X p s m args meth c cX7_all 1 RX7 none wsX7_all D ca b0) (rc : Nat → nb_M → Int32 → Option nb_M) (hrc : ∀ (s : Nat) (M : nb_M) (a : Int32) (M' : nb_M), rc s M a = some M' → ∀ N : nb_M, g_MP l D ad ca b0 d s a M N M') : ∀ (n : Nat) (M : nb_M), f_X7_all_4 rc n M = some (M') → ∀ (H : Heap) (locs : List Loc), va_P D vwCl (nb_w ad ca N M) H → va_S (fun q => b0 ≤ q) s.heap H locs → ∀ ls : Array Slot, lv_has ls 1 [(0, .ref (ad 52))] → W p l e (nb_R (d + 3)) s m args below meth c H locs 0 0 (nb_Q below args s D ad ca b0 none N M') (F0 m 4 ls []) := by
  obtain ⟨hx, hb, hml, hown, hts, hr, hlk, hK, hZ⟩ := id X
  have w_1 := hts (.fieldLink RX7 136 "NineBreakagesModel" "bad" "Z") (by decide +kernel)
  have in7 : ∀ w ∈ u_ws RX7 TX7 21, w ∈ wsX7_all := fun w q => List.mem_cons_of_mem _ (List.mem_append_right _ q)
  have w_3 := hts (.fieldLink RX7 123 "NineBreakagesModel" "here" "I") (by decide +kernel)
  intro n
  induction n with
  | zero =>
    intro M  h
    rw [f_X7_all_4] at h
    cases h
  | succ n ih =>
    intro M h H locs hP hS ls hl
    rw [f_X7_all_4] at h
    refine lv_aload_n hx hb dX7_all_4 rfl (lv_at hl 0 rfl) ?_
    refine va_get (v := .int (M.1 0 14)) (C := RX7) (T := TX7) (N := 21) hx hb hts in7 hown hK.1 hP 52 nb_a52 rfl 14 (by decide) w_1 (fun _ h9 => h9) rfl dX7_all_5 ?_
    refine lv_if_ne (tgt := 44) hx hb dX7_all_8 (by decide) (fun c_2 => ?_) (fun c_2 => ?_)
    · have h := nb_f c_2 h
      obtain rfl := nb_e1 h
      exact nb_vret hx hb hr hlk hP hS dX7_all_44
    · have h := nb_t c_2 h
      refine lv_aload_n hx hb dX7_all_11 rfl (lv_at hl 0 rfl) ?_
      obtain ⟨r_3, e_3, h⟩ := nb_oE h
      refine nb_callV (n := 0) (As := []) (rest := []) hx hb hml hown hts hK hZ hP hS (k_X7_look had M N e_3) gX7_all_X7_look rfl (by decide +kernel) (nb_rm (by omega) (Nat.le_of_ble_eq_true rfl)) nb_a52 rfl rfl rfl hl.1 rfl (Nat.le_of_ble_eq_true rfl) dX7_all_12 (fun H locs hP hS => ?_)
      refine W.eq (g2 := F0 m 15 ls [.int r_3]) rfl ?_
      refine lv_bipush (v := (38 : Int32)) hx hb dX7_all_15 (by decide) ?_
      refine lv_icmp_ne (tgt := 44) hx hb dX7_all_17 (by decide) (fun c_4 => ?_) (fun c_4 => ?_)
      · have h := nb_f c_4 h
        obtain rfl := nb_e1 h
        exact nb_vret hx hb hr hlk hP hS dX7_all_44
      · have h := nb_t c_4 h
        refine lv_aload_n hx hb dX7_all_20 rfl (lv_at hl 0 rfl) ?_
        refine lv_dup hx hb dX7_all_21 rfl ?_
        refine va_get (v := .int (M.1 0 12)) (C := RX7) (T := TX7) (N := 21) hx hb hts in7 hown hK.1 hP 52 nb_a52 rfl 12 (by decide) w_3 (fun _ h9 => h9) rfl dX7_all_22 ?_
        refine lv_iconst (v := (1 : Int32)) hx hb dX7_all_25 (by decide) ?_
        refine lv_iadd hx hb dX7_all_26 ?_
        refine nb_put (C := RX7) (T := TX7) (NN := 21) hx hb had hts in7 tyX7 tyX7_ok nmX7 hown hK hP hS nb_a52 rfl 12 (by decide) w_3 rfl (ty := .int) (by decide +kernel) rfl rfl (Nat.le_of_ble_eq_true rfl) (nb_p52_12 _) dX7_all_27 (fun H locs hP hS => ?_)
        obtain ⟨M_5, e_5, h⟩ := nb_nE h
        rw [e_5] at hP
        refine lv_aload_n hx hb dX7_all_30 rfl (lv_at hl 0 rfl) ?_
        obtain ⟨M_6, e_6, h⟩ := nb_oE h
        refine nb_callV (n := 0) (As := []) (rest := []) hx hb hml hown hts hK hZ hP hS (g_MP_2 (hrc 2 _ 0 _ e_6 N)) gX7_all_X7_compares rfl (by decide +kernel) (nb_rm (by omega) (Nat.le_of_ble_eq_true rfl)) nb_a52 rfl rfl rfl hl.1 rfl (Nat.le_of_ble_eq_true rfl) dX7_all_31 (fun H locs hP hS => ?_)
        refine W.eq (g2 := F0 m 34 ls []) rfl ?_
        refine lv_aload_n hx hb dX7_all_34 rfl (lv_at hl 0 rfl) ?_
        refine lv_bipush (v := (38 : Int32)) hx hb dX7_all_35 (by decide) ?_
        refine lv_iconst (v := (0 : Int32)) hx hb dX7_all_37 (by decide) ?_
        obtain ⟨M_7, e_7, h⟩ := nb_oE h
        refine nb_callV (n := 2) (As := [.int (38 : Int32), .int (0 : Int32)]) (rest := []) hx hb hml hown hts hK hZ hP hS (k_X7_lays had M_6 N (38 : Int32) (0 : Int32) e_7) gX7_all_X7_lays rfl (by decide +kernel) (nb_rm (by omega) (Nat.le_of_ble_eq_true rfl)) nb_a52 rfl rfl rfl hl.1 rfl (Nat.le_of_ble_eq_true rfl) dX7_all_38 (fun H locs hP hS => ?_)
        refine W.eq (g2 := F0 m 41 ls []) rfl ?_
        refine lv_goto (tgt := 4) hx hb dX7_all_41 (by decide) ?_
        exact ih _  h _ _ hP hS _ (lv_sub hl [0] rfl)
set_option maxHeartbeats 4000000 in
set_option maxRecDepth 100000 in
theorem k_X7_all {d : Nat} {M' : nb_M} (had : nb_AD ad b0) (rc : Nat → nb_M → Int32 → Option nb_M) (hrc : ∀ (s : Nat) (M : nb_M) (a : Int32) (M' : nb_M), rc s M a = some M' → ∀ N : nb_M, g_MP l D ad ca b0 d s a M N M') (M N : nb_M) (h : f_X7_all rc M = some (M')) : nb_C l D ad ca b0 yX7_all wsX7_all (d + 3) [.ref (ad 52)] N M none N M' := by
  refine nb_of (cc := cX7_all) (maxL := 1) (ret := none) (own := RX7) (by decide +kernel) rfl rfl (Nat.le_of_ble_eq_true rfl) ?_
  intro p e s m args below meth c ls X hP hS hl
  have hl : lv_has ls 1 [(0, .ref (ad 52))] := hl
  obtain ⟨hx, hb, hml, hown, hts, hr, hlk, hK, hZ⟩ := id X
  unfold f_X7_all at h
  refine lv_aload_n hx hb dX7_all_0 rfl (lv_at hl 0 rfl) ?_
  obtain ⟨M_1, e_1, h⟩ := nb_oE h
  refine nb_callV (n := 0) (As := []) (rest := []) hx hb hml hown hts hK hZ hP hS (g_MP_2 (hrc 2 _ 0 _ e_1 N)) gX7_all_X7_compares rfl (by decide +kernel) (nb_rm (by omega) (Nat.le_of_ble_eq_true rfl)) nb_a52 rfl rfl rfl hl.1 rfl (Nat.le_of_ble_eq_true rfl) dX7_all_1 (fun H locs hP hS => ?_)
  refine W.eq (g2 := F0 m 4 ls []) rfl ?_
  exact w_X7_all_4 had X rc hrc nb_F _  h _ _ hP hS _ (lv_sub hl [0] rfl)
set_option maxHeartbeats 4000000 in
set_option maxRecDepth 100000 in
theorem w_X7_compares_34 {d : Nat} {N : nb_M} {M' : nb_M} (had : nb_AD ad b0) (X : nb_X p s m args meth c cX7_compares 2 RX7 none wsX7_compares D ca b0) (rc : Nat → nb_M → Int32 → Option nb_M) (hrc : ∀ (s : Nat) (M : nb_M) (a : Int32) (M' : nb_M), rc s M a = some M' → ∀ N : nb_M, g_MP l D ad ca b0 d s a M N M') : ∀ (M : nb_M) (x1 : Int32), f_X7_compares_34 rc M x1 = some (M') → ∀ (H : Heap) (locs : List Loc), va_P D vwCl (nb_w ad ca N M) H → va_S (fun q => b0 ≤ q) s.heap H locs → ∀ ls : Array Slot, lv_has ls 2 [(0, .ref (ad 52)), (1, .int x1)] → W p l e (nb_R (d + 3)) s m args below meth c H locs 0 0 (nb_Q below args s D ad ca b0 none N M') (F0 m 34 ls []) := by
  obtain ⟨hx, hb, hml, hown, hts, hr, hlk, hK, hZ⟩ := id X
  have w_1 := hts (.fieldLink RX7 123 "NineBreakagesModel" "here" "I") (by decide +kernel)
  have in7 : ∀ w ∈ u_ws RX7 TX7 21, w ∈ wsX7_compares := fun w q => List.mem_cons_of_mem _ (List.mem_append_right _ q)
  intro M x1 h H locs hP hS ls hl
  unfold f_X7_compares_34 at h
  refine lv_aload_n hx hb dX7_compares_34 rfl (lv_at hl 0 rfl) ?_
  refine lv_dup hx hb dX7_compares_35 rfl ?_
  refine va_get (v := .int (M.1 0 12)) (C := RX7) (T := TX7) (N := 21) hx hb hts in7 hown hK.1 hP 52 nb_a52 rfl 12 (by decide) w_1 (fun _ h9 => h9) rfl dX7_compares_36 ?_
  refine lv_iconst (v := (1 : Int32)) hx hb dX7_compares_39 (by decide) ?_
  refine lv_iadd hx hb dX7_compares_40 ?_
  refine nb_put (C := RX7) (T := TX7) (NN := 21) hx hb had hts in7 tyX7 tyX7_ok nmX7 hown hK hP hS nb_a52 rfl 12 (by decide) w_1 rfl (ty := .int) (by decide +kernel) rfl rfl (Nat.le_of_ble_eq_true rfl) (nb_p52_12 _) dX7_compares_41 (fun H locs hP hS => ?_)
  obtain ⟨M_5, e_5, h⟩ := nb_nE h
  rw [e_5] at hP
  refine lv_aload_n hx hb dX7_compares_44 rfl (lv_at hl 0 rfl) ?_
  obtain ⟨M_6, e_6, h⟩ := nb_oE h
  refine nb_callV (n := 0) (As := []) (rest := []) hx hb hml hown hts hK hZ hP hS (g_MP_3 (hrc 3 _ 0 _ e_6 N)) gX7_compares_X7_sum rfl (by decide +kernel) (nb_rm (by omega) (Nat.le_of_ble_eq_true rfl)) nb_a52 rfl rfl rfl hl.1 rfl (Nat.le_of_ble_eq_true rfl) dX7_compares_45 (fun H locs hP hS => ?_)
  refine W.eq (g2 := F0 m 48 ls []) rfl ?_
  refine lv_aload_n hx hb dX7_compares_48 rfl (lv_at hl 0 rfl) ?_
  refine lv_iload_n hx hb dX7_compares_49 rfl (lv_at hl 1 rfl) ?_
  refine lv_iconst (v := (0 : Int32)) hx hb dX7_compares_50 (by decide) ?_
  obtain ⟨M_7, e_7, h⟩ := nb_oE h
  refine nb_callV (n := 2) (As := [.int x1, .int (0 : Int32)]) (rest := []) hx hb hml hown hts hK hZ hP hS (k_X7_lays had M_6 N x1 (0 : Int32) e_7) gX7_compares_X7_lays rfl (by decide +kernel) (nb_rm (by omega) (Nat.le_of_ble_eq_true rfl)) nb_a52 rfl rfl rfl hl.1 rfl (Nat.le_of_ble_eq_true rfl) dX7_compares_51 (fun H locs hP hS => ?_)
  refine W.eq (g2 := F0 m 54 ls []) rfl ?_
  obtain rfl := nb_e1 h
  exact nb_vret hx hb hr hlk hP hS dX7_compares_54
set_option maxHeartbeats 4000000 in
set_option maxRecDepth 100000 in
theorem k_X7_compares {d : Nat} {M' : nb_M} (had : nb_AD ad b0) (rc : Nat → nb_M → Int32 → Option nb_M) (hrc : ∀ (s : Nat) (M : nb_M) (a : Int32) (M' : nb_M), rc s M a = some M' → ∀ N : nb_M, g_MP l D ad ca b0 d s a M N M') (M N : nb_M) (h : f_X7_compares rc M = some (M')) : nb_C l D ad ca b0 yX7_compares wsX7_compares (d + 3) [.ref (ad 52)] N M none N M' := by
  refine nb_of (cc := cX7_compares) (maxL := 2) (ret := none) (own := RX7) (by decide +kernel) rfl rfl (Nat.le_of_ble_eq_true rfl) ?_
  intro p e s m args below meth c ls X hP hS hl
  have hl : lv_has ls 2 [(0, .ref (ad 52))] := hl
  obtain ⟨hx, hb, hml, hown, hts, hr, hlk, hK, hZ⟩ := id X
  have w_1 := hts (.fieldLink RX7 136 "NineBreakagesModel" "bad" "Z") (by decide +kernel)
  have in7 : ∀ w ∈ u_ws RX7 TX7 21, w ∈ wsX7_compares := fun w q => List.mem_cons_of_mem _ (List.mem_append_right _ q)
  unfold f_X7_compares at h
  refine lv_aload_n hx hb dX7_compares_0 rfl (lv_at hl 0 rfl) ?_
  obtain ⟨M_1, e_1, h⟩ := nb_oE h
  refine nb_callV (n := 0) (As := []) (rest := []) hx hb hml hown hts hK hZ hP hS (g_MP_3 (hrc 3 _ 0 _ e_1 N)) gX7_compares_X7_sum rfl (by decide +kernel) (nb_rm (by omega) (Nat.le_of_ble_eq_true rfl)) nb_a52 rfl rfl rfl hl.1 rfl (Nat.le_of_ble_eq_true rfl) dX7_compares_1 (fun H locs hP hS => ?_)
  refine W.eq (g2 := F0 m 4 ls []) rfl ?_
  refine lv_aload_n hx hb dX7_compares_4 rfl (lv_at hl 0 rfl) ?_
  obtain ⟨r_2, e_2, h⟩ := nb_oE h
  refine nb_callV (n := 0) (As := []) (rest := []) hx hb hml hown hts hK hZ hP hS (k_X7_look had M_1 N e_2) gX7_compares_X7_look rfl (by decide +kernel) (nb_rm (by omega) (Nat.le_of_ble_eq_true rfl)) nb_a52 rfl rfl rfl hl.1 rfl (Nat.le_of_ble_eq_true rfl) dX7_compares_5 (fun H locs hP hS => ?_)
  refine W.eq (g2 := F0 m 8 ls [.int r_2]) rfl ?_
  refine lv_istore_n (lv' := [(1, .int r_2), (0, .ref (ad 52))]) hx hb dX7_compares_8 rfl hl (by decide) rfl (fun ls hl => ?_)
  refine lv_aload_n hx hb dX7_compares_9 rfl (lv_at hl 1 rfl) ?_
  refine va_get (v := .int (M_1.1 0 14)) (C := RX7) (T := TX7) (N := 21) hx hb hts in7 hown hK.1 hP 52 nb_a52 rfl 14 (by decide) w_1 (fun _ h9 => h9) rfl dX7_compares_10 ?_
  refine lv_if_ne (tgt := 54) hx hb dX7_compares_13 (by decide) (fun c_3 => ?_) (fun c_3 => ?_)
  · have h := nb_f c_3 h
    obtain rfl := nb_e1 h
    exact nb_vret hx hb hr hlk hP hS dX7_compares_54
  · have h := nb_t c_3 h
    refine lv_iload_n hx hb dX7_compares_16 rfl (lv_at hl 0 rfl) ?_
    refine lv_bipush (v := (60 : Int32)) hx hb dX7_compares_17 (by decide) ?_
    refine lv_icmp_eq (tgt := 34) hx hb dX7_compares_19 (by decide) (fun c_4 => ?_) (fun c_4 => ?_)
    · have h := nb_t c_4 h
      exact w_X7_compares_34 had X rc hrc _ _ h _ _ hP hS _ (lv_sub hl [1, 0] rfl)
    · have h := nb_f c_4 h
      refine lv_iload_n hx hb dX7_compares_22 rfl (lv_at hl 0 rfl) ?_
      refine lv_bipush (v := (61 : Int32)) hx hb dX7_compares_23 (by decide) ?_
      refine lv_icmp_eq (tgt := 34) hx hb dX7_compares_25 (by decide) (fun c_8 => ?_) (fun c_8 => ?_)
      · have h := nb_t c_8 h
        exact w_X7_compares_34 had X rc hrc _ _ h _ _ hP hS _ (lv_sub hl [1, 0] rfl)
      · have h := nb_f c_8 h
        refine lv_iload_n hx hb dX7_compares_28 rfl (lv_at hl 0 rfl) ?_
        refine lv_bipush (v := (62 : Int32)) hx hb dX7_compares_29 (by decide) ?_
        refine lv_icmp_ne (tgt := 54) hx hb dX7_compares_31 (by decide) (fun c_9 => ?_) (fun c_9 => ?_)
        · have h := nb_f c_9 h
          obtain rfl := nb_e1 h
          exact nb_vret hx hb hr hlk hP hS dX7_compares_54
        · have h := nb_t c_9 h
          exact w_X7_compares_34 had X rc hrc _ _ h _ _ hP hS _ (lv_sub hl [1, 0] rfl)
set_option maxHeartbeats 4000000 in
set_option maxRecDepth 100000 in
theorem w_X7_sum_4 {d : Nat} {N : nb_M} {M' : nb_M} (had : nb_AD ad b0) (X : nb_X p s m args meth c cX7_sum 2 RX7 none wsX7_sum D ca b0) (rc : Nat → nb_M → Int32 → Option nb_M) (hrc : ∀ (s : Nat) (M : nb_M) (a : Int32) (M' : nb_M), rc s M a = some M' → ∀ N : nb_M, g_MP l D ad ca b0 d s a M N M') : ∀ (n : Nat) (M : nb_M), f_X7_sum_4 rc n M = some (M') → ∀ (H : Heap) (locs : List Loc), va_P D vwCl (nb_w ad ca N M) H → va_S (fun q => b0 ≤ q) s.heap H locs → ∀ ls : Array Slot, lv_has ls 2 [(0, .ref (ad 52))] → W p l e (nb_R (d + 3)) s m args below meth c H locs 0 0 (nb_Q below args s D ad ca b0 none N M') (F0 m 4 ls []) := by
  obtain ⟨hx, hb, hml, hown, hts, hr, hlk, hK, hZ⟩ := id X
  have w_1 := hts (.fieldLink RX7 136 "NineBreakagesModel" "bad" "Z") (by decide +kernel)
  have in7 : ∀ w ∈ u_ws RX7 TX7 21, w ∈ wsX7_sum := fun w q => List.mem_cons_of_mem _ (List.mem_append_right _ q)
  have w_3 := hts (.fieldLink RX7 123 "NineBreakagesModel" "here" "I") (by decide +kernel)
  intro n
  induction n with
  | zero =>
    intro M  h
    rw [f_X7_sum_4] at h
    cases h
  | succ n ih =>
    intro M h H locs hP hS ls hl
    rw [f_X7_sum_4] at h
    refine lv_aload_n hx hb dX7_sum_4 rfl (lv_at hl 0 rfl) ?_
    refine va_get (v := .int (M.1 0 14)) (C := RX7) (T := TX7) (N := 21) hx hb hts in7 hown hK.1 hP 52 nb_a52 rfl 14 (by decide) w_1 (fun _ h9 => h9) rfl dX7_sum_5 ?_
    refine lv_if_ne (tgt := 57) hx hb dX7_sum_8 (by decide) (fun c_2 => ?_) (fun c_2 => ?_)
    · have h := nb_f c_2 h
      obtain rfl := nb_e1 h
      exact nb_vret hx hb hr hlk hP hS dX7_sum_57
    · have h := nb_t c_2 h
      refine lv_aload_n hx hb dX7_sum_11 rfl (lv_at hl 0 rfl) ?_
      obtain ⟨r_3, e_3, h⟩ := nb_oE h
      refine nb_callV (n := 0) (As := []) (rest := []) hx hb hml hown hts hK hZ hP hS (k_X7_look had M N e_3) gX7_sum_X7_look rfl (by decide +kernel) (nb_rm (by omega) (Nat.le_of_ble_eq_true rfl)) nb_a52 rfl rfl rfl hl.1 rfl (Nat.le_of_ble_eq_true rfl) dX7_sum_12 (fun H locs hP hS => ?_)
      refine W.eq (g2 := F0 m 15 ls [.int r_3]) rfl ?_
      refine lv_bipush (v := (43 : Int32)) hx hb dX7_sum_15 (by decide) ?_
      refine lv_icmp_eq (tgt := 29) hx hb dX7_sum_17 (by decide) (fun c_4 => ?_) (fun c_4 => ?_)
      · have h := nb_t c_4 h
        refine lv_aload_n hx hb dX7_sum_29 rfl (lv_at hl 0 rfl) ?_
        obtain ⟨r_5, e_5, h⟩ := nb_oE h
        refine nb_callV (n := 0) (As := []) (rest := []) hx hb hml hown hts hK hZ hP hS (k_X7_look had M N e_5) gX7_sum_X7_look rfl (by decide +kernel) (nb_rm (by omega) (Nat.le_of_ble_eq_true rfl)) nb_a52 rfl rfl rfl hl.1 rfl (Nat.le_of_ble_eq_true rfl) dX7_sum_30 (fun H locs hP hS => ?_)
        refine W.eq (g2 := F0 m 33 ls [.int r_5]) rfl ?_
        refine lv_istore_n (lv' := [(1, .int r_5), (0, .ref (ad 52))]) hx hb dX7_sum_33 rfl hl (by decide) rfl (fun ls hl => ?_)
        refine lv_aload_n hx hb dX7_sum_34 rfl (lv_at hl 1 rfl) ?_
        refine lv_dup hx hb dX7_sum_35 rfl ?_
        refine va_get (v := .int (M.1 0 12)) (C := RX7) (T := TX7) (N := 21) hx hb hts in7 hown hK.1 hP 52 nb_a52 rfl 12 (by decide) w_3 (fun _ h9 => h9) rfl dX7_sum_36 ?_
        refine lv_iconst (v := (1 : Int32)) hx hb dX7_sum_39 (by decide) ?_
        refine lv_iadd hx hb dX7_sum_40 ?_
        refine nb_put (C := RX7) (T := TX7) (NN := 21) hx hb had hts in7 tyX7 tyX7_ok nmX7 hown hK hP hS nb_a52 rfl 12 (by decide) w_3 rfl (ty := .int) (by decide +kernel) rfl rfl (Nat.le_of_ble_eq_true rfl) (nb_p52_12 _) dX7_sum_41 (fun H locs hP hS => ?_)
        obtain ⟨M_6, e_6, h⟩ := nb_nE h
        rw [e_6] at hP
        refine lv_aload_n hx hb dX7_sum_44 rfl (lv_at hl 1 rfl) ?_
        obtain ⟨M_7, e_7, h⟩ := nb_oE h
        refine nb_callV (n := 0) (As := []) (rest := []) hx hb hml hown hts hK hZ hP hS (g_MP_4 (hrc 4 _ 0 _ e_7 N)) gX7_sum_X7_times rfl (by decide +kernel) (nb_rm (by omega) (Nat.le_of_ble_eq_true rfl)) nb_a52 rfl rfl rfl hl.1 rfl (Nat.le_of_ble_eq_true rfl) dX7_sum_45 (fun H locs hP hS => ?_)
        refine W.eq (g2 := F0 m 48 ls []) rfl ?_
        refine lv_aload_n hx hb dX7_sum_48 rfl (lv_at hl 1 rfl) ?_
        refine lv_iload_n hx hb dX7_sum_49 rfl (lv_at hl 0 rfl) ?_
        refine lv_iconst (v := (0 : Int32)) hx hb dX7_sum_50 (by decide) ?_
        obtain ⟨M_8, e_8, h⟩ := nb_oE h
        refine nb_callV (n := 2) (As := [.int r_5, .int (0 : Int32)]) (rest := []) hx hb hml hown hts hK hZ hP hS (k_X7_lays had M_7 N r_5 (0 : Int32) e_8) gX7_sum_X7_lays rfl (by decide +kernel) (nb_rm (by omega) (Nat.le_of_ble_eq_true rfl)) nb_a52 rfl rfl rfl hl.1 rfl (Nat.le_of_ble_eq_true rfl) dX7_sum_51 (fun H locs hP hS => ?_)
        refine W.eq (g2 := F0 m 54 ls []) rfl ?_
        refine lv_goto (tgt := 4) hx hb dX7_sum_54 (by decide) ?_
        exact ih _  h _ _ hP hS _ (lv_sub hl [1] rfl)
      · have h := nb_f c_4 h
        refine lv_aload_n hx hb dX7_sum_20 rfl (lv_at hl 0 rfl) ?_
        obtain ⟨r_9, e_9, h⟩ := nb_oE h
        refine nb_callV (n := 0) (As := []) (rest := []) hx hb hml hown hts hK hZ hP hS (k_X7_look had M N e_9) gX7_sum_X7_look rfl (by decide +kernel) (nb_rm (by omega) (Nat.le_of_ble_eq_true rfl)) nb_a52 rfl rfl rfl hl.1 rfl (Nat.le_of_ble_eq_true rfl) dX7_sum_21 (fun H locs hP hS => ?_)
        refine W.eq (g2 := F0 m 24 ls [.int r_9]) rfl ?_
        refine lv_bipush (v := (45 : Int32)) hx hb dX7_sum_24 (by decide) ?_
        refine lv_icmp_ne (tgt := 57) hx hb dX7_sum_26 (by decide) (fun c_10 => ?_) (fun c_10 => ?_)
        · have h := nb_f c_10 h
          obtain rfl := nb_e1 h
          exact nb_vret hx hb hr hlk hP hS dX7_sum_57
        · have h := nb_t c_10 h
          refine lv_aload_n hx hb dX7_sum_29 rfl (lv_at hl 0 rfl) ?_
          obtain ⟨r_11, e_11, h⟩ := nb_oE h
          refine nb_callV (n := 0) (As := []) (rest := []) hx hb hml hown hts hK hZ hP hS (k_X7_look had M N e_11) gX7_sum_X7_look rfl (by decide +kernel) (nb_rm (by omega) (Nat.le_of_ble_eq_true rfl)) nb_a52 rfl rfl rfl hl.1 rfl (Nat.le_of_ble_eq_true rfl) dX7_sum_30 (fun H locs hP hS => ?_)
          refine W.eq (g2 := F0 m 33 ls [.int r_11]) rfl ?_
          refine lv_istore_n (lv' := [(1, .int r_11), (0, .ref (ad 52))]) hx hb dX7_sum_33 rfl hl (by decide) rfl (fun ls hl => ?_)
          refine lv_aload_n hx hb dX7_sum_34 rfl (lv_at hl 1 rfl) ?_
          refine lv_dup hx hb dX7_sum_35 rfl ?_
          refine va_get (v := .int (M.1 0 12)) (C := RX7) (T := TX7) (N := 21) hx hb hts in7 hown hK.1 hP 52 nb_a52 rfl 12 (by decide) w_3 (fun _ h9 => h9) rfl dX7_sum_36 ?_
          refine lv_iconst (v := (1 : Int32)) hx hb dX7_sum_39 (by decide) ?_
          refine lv_iadd hx hb dX7_sum_40 ?_
          refine nb_put (C := RX7) (T := TX7) (NN := 21) hx hb had hts in7 tyX7 tyX7_ok nmX7 hown hK hP hS nb_a52 rfl 12 (by decide) w_3 rfl (ty := .int) (by decide +kernel) rfl rfl (Nat.le_of_ble_eq_true rfl) (nb_p52_12 _) dX7_sum_41 (fun H locs hP hS => ?_)
          obtain ⟨M_12, e_12, h⟩ := nb_nE h
          rw [e_12] at hP
          refine lv_aload_n hx hb dX7_sum_44 rfl (lv_at hl 1 rfl) ?_
          obtain ⟨M_13, e_13, h⟩ := nb_oE h
          refine nb_callV (n := 0) (As := []) (rest := []) hx hb hml hown hts hK hZ hP hS (g_MP_4 (hrc 4 _ 0 _ e_13 N)) gX7_sum_X7_times rfl (by decide +kernel) (nb_rm (by omega) (Nat.le_of_ble_eq_true rfl)) nb_a52 rfl rfl rfl hl.1 rfl (Nat.le_of_ble_eq_true rfl) dX7_sum_45 (fun H locs hP hS => ?_)
          refine W.eq (g2 := F0 m 48 ls []) rfl ?_
          refine lv_aload_n hx hb dX7_sum_48 rfl (lv_at hl 1 rfl) ?_
          refine lv_iload_n hx hb dX7_sum_49 rfl (lv_at hl 0 rfl) ?_
          refine lv_iconst (v := (0 : Int32)) hx hb dX7_sum_50 (by decide) ?_
          obtain ⟨M_14, e_14, h⟩ := nb_oE h
          refine nb_callV (n := 2) (As := [.int r_11, .int (0 : Int32)]) (rest := []) hx hb hml hown hts hK hZ hP hS (k_X7_lays had M_13 N r_11 (0 : Int32) e_14) gX7_sum_X7_lays rfl (by decide +kernel) (nb_rm (by omega) (Nat.le_of_ble_eq_true rfl)) nb_a52 rfl rfl rfl hl.1 rfl (Nat.le_of_ble_eq_true rfl) dX7_sum_51 (fun H locs hP hS => ?_)
          refine W.eq (g2 := F0 m 54 ls []) rfl ?_
          refine lv_goto (tgt := 4) hx hb dX7_sum_54 (by decide) ?_
          exact ih _  h _ _ hP hS _ (lv_sub hl [1] rfl)
set_option maxHeartbeats 4000000 in
set_option maxRecDepth 100000 in
theorem k_X7_sum {d : Nat} {M' : nb_M} (had : nb_AD ad b0) (rc : Nat → nb_M → Int32 → Option nb_M) (hrc : ∀ (s : Nat) (M : nb_M) (a : Int32) (M' : nb_M), rc s M a = some M' → ∀ N : nb_M, g_MP l D ad ca b0 d s a M N M') (M N : nb_M) (h : f_X7_sum rc M = some (M')) : nb_C l D ad ca b0 yX7_sum wsX7_sum (d + 3) [.ref (ad 52)] N M none N M' := by
  refine nb_of (cc := cX7_sum) (maxL := 2) (ret := none) (own := RX7) (by decide +kernel) rfl rfl (Nat.le_of_ble_eq_true rfl) ?_
  intro p e s m args below meth c ls X hP hS hl
  have hl : lv_has ls 2 [(0, .ref (ad 52))] := hl
  obtain ⟨hx, hb, hml, hown, hts, hr, hlk, hK, hZ⟩ := id X
  unfold f_X7_sum at h
  refine lv_aload_n hx hb dX7_sum_0 rfl (lv_at hl 0 rfl) ?_
  obtain ⟨M_1, e_1, h⟩ := nb_oE h
  refine nb_callV (n := 0) (As := []) (rest := []) hx hb hml hown hts hK hZ hP hS (g_MP_4 (hrc 4 _ 0 _ e_1 N)) gX7_sum_X7_times rfl (by decide +kernel) (nb_rm (by omega) (Nat.le_of_ble_eq_true rfl)) nb_a52 rfl rfl rfl hl.1 rfl (Nat.le_of_ble_eq_true rfl) dX7_sum_1 (fun H locs hP hS => ?_)
  refine W.eq (g2 := F0 m 4 ls []) rfl ?_
  exact w_X7_sum_4 had X rc hrc nb_F _  h _ _ hP hS _ (lv_sub hl [0] rfl)
set_option maxHeartbeats 4000000 in
set_option maxRecDepth 100000 in
theorem w_X7_times_4 {d : Nat} {N : nb_M} {M' : nb_M} (had : nb_AD ad b0) (X : nb_X p s m args meth c cX7_times 2 RX7 none wsX7_times D ca b0) (rc : Nat → nb_M → Int32 → Option nb_M) (hrc : ∀ (s : Nat) (M : nb_M) (a : Int32) (M' : nb_M), rc s M a = some M' → ∀ N : nb_M, g_MP l D ad ca b0 d s a M N M') : ∀ (n : Nat) (M : nb_M), f_X7_times_4 rc n M = some (M') → ∀ (H : Heap) (locs : List Loc), va_P D vwCl (nb_w ad ca N M) H → va_S (fun q => b0 ≤ q) s.heap H locs → ∀ ls : Array Slot, lv_has ls 2 [(0, .ref (ad 52))] → W p l e (nb_R (d + 3)) s m args below meth c H locs 0 0 (nb_Q below args s D ad ca b0 none N M') (F0 m 4 ls []) := by
  obtain ⟨hx, hb, hml, hown, hts, hr, hlk, hK, hZ⟩ := id X
  have w_1 := hts (.fieldLink RX7 136 "NineBreakagesModel" "bad" "Z") (by decide +kernel)
  have in7 : ∀ w ∈ u_ws RX7 TX7 21, w ∈ wsX7_times := fun w q => List.mem_cons_of_mem _ (List.mem_append_right _ q)
  have w_3 := hts (.fieldLink RX7 123 "NineBreakagesModel" "here" "I") (by decide +kernel)
  intro n
  induction n with
  | zero =>
    intro M  h
    rw [f_X7_times_4] at h
    cases h
  | succ n ih =>
    intro M h H locs hP hS ls hl
    rw [f_X7_times_4] at h
    refine lv_aload_n hx hb dX7_times_4 rfl (lv_at hl 0 rfl) ?_
    refine va_get (v := .int (M.1 0 14)) (C := RX7) (T := TX7) (N := 21) hx hb hts in7 hown hK.1 hP 52 nb_a52 rfl 14 (by decide) w_1 (fun _ h9 => h9) rfl dX7_times_5 ?_
    refine lv_if_ne (tgt := 66) hx hb dX7_times_8 (by decide) (fun c_2 => ?_) (fun c_2 => ?_)
    · have h := nb_f c_2 h
      obtain rfl := nb_e1 h
      exact nb_vret hx hb hr hlk hP hS dX7_times_66
    · have h := nb_t c_2 h
      refine lv_aload_n hx hb dX7_times_11 rfl (lv_at hl 0 rfl) ?_
      obtain ⟨r_3, e_3, h⟩ := nb_oE h
      refine nb_callV (n := 0) (As := []) (rest := []) hx hb hml hown hts hK hZ hP hS (k_X7_look had M N e_3) gX7_times_X7_look rfl (by decide +kernel) (nb_rm (by omega) (Nat.le_of_ble_eq_true rfl)) nb_a52 rfl rfl rfl hl.1 rfl (Nat.le_of_ble_eq_true rfl) dX7_times_12 (fun H locs hP hS => ?_)
      refine W.eq (g2 := F0 m 15 ls [.int r_3]) rfl ?_
      refine lv_bipush (v := (42 : Int32)) hx hb dX7_times_15 (by decide) ?_
      refine lv_icmp_eq (tgt := 38) hx hb dX7_times_17 (by decide) (fun c_4 => ?_) (fun c_4 => ?_)
      · have h := nb_t c_4 h
        refine lv_aload_n hx hb dX7_times_38 rfl (lv_at hl 0 rfl) ?_
        obtain ⟨r_5, e_5, h⟩ := nb_oE h
        refine nb_callV (n := 0) (As := []) (rest := []) hx hb hml hown hts hK hZ hP hS (k_X7_look had M N e_5) gX7_times_X7_look rfl (by decide +kernel) (nb_rm (by omega) (Nat.le_of_ble_eq_true rfl)) nb_a52 rfl rfl rfl hl.1 rfl (Nat.le_of_ble_eq_true rfl) dX7_times_39 (fun H locs hP hS => ?_)
        refine W.eq (g2 := F0 m 42 ls [.int r_5]) rfl ?_
        refine lv_istore_n (lv' := [(1, .int r_5), (0, .ref (ad 52))]) hx hb dX7_times_42 rfl hl (by decide) rfl (fun ls hl => ?_)
        refine lv_aload_n hx hb dX7_times_43 rfl (lv_at hl 1 rfl) ?_
        refine lv_dup hx hb dX7_times_44 rfl ?_
        refine va_get (v := .int (M.1 0 12)) (C := RX7) (T := TX7) (N := 21) hx hb hts in7 hown hK.1 hP 52 nb_a52 rfl 12 (by decide) w_3 (fun _ h9 => h9) rfl dX7_times_45 ?_
        refine lv_iconst (v := (1 : Int32)) hx hb dX7_times_48 (by decide) ?_
        refine lv_iadd hx hb dX7_times_49 ?_
        refine nb_put (C := RX7) (T := TX7) (NN := 21) hx hb had hts in7 tyX7 tyX7_ok nmX7 hown hK hP hS nb_a52 rfl 12 (by decide) w_3 rfl (ty := .int) (by decide +kernel) rfl rfl (Nat.le_of_ble_eq_true rfl) (nb_p52_12 _) dX7_times_50 (fun H locs hP hS => ?_)
        obtain ⟨M_6, e_6, h⟩ := nb_nE h
        rw [e_6] at hP
        refine lv_aload_n hx hb dX7_times_53 rfl (lv_at hl 1 rfl) ?_
        obtain ⟨M_7, e_7, h⟩ := nb_oE h
        refine nb_callV (n := 0) (As := []) (rest := []) hx hb hml hown hts hK hZ hP hS (g_MP_5 (hrc 5 _ 0 _ e_7 N)) gX7_times_X7_one rfl (by decide +kernel) (nb_rm (by omega) (Nat.le_of_ble_eq_true rfl)) nb_a52 rfl rfl rfl hl.1 rfl (Nat.le_of_ble_eq_true rfl) dX7_times_54 (fun H locs hP hS => ?_)
        refine W.eq (g2 := F0 m 57 ls []) rfl ?_
        refine lv_aload_n hx hb dX7_times_57 rfl (lv_at hl 1 rfl) ?_
        refine lv_iload_n hx hb dX7_times_58 rfl (lv_at hl 0 rfl) ?_
        refine lv_iconst (v := (0 : Int32)) hx hb dX7_times_59 (by decide) ?_
        obtain ⟨M_8, e_8, h⟩ := nb_oE h
        refine nb_callV (n := 2) (As := [.int r_5, .int (0 : Int32)]) (rest := []) hx hb hml hown hts hK hZ hP hS (k_X7_lays had M_7 N r_5 (0 : Int32) e_8) gX7_times_X7_lays rfl (by decide +kernel) (nb_rm (by omega) (Nat.le_of_ble_eq_true rfl)) nb_a52 rfl rfl rfl hl.1 rfl (Nat.le_of_ble_eq_true rfl) dX7_times_60 (fun H locs hP hS => ?_)
        refine W.eq (g2 := F0 m 63 ls []) rfl ?_
        refine lv_goto (tgt := 4) hx hb dX7_times_63 (by decide) ?_
        exact ih _  h _ _ hP hS _ (lv_sub hl [1] rfl)
      · have h := nb_f c_4 h
        refine lv_aload_n hx hb dX7_times_20 rfl (lv_at hl 0 rfl) ?_
        obtain ⟨r_9, e_9, h⟩ := nb_oE h
        refine nb_callV (n := 0) (As := []) (rest := []) hx hb hml hown hts hK hZ hP hS (k_X7_look had M N e_9) gX7_times_X7_look rfl (by decide +kernel) (nb_rm (by omega) (Nat.le_of_ble_eq_true rfl)) nb_a52 rfl rfl rfl hl.1 rfl (Nat.le_of_ble_eq_true rfl) dX7_times_21 (fun H locs hP hS => ?_)
        refine W.eq (g2 := F0 m 24 ls [.int r_9]) rfl ?_
        refine lv_bipush (v := (47 : Int32)) hx hb dX7_times_24 (by decide) ?_
        refine lv_icmp_eq (tgt := 38) hx hb dX7_times_26 (by decide) (fun c_10 => ?_) (fun c_10 => ?_)
        · have h := nb_t c_10 h
          refine lv_aload_n hx hb dX7_times_38 rfl (lv_at hl 0 rfl) ?_
          obtain ⟨r_11, e_11, h⟩ := nb_oE h
          refine nb_callV (n := 0) (As := []) (rest := []) hx hb hml hown hts hK hZ hP hS (k_X7_look had M N e_11) gX7_times_X7_look rfl (by decide +kernel) (nb_rm (by omega) (Nat.le_of_ble_eq_true rfl)) nb_a52 rfl rfl rfl hl.1 rfl (Nat.le_of_ble_eq_true rfl) dX7_times_39 (fun H locs hP hS => ?_)
          refine W.eq (g2 := F0 m 42 ls [.int r_11]) rfl ?_
          refine lv_istore_n (lv' := [(1, .int r_11), (0, .ref (ad 52))]) hx hb dX7_times_42 rfl hl (by decide) rfl (fun ls hl => ?_)
          refine lv_aload_n hx hb dX7_times_43 rfl (lv_at hl 1 rfl) ?_
          refine lv_dup hx hb dX7_times_44 rfl ?_
          refine va_get (v := .int (M.1 0 12)) (C := RX7) (T := TX7) (N := 21) hx hb hts in7 hown hK.1 hP 52 nb_a52 rfl 12 (by decide) w_3 (fun _ h9 => h9) rfl dX7_times_45 ?_
          refine lv_iconst (v := (1 : Int32)) hx hb dX7_times_48 (by decide) ?_
          refine lv_iadd hx hb dX7_times_49 ?_
          refine nb_put (C := RX7) (T := TX7) (NN := 21) hx hb had hts in7 tyX7 tyX7_ok nmX7 hown hK hP hS nb_a52 rfl 12 (by decide) w_3 rfl (ty := .int) (by decide +kernel) rfl rfl (Nat.le_of_ble_eq_true rfl) (nb_p52_12 _) dX7_times_50 (fun H locs hP hS => ?_)
          obtain ⟨M_12, e_12, h⟩ := nb_nE h
          rw [e_12] at hP
          refine lv_aload_n hx hb dX7_times_53 rfl (lv_at hl 1 rfl) ?_
          obtain ⟨M_13, e_13, h⟩ := nb_oE h
          refine nb_callV (n := 0) (As := []) (rest := []) hx hb hml hown hts hK hZ hP hS (g_MP_5 (hrc 5 _ 0 _ e_13 N)) gX7_times_X7_one rfl (by decide +kernel) (nb_rm (by omega) (Nat.le_of_ble_eq_true rfl)) nb_a52 rfl rfl rfl hl.1 rfl (Nat.le_of_ble_eq_true rfl) dX7_times_54 (fun H locs hP hS => ?_)
          refine W.eq (g2 := F0 m 57 ls []) rfl ?_
          refine lv_aload_n hx hb dX7_times_57 rfl (lv_at hl 1 rfl) ?_
          refine lv_iload_n hx hb dX7_times_58 rfl (lv_at hl 0 rfl) ?_
          refine lv_iconst (v := (0 : Int32)) hx hb dX7_times_59 (by decide) ?_
          obtain ⟨M_14, e_14, h⟩ := nb_oE h
          refine nb_callV (n := 2) (As := [.int r_11, .int (0 : Int32)]) (rest := []) hx hb hml hown hts hK hZ hP hS (k_X7_lays had M_13 N r_11 (0 : Int32) e_14) gX7_times_X7_lays rfl (by decide +kernel) (nb_rm (by omega) (Nat.le_of_ble_eq_true rfl)) nb_a52 rfl rfl rfl hl.1 rfl (Nat.le_of_ble_eq_true rfl) dX7_times_60 (fun H locs hP hS => ?_)
          refine W.eq (g2 := F0 m 63 ls []) rfl ?_
          refine lv_goto (tgt := 4) hx hb dX7_times_63 (by decide) ?_
          exact ih _  h _ _ hP hS _ (lv_sub hl [1] rfl)
        · have h := nb_f c_10 h
          refine lv_aload_n hx hb dX7_times_29 rfl (lv_at hl 0 rfl) ?_
          obtain ⟨r_15, e_15, h⟩ := nb_oE h
          refine nb_callV (n := 0) (As := []) (rest := []) hx hb hml hown hts hK hZ hP hS (k_X7_look had M N e_15) gX7_times_X7_look rfl (by decide +kernel) (nb_rm (by omega) (Nat.le_of_ble_eq_true rfl)) nb_a52 rfl rfl rfl hl.1 rfl (Nat.le_of_ble_eq_true rfl) dX7_times_30 (fun H locs hP hS => ?_)
          refine W.eq (g2 := F0 m 33 ls [.int r_15]) rfl ?_
          refine lv_bipush (v := (37 : Int32)) hx hb dX7_times_33 (by decide) ?_
          refine lv_icmp_ne (tgt := 66) hx hb dX7_times_35 (by decide) (fun c_16 => ?_) (fun c_16 => ?_)
          · have h := nb_f c_16 h
            obtain rfl := nb_e1 h
            exact nb_vret hx hb hr hlk hP hS dX7_times_66
          · have h := nb_t c_16 h
            refine lv_aload_n hx hb dX7_times_38 rfl (lv_at hl 0 rfl) ?_
            obtain ⟨r_17, e_17, h⟩ := nb_oE h
            refine nb_callV (n := 0) (As := []) (rest := []) hx hb hml hown hts hK hZ hP hS (k_X7_look had M N e_17) gX7_times_X7_look rfl (by decide +kernel) (nb_rm (by omega) (Nat.le_of_ble_eq_true rfl)) nb_a52 rfl rfl rfl hl.1 rfl (Nat.le_of_ble_eq_true rfl) dX7_times_39 (fun H locs hP hS => ?_)
            refine W.eq (g2 := F0 m 42 ls [.int r_17]) rfl ?_
            refine lv_istore_n (lv' := [(1, .int r_17), (0, .ref (ad 52))]) hx hb dX7_times_42 rfl hl (by decide) rfl (fun ls hl => ?_)
            refine lv_aload_n hx hb dX7_times_43 rfl (lv_at hl 1 rfl) ?_
            refine lv_dup hx hb dX7_times_44 rfl ?_
            refine va_get (v := .int (M.1 0 12)) (C := RX7) (T := TX7) (N := 21) hx hb hts in7 hown hK.1 hP 52 nb_a52 rfl 12 (by decide) w_3 (fun _ h9 => h9) rfl dX7_times_45 ?_
            refine lv_iconst (v := (1 : Int32)) hx hb dX7_times_48 (by decide) ?_
            refine lv_iadd hx hb dX7_times_49 ?_
            refine nb_put (C := RX7) (T := TX7) (NN := 21) hx hb had hts in7 tyX7 tyX7_ok nmX7 hown hK hP hS nb_a52 rfl 12 (by decide) w_3 rfl (ty := .int) (by decide +kernel) rfl rfl (Nat.le_of_ble_eq_true rfl) (nb_p52_12 _) dX7_times_50 (fun H locs hP hS => ?_)
            obtain ⟨M_18, e_18, h⟩ := nb_nE h
            rw [e_18] at hP
            refine lv_aload_n hx hb dX7_times_53 rfl (lv_at hl 1 rfl) ?_
            obtain ⟨M_19, e_19, h⟩ := nb_oE h
            refine nb_callV (n := 0) (As := []) (rest := []) hx hb hml hown hts hK hZ hP hS (g_MP_5 (hrc 5 _ 0 _ e_19 N)) gX7_times_X7_one rfl (by decide +kernel) (nb_rm (by omega) (Nat.le_of_ble_eq_true rfl)) nb_a52 rfl rfl rfl hl.1 rfl (Nat.le_of_ble_eq_true rfl) dX7_times_54 (fun H locs hP hS => ?_)
            refine W.eq (g2 := F0 m 57 ls []) rfl ?_
            refine lv_aload_n hx hb dX7_times_57 rfl (lv_at hl 1 rfl) ?_
            refine lv_iload_n hx hb dX7_times_58 rfl (lv_at hl 0 rfl) ?_
            refine lv_iconst (v := (0 : Int32)) hx hb dX7_times_59 (by decide) ?_
            obtain ⟨M_20, e_20, h⟩ := nb_oE h
            refine nb_callV (n := 2) (As := [.int r_17, .int (0 : Int32)]) (rest := []) hx hb hml hown hts hK hZ hP hS (k_X7_lays had M_19 N r_17 (0 : Int32) e_20) gX7_times_X7_lays rfl (by decide +kernel) (nb_rm (by omega) (Nat.le_of_ble_eq_true rfl)) nb_a52 rfl rfl rfl hl.1 rfl (Nat.le_of_ble_eq_true rfl) dX7_times_60 (fun H locs hP hS => ?_)
            refine W.eq (g2 := F0 m 63 ls []) rfl ?_
            refine lv_goto (tgt := 4) hx hb dX7_times_63 (by decide) ?_
            exact ih _  h _ _ hP hS _ (lv_sub hl [1] rfl)
set_option maxHeartbeats 4000000 in
set_option maxRecDepth 100000 in
theorem k_X7_times {d : Nat} {M' : nb_M} (had : nb_AD ad b0) (rc : Nat → nb_M → Int32 → Option nb_M) (hrc : ∀ (s : Nat) (M : nb_M) (a : Int32) (M' : nb_M), rc s M a = some M' → ∀ N : nb_M, g_MP l D ad ca b0 d s a M N M') (M N : nb_M) (h : f_X7_times rc M = some (M')) : nb_C l D ad ca b0 yX7_times wsX7_times (d + 3) [.ref (ad 52)] N M none N M' := by
  refine nb_of (cc := cX7_times) (maxL := 2) (ret := none) (own := RX7) (by decide +kernel) rfl rfl (Nat.le_of_ble_eq_true rfl) ?_
  intro p e s m args below meth c ls X hP hS hl
  have hl : lv_has ls 2 [(0, .ref (ad 52))] := hl
  obtain ⟨hx, hb, hml, hown, hts, hr, hlk, hK, hZ⟩ := id X
  unfold f_X7_times at h
  refine lv_aload_n hx hb dX7_times_0 rfl (lv_at hl 0 rfl) ?_
  obtain ⟨M_1, e_1, h⟩ := nb_oE h
  refine nb_callV (n := 0) (As := []) (rest := []) hx hb hml hown hts hK hZ hP hS (g_MP_5 (hrc 5 _ 0 _ e_1 N)) gX7_times_X7_one rfl (by decide +kernel) (nb_rm (by omega) (Nat.le_of_ble_eq_true rfl)) nb_a52 rfl rfl rfl hl.1 rfl (Nat.le_of_ble_eq_true rfl) dX7_times_1 (fun H locs hP hS => ?_)
  refine W.eq (g2 := F0 m 4 ls []) rfl ?_
  exact w_X7_times_4 had X rc hrc nb_F _  h _ _ hP hS _ (lv_sub hl [0] rfl)
set_option maxHeartbeats 4000000 in
set_option maxRecDepth 100000 in
theorem k_X7_one {d : Nat} {M' : nb_M} (had : nb_AD ad b0) (rc : Nat → nb_M → Int32 → Option nb_M) (hrc : ∀ (s : Nat) (M : nb_M) (a : Int32) (M' : nb_M), rc s M a = some M' → ∀ N : nb_M, g_MP l D ad ca b0 d s a M N M') (M N : nb_M) (h : f_X7_one rc M = some (M')) : nb_C l D ad ca b0 yX7_one wsX7_one (d + 3) [.ref (ad 52)] N M none N M' := by
  refine nb_of (cc := cX7_one) (maxL := 3) (ret := none) (own := RX7) (by decide +kernel) rfl rfl (Nat.le_of_ble_eq_true rfl) ?_
  intro p e s m args below meth c ls X hP hS hl
  have hl : lv_has ls 3 [(0, .ref (ad 52))] := hl
  obtain ⟨hx, hb, hml, hown, hts, hr, hlk, hK, hZ⟩ := id X
  have w_1 := hts (.fieldLink RX7 123 "NineBreakagesModel" "here" "I") (by decide +kernel)
  have in7 : ∀ w ∈ u_ws RX7 TX7 21, w ∈ wsX7_one := fun w q => List.mem_cons_of_mem _ (List.mem_append_right _ q)
  unfold f_X7_one at h
  refine lv_aload_n hx hb dX7_one_0 rfl (lv_at hl 0 rfl) ?_
  obtain ⟨r_1, e_1, h⟩ := nb_oE h
  refine nb_callV (n := 0) (As := []) (rest := []) hx hb hml hown hts hK hZ hP hS (k_X7_look had M N e_1) gX7_one_X7_look rfl (by decide +kernel) (nb_rm (by omega) (Nat.le_of_ble_eq_true rfl)) nb_a52 rfl rfl rfl hl.1 rfl (Nat.le_of_ble_eq_true rfl) dX7_one_1 (fun H locs hP hS => ?_)
  refine W.eq (g2 := F0 m 4 ls [.int r_1]) rfl ?_
  refine lv_istore_n (lv' := [(1, .int r_1), (0, .ref (ad 52))]) hx hb dX7_one_4 rfl hl (by decide) rfl (fun ls hl => ?_)
  refine lv_aload_n hx hb dX7_one_5 rfl (lv_at hl 1 rfl) ?_
  refine lv_iload_n hx hb dX7_one_6 rfl (lv_at hl 0 rfl) ?_
  refine nb_callV (n := 1) (As := [.int r_1]) (rest := []) hx hb hml hown hts hK hZ hP hS (k_X7_nameOf had M N r_1) gX7_one_X7_nameOf rfl (by decide +kernel) (nb_rm (by omega) (Nat.le_of_ble_eq_true rfl)) nb_a52 rfl rfl rfl hl.1 rfl (Nat.le_of_ble_eq_true rfl) dX7_one_7 (fun H locs hP hS => ?_)
  refine W.eq (g2 := F0 m 10 ls [.int (f_X7_nameOf M r_1)]) rfl ?_
  refine lv_topi (fun v_3 e_3 => ?_)
  have h := nb_nA e_3 h
  refine lv_istore_n (lv' := [(2, .int v_3), (1, .int r_1), (0, .ref (ad 52))]) hx hb dX7_one_10 rfl hl (by decide) rfl (fun ls hl => ?_)
  refine lv_iload_n hx hb dX7_one_11 rfl (lv_at hl 0 rfl) ?_
  refine lv_if_lt (tgt := 34) hx hb dX7_one_12 (by decide) (fun c_4 => ?_) (fun c_4 => ?_)
  · have h := nb_t c_4 h
    refine lv_iload_n hx hb dX7_one_34 rfl (lv_at hl 1 rfl) ?_
    refine lv_bipush (v := (33 : Int32)) hx hb dX7_one_35 (by decide) ?_
    refine lv_icmp_eq (tgt := 46) hx hb dX7_one_37 (by decide) (fun c_5 => ?_) (fun c_5 => ?_)
    · have h := nb_t c_5 h
      refine lv_aload_n hx hb dX7_one_46 rfl (lv_at hl 2 rfl) ?_
      refine lv_iload_n hx hb dX7_one_47 rfl (lv_at hl 1 rfl) ?_
      obtain ⟨M_6, e_6, h⟩ := nb_oE h
      refine nb_callV (n := 1) (As := [.int r_1]) (rest := []) hx hb hml hown hts hK hZ hP hS (g_MP_6 (hrc 6 _ r_1 _ e_6 N)) gX7_one_X7_opens rfl (by decide +kernel) (nb_rm (by omega) (Nat.le_of_ble_eq_true rfl)) nb_a52 rfl rfl rfl hl.1 rfl (Nat.le_of_ble_eq_true rfl) dX7_one_48 (fun H locs hP hS => ?_)
      refine W.eq (g2 := F0 m 51 ls []) rfl ?_
      refine lv_goto (tgt := 58) hx hb dX7_one_51 (by decide) ?_
      obtain rfl := nb_e1 h
      exact nb_vret hx hb hr hlk hP hS dX7_one_58
    · have h := nb_f c_5 h
      refine lv_iload_n hx hb dX7_one_40 rfl (lv_at hl 1 rfl) ?_
      refine lv_bipush (v := (40 : Int32)) hx hb dX7_one_41 (by decide) ?_
      refine lv_icmp_ne (tgt := 54) hx hb dX7_one_43 (by decide) (fun c_7 => ?_) (fun c_7 => ?_)
      · have h := nb_f c_7 h
        refine lv_aload_n hx hb dX7_one_54 rfl (lv_at hl 2 rfl) ?_
        obtain ⟨M_8, e_8, h⟩ := nb_oE h
        refine nb_callV (n := 0) (As := []) (rest := []) hx hb hml hown hts hK hZ hP hS (k_X7_number had M N e_8) gX7_one_X7_number rfl (by decide +kernel) (nb_rm (by omega) (Nat.le_of_ble_eq_true rfl)) nb_a52 rfl rfl rfl hl.1 rfl (Nat.le_of_ble_eq_true rfl) dX7_one_55 (fun H locs hP hS => ?_)
        refine W.eq (g2 := F0 m 58 ls []) rfl ?_
        obtain rfl := nb_e1 h
        exact nb_vret hx hb hr hlk hP hS dX7_one_58
      · have h := nb_t c_7 h
        refine lv_aload_n hx hb dX7_one_46 rfl (lv_at hl 2 rfl) ?_
        refine lv_iload_n hx hb dX7_one_47 rfl (lv_at hl 1 rfl) ?_
        obtain ⟨M_9, e_9, h⟩ := nb_oE h
        refine nb_callV (n := 1) (As := [.int r_1]) (rest := []) hx hb hml hown hts hK hZ hP hS (g_MP_6 (hrc 6 _ r_1 _ e_9 N)) gX7_one_X7_opens rfl (by decide +kernel) (nb_rm (by omega) (Nat.le_of_ble_eq_true rfl)) nb_a52 rfl rfl rfl hl.1 rfl (Nat.le_of_ble_eq_true rfl) dX7_one_48 (fun H locs hP hS => ?_)
        refine W.eq (g2 := F0 m 51 ls []) rfl ?_
        refine lv_goto (tgt := 58) hx hb dX7_one_51 (by decide) ?_
        obtain rfl := nb_e1 h
        exact nb_vret hx hb hr hlk hP hS dX7_one_58
  · have h := nb_f c_4 h
    refine lv_aload_n hx hb dX7_one_15 rfl (lv_at hl 2 rfl) ?_
    refine lv_dup hx hb dX7_one_16 rfl ?_
    refine va_get (v := .int (M.1 0 12)) (C := RX7) (T := TX7) (N := 21) hx hb hts in7 hown hK.1 hP 52 nb_a52 rfl 12 (by decide) w_1 (fun _ h9 => h9) rfl dX7_one_17 ?_
    refine lv_iconst (v := (1 : Int32)) hx hb dX7_one_20 (by decide) ?_
    refine lv_iadd hx hb dX7_one_21 ?_
    refine nb_put (C := RX7) (T := TX7) (NN := 21) hx hb had hts in7 tyX7 tyX7_ok nmX7 hown hK hP hS nb_a52 rfl 12 (by decide) w_1 rfl (ty := .int) (by decide +kernel) rfl rfl (Nat.le_of_ble_eq_true rfl) (nb_p52_12 _) dX7_one_22 (fun H locs hP hS => ?_)
    obtain ⟨M_10, e_10, h⟩ := nb_nE h
    rw [e_10] at hP
    refine lv_aload_n hx hb dX7_one_25 rfl (lv_at hl 2 rfl) ?_
    refine lv_iconst (v := (2 : Int32)) hx hb dX7_one_26 (by decide) ?_
    refine lv_iload_n hx hb dX7_one_27 rfl (lv_at hl 0 rfl) ?_
    obtain ⟨M_11, e_11, h⟩ := nb_oE h
    refine nb_callV (n := 2) (As := [.int (2 : Int32), .int v_3]) (rest := []) hx hb hml hown hts hK hZ hP hS (k_X7_lays had M_10 N (2 : Int32) v_3 e_11) gX7_one_X7_lays rfl (by decide +kernel) (nb_rm (by omega) (Nat.le_of_ble_eq_true rfl)) nb_a52 rfl rfl rfl hl.1 rfl (Nat.le_of_ble_eq_true rfl) dX7_one_28 (fun H locs hP hS => ?_)
    refine W.eq (g2 := F0 m 31 ls []) rfl ?_
    refine lv_goto (tgt := 58) hx hb dX7_one_31 (by decide) ?_
    obtain rfl := nb_e1 h
    exact nb_vret hx hb hr hlk hP hS dX7_one_58
set_option maxHeartbeats 4000000 in
set_option maxRecDepth 100000 in
theorem k_X7_opens {d : Nat} {M' : nb_M} (had : nb_AD ad b0) (rc : Nat → nb_M → Int32 → Option nb_M) (hrc : ∀ (s : Nat) (M : nb_M) (a : Int32) (M' : nb_M), rc s M a = some M' → ∀ N : nb_M, g_MP l D ad ca b0 d s a M N M') (M N : nb_M) (p0 : Int32) (h : f_X7_opens rc M p0 = some (M')) : nb_C l D ad ca b0 yX7_opens wsX7_opens (d + 3) [.ref (ad 52), .int p0] N M none N M' := by
  refine nb_of (cc := cX7_opens) (maxL := 2) (ret := none) (own := RX7) (by decide +kernel) rfl rfl (Nat.le_of_ble_eq_true rfl) ?_
  intro p e s m args below meth c ls X hP hS hl
  have hl : lv_has ls 2 [(0, .ref (ad 52)), (1, .int p0)] := hl
  obtain ⟨hx, hb, hml, hown, hts, hr, hlk, hK, hZ⟩ := id X
  have w_1 := hts (.fieldLink RX7 144 "NineBreakagesModel" "opened" "I") (by decide +kernel)
  have in7 : ∀ w ∈ u_ws RX7 TX7 21, w ∈ wsX7_opens := fun w q => List.mem_cons_of_mem _ (List.mem_append_right _ q)
  have w_3 := hts (.fieldLink RX7 123 "NineBreakagesModel" "here" "I") (by decide +kernel)
  have w_4 := hts (.fieldLink RX7 136 "NineBreakagesModel" "bad" "Z") (by decide +kernel)
  unfold f_X7_opens at h
  refine lv_aload_n hx hb dX7_opens_0 rfl (lv_at hl 0 rfl) ?_
  refine va_get (v := .int (M.1 0 13)) (C := RX7) (T := TX7) (N := 21) hx hb hts in7 hown hK.1 hP 52 nb_a52 rfl 13 (by decide) w_1 (fun _ h9 => h9) rfl dX7_opens_1 ?_
  refine lv_iconst (v := (5 : Int32)) hx hb dX7_opens_4 (by decide) ?_
  refine lv_icmp_ne (tgt := 14) hx hb dX7_opens_5 (by decide) (fun c_1 => ?_) (fun c_1 => ?_)
  · have h := nb_f c_1 h
    refine lv_aload_n hx hb dX7_opens_14 rfl (lv_at hl 0 rfl) ?_
    refine lv_dup hx hb dX7_opens_15 rfl ?_
    refine va_get (v := .int (M.1 0 13)) (C := RX7) (T := TX7) (N := 21) hx hb hts in7 hown hK.1 hP 52 nb_a52 rfl 13 (by decide) w_1 (fun _ h9 => h9) rfl dX7_opens_16 ?_
    refine lv_iconst (v := (1 : Int32)) hx hb dX7_opens_19 (by decide) ?_
    refine lv_iadd hx hb dX7_opens_20 ?_
    refine nb_put (C := RX7) (T := TX7) (NN := 21) hx hb had hts in7 tyX7 tyX7_ok nmX7 hown hK hP hS nb_a52 rfl 13 (by decide) w_1 rfl (ty := .int) (by decide +kernel) rfl rfl (Nat.le_of_ble_eq_true rfl) (nb_p52_13 _) dX7_opens_21 (fun H locs hP hS => ?_)
    obtain ⟨M_2, e_2, h⟩ := nb_nE h
    rw [e_2] at hP
    refine lv_aload_n hx hb dX7_opens_24 rfl (lv_at hl 0 rfl) ?_
    refine lv_dup hx hb dX7_opens_25 rfl ?_
    refine va_get (v := .int (M_2.1 0 12)) (C := RX7) (T := TX7) (N := 21) hx hb hts in7 hown hK.1 hP 52 nb_a52 rfl 12 (by decide) w_3 (fun _ h9 => h9) rfl dX7_opens_26 ?_
    refine lv_iconst (v := (1 : Int32)) hx hb dX7_opens_29 (by decide) ?_
    refine lv_iadd hx hb dX7_opens_30 ?_
    refine nb_put (C := RX7) (T := TX7) (NN := 21) hx hb had hts in7 tyX7 tyX7_ok nmX7 hown hK hP hS nb_a52 rfl 12 (by decide) w_3 rfl (ty := .int) (by decide +kernel) rfl rfl (Nat.le_of_ble_eq_true rfl) (nb_p52_12 _) dX7_opens_31 (fun H locs hP hS => ?_)
    obtain ⟨M_3, e_3, h⟩ := nb_nE h
    rw [e_3] at hP
    refine lv_iload_n hx hb dX7_opens_34 rfl (lv_at hl 1 rfl) ?_
    refine lv_bipush (v := (33 : Int32)) hx hb dX7_opens_35 (by decide) ?_
    refine lv_icmp_ne (tgt := 53) hx hb dX7_opens_37 (by decide) (fun c_4 => ?_) (fun c_4 => ?_)
    · have h := nb_f c_4 h
      refine lv_aload_n hx hb dX7_opens_53 rfl (lv_at hl 0 rfl) ?_
      obtain ⟨M_5, e_5, h⟩ := nb_oE h
      refine nb_callV (n := 0) (As := []) (rest := []) hx hb hml hown hts hK hZ hP hS (g_MP_0 (hrc 0 _ 0 _ e_5 N)) gX7_opens_X7_any rfl (by decide +kernel) (nb_rm (by omega) (Nat.le_of_ble_eq_true rfl)) nb_a52 rfl rfl rfl hl.1 rfl (Nat.le_of_ble_eq_true rfl) dX7_opens_54 (fun H locs hP hS => ?_)
      refine W.eq (g2 := F0 m 57 ls []) rfl ?_
      refine lv_aload_n hx hb dX7_opens_57 rfl (lv_at hl 0 rfl) ?_
      refine lv_aload_n hx hb dX7_opens_58 rfl (lv_at hl 0 rfl) ?_
      refine va_get (v := .int (M_5.1 0 14)) (C := RX7) (T := TX7) (N := 21) hx hb hts in7 hown hK.1 hP 52 nb_a52 rfl 14 (by decide) w_4 (fun _ h9 => h9) rfl dX7_opens_59 ?_
      refine lv_if_ne (tgt := 74) hx hb dX7_opens_62 (by decide) (fun c_6 => ?_) (fun c_6 => ?_)
      · have h := nb_f c_6 h
        refine lv_iconst (v := (1 : Int32)) hx hb dX7_opens_74 (by decide) ?_
        refine lv_goto (tgt := 79) hx hb dX7_opens_75 (by decide) ?_
        refine nb_put (C := RX7) (T := TX7) (NN := 21) hx hb had hts in7 tyX7 tyX7_ok nmX7 hown hK hP hS nb_a52 rfl 14 (by decide) w_4 rfl (ty := .boolean) (by decide +kernel) rfl rfl (Nat.le_of_ble_eq_true rfl) (nb_p52_14 _) dX7_opens_79 (fun H locs hP hS => ?_)
        obtain ⟨M_7, e_7, h⟩ := nb_nE h
        rw [e_7] at hP
        refine lv_aload_n hx hb dX7_opens_82 rfl (lv_at hl 0 rfl) ?_
        refine lv_dup hx hb dX7_opens_83 rfl ?_
        refine va_get (v := .int (M_7.1 0 12)) (C := RX7) (T := TX7) (N := 21) hx hb hts in7 hown hK.1 hP 52 nb_a52 rfl 12 (by decide) w_3 (fun _ h9 => h9) rfl dX7_opens_84 ?_
        refine lv_aload_n hx hb dX7_opens_87 rfl (lv_at hl 0 rfl) ?_
        refine va_get (v := .int (M_7.1 0 14)) (C := RX7) (T := TX7) (N := 21) hx hb hts in7 hown hK.1 hP 52 nb_a52 rfl 14 (by decide) w_4 (fun _ h9 => h9) rfl dX7_opens_88 ?_
        refine lv_if_eq (tgt := 98) hx hb dX7_opens_91 (by decide) (fun c_8 => ?_) (fun c_8 => ?_)
        · have h := nb_t c_8 h
          refine lv_iconst (v := (1 : Int32)) hx hb dX7_opens_98 (by decide) ?_
          refine lv_iadd hx hb dX7_opens_99 ?_
          refine nb_put (C := RX7) (T := TX7) (NN := 21) hx hb had hts in7 tyX7 tyX7_ok nmX7 hown hK hP hS nb_a52 rfl 12 (by decide) w_3 rfl (ty := .int) (by decide +kernel) rfl rfl (Nat.le_of_ble_eq_true rfl) (nb_p52_12 _) dX7_opens_100 (fun H locs hP hS => ?_)
          obtain ⟨M_9, e_9, h⟩ := nb_nE h
          rw [e_9] at hP
          refine lv_aload_n hx hb dX7_opens_103 rfl (lv_at hl 0 rfl) ?_
          refine lv_dup hx hb dX7_opens_104 rfl ?_
          refine va_get (v := .int (M_9.1 0 13)) (C := RX7) (T := TX7) (N := 21) hx hb hts in7 hown hK.1 hP 52 nb_a52 rfl 13 (by decide) w_1 (fun _ h9 => h9) rfl dX7_opens_105 ?_
          refine lv_iconst (v := (1 : Int32)) hx hb dX7_opens_108 (by decide) ?_
          refine lv_isub hx hb dX7_opens_109 ?_
          refine nb_put (C := RX7) (T := TX7) (NN := 21) hx hb had hts in7 tyX7 tyX7_ok nmX7 hown hK hP hS nb_a52 rfl 13 (by decide) w_1 rfl (ty := .int) (by decide +kernel) rfl rfl (Nat.le_of_ble_eq_true rfl) (nb_p52_13 _) dX7_opens_110 (fun H locs hP hS => ?_)
          obtain ⟨M_10, e_10, h⟩ := nb_nE h
          rw [e_10] at hP
          obtain rfl := nb_e1 h
          exact nb_vret hx hb hr hlk hP hS dX7_opens_113
        · have h := nb_f c_8 h
          refine lv_iconst (v := (0 : Int32)) hx hb dX7_opens_94 (by decide) ?_
          refine lv_goto (tgt := 99) hx hb dX7_opens_95 (by decide) ?_
          refine lv_iadd hx hb dX7_opens_99 ?_
          refine nb_put (C := RX7) (T := TX7) (NN := 21) hx hb had hts in7 tyX7 tyX7_ok nmX7 hown hK hP hS nb_a52 rfl 12 (by decide) w_3 rfl (ty := .int) (by decide +kernel) rfl rfl (Nat.le_of_ble_eq_true rfl) (nb_p52_12 _) dX7_opens_100 (fun H locs hP hS => ?_)
          obtain ⟨M_11, e_11, h⟩ := nb_nE h
          rw [e_11] at hP
          refine lv_aload_n hx hb dX7_opens_103 rfl (lv_at hl 0 rfl) ?_
          refine lv_dup hx hb dX7_opens_104 rfl ?_
          refine va_get (v := .int (M_11.1 0 13)) (C := RX7) (T := TX7) (N := 21) hx hb hts in7 hown hK.1 hP 52 nb_a52 rfl 13 (by decide) w_1 (fun _ h9 => h9) rfl dX7_opens_105 ?_
          refine lv_iconst (v := (1 : Int32)) hx hb dX7_opens_108 (by decide) ?_
          refine lv_isub hx hb dX7_opens_109 ?_
          refine nb_put (C := RX7) (T := TX7) (NN := 21) hx hb had hts in7 tyX7 tyX7_ok nmX7 hown hK hP hS nb_a52 rfl 13 (by decide) w_1 rfl (ty := .int) (by decide +kernel) rfl rfl (Nat.le_of_ble_eq_true rfl) (nb_p52_13 _) dX7_opens_110 (fun H locs hP hS => ?_)
          obtain ⟨M_12, e_12, h⟩ := nb_nE h
          rw [e_12] at hP
          obtain rfl := nb_e1 h
          exact nb_vret hx hb hr hlk hP hS dX7_opens_113
      · have h := nb_t c_6 h
        refine lv_aload_n hx hb dX7_opens_65 rfl (lv_at hl 0 rfl) ?_
        obtain ⟨r_13, e_13, h⟩ := nb_oE h
        refine nb_callV (n := 0) (As := []) (rest := [.ref (ad 52)]) hx hb hml hown hts hK hZ hP hS (k_X7_look had M_5 N e_13) gX7_opens_X7_look rfl (by decide +kernel) (nb_rm (by omega) (Nat.le_of_ble_eq_true rfl)) nb_a52 rfl rfl rfl hl.1 rfl (Nat.le_of_ble_eq_true rfl) dX7_opens_66 (fun H locs hP hS => ?_)
        refine W.eq (g2 := F0 m 69 ls [.int r_13, .ref (ad 52)]) rfl ?_
        refine lv_bipush (v := (41 : Int32)) hx hb dX7_opens_69 (by decide) ?_
        refine lv_icmp_eq (tgt := 78) hx hb dX7_opens_71 (by decide) (fun c_14 => ?_) (fun c_14 => ?_)
        · have h := nb_t c_14 h
          refine lv_iconst (v := (0 : Int32)) hx hb dX7_opens_78 (by decide) ?_
          refine nb_put (C := RX7) (T := TX7) (NN := 21) hx hb had hts in7 tyX7 tyX7_ok nmX7 hown hK hP hS nb_a52 rfl 14 (by decide) w_4 rfl (ty := .boolean) (by decide +kernel) rfl rfl (Nat.le_of_ble_eq_true rfl) (nb_p52_14 _) dX7_opens_79 (fun H locs hP hS => ?_)
          obtain ⟨M_15, e_15, h⟩ := nb_nE h
          rw [e_15] at hP
          refine lv_aload_n hx hb dX7_opens_82 rfl (lv_at hl 0 rfl) ?_
          refine lv_dup hx hb dX7_opens_83 rfl ?_
          refine va_get (v := .int (M_15.1 0 12)) (C := RX7) (T := TX7) (N := 21) hx hb hts in7 hown hK.1 hP 52 nb_a52 rfl 12 (by decide) w_3 (fun _ h9 => h9) rfl dX7_opens_84 ?_
          refine lv_aload_n hx hb dX7_opens_87 rfl (lv_at hl 0 rfl) ?_
          refine va_get (v := .int (M_15.1 0 14)) (C := RX7) (T := TX7) (N := 21) hx hb hts in7 hown hK.1 hP 52 nb_a52 rfl 14 (by decide) w_4 (fun _ h9 => h9) rfl dX7_opens_88 ?_
          refine lv_if_eq (tgt := 98) hx hb dX7_opens_91 (by decide) (fun c_16 => ?_) (fun c_16 => ?_)
          · have h := nb_t c_16 h
            refine lv_iconst (v := (1 : Int32)) hx hb dX7_opens_98 (by decide) ?_
            refine lv_iadd hx hb dX7_opens_99 ?_
            refine nb_put (C := RX7) (T := TX7) (NN := 21) hx hb had hts in7 tyX7 tyX7_ok nmX7 hown hK hP hS nb_a52 rfl 12 (by decide) w_3 rfl (ty := .int) (by decide +kernel) rfl rfl (Nat.le_of_ble_eq_true rfl) (nb_p52_12 _) dX7_opens_100 (fun H locs hP hS => ?_)
            obtain ⟨M_17, e_17, h⟩ := nb_nE h
            rw [e_17] at hP
            refine lv_aload_n hx hb dX7_opens_103 rfl (lv_at hl 0 rfl) ?_
            refine lv_dup hx hb dX7_opens_104 rfl ?_
            refine va_get (v := .int (M_17.1 0 13)) (C := RX7) (T := TX7) (N := 21) hx hb hts in7 hown hK.1 hP 52 nb_a52 rfl 13 (by decide) w_1 (fun _ h9 => h9) rfl dX7_opens_105 ?_
            refine lv_iconst (v := (1 : Int32)) hx hb dX7_opens_108 (by decide) ?_
            refine lv_isub hx hb dX7_opens_109 ?_
            refine nb_put (C := RX7) (T := TX7) (NN := 21) hx hb had hts in7 tyX7 tyX7_ok nmX7 hown hK hP hS nb_a52 rfl 13 (by decide) w_1 rfl (ty := .int) (by decide +kernel) rfl rfl (Nat.le_of_ble_eq_true rfl) (nb_p52_13 _) dX7_opens_110 (fun H locs hP hS => ?_)
            obtain ⟨M_18, e_18, h⟩ := nb_nE h
            rw [e_18] at hP
            obtain rfl := nb_e1 h
            exact nb_vret hx hb hr hlk hP hS dX7_opens_113
          · have h := nb_f c_16 h
            refine lv_iconst (v := (0 : Int32)) hx hb dX7_opens_94 (by decide) ?_
            refine lv_goto (tgt := 99) hx hb dX7_opens_95 (by decide) ?_
            refine lv_iadd hx hb dX7_opens_99 ?_
            refine nb_put (C := RX7) (T := TX7) (NN := 21) hx hb had hts in7 tyX7 tyX7_ok nmX7 hown hK hP hS nb_a52 rfl 12 (by decide) w_3 rfl (ty := .int) (by decide +kernel) rfl rfl (Nat.le_of_ble_eq_true rfl) (nb_p52_12 _) dX7_opens_100 (fun H locs hP hS => ?_)
            obtain ⟨M_19, e_19, h⟩ := nb_nE h
            rw [e_19] at hP
            refine lv_aload_n hx hb dX7_opens_103 rfl (lv_at hl 0 rfl) ?_
            refine lv_dup hx hb dX7_opens_104 rfl ?_
            refine va_get (v := .int (M_19.1 0 13)) (C := RX7) (T := TX7) (N := 21) hx hb hts in7 hown hK.1 hP 52 nb_a52 rfl 13 (by decide) w_1 (fun _ h9 => h9) rfl dX7_opens_105 ?_
            refine lv_iconst (v := (1 : Int32)) hx hb dX7_opens_108 (by decide) ?_
            refine lv_isub hx hb dX7_opens_109 ?_
            refine nb_put (C := RX7) (T := TX7) (NN := 21) hx hb had hts in7 tyX7 tyX7_ok nmX7 hown hK hP hS nb_a52 rfl 13 (by decide) w_1 rfl (ty := .int) (by decide +kernel) rfl rfl (Nat.le_of_ble_eq_true rfl) (nb_p52_13 _) dX7_opens_110 (fun H locs hP hS => ?_)
            obtain ⟨M_20, e_20, h⟩ := nb_nE h
            rw [e_20] at hP
            obtain rfl := nb_e1 h
            exact nb_vret hx hb hr hlk hP hS dX7_opens_113
        · have h := nb_f c_14 h
          refine lv_iconst (v := (1 : Int32)) hx hb dX7_opens_74 (by decide) ?_
          refine lv_goto (tgt := 79) hx hb dX7_opens_75 (by decide) ?_
          refine nb_put (C := RX7) (T := TX7) (NN := 21) hx hb had hts in7 tyX7 tyX7_ok nmX7 hown hK hP hS nb_a52 rfl 14 (by decide) w_4 rfl (ty := .boolean) (by decide +kernel) rfl rfl (Nat.le_of_ble_eq_true rfl) (nb_p52_14 _) dX7_opens_79 (fun H locs hP hS => ?_)
          obtain ⟨M_21, e_21, h⟩ := nb_nE h
          rw [e_21] at hP
          refine lv_aload_n hx hb dX7_opens_82 rfl (lv_at hl 0 rfl) ?_
          refine lv_dup hx hb dX7_opens_83 rfl ?_
          refine va_get (v := .int (M_21.1 0 12)) (C := RX7) (T := TX7) (N := 21) hx hb hts in7 hown hK.1 hP 52 nb_a52 rfl 12 (by decide) w_3 (fun _ h9 => h9) rfl dX7_opens_84 ?_
          refine lv_aload_n hx hb dX7_opens_87 rfl (lv_at hl 0 rfl) ?_
          refine va_get (v := .int (M_21.1 0 14)) (C := RX7) (T := TX7) (N := 21) hx hb hts in7 hown hK.1 hP 52 nb_a52 rfl 14 (by decide) w_4 (fun _ h9 => h9) rfl dX7_opens_88 ?_
          refine lv_if_eq (tgt := 98) hx hb dX7_opens_91 (by decide) (fun c_22 => ?_) (fun c_22 => ?_)
          · have h := nb_t c_22 h
            refine lv_iconst (v := (1 : Int32)) hx hb dX7_opens_98 (by decide) ?_
            refine lv_iadd hx hb dX7_opens_99 ?_
            refine nb_put (C := RX7) (T := TX7) (NN := 21) hx hb had hts in7 tyX7 tyX7_ok nmX7 hown hK hP hS nb_a52 rfl 12 (by decide) w_3 rfl (ty := .int) (by decide +kernel) rfl rfl (Nat.le_of_ble_eq_true rfl) (nb_p52_12 _) dX7_opens_100 (fun H locs hP hS => ?_)
            obtain ⟨M_23, e_23, h⟩ := nb_nE h
            rw [e_23] at hP
            refine lv_aload_n hx hb dX7_opens_103 rfl (lv_at hl 0 rfl) ?_
            refine lv_dup hx hb dX7_opens_104 rfl ?_
            refine va_get (v := .int (M_23.1 0 13)) (C := RX7) (T := TX7) (N := 21) hx hb hts in7 hown hK.1 hP 52 nb_a52 rfl 13 (by decide) w_1 (fun _ h9 => h9) rfl dX7_opens_105 ?_
            refine lv_iconst (v := (1 : Int32)) hx hb dX7_opens_108 (by decide) ?_
            refine lv_isub hx hb dX7_opens_109 ?_
            refine nb_put (C := RX7) (T := TX7) (NN := 21) hx hb had hts in7 tyX7 tyX7_ok nmX7 hown hK hP hS nb_a52 rfl 13 (by decide) w_1 rfl (ty := .int) (by decide +kernel) rfl rfl (Nat.le_of_ble_eq_true rfl) (nb_p52_13 _) dX7_opens_110 (fun H locs hP hS => ?_)
            obtain ⟨M_24, e_24, h⟩ := nb_nE h
            rw [e_24] at hP
            obtain rfl := nb_e1 h
            exact nb_vret hx hb hr hlk hP hS dX7_opens_113
          · have h := nb_f c_22 h
            refine lv_iconst (v := (0 : Int32)) hx hb dX7_opens_94 (by decide) ?_
            refine lv_goto (tgt := 99) hx hb dX7_opens_95 (by decide) ?_
            refine lv_iadd hx hb dX7_opens_99 ?_
            refine nb_put (C := RX7) (T := TX7) (NN := 21) hx hb had hts in7 tyX7 tyX7_ok nmX7 hown hK hP hS nb_a52 rfl 12 (by decide) w_3 rfl (ty := .int) (by decide +kernel) rfl rfl (Nat.le_of_ble_eq_true rfl) (nb_p52_12 _) dX7_opens_100 (fun H locs hP hS => ?_)
            obtain ⟨M_25, e_25, h⟩ := nb_nE h
            rw [e_25] at hP
            refine lv_aload_n hx hb dX7_opens_103 rfl (lv_at hl 0 rfl) ?_
            refine lv_dup hx hb dX7_opens_104 rfl ?_
            refine va_get (v := .int (M_25.1 0 13)) (C := RX7) (T := TX7) (N := 21) hx hb hts in7 hown hK.1 hP 52 nb_a52 rfl 13 (by decide) w_1 (fun _ h9 => h9) rfl dX7_opens_105 ?_
            refine lv_iconst (v := (1 : Int32)) hx hb dX7_opens_108 (by decide) ?_
            refine lv_isub hx hb dX7_opens_109 ?_
            refine nb_put (C := RX7) (T := TX7) (NN := 21) hx hb had hts in7 tyX7 tyX7_ok nmX7 hown hK hP hS nb_a52 rfl 13 (by decide) w_1 rfl (ty := .int) (by decide +kernel) rfl rfl (Nat.le_of_ble_eq_true rfl) (nb_p52_13 _) dX7_opens_110 (fun H locs hP hS => ?_)
            obtain ⟨M_26, e_26, h⟩ := nb_nE h
            rw [e_26] at hP
            obtain rfl := nb_e1 h
            exact nb_vret hx hb hr hlk hP hS dX7_opens_113
    · have h := nb_t c_4 h
      refine lv_aload_n hx hb dX7_opens_40 rfl (lv_at hl 0 rfl) ?_
      obtain ⟨M_27, e_27, h⟩ := nb_oE h
      refine nb_callV (n := 0) (As := []) (rest := []) hx hb hml hown hts hK hZ hP hS (g_MP_5 (hrc 5 _ 0 _ e_27 N)) gX7_opens_X7_one rfl (by decide +kernel) (nb_rm (by omega) (Nat.le_of_ble_eq_true rfl)) nb_a52 rfl rfl rfl hl.1 rfl (Nat.le_of_ble_eq_true rfl) dX7_opens_41 (fun H locs hP hS => ?_)
      refine W.eq (g2 := F0 m 44 ls []) rfl ?_
      refine lv_aload_n hx hb dX7_opens_44 rfl (lv_at hl 0 rfl) ?_
      refine lv_iconst (v := (3 : Int32)) hx hb dX7_opens_45 (by decide) ?_
      refine lv_iconst (v := (0 : Int32)) hx hb dX7_opens_46 (by decide) ?_
      obtain ⟨M_28, e_28, h⟩ := nb_oE h
      refine nb_callV (n := 2) (As := [.int (3 : Int32), .int (0 : Int32)]) (rest := []) hx hb hml hown hts hK hZ hP hS (k_X7_lays had M_27 N (3 : Int32) (0 : Int32) e_28) gX7_opens_X7_lays rfl (by decide +kernel) (nb_rm (by omega) (Nat.le_of_ble_eq_true rfl)) nb_a52 rfl rfl rfl hl.1 rfl (Nat.le_of_ble_eq_true rfl) dX7_opens_47 (fun H locs hP hS => ?_)
      refine W.eq (g2 := F0 m 50 ls []) rfl ?_
      refine lv_goto (tgt := 103) hx hb dX7_opens_50 (by decide) ?_
      refine lv_aload_n hx hb dX7_opens_103 rfl (lv_at hl 0 rfl) ?_
      refine lv_dup hx hb dX7_opens_104 rfl ?_
      refine va_get (v := .int (M_28.1 0 13)) (C := RX7) (T := TX7) (N := 21) hx hb hts in7 hown hK.1 hP 52 nb_a52 rfl 13 (by decide) w_1 (fun _ h9 => h9) rfl dX7_opens_105 ?_
      refine lv_iconst (v := (1 : Int32)) hx hb dX7_opens_108 (by decide) ?_
      refine lv_isub hx hb dX7_opens_109 ?_
      refine nb_put (C := RX7) (T := TX7) (NN := 21) hx hb had hts in7 tyX7 tyX7_ok nmX7 hown hK hP hS nb_a52 rfl 13 (by decide) w_1 rfl (ty := .int) (by decide +kernel) rfl rfl (Nat.le_of_ble_eq_true rfl) (nb_p52_13 _) dX7_opens_110 (fun H locs hP hS => ?_)
      obtain ⟨M_29, e_29, h⟩ := nb_nE h
      rw [e_29] at hP
      obtain rfl := nb_e1 h
      exact nb_vret hx hb hr hlk hP hS dX7_opens_113
  · have h := nb_t c_1 h
    refine lv_aload_n hx hb dX7_opens_8 rfl (lv_at hl 0 rfl) ?_
    refine lv_iconst (v := (1 : Int32)) hx hb dX7_opens_9 (by decide) ?_
    refine nb_put (C := RX7) (T := TX7) (NN := 21) hx hb had hts in7 tyX7 tyX7_ok nmX7 hown hK hP hS nb_a52 rfl 14 (by decide) w_4 rfl (ty := .boolean) (by decide +kernel) rfl rfl (Nat.le_of_ble_eq_true rfl) (nb_p52_14 _) dX7_opens_10 (fun H locs hP hS => ?_)
    obtain ⟨M_30, e_30, h⟩ := nb_nE h
    rw [e_30] at hP
    obtain rfl := nb_e1 h
    exact nb_vret hx hb hr hlk hP hS dX7_opens_13
theorem k_MP (had : nb_AD ad b0) : ∀ (d s : Nat) (M : nb_M) (a : Int32) (M' : nb_M), f_MP d s M a = some M' → ∀ N : nb_M, g_MP l D ad ca b0 d s a M N M' := by
  intro d
  induction d with
  | zero => intro s M a M' h; rw [f_MP] at h; cases h
  | succ d ih =>
    intro s M a M' h N
    rw [f_MP] at h
    by_cases s_0 : s = 0
    · have h := nb_t s_0 h
      subst s_0
      have q := k_X7_any (l := l) (D := D) (ad := ad) (ca := ca) (b0 := b0) (d := d) had (f_MP d) ih M N  h
      have e : d + 3 = d + 1 + 2 := by omega
      rw [e] at q
      exact q
    have h := nb_f s_0 h
    by_cases s_1 : s = 1
    · have h := nb_t s_1 h
      subst s_1
      have q := k_X7_all (l := l) (D := D) (ad := ad) (ca := ca) (b0 := b0) (d := d) had (f_MP d) ih M N  h
      have e : d + 3 = d + 1 + 2 := by omega
      rw [e] at q
      exact q
    have h := nb_f s_1 h
    by_cases s_2 : s = 2
    · have h := nb_t s_2 h
      subst s_2
      have q := k_X7_compares (l := l) (D := D) (ad := ad) (ca := ca) (b0 := b0) (d := d) had (f_MP d) ih M N  h
      have e : d + 3 = d + 1 + 2 := by omega
      rw [e] at q
      exact q
    have h := nb_f s_2 h
    by_cases s_3 : s = 3
    · have h := nb_t s_3 h
      subst s_3
      have q := k_X7_sum (l := l) (D := D) (ad := ad) (ca := ca) (b0 := b0) (d := d) had (f_MP d) ih M N  h
      have e : d + 3 = d + 1 + 2 := by omega
      rw [e] at q
      exact q
    have h := nb_f s_3 h
    by_cases s_4 : s = 4
    · have h := nb_t s_4 h
      subst s_4
      have q := k_X7_times (l := l) (D := D) (ad := ad) (ca := ca) (b0 := b0) (d := d) had (f_MP d) ih M N  h
      have e : d + 3 = d + 1 + 2 := by omega
      rw [e] at q
      exact q
    have h := nb_f s_4 h
    by_cases s_5 : s = 5
    · have h := nb_t s_5 h
      subst s_5
      have q := k_X7_one (l := l) (D := D) (ad := ad) (ca := ca) (b0 := b0) (d := d) had (f_MP d) ih M N  h
      have e : d + 3 = d + 1 + 2 := by omega
      rw [e] at q
      exact q
    have h := nb_f s_5 h
    by_cases s_6 : s = 6
    · have h := nb_t s_6 h
      subst s_6
      have q := k_X7_opens (l := l) (D := D) (ad := ad) (ca := ca) (b0 := b0) (d := d) had (f_MP d) ih M N a h
      have e : d + 3 = d + 1 + 2 := by omega
      rw [e] at q
      exact q
    have h := nb_f s_6 h
    cases h
theorem k_X7_any_x {M' : nb_M} (had : nb_AD ad b0) (M N : nb_M) (h : f_X7_any_x M = some M') : nb_C l D ad ca b0 yX7_any wsX7_any 66 [.ref (ad 52)] N M none N M' := g_MP_0 (k_MP had nb_dp 0 M 0 _ h N)
theorem k_X7_all_x {M' : nb_M} (had : nb_AD ad b0) (M N : nb_M) (h : f_X7_all_x M = some M') : nb_C l D ad ca b0 yX7_all wsX7_all 66 [.ref (ad 52)] N M none N M' := g_MP_1 (k_MP had nb_dp 1 M 0 _ h N)
theorem k_X7_compares_x {M' : nb_M} (had : nb_AD ad b0) (M N : nb_M) (h : f_X7_compares_x M = some M') : nb_C l D ad ca b0 yX7_compares wsX7_compares 66 [.ref (ad 52)] N M none N M' := g_MP_2 (k_MP had nb_dp 2 M 0 _ h N)
theorem k_X7_sum_x {M' : nb_M} (had : nb_AD ad b0) (M N : nb_M) (h : f_X7_sum_x M = some M') : nb_C l D ad ca b0 yX7_sum wsX7_sum 66 [.ref (ad 52)] N M none N M' := g_MP_3 (k_MP had nb_dp 3 M 0 _ h N)
theorem k_X7_times_x {M' : nb_M} (had : nb_AD ad b0) (M N : nb_M) (h : f_X7_times_x M = some M') : nb_C l D ad ca b0 yX7_times wsX7_times 66 [.ref (ad 52)] N M none N M' := g_MP_4 (k_MP had nb_dp 4 M 0 _ h N)
theorem k_X7_one_x {M' : nb_M} (had : nb_AD ad b0) (M N : nb_M) (h : f_X7_one_x M = some M') : nb_C l D ad ca b0 yX7_one wsX7_one 66 [.ref (ad 52)] N M none N M' := g_MP_5 (k_MP had nb_dp 5 M 0 _ h N)
theorem k_X7_opens_x {M' : nb_M} (had : nb_AD ad b0) (M N : nb_M) (p0 : Int32) (h : f_X7_opens_x M p0 = some M') : nb_C l D ad ca b0 yX7_opens wsX7_opens 66 [.ref (ad 52), .int p0] N M none N M' := g_MP_6 (k_MP had nb_dp 6 M p0 _ h N)
set_option maxHeartbeats 4000000 in
set_option maxRecDepth 100000 in
theorem w_X7_text_117 {N : nb_M} {r : Int32} {M' : nb_M} (had : nb_AD ad b0) (X : nb_X p s m args meth c cX7_text 4 RX7 (some .int) wsX7_text D ca b0) : ∀ (n : Nat) (M : nb_M) (x2 : Int32) (x3 : Int32), f_X7_text_117 n M x2 x3 = some (r, M') → ∀ (H : Heap) (locs : List Loc), va_P D vwCl (nb_w ad ca N M) H → va_S (fun q => b0 ≤ q) s.heap H locs → ∀ ls : Array Slot, lv_has ls 4 [(0, .ref (ad 52)), (2, .int x2), (3, .int x3)] → W p l e (nb_R 67) s m args below meth c H locs 0 0 (nb_Q below args s D ad ca b0 (some (.int r)) N M') (F0 m 117 ls []) := by
  obtain ⟨hx, hb, hml, hown, hts, hr, hlk, hK, hZ⟩ := id X
  have w_1 := hts (.fieldLink RX7 127 "NineBreakagesModel" "laid" "I") (by decide +kernel)
  have in7 : ∀ w ∈ u_ws RX7 TX7 21, w ∈ wsX7_text := fun w q => List.mem_cons_of_mem _ (List.mem_append_right _ q)
  have w_3 := hts (.fieldLink RX7 9 "NineBreakagesModel" "row" "[I") (by decide +kernel)
  have w_4 := hts (.fieldLink RX7 28 "NineBreakagesModel" "act" "[I") (by decide +kernel)
  have w_5 := hts (.fieldLink RX7 31 "NineBreakagesModel" "with" "[I") (by decide +kernel)
  intro n
  induction n with
  | zero =>
    intro M x2 x3 h
    rw [f_X7_text_117] at h
    cases h
  | succ n ih =>
    intro M x2 x3 h H locs hP hS ls hl
    rw [f_X7_text_117] at h
    refine lv_iload_n hx hb dX7_text_117 rfl (lv_at hl 2 rfl) ?_
    refine lv_aload_n hx hb dX7_text_118 rfl (lv_at hl 0 rfl) ?_
    refine va_get (v := .int (M.1 0 11)) (C := RX7) (T := TX7) (N := 21) hx hb hts in7 hown hK.1 hP 52 nb_a52 rfl 11 (by decide) w_1 (fun _ h9 => h9) rfl dX7_text_119 ?_
    refine lv_icmp_ge (tgt := 164) hx hb dX7_text_122 (by decide) (fun c_16 => ?_) (fun c_16 => ?_)
    · have h := nb_t c_16 h
      refine lv_iconst (v := (1 : Int32)) hx hb dX7_text_164 (by decide) ?_
      obtain ⟨rfl, rfl⟩ := nb_e2 h
      exact nb_iret hx hb hr hlk hP hS dX7_text_165
    · have h := nb_f c_16 h
      refine lv_aload_n hx hb dX7_text_125 rfl (lv_at hl 0 rfl) ?_
      refine va_get (v := .ref (ad 53)) (C := RX7) (T := TX7) (N := 21) hx hb hts in7 hown hK.1 hP 52 nb_a52 rfl 0 (by decide) w_3 (fun _ h9 => h9) rfl dX7_text_126 ?_
      refine lv_iload_n hx hb dX7_text_129 rfl (lv_at hl 1 rfl) ?_
      refine lv_iconst (v := (1 : Int32)) hx hb dX7_text_130 (by decide) ?_
      refine lv_iadd hx hb dX7_text_131 ?_
      refine lv_iload_n hx hb dX7_text_132 rfl (lv_at hl 2 rfl) ?_
      refine lv_iadd hx hb dX7_text_133 ?_
      refine lv_aload_n hx hb dX7_text_134 rfl (lv_at hl 0 rfl) ?_
      refine va_get (v := .ref (ad 59)) (C := RX7) (T := TX7) (N := 21) hx hb hts in7 hown hK.1 hP 52 nb_a52 rfl 7 (by decide) w_4 (fun _ h9 => h9) rfl dX7_text_135 ?_
      refine lv_iload_n hx hb dX7_text_138 rfl (lv_at hl 2 rfl) ?_
      obtain ⟨c_17, h⟩ := nb_c h
      refine va_iald hx hb hK.1 hP 59 0 nb_a59 rfl c_17 dX7_text_139 ?_
      obtain ⟨c_18, h⟩ := nb_c h
      refine nb_iast hx hb had hK hP hS nb_a53 c_18 (nb_t53 _ _) dX7_text_140 (fun H locs hP hS => ?_)
      obtain ⟨M_19, e_19, h⟩ := nb_nE h
      rw [e_19] at hP
      refine lv_aload_n hx hb dX7_text_141 rfl (lv_at hl 0 rfl) ?_
      refine va_get (v := .ref (ad 53)) (C := RX7) (T := TX7) (N := 21) hx hb hts in7 hown hK.1 hP 52 nb_a52 rfl 0 (by decide) w_3 (fun _ h9 => h9) rfl dX7_text_142 ?_
      refine lv_iload_n hx hb dX7_text_145 rfl (lv_at hl 1 rfl) ?_
      refine lv_bipush (v := (61 : Int32)) hx hb dX7_text_146 (by decide) ?_
      refine lv_iadd hx hb dX7_text_148 ?_
      refine lv_iload_n hx hb dX7_text_149 rfl (lv_at hl 2 rfl) ?_
      refine lv_iadd hx hb dX7_text_150 ?_
      refine lv_aload_n hx hb dX7_text_151 rfl (lv_at hl 0 rfl) ?_
      refine va_get (v := .ref (ad 60)) (C := RX7) (T := TX7) (N := 21) hx hb hts in7 hown hK.1 hP 52 nb_a52 rfl 8 (by decide) w_5 (fun _ h9 => h9) rfl dX7_text_152 ?_
      refine lv_iload_n hx hb dX7_text_155 rfl (lv_at hl 2 rfl) ?_
      refine va_iald hx hb hK.1 hP 60 0 nb_a60 rfl c_17 dX7_text_156 ?_
      obtain ⟨c_20, h⟩ := nb_c h
      refine nb_iast hx hb had hK hP hS nb_a53 c_20 (nb_t53 _ _) dX7_text_157 (fun H locs hP hS => ?_)
      obtain ⟨M_21, e_21, h⟩ := nb_nE h
      rw [e_21] at hP
      refine lv_iinc (v := x3 + 1) (lv' := [(3, .int (x3 + 1)), (0, .ref (ad 52)), (2, .int x2)]) hx hb dX7_text_158 hl (k := 2) rfl (congrArg (HAdd.hAdd x3) (by decide)) (by decide) rfl (fun ls hl => ?_)
      refine lv_goto (tgt := 117) hx hb dX7_text_161 (by decide) ?_
      exact ih _ _ _ h _ _ hP hS _ (lv_sub hl [1, 2, 0] rfl)
set_option maxHeartbeats 4000000 in
set_option maxRecDepth 100000 in
theorem k_X7_text {r : Int32} {M' : nb_M} (had : nb_AD ad b0) (M N : nb_M) (p0 : Int32) (h : f_X7_text M p0 = some (r, M')) : nb_C l D ad ca b0 yX7_text wsX7_text 67 [.ref (ad 52), .int p0] N M (some (.int r)) N M' := by
  refine nb_of (cc := cX7_text) (maxL := 4) (ret := (some .int)) (own := RX7) (by decide +kernel) rfl rfl (Nat.le_of_ble_eq_true rfl) ?_
  intro p e s m args below meth c ls X hP hS hl
  have hl : lv_has ls 4 [(0, .ref (ad 52)), (1, .int p0)] := hl
  obtain ⟨hx, hb, hml, hown, hts, hr, hlk, hK, hZ⟩ := id X
  have w_1 := hts (.fieldLink RX7 130 "NineBreakagesModel" "using" "I") (by decide +kernel)
  have in7 : ∀ w ∈ u_ws RX7 TX7 21, w ∈ wsX7_text := fun w q => List.mem_cons_of_mem _ (List.mem_append_right _ q)
  have w_3 := hts (.fieldLink RX7 127 "NineBreakagesModel" "laid" "I") (by decide +kernel)
  have w_4 := hts (.fieldLink RX7 123 "NineBreakagesModel" "here" "I") (by decide +kernel)
  have w_5 := hts (.fieldLink RX7 144 "NineBreakagesModel" "opened" "I") (by decide +kernel)
  have w_6 := hts (.fieldLink RX7 136 "NineBreakagesModel" "bad" "Z") (by decide +kernel)
  have w_7 := hts (.fieldLink RX7 9 "NineBreakagesModel" "row" "[I") (by decide +kernel)
  have w_8 := hts (.constant RX7 77 (-1000000001)) (by decide +kernel)
  unfold f_X7_text at h
  refine lv_iload_n hx hb dX7_text_0 rfl (lv_at hl 1 rfl) ?_
  refine lv_iconst (v := (0 : Int32)) hx hb dX7_text_1 (by decide) ?_
  refine lv_iconst (v := (1 : Int32)) hx hb dX7_text_2 (by decide) ?_
  refine nb_callS (n := 3) (As := [.int p0, .int (0 : Int32), .int (1 : Int32)]) (rest := []) hx hb hml hown hts hK hZ hP hS (k_X7_in had M N p0 (0 : Int32) (1 : Int32)) gX7_text_X7_in rfl (by decide +kernel) (nb_rm (Nat.le_of_ble_eq_true rfl) (Nat.le_of_ble_eq_true rfl)) rfl hl.1 rfl (Nat.le_of_ble_eq_true rfl) dX7_text_3 (fun H locs hP hS => ?_)
  refine W.eq (g2 := F0 m 6 ls [.int (f_X7_in p0 (0 : Int32) (1 : Int32))]) rfl ?_
  refine lv_if_ne (tgt := 16) hx hb dX7_text_6 (by decide) (fun c_2 => ?_) (fun c_2 => ?_)
  · have h := nb_f c_2 h
    refine lv_aload_n hx hb dX7_text_16 rfl (lv_at hl 0 rfl) ?_
    refine lv_iload_n hx hb dX7_text_17 rfl (lv_at hl 1 rfl) ?_
    refine nb_put (C := RX7) (T := TX7) (NN := 21) hx hb had hts in7 tyX7 tyX7_ok nmX7 hown hK hP hS nb_a52 rfl 15 (by decide) w_1 rfl (ty := .int) (by decide +kernel) rfl rfl (Nat.le_of_ble_eq_true rfl) (nb_p52_15 _) dX7_text_18 (fun H locs hP hS => ?_)
    obtain ⟨M_3, e_3, h⟩ := nb_nE h
    rw [e_3] at hP
    refine lv_aload_n hx hb dX7_text_21 rfl (lv_at hl 0 rfl) ?_
    refine lv_iconst (v := (0 : Int32)) hx hb dX7_text_22 (by decide) ?_
    refine nb_put (C := RX7) (T := TX7) (NN := 21) hx hb had hts in7 tyX7 tyX7_ok nmX7 hown hK hP hS nb_a52 rfl 11 (by decide) w_3 rfl (ty := .int) (by decide +kernel) rfl rfl (Nat.le_of_ble_eq_true rfl) (nb_p52_11 _) dX7_text_23 (fun H locs hP hS => ?_)
    obtain ⟨M_4, e_4, h⟩ := nb_nE h
    rw [e_4] at hP
    refine lv_aload_n hx hb dX7_text_26 rfl (lv_at hl 0 rfl) ?_
    refine lv_iconst (v := (0 : Int32)) hx hb dX7_text_27 (by decide) ?_
    refine nb_put (C := RX7) (T := TX7) (NN := 21) hx hb had hts in7 tyX7 tyX7_ok nmX7 hown hK hP hS nb_a52 rfl 12 (by decide) w_4 rfl (ty := .int) (by decide +kernel) rfl rfl (Nat.le_of_ble_eq_true rfl) (nb_p52_12 _) dX7_text_28 (fun H locs hP hS => ?_)
    obtain ⟨M_5, e_5, h⟩ := nb_nE h
    rw [e_5] at hP
    refine lv_aload_n hx hb dX7_text_31 rfl (lv_at hl 0 rfl) ?_
    refine lv_iconst (v := (0 : Int32)) hx hb dX7_text_32 (by decide) ?_
    refine nb_put (C := RX7) (T := TX7) (NN := 21) hx hb had hts in7 tyX7 tyX7_ok nmX7 hown hK hP hS nb_a52 rfl 13 (by decide) w_5 rfl (ty := .int) (by decide +kernel) rfl rfl (Nat.le_of_ble_eq_true rfl) (nb_p52_13 _) dX7_text_33 (fun H locs hP hS => ?_)
    obtain ⟨M_6, e_6, h⟩ := nb_nE h
    rw [e_6] at hP
    refine lv_aload_n hx hb dX7_text_36 rfl (lv_at hl 0 rfl) ?_
    refine lv_iconst (v := (0 : Int32)) hx hb dX7_text_37 (by decide) ?_
    refine nb_put (C := RX7) (T := TX7) (NN := 21) hx hb had hts in7 tyX7 tyX7_ok nmX7 hown hK hP hS nb_a52 rfl 14 (by decide) w_6 rfl (ty := .boolean) (by decide +kernel) rfl rfl (Nat.le_of_ble_eq_true rfl) (nb_p52_14 _) dX7_text_38 (fun H locs hP hS => ?_)
    obtain ⟨M_7, e_7, h⟩ := nb_nE h
    rw [e_7] at hP
    refine lv_aload_n hx hb dX7_text_41 rfl (lv_at hl 0 rfl) ?_
    obtain ⟨M_8, e_8, h⟩ := nb_oE h
    refine nb_callV (n := 0) (As := []) (rest := []) hx hb hml hown hts hK hZ hP hS (k_X7_any_x had M_7 N e_8) gX7_text_X7_any rfl (by decide +kernel) (nb_rm (Nat.le_of_ble_eq_true rfl) (Nat.le_of_ble_eq_true rfl)) nb_a52 rfl rfl rfl hl.1 rfl (Nat.le_of_ble_eq_true rfl) dX7_text_42 (fun H locs hP hS => ?_)
    refine W.eq (g2 := F0 m 45 ls []) rfl ?_
    refine lv_aload_n hx hb dX7_text_45 rfl (lv_at hl 0 rfl) ?_
    refine lv_aload_n hx hb dX7_text_46 rfl (lv_at hl 0 rfl) ?_
    refine va_get (v := .int (M_8.1 0 14)) (C := RX7) (T := TX7) (N := 21) hx hb hts in7 hown hK.1 hP 52 nb_a52 rfl 14 (by decide) w_6 (fun _ h9 => h9) rfl dX7_text_47 ?_
    refine lv_if_ne (tgt := 66) hx hb dX7_text_50 (by decide) (fun c_9 => ?_) (fun c_9 => ?_)
    · have h := nb_f c_9 h
      refine lv_iconst (v := (1 : Int32)) hx hb dX7_text_66 (by decide) ?_
      refine lv_goto (tgt := 71) hx hb dX7_text_67 (by decide) ?_
      refine nb_put (C := RX7) (T := TX7) (NN := 21) hx hb had hts in7 tyX7 tyX7_ok nmX7 hown hK hP hS nb_a52 rfl 14 (by decide) w_6 rfl (ty := .boolean) (by decide +kernel) rfl rfl (Nat.le_of_ble_eq_true rfl) (nb_p52_14 _) dX7_text_71 (fun H locs hP hS => ?_)
      obtain ⟨M_10, e_10, h⟩ := nb_nE h
      rw [e_10] at hP
      refine lv_aload_n hx hb dX7_text_74 rfl (lv_at hl 0 rfl) ?_
      refine va_get (v := .ref (ad 53)) (C := RX7) (T := TX7) (N := 21) hx hb hts in7 hown hK.1 hP 52 nb_a52 rfl 0 (by decide) w_7 (fun _ h9 => h9) rfl dX7_text_75 ?_
      refine lv_iconst (v := (4 : Int32)) hx hb dX7_text_78 (by decide) ?_
      refine lv_iconst (v := (0 : Int32)) hx hb dX7_text_79 (by decide) ?_
      refine nb_iast hx hb had hK hP hS nb_a53 (nb_lit rfl) (nb_t53 _ _) dX7_text_80 (fun H locs hP hS => ?_)
      obtain ⟨M_11, e_11, h⟩ := nb_nE h
      rw [e_11] at hP
      refine lv_aload_n hx hb dX7_text_81 rfl (lv_at hl 0 rfl) ?_
      refine va_get (v := .int (M_11.1 0 14)) (C := RX7) (T := TX7) (N := 21) hx hb hts in7 hown hK.1 hP 52 nb_a52 rfl 14 (by decide) w_6 (fun _ h9 => h9) rfl dX7_text_82 ?_
      refine lv_if_eq (tgt := 96) hx hb dX7_text_85 (by decide) (fun c_12 => ?_) (fun c_12 => ?_)
      · have h := nb_t c_12 h
        refine lv_sipush (v := (141 : Int32)) hx hb dX7_text_96 (by decide) ?_
        refine lv_bipush (v := (121 : Int32)) hx hb dX7_text_99 (by decide) ?_
        refine lv_iload_n hx hb dX7_text_101 rfl (lv_at hl 1 rfl) ?_
        refine lv_imul hx hb dX7_text_102 ?_
        refine lv_iadd hx hb dX7_text_103 ?_
        refine lv_topi (fun v_13 e_13 => ?_)
        have h := nb_nA e_13 h
        refine lv_istore_n (lv' := [(2, .int v_13), (0, .ref (ad 52)), (1, .int p0)]) hx hb dX7_text_104 rfl hl (by decide) rfl (fun ls hl => ?_)
        refine lv_aload_n hx hb dX7_text_105 rfl (lv_at hl 1 rfl) ?_
        refine va_get (v := .ref (ad 53)) (C := RX7) (T := TX7) (N := 21) hx hb hts in7 hown hK.1 hP 52 nb_a52 rfl 0 (by decide) w_7 (fun _ h9 => h9) rfl dX7_text_106 ?_
        refine lv_iload_n hx hb dX7_text_109 rfl (lv_at hl 0 rfl) ?_
        refine lv_aload_n hx hb dX7_text_110 rfl (lv_at hl 1 rfl) ?_
        refine va_get (v := .int (M_11.1 0 11)) (C := RX7) (T := TX7) (N := 21) hx hb hts in7 hown hK.1 hP 52 nb_a52 rfl 11 (by decide) w_3 (fun _ h9 => h9) rfl dX7_text_111 ?_
        obtain ⟨c_14, h⟩ := nb_c h
        refine nb_iast hx hb had hK hP hS nb_a53 c_14 (nb_t53 _ _) dX7_text_114 (fun H locs hP hS => ?_)
        obtain ⟨M_15, e_15, h⟩ := nb_nE h
        rw [e_15] at hP
        refine lv_iconst (v := (0 : Int32)) hx hb dX7_text_115 (by decide) ?_
        refine lv_istore_n (lv' := [(3, .int (0 : Int32)), (2, .int v_13), (0, .ref (ad 52)), (1, .int p0)]) hx hb dX7_text_116 rfl hl (by decide) rfl (fun ls hl => ?_)
        exact w_X7_text_117 had X nb_F _ _ _ h _ _ hP hS _ (lv_sub hl [2, 1, 0] rfl)
      · have h := nb_f c_12 h
        refine lv_bipush (v := (-10 : Int32)) hx hb dX7_text_88 (by decide) ?_
        refine lv_aload_n hx hb dX7_text_90 rfl (lv_at hl 0 rfl) ?_
        refine va_get (v := .int (M_11.1 0 12)) (C := RX7) (T := TX7) (N := 21) hx hb hts in7 hown hK.1 hP 52 nb_a52 rfl 12 (by decide) w_4 (fun _ h9 => h9) rfl dX7_text_91 ?_
        refine lv_isub hx hb dX7_text_94 ?_
        obtain ⟨rfl, rfl⟩ := nb_e2 h
        exact nb_iret hx hb hr hlk hP hS dX7_text_95
    · have h := nb_t c_9 h
      refine lv_aload_n hx hb dX7_text_53 rfl (lv_at hl 0 rfl) ?_
      refine va_get (v := .int (M_8.1 0 12)) (C := RX7) (T := TX7) (N := 21) hx hb hts in7 hown hK.1 hP 52 nb_a52 rfl 12 (by decide) w_4 (fun _ h9 => h9) rfl dX7_text_54 ?_
      refine lv_aload_n hx hb dX7_text_57 rfl (lv_at hl 0 rfl) ?_
      refine va_get (v := .ref (ad 53)) (C := RX7) (T := TX7) (N := 21) hx hb hts in7 hown hK.1 hP 52 nb_a52 rfl 0 (by decide) w_7 (fun _ h9 => h9) rfl dX7_text_58 ?_
      refine lv_iconst (v := (4 : Int32)) hx hb dX7_text_61 (by decide) ?_
      refine va_iald hx hb hK.1 hP 53 0 nb_a53 rfl (nb_lit rfl) dX7_text_62 ?_
      refine lv_icmp_ge (tgt := 70) hx hb dX7_text_63 (by decide) (fun c_22 => ?_) (fun c_22 => ?_)
      · have h := nb_t c_22 h
        refine lv_iconst (v := (0 : Int32)) hx hb dX7_text_70 (by decide) ?_
        refine nb_put (C := RX7) (T := TX7) (NN := 21) hx hb had hts in7 tyX7 tyX7_ok nmX7 hown hK hP hS nb_a52 rfl 14 (by decide) w_6 rfl (ty := .boolean) (by decide +kernel) rfl rfl (Nat.le_of_ble_eq_true rfl) (nb_p52_14 _) dX7_text_71 (fun H locs hP hS => ?_)
        obtain ⟨M_23, e_23, h⟩ := nb_nE h
        rw [e_23] at hP
        refine lv_aload_n hx hb dX7_text_74 rfl (lv_at hl 0 rfl) ?_
        refine va_get (v := .ref (ad 53)) (C := RX7) (T := TX7) (N := 21) hx hb hts in7 hown hK.1 hP 52 nb_a52 rfl 0 (by decide) w_7 (fun _ h9 => h9) rfl dX7_text_75 ?_
        refine lv_iconst (v := (4 : Int32)) hx hb dX7_text_78 (by decide) ?_
        refine lv_iconst (v := (0 : Int32)) hx hb dX7_text_79 (by decide) ?_
        refine nb_iast hx hb had hK hP hS nb_a53 (nb_lit rfl) (nb_t53 _ _) dX7_text_80 (fun H locs hP hS => ?_)
        obtain ⟨M_24, e_24, h⟩ := nb_nE h
        rw [e_24] at hP
        refine lv_aload_n hx hb dX7_text_81 rfl (lv_at hl 0 rfl) ?_
        refine va_get (v := .int (M_24.1 0 14)) (C := RX7) (T := TX7) (N := 21) hx hb hts in7 hown hK.1 hP 52 nb_a52 rfl 14 (by decide) w_6 (fun _ h9 => h9) rfl dX7_text_82 ?_
        refine lv_if_eq (tgt := 96) hx hb dX7_text_85 (by decide) (fun c_25 => ?_) (fun c_25 => ?_)
        · have h := nb_t c_25 h
          refine lv_sipush (v := (141 : Int32)) hx hb dX7_text_96 (by decide) ?_
          refine lv_bipush (v := (121 : Int32)) hx hb dX7_text_99 (by decide) ?_
          refine lv_iload_n hx hb dX7_text_101 rfl (lv_at hl 1 rfl) ?_
          refine lv_imul hx hb dX7_text_102 ?_
          refine lv_iadd hx hb dX7_text_103 ?_
          refine lv_topi (fun v_26 e_26 => ?_)
          have h := nb_nA e_26 h
          refine lv_istore_n (lv' := [(2, .int v_26), (0, .ref (ad 52)), (1, .int p0)]) hx hb dX7_text_104 rfl hl (by decide) rfl (fun ls hl => ?_)
          refine lv_aload_n hx hb dX7_text_105 rfl (lv_at hl 1 rfl) ?_
          refine va_get (v := .ref (ad 53)) (C := RX7) (T := TX7) (N := 21) hx hb hts in7 hown hK.1 hP 52 nb_a52 rfl 0 (by decide) w_7 (fun _ h9 => h9) rfl dX7_text_106 ?_
          refine lv_iload_n hx hb dX7_text_109 rfl (lv_at hl 0 rfl) ?_
          refine lv_aload_n hx hb dX7_text_110 rfl (lv_at hl 1 rfl) ?_
          refine va_get (v := .int (M_24.1 0 11)) (C := RX7) (T := TX7) (N := 21) hx hb hts in7 hown hK.1 hP 52 nb_a52 rfl 11 (by decide) w_3 (fun _ h9 => h9) rfl dX7_text_111 ?_
          obtain ⟨c_27, h⟩ := nb_c h
          refine nb_iast hx hb had hK hP hS nb_a53 c_27 (nb_t53 _ _) dX7_text_114 (fun H locs hP hS => ?_)
          obtain ⟨M_28, e_28, h⟩ := nb_nE h
          rw [e_28] at hP
          refine lv_iconst (v := (0 : Int32)) hx hb dX7_text_115 (by decide) ?_
          refine lv_istore_n (lv' := [(3, .int (0 : Int32)), (2, .int v_26), (0, .ref (ad 52)), (1, .int p0)]) hx hb dX7_text_116 rfl hl (by decide) rfl (fun ls hl => ?_)
          exact w_X7_text_117 had X nb_F _ _ _ h _ _ hP hS _ (lv_sub hl [2, 1, 0] rfl)
        · have h := nb_f c_25 h
          refine lv_bipush (v := (-10 : Int32)) hx hb dX7_text_88 (by decide) ?_
          refine lv_aload_n hx hb dX7_text_90 rfl (lv_at hl 0 rfl) ?_
          refine va_get (v := .int (M_24.1 0 12)) (C := RX7) (T := TX7) (N := 21) hx hb hts in7 hown hK.1 hP 52 nb_a52 rfl 12 (by decide) w_4 (fun _ h9 => h9) rfl dX7_text_91 ?_
          refine lv_isub hx hb dX7_text_94 ?_
          obtain ⟨rfl, rfl⟩ := nb_e2 h
          exact nb_iret hx hb hr hlk hP hS dX7_text_95
      · have h := nb_f c_22 h
        refine lv_iconst (v := (1 : Int32)) hx hb dX7_text_66 (by decide) ?_
        refine lv_goto (tgt := 71) hx hb dX7_text_67 (by decide) ?_
        refine nb_put (C := RX7) (T := TX7) (NN := 21) hx hb had hts in7 tyX7 tyX7_ok nmX7 hown hK hP hS nb_a52 rfl 14 (by decide) w_6 rfl (ty := .boolean) (by decide +kernel) rfl rfl (Nat.le_of_ble_eq_true rfl) (nb_p52_14 _) dX7_text_71 (fun H locs hP hS => ?_)
        obtain ⟨M_29, e_29, h⟩ := nb_nE h
        rw [e_29] at hP
        refine lv_aload_n hx hb dX7_text_74 rfl (lv_at hl 0 rfl) ?_
        refine va_get (v := .ref (ad 53)) (C := RX7) (T := TX7) (N := 21) hx hb hts in7 hown hK.1 hP 52 nb_a52 rfl 0 (by decide) w_7 (fun _ h9 => h9) rfl dX7_text_75 ?_
        refine lv_iconst (v := (4 : Int32)) hx hb dX7_text_78 (by decide) ?_
        refine lv_iconst (v := (0 : Int32)) hx hb dX7_text_79 (by decide) ?_
        refine nb_iast hx hb had hK hP hS nb_a53 (nb_lit rfl) (nb_t53 _ _) dX7_text_80 (fun H locs hP hS => ?_)
        obtain ⟨M_30, e_30, h⟩ := nb_nE h
        rw [e_30] at hP
        refine lv_aload_n hx hb dX7_text_81 rfl (lv_at hl 0 rfl) ?_
        refine va_get (v := .int (M_30.1 0 14)) (C := RX7) (T := TX7) (N := 21) hx hb hts in7 hown hK.1 hP 52 nb_a52 rfl 14 (by decide) w_6 (fun _ h9 => h9) rfl dX7_text_82 ?_
        refine lv_if_eq (tgt := 96) hx hb dX7_text_85 (by decide) (fun c_31 => ?_) (fun c_31 => ?_)
        · have h := nb_t c_31 h
          refine lv_sipush (v := (141 : Int32)) hx hb dX7_text_96 (by decide) ?_
          refine lv_bipush (v := (121 : Int32)) hx hb dX7_text_99 (by decide) ?_
          refine lv_iload_n hx hb dX7_text_101 rfl (lv_at hl 1 rfl) ?_
          refine lv_imul hx hb dX7_text_102 ?_
          refine lv_iadd hx hb dX7_text_103 ?_
          refine lv_topi (fun v_32 e_32 => ?_)
          have h := nb_nA e_32 h
          refine lv_istore_n (lv' := [(2, .int v_32), (0, .ref (ad 52)), (1, .int p0)]) hx hb dX7_text_104 rfl hl (by decide) rfl (fun ls hl => ?_)
          refine lv_aload_n hx hb dX7_text_105 rfl (lv_at hl 1 rfl) ?_
          refine va_get (v := .ref (ad 53)) (C := RX7) (T := TX7) (N := 21) hx hb hts in7 hown hK.1 hP 52 nb_a52 rfl 0 (by decide) w_7 (fun _ h9 => h9) rfl dX7_text_106 ?_
          refine lv_iload_n hx hb dX7_text_109 rfl (lv_at hl 0 rfl) ?_
          refine lv_aload_n hx hb dX7_text_110 rfl (lv_at hl 1 rfl) ?_
          refine va_get (v := .int (M_30.1 0 11)) (C := RX7) (T := TX7) (N := 21) hx hb hts in7 hown hK.1 hP 52 nb_a52 rfl 11 (by decide) w_3 (fun _ h9 => h9) rfl dX7_text_111 ?_
          obtain ⟨c_33, h⟩ := nb_c h
          refine nb_iast hx hb had hK hP hS nb_a53 c_33 (nb_t53 _ _) dX7_text_114 (fun H locs hP hS => ?_)
          obtain ⟨M_34, e_34, h⟩ := nb_nE h
          rw [e_34] at hP
          refine lv_iconst (v := (0 : Int32)) hx hb dX7_text_115 (by decide) ?_
          refine lv_istore_n (lv' := [(3, .int (0 : Int32)), (2, .int v_32), (0, .ref (ad 52)), (1, .int p0)]) hx hb dX7_text_116 rfl hl (by decide) rfl (fun ls hl => ?_)
          exact w_X7_text_117 had X nb_F _ _ _ h _ _ hP hS _ (lv_sub hl [2, 1, 0] rfl)
        · have h := nb_f c_31 h
          refine lv_bipush (v := (-10 : Int32)) hx hb dX7_text_88 (by decide) ?_
          refine lv_aload_n hx hb dX7_text_90 rfl (lv_at hl 0 rfl) ?_
          refine va_get (v := .int (M_30.1 0 12)) (C := RX7) (T := TX7) (N := 21) hx hb hts in7 hown hK.1 hP 52 nb_a52 rfl 12 (by decide) w_4 (fun _ h9 => h9) rfl dX7_text_91 ?_
          refine lv_isub hx hb dX7_text_94 ?_
          obtain ⟨rfl, rfl⟩ := nb_e2 h
          exact nb_iret hx hb hr hlk hP hS dX7_text_95
  · have h := nb_t c_2 h
    refine lv_aload_n hx hb dX7_text_9 rfl (lv_at hl 0 rfl) ?_
    refine lv_ldc (v := (-1000000001 : Int32)) hx hb hown w_8 dX7_text_10 ?_
    obtain ⟨r_35, M_35, e_35, h⟩ := nb_pE h
    refine nb_callV (n := 1) (As := [.int (-1000000001 : Int32)]) (rest := []) hx hb hml hown hts hK hZ hP hS (k_X7_error had M N (-1000000001 : Int32) e_35) gX7_text_X7_error rfl (by decide +kernel) (nb_rm (Nat.le_of_ble_eq_true rfl) (Nat.le_of_ble_eq_true rfl)) nb_a52 rfl rfl rfl hl.1 rfl (Nat.le_of_ble_eq_true rfl) dX7_text_12 (fun H locs hP hS => ?_)
    refine W.eq (g2 := F0 m 15 ls [.int r_35]) rfl ?_
    obtain ⟨rfl, rfl⟩ := nb_e2 h
    exact nb_iret hx hb hr hlk hP hS dX7_text_15
set_option maxHeartbeats 4000000 in
set_option maxRecDepth 100000 in
theorem k_X7_untell {r : Int32} {M' : nb_M} (had : nb_AD ad b0) (M N : nb_M) (p0 : Int32) (h : f_X7_untell M p0 = some (r, M')) : nb_C l D ad ca b0 yX7_untell wsX7_untell 1 [.ref (ad 52), .int p0] N M (some (.int r)) N M' := by
  refine nb_of (cc := cX7_untell) (maxL := 2) (ret := (some .int)) (own := RX7) (by decide +kernel) rfl rfl (Nat.le_of_ble_eq_true rfl) ?_
  intro p e s m args below meth c ls X hP hS hl
  have hl : lv_has ls 2 [(0, .ref (ad 52)), (1, .int p0)] := hl
  obtain ⟨hx, hb, hml, hown, hts, hr, hlk, hK, hZ⟩ := id X
  have w_1 := hts (.constant RX7 77 (-1000000001)) (by decide +kernel)
  unfold f_X7_untell at h
  refine lv_iload_n hx hb dX7_untell_0 rfl (lv_at hl 1 rfl) ?_
  refine lv_iconst (v := (0 : Int32)) hx hb dX7_untell_1 (by decide) ?_
  refine lv_iconst (v := (1 : Int32)) hx hb dX7_untell_2 (by decide) ?_
  refine nb_callS (n := 3) (As := [.int p0, .int (0 : Int32), .int (1 : Int32)]) (rest := []) hx hb hml hown hts hK hZ hP hS (k_X7_in had M N p0 (0 : Int32) (1 : Int32)) gX7_untell_X7_in rfl (by decide +kernel) (nb_rm (Nat.le_of_ble_eq_true rfl) (Nat.le_of_ble_eq_true rfl)) rfl hl.1 rfl (Nat.le_of_ble_eq_true rfl) dX7_untell_3 (fun H locs hP hS => ?_)
  refine W.eq (g2 := F0 m 6 ls [.int (f_X7_in p0 (0 : Int32) (1 : Int32))]) rfl ?_
  refine lv_if_ne (tgt := 16) hx hb dX7_untell_6 (by decide) (fun c_2 => ?_) (fun c_2 => ?_)
  · have h := nb_f c_2 h
    refine lv_aload_n hx hb dX7_untell_16 rfl (lv_at hl 0 rfl) ?_
    refine lv_sipush (v := (141 : Int32)) hx hb dX7_untell_17 (by decide) ?_
    refine lv_bipush (v := (121 : Int32)) hx hb dX7_untell_20 (by decide) ?_
    refine lv_iload_n hx hb dX7_untell_22 rfl (lv_at hl 1 rfl) ?_
    refine lv_imul hx hb dX7_untell_23 ?_
    refine lv_iadd hx hb dX7_untell_24 ?_
    refine lv_iconst (v := (0 : Int32)) hx hb dX7_untell_25 (by decide) ?_
    obtain ⟨r_3, M_3, e_3, h⟩ := nb_pE h
    refine nb_callV (n := 2) (As := [.int ((141 : Int32) + ((121 : Int32) * p0)), .int (0 : Int32)]) (rest := []) hx hb hml hown hts hK hZ hP hS (k_X7_becomes had M N ((141 : Int32) + ((121 : Int32) * p0)) (0 : Int32) e_3) gX7_untell_X7_becomes rfl (by decide +kernel) (nb_rm (Nat.le_of_ble_eq_true rfl) (Nat.le_of_ble_eq_true rfl)) nb_a52 rfl rfl rfl hl.1 rfl (Nat.le_of_ble_eq_true rfl) dX7_untell_26 (fun H locs hP hS => ?_)
    refine W.eq (g2 := F0 m 29 ls [.int r_3]) rfl ?_
    refine lv_if_le (tgt := 36) hx hb dX7_untell_29 (by decide) (fun c_4 => ?_) (fun c_4 => ?_)
    · have h := nb_t c_4 h
      refine lv_iconst (v := (0 : Int32)) hx hb dX7_untell_36 (by decide) ?_
      obtain ⟨rfl, rfl⟩ := nb_e2 h
      exact nb_iret hx hb hr hlk hP hS dX7_untell_37
    · have h := nb_f c_4 h
      refine lv_iconst (v := (1 : Int32)) hx hb dX7_untell_32 (by decide) ?_
      refine lv_goto (tgt := 37) hx hb dX7_untell_33 (by decide) ?_
      obtain ⟨rfl, rfl⟩ := nb_e2 h
      exact nb_iret hx hb hr hlk hP hS dX7_untell_37
  · have h := nb_t c_2 h
    refine lv_aload_n hx hb dX7_untell_9 rfl (lv_at hl 0 rfl) ?_
    refine lv_ldc (v := (-1000000001 : Int32)) hx hb hown w_1 dX7_untell_10 ?_
    obtain ⟨r_5, M_5, e_5, h⟩ := nb_pE h
    refine nb_callV (n := 1) (As := [.int (-1000000001 : Int32)]) (rest := []) hx hb hml hown hts hK hZ hP hS (k_X7_error had M N (-1000000001 : Int32) e_5) gX7_untell_X7_error rfl (by decide +kernel) (nb_rm (Nat.le_of_ble_eq_true rfl) (Nat.le_of_ble_eq_true rfl)) nb_a52 rfl rfl rfl hl.1 rfl (Nat.le_of_ble_eq_true rfl) dX7_untell_12 (fun H locs hP hS => ?_)
    refine W.eq (g2 := F0 m 15 ls [.int r_5]) rfl ?_
    obtain ⟨rfl, rfl⟩ := nb_e2 h
    exact nb_iret hx hb hr hlk hP hS dX7_untell_15
set_option maxHeartbeats 4000000 in
set_option maxRecDepth 100000 in
theorem k_X7_law {r : Int32} {M' : nb_M} (had : nb_AD ad b0) (M N : nb_M) (p0 : Int32) (p1 : Int32) (p2 : Int32) (p3 : Int32) (h : f_X7_law M p0 p1 p2 p3 = some (r, M')) : nb_C l D ad ca b0 yX7_law wsX7_law 3 [.ref (ad 52), .int p0, .int p1, .int p2, .int p3] N M (some (.int r)) N M' := by
  refine nb_of (cc := cX7_law) (maxL := 5) (ret := (some .int)) (own := RX7) (by decide +kernel) rfl rfl (Nat.le_of_ble_eq_true rfl) ?_
  intro p e s m args below meth c ls X hP hS hl
  have hl : lv_has ls 5 [(0, .ref (ad 52)), (1, .int p0), (2, .int p1), (3, .int p2), (4, .int p3)] := hl
  obtain ⟨hx, hb, hml, hown, hts, hr, hlk, hK, hZ⟩ := id X
  have w_1 := hts (.constant RX7 77 (-1000000001)) (by decide +kernel)
  unfold f_X7_law at h
  refine lv_iload_n hx hb dX7_law_0 rfl (lv_at hl 1 rfl) ?_
  refine lv_iconst (v := (0 : Int32)) hx hb dX7_law_1 (by decide) ?_
  refine lv_iconst (v := (1 : Int32)) hx hb dX7_law_2 (by decide) ?_
  refine nb_callS (n := 3) (As := [.int p0, .int (0 : Int32), .int (1 : Int32)]) (rest := []) hx hb hml hown hts hK hZ hP hS (k_X7_in had M N p0 (0 : Int32) (1 : Int32)) gX7_law_X7_in rfl (by decide +kernel) (nb_rm (Nat.le_of_ble_eq_true rfl) (Nat.le_of_ble_eq_true rfl)) rfl hl.1 rfl (Nat.le_of_ble_eq_true rfl) dX7_law_3 (fun H locs hP hS => ?_)
  refine W.eq (g2 := F0 m 6 ls [.int (f_X7_in p0 (0 : Int32) (1 : Int32))]) rfl ?_
  refine lv_if_eq (tgt := 21) hx hb dX7_law_6 (by decide) (fun c_2 => ?_) (fun c_2 => ?_)
  · have h := nb_t c_2 h
    refine lv_aload_n hx hb dX7_law_21 rfl (lv_at hl 0 rfl) ?_
    refine lv_ldc (v := (-1000000001 : Int32)) hx hb hown w_1 dX7_law_22 ?_
    obtain ⟨r_3, M_3, e_3, h⟩ := nb_pE h
    refine nb_callV (n := 1) (As := [.int (-1000000001 : Int32)]) (rest := []) hx hb hml hown hts hK hZ hP hS (k_X7_error had M N (-1000000001 : Int32) e_3) gX7_law_X7_error rfl (by decide +kernel) (nb_rm (Nat.le_of_ble_eq_true rfl) (Nat.le_of_ble_eq_true rfl)) nb_a52 rfl rfl rfl hl.1 rfl (Nat.le_of_ble_eq_true rfl) dX7_law_24 (fun H locs hP hS => ?_)
    refine W.eq (g2 := F0 m 27 ls [.int r_3]) rfl ?_
    obtain ⟨rfl, rfl⟩ := nb_e2 h
    exact nb_iret hx hb hr hlk hP hS dX7_law_27
  · have h := nb_f c_2 h
    refine lv_aload_n hx hb dX7_law_9 rfl (lv_at hl 0 rfl) ?_
    refine lv_iload_n hx hb dX7_law_10 rfl (lv_at hl 1 rfl) ?_
    refine lv_iload_n hx hb dX7_law_11 rfl (lv_at hl 2 rfl) ?_
    refine lv_iload_n hx hb dX7_law_12 rfl (lv_at hl 3 rfl) ?_
    refine lv_iload hx hb dX7_law_13 (lv_at hl 4 rfl) ?_
    obtain ⟨r_4, M_4, e_4, h⟩ := nb_pE h
    refine nb_callV (n := 4) (As := [.int p0, .int p1, .int p2, .int p3]) (rest := []) hx hb hml hown hts hK hZ hP hS (k_X7_gives had M N p0 p1 p2 p3 e_4) gX7_law_X7_gives rfl (by decide +kernel) (nb_rm (Nat.le_of_ble_eq_true rfl) (Nat.le_of_ble_eq_true rfl)) nb_a52 rfl rfl rfl hl.1 rfl (Nat.le_of_ble_eq_true rfl) dX7_law_15 (fun H locs hP hS => ?_)
    refine W.eq (g2 := F0 m 18 ls [.int r_4]) rfl ?_
    refine lv_goto (tgt := 27) hx hb dX7_law_18 (by decide) ?_
    obtain ⟨rfl, rfl⟩ := nb_e2 h
    exact nb_iret hx hb hr hlk hP hS dX7_law_27
set_option maxHeartbeats 4000000 in
set_option maxRecDepth 100000 in
theorem k_X7_days {r : Int32} {M' : nb_M} (had : nb_AD ad b0) (M N : nb_M) (p0 : Int32) (h : f_X7_days M p0 = some (r, M')) : nb_C l D ad ca b0 yX7_days wsX7_days 1 [.ref (ad 52), .int p0] N M (some (.int r)) N M' := by
  refine nb_of (cc := cX7_days) (maxL := 2) (ret := (some .int)) (own := RX7) (by decide +kernel) rfl rfl (Nat.le_of_ble_eq_true rfl) ?_
  intro p e s m args below meth c ls X hP hS hl
  have hl : lv_has ls 2 [(0, .ref (ad 52)), (1, .int p0)] := hl
  obtain ⟨hx, hb, hml, hown, hts, hr, hlk, hK, hZ⟩ := id X
  have w_1 := hts (.fieldLink RX7 9 "NineBreakagesModel" "row" "[I") (by decide +kernel)
  have in7 : ∀ w ∈ u_ws RX7 TX7 21, w ∈ wsX7_days := fun w q => List.mem_cons_of_mem _ (List.mem_append_right _ q)
  have w_3 := hts (.constant RX7 113 (-1000000003)) (by decide +kernel)
  have w_4 := hts (.constant RX7 77 (-1000000001)) (by decide +kernel)
  unfold f_X7_days at h
  refine lv_iload_n hx hb dX7_days_0 rfl (lv_at hl 1 rfl) ?_
  refine lv_iconst (v := (1 : Int32)) hx hb dX7_days_1 (by decide) ?_
  refine lv_bipush (v := (60 : Int32)) hx hb dX7_days_2 (by decide) ?_
  refine nb_callS (n := 3) (As := [.int p0, .int (1 : Int32), .int (60 : Int32)]) (rest := []) hx hb hml hown hts hK hZ hP hS (k_X7_in had M N p0 (1 : Int32) (60 : Int32)) gX7_days_X7_in rfl (by decide +kernel) (nb_rm (Nat.le_of_ble_eq_true rfl) (Nat.le_of_ble_eq_true rfl)) rfl hl.1 rfl (Nat.le_of_ble_eq_true rfl) dX7_days_4 (fun H locs hP hS => ?_)
  refine W.eq (g2 := F0 m 7 ls [.int (f_X7_in p0 (1 : Int32) (60 : Int32))]) rfl ?_
  refine lv_if_ne (tgt := 17) hx hb dX7_days_7 (by decide) (fun c_2 => ?_) (fun c_2 => ?_)
  · have h := nb_f c_2 h
    refine lv_aload_n hx hb dX7_days_17 rfl (lv_at hl 0 rfl) ?_
    refine va_get (v := .ref (ad 53)) (C := RX7) (T := TX7) (N := 21) hx hb hts in7 hown hK.1 hP 52 nb_a52 rfl 0 (by decide) w_1 (fun _ h9 => h9) rfl dX7_days_18 ?_
    refine lv_iconst (v := (0 : Int32)) hx hb dX7_days_21 (by decide) ?_
    refine va_iald hx hb hK.1 hP 53 0 nb_a53 rfl (nb_lit rfl) dX7_days_22 ?_
    refine lv_iload_n hx hb dX7_days_23 rfl (lv_at hl 1 rfl) ?_
    refine lv_iadd hx hb dX7_days_24 ?_
    refine lv_sipush (v := (9999 : Int32)) hx hb dX7_days_25 (by decide) ?_
    refine lv_icmp_le (tgt := 38) hx hb dX7_days_28 (by decide) (fun c_3 => ?_) (fun c_3 => ?_)
    · have h := nb_t c_3 h
      refine lv_aload_n hx hb dX7_days_38 rfl (lv_at hl 0 rfl) ?_
      refine va_get (v := .ref (ad 53)) (C := RX7) (T := TX7) (N := 21) hx hb hts in7 hown hK.1 hP 52 nb_a52 rfl 0 (by decide) w_1 (fun _ h9 => h9) rfl dX7_days_39 ?_
      refine lv_iconst (v := (0 : Int32)) hx hb dX7_days_42 (by decide) ?_
      refine lv_dup2_11 hx hb dX7_days_43 rfl rfl ?_
      refine va_iald hx hb hK.1 hP 53 0 nb_a53 rfl (nb_lit rfl) dX7_days_44 ?_
      refine lv_iload_n hx hb dX7_days_45 rfl (lv_at hl 1 rfl) ?_
      refine lv_iadd hx hb dX7_days_46 ?_
      refine nb_iast hx hb had hK hP hS nb_a53 (nb_lit rfl) (nb_t53 _ _) dX7_days_47 (fun H locs hP hS => ?_)
      obtain ⟨M_4, e_4, h⟩ := nb_nE h
      rw [e_4] at hP
      refine lv_aload_n hx hb dX7_days_48 rfl (lv_at hl 0 rfl) ?_
      refine va_get (v := .ref (ad 53)) (C := RX7) (T := TX7) (N := 21) hx hb hts in7 hown hK.1 hP 52 nb_a52 rfl 0 (by decide) w_1 (fun _ h9 => h9) rfl dX7_days_49 ?_
      refine lv_iconst (v := (0 : Int32)) hx hb dX7_days_52 (by decide) ?_
      refine va_iald hx hb hK.1 hP 53 0 nb_a53 rfl (nb_lit rfl) dX7_days_53 ?_
      obtain ⟨rfl, rfl⟩ := nb_e2 h
      exact nb_iret hx hb hr hlk hP hS dX7_days_54
    · have h := nb_f c_3 h
      refine lv_aload_n hx hb dX7_days_31 rfl (lv_at hl 0 rfl) ?_
      refine lv_ldc (v := (-1000000003 : Int32)) hx hb hown w_3 dX7_days_32 ?_
      obtain ⟨r_5, M_5, e_5, h⟩ := nb_pE h
      refine nb_callV (n := 1) (As := [.int (-1000000003 : Int32)]) (rest := []) hx hb hml hown hts hK hZ hP hS (k_X7_error had M N (-1000000003 : Int32) e_5) gX7_days_X7_error rfl (by decide +kernel) (nb_rm (Nat.le_of_ble_eq_true rfl) (Nat.le_of_ble_eq_true rfl)) nb_a52 rfl rfl rfl hl.1 rfl (Nat.le_of_ble_eq_true rfl) dX7_days_34 (fun H locs hP hS => ?_)
      refine W.eq (g2 := F0 m 37 ls [.int r_5]) rfl ?_
      obtain ⟨rfl, rfl⟩ := nb_e2 h
      exact nb_iret hx hb hr hlk hP hS dX7_days_37
  · have h := nb_t c_2 h
    refine lv_aload_n hx hb dX7_days_10 rfl (lv_at hl 0 rfl) ?_
    refine lv_ldc (v := (-1000000001 : Int32)) hx hb hown w_4 dX7_days_11 ?_
    obtain ⟨r_6, M_6, e_6, h⟩ := nb_pE h
    refine nb_callV (n := 1) (As := [.int (-1000000001 : Int32)]) (rest := []) hx hb hml hown hts hK hZ hP hS (k_X7_error had M N (-1000000001 : Int32) e_6) gX7_days_X7_error rfl (by decide +kernel) (nb_rm (Nat.le_of_ble_eq_true rfl) (Nat.le_of_ble_eq_true rfl)) nb_a52 rfl rfl rfl hl.1 rfl (Nat.le_of_ble_eq_true rfl) dX7_days_13 (fun H locs hP hS => ?_)
    refine W.eq (g2 := F0 m 16 ls [.int r_6]) rfl ?_
    obtain ⟨rfl, rfl⟩ := nb_e2 h
    exact nb_iret hx hb hr hlk hP hS dX7_days_16
set_option maxHeartbeats 4000000 in
set_option maxRecDepth 100000 in
theorem k_X7_draw {r : Int32} {M' : nb_M} (had : nb_AD ad b0) (M N : nb_M) (h : f_X7_draw M = (r, M')) : nb_C l D ad ca b0 yX7_draw wsX7_draw 0 [.ref (ad 52)] N M (some (.int r)) N M' := by
  refine nb_of (cc := cX7_draw) (maxL := 1) (ret := (some .int)) (own := RX7) (by decide +kernel) rfl rfl (Nat.le_of_ble_eq_true rfl) ?_
  intro p e s m args below meth c ls X hP hS hl
  have hl : lv_has ls 1 [(0, .ref (ad 52))] := hl
  obtain ⟨hx, hb, hml, hown, hts, hr, hlk, hK, hZ⟩ := id X
  have w_1 := hts (.fieldLink RX7 9 "NineBreakagesModel" "row" "[I") (by decide +kernel)
  have in7 : ∀ w ∈ u_ws RX7 TX7 21, w ∈ wsX7_draw := fun w q => List.mem_cons_of_mem _ (List.mem_append_right _ q)
  have w_3 := hts (.constant RX7 181 (1103515245)) (by decide +kernel)
  unfold f_X7_draw at h
  refine lv_aload_n hx hb dX7_draw_0 rfl (lv_at hl 0 rfl) ?_
  refine va_get (v := .ref (ad 53)) (C := RX7) (T := TX7) (N := 21) hx hb hts in7 hown hK.1 hP 52 nb_a52 rfl 0 (by decide) w_1 (fun _ h9 => h9) rfl dX7_draw_1 ?_
  refine lv_iconst (v := (1 : Int32)) hx hb dX7_draw_4 (by decide) ?_
  refine lv_aload_n hx hb dX7_draw_5 rfl (lv_at hl 0 rfl) ?_
  refine va_get (v := .ref (ad 53)) (C := RX7) (T := TX7) (N := 21) hx hb hts in7 hown hK.1 hP 52 nb_a52 rfl 0 (by decide) w_1 (fun _ h9 => h9) rfl dX7_draw_6 ?_
  refine lv_iconst (v := (1 : Int32)) hx hb dX7_draw_9 (by decide) ?_
  refine va_iald hx hb hK.1 hP 53 0 nb_a53 rfl (nb_lit rfl) dX7_draw_10 ?_
  refine lv_ldc (v := (1103515245 : Int32)) hx hb hown w_3 dX7_draw_11 ?_
  refine lv_imul hx hb dX7_draw_13 ?_
  refine lv_sipush (v := (12345 : Int32)) hx hb dX7_draw_14 (by decide) ?_
  refine lv_iadd hx hb dX7_draw_17 ?_
  refine nb_iast hx hb had hK hP hS nb_a53 (nb_lit rfl) (nb_t53 _ _) dX7_draw_18 (fun H locs hP hS => ?_)
  obtain ⟨M_1, e_1, h⟩ := nb_nE h
  rw [e_1] at hP
  refine lv_aload_n hx hb dX7_draw_19 rfl (lv_at hl 0 rfl) ?_
  refine va_get (v := .ref (ad 53)) (C := RX7) (T := TX7) (N := 21) hx hb hts in7 hown hK.1 hP 52 nb_a52 rfl 0 (by decide) w_1 (fun _ h9 => h9) rfl dX7_draw_20 ?_
  refine lv_iconst (v := (1 : Int32)) hx hb dX7_draw_23 (by decide) ?_
  refine va_iald hx hb hK.1 hP 53 0 nb_a53 rfl (nb_lit rfl) dX7_draw_24 ?_
  refine lv_bipush (v := (8 : Int32)) hx hb dX7_draw_25 (by decide) ?_
  refine lv_iushr hx hb dX7_draw_27 rfl ?_
  obtain ⟨rfl, rfl⟩ := nb_e4 h
  exact nb_iret hx hb hr hlk hP hS dX7_draw_28
set_option maxHeartbeats 4000000 in
set_option maxRecDepth 100000 in
theorem w_X7_drawn_4 {N : nb_M} {r : Int32} {M' : nb_M} (had : nb_AD ad b0) (X : nb_X p s m args meth c cX7_drawn 4 RX7 (some .int) wsX7_drawn D ca b0) : ∀ (n : Nat) (M : nb_M) (x1 : Int32) (x2 : Int32), f_X7_drawn_4 n M x1 x2 = some (r, M') → ∀ (H : Heap) (locs : List Loc), va_P D vwCl (nb_w ad ca N M) H → va_S (fun q => b0 ≤ q) s.heap H locs → ∀ ls : Array Slot, lv_has ls 4 [(0, .ref (ad 52)), (1, .int x1), (2, .int x2)] → W p l e (nb_R 5) s m args below meth c H locs 0 0 (nb_Q below args s D ad ca b0 (some (.int r)) N M') (F0 m 4 ls []) := by
  obtain ⟨hx, hb, hml, hown, hts, hr, hlk, hK, hZ⟩ := id X
  have w_1 := hts (.fieldLink RX7 9 "NineBreakagesModel" "row" "[I") (by decide +kernel)
  have in7 : ∀ w ∈ u_ws RX7 TX7 21, w ∈ wsX7_drawn := fun w q => List.mem_cons_of_mem _ (List.mem_append_right _ q)
  intro n
  induction n with
  | zero =>
    intro M x1 x2 h
    rw [f_X7_drawn_4] at h
    cases h
  | succ n ih =>
    intro M x1 x2 h H locs hP hS ls hl
    rw [f_X7_drawn_4] at h
    refine lv_iload_n hx hb dX7_drawn_4 rfl (lv_at hl 2 rfl) ?_
    refine lv_aload_n hx hb dX7_drawn_5 rfl (lv_at hl 0 rfl) ?_
    refine va_get (v := .ref (ad 53)) (C := RX7) (T := TX7) (N := 21) hx hb hts in7 hown hK.1 hP 52 nb_a52 rfl 0 (by decide) w_1 (fun _ h9 => h9) rfl dX7_drawn_6 ?_
    refine lv_iconst (v := (2 : Int32)) hx hb dX7_drawn_9 (by decide) ?_
    refine va_iald hx hb hK.1 hP 53 0 nb_a53 rfl (nb_lit rfl) dX7_drawn_10 ?_
    refine lv_icmp_ge (tgt := 72) hx hb dX7_drawn_11 (by decide) (fun c_1 => ?_) (fun c_1 => ?_)
    · have h := nb_t c_1 h
      refine lv_aload_n hx hb dX7_drawn_72 rfl (lv_at hl 0 rfl) ?_
      refine va_get (v := .ref (ad 53)) (C := RX7) (T := TX7) (N := 21) hx hb hts in7 hown hK.1 hP 52 nb_a52 rfl 0 (by decide) w_1 (fun _ h9 => h9) rfl dX7_drawn_73 ?_
      refine lv_iconst (v := (0 : Int32)) hx hb dX7_drawn_76 (by decide) ?_
      refine lv_dup2_11 hx hb dX7_drawn_77 rfl rfl ?_
      refine va_iald hx hb hK.1 hP 53 0 nb_a53 rfl (nb_lit rfl) dX7_drawn_78 ?_
      refine lv_iconst (v := (1 : Int32)) hx hb dX7_drawn_79 (by decide) ?_
      refine lv_iadd hx hb dX7_drawn_80 ?_
      refine nb_iast hx hb had hK hP hS nb_a53 (nb_lit rfl) (nb_t53 _ _) dX7_drawn_81 (fun H locs hP hS => ?_)
      obtain ⟨M_2, e_2, h⟩ := nb_nE h
      rw [e_2] at hP
      refine lv_iload_n hx hb dX7_drawn_82 rfl (lv_at hl 1 rfl) ?_
      obtain ⟨rfl, rfl⟩ := nb_e2 h
      exact nb_iret hx hb hr hlk hP hS dX7_drawn_83
    · have h := nb_f c_1 h
      refine lv_aload_n hx hb dX7_drawn_14 rfl (lv_at hl 0 rfl) ?_
      refine lv_iload_n hx hb dX7_drawn_15 rfl (lv_at hl 2 rfl) ?_
      refine lv_iconst (v := (3 : Int32)) hx hb dX7_drawn_16 (by decide) ?_
      obtain ⟨r_3, e_3, h⟩ := nb_oE h
      refine nb_callV (n := 2) (As := [.int x2, .int (3 : Int32)]) (rest := []) hx hb hml hown hts hK hZ hP hS (k_X7_of had M N x2 (3 : Int32) e_3) gX7_drawn_X7_of rfl (by decide +kernel) (nb_rm (Nat.le_of_ble_eq_true rfl) (Nat.le_of_ble_eq_true rfl)) nb_a52 rfl rfl rfl hl.1 rfl (Nat.le_of_ble_eq_true rfl) dX7_drawn_17 (fun H locs hP hS => ?_)
      refine W.eq (g2 := F0 m 20 ls [.int r_3]) rfl ?_
      refine lv_if_ne (tgt := 66) hx hb dX7_drawn_20 (by decide) (fun c_4 => ?_) (fun c_4 => ?_)
      · have h := nb_f c_4 h
        refine lv_iinc (v := x2 + 1) (lv' := [(2, .int (x2 + 1)), (0, .ref (ad 52)), (1, .int x1)]) hx hb dX7_drawn_66 hl (k := 2) rfl (congrArg (HAdd.hAdd x2) (by decide)) (by decide) rfl (fun ls hl => ?_)
        refine lv_goto (tgt := 4) hx hb dX7_drawn_69 (by decide) ?_
        exact ih _ _ _ h _ _ hP hS _ (lv_sub hl [1, 2, 0] rfl)
      · have h := nb_t c_4 h
        refine lv_aload_n hx hb dX7_drawn_23 rfl (lv_at hl 0 rfl) ?_
        refine lv_aload_n hx hb dX7_drawn_24 rfl (lv_at hl 0 rfl) ?_
        refine lv_iload_n hx hb dX7_drawn_25 rfl (lv_at hl 2 rfl) ?_
        refine lv_iconst (v := (2 : Int32)) hx hb dX7_drawn_26 (by decide) ?_
        obtain ⟨r_5, e_5, h⟩ := nb_oE h
        refine nb_callV (n := 2) (As := [.int x2, .int (2 : Int32)]) (rest := [.ref (ad 52)]) hx hb hml hown hts hK hZ hP hS (k_X7_of had M N x2 (2 : Int32) e_5) gX7_drawn_X7_of rfl (by decide +kernel) (nb_rm (Nat.le_of_ble_eq_true rfl) (Nat.le_of_ble_eq_true rfl)) nb_a52 rfl rfl rfl hl.1 rfl (Nat.le_of_ble_eq_true rfl) dX7_drawn_27 (fun H locs hP hS => ?_)
        refine W.eq (g2 := F0 m 30 ls [.int r_5, .ref (ad 52)]) rfl ?_
        obtain ⟨r_6, e_6, h⟩ := nb_oE h
        refine nb_callV (n := 1) (As := [.int r_5]) (rest := []) hx hb hml hown hts hK hZ hP hS (k_X7_isThrough had M N r_5 e_6) gX7_drawn_X7_isThrough rfl (by decide +kernel) (nb_rm (Nat.le_of_ble_eq_true rfl) (Nat.le_of_ble_eq_true rfl)) nb_a52 rfl rfl rfl hl.1 rfl (Nat.le_of_ble_eq_true rfl) dX7_drawn_30 (fun H locs hP hS => ?_)
        refine W.eq (g2 := F0 m 33 ls [.int r_6]) rfl ?_
        refine lv_if_ne (tgt := 66) hx hb dX7_drawn_33 (by decide) (fun c_7 => ?_) (fun c_7 => ?_)
        · have h := nb_f c_7 h
          refine lv_iinc (v := x2 + 1) (lv' := [(2, .int (x2 + 1)), (0, .ref (ad 52)), (1, .int x1)]) hx hb dX7_drawn_66 hl (k := 2) rfl (congrArg (HAdd.hAdd x2) (by decide)) (by decide) rfl (fun ls hl => ?_)
          refine lv_goto (tgt := 4) hx hb dX7_drawn_69 (by decide) ?_
          exact ih _ _ _ h _ _ hP hS _ (lv_sub hl [1, 2, 0] rfl)
        · have h := nb_t c_7 h
          refine lv_aload_n hx hb dX7_drawn_36 rfl (lv_at hl 0 rfl) ?_
          obtain ⟨r_8, M_8, e_8, h⟩ := nb_qE h
          refine nb_callV (n := 0) (As := []) (rest := []) hx hb hml hown hts hK hZ hP hS (k_X7_draw had M N e_8) gX7_drawn_X7_draw rfl (by decide +kernel) (nb_rm (Nat.le_of_ble_eq_true rfl) (Nat.le_of_ble_eq_true rfl)) nb_a52 rfl rfl rfl hl.1 rfl (Nat.le_of_ble_eq_true rfl) dX7_drawn_37 (fun H locs hP hS => ?_)
          refine W.eq (g2 := F0 m 40 ls [.int r_8]) rfl ?_
          refine lv_bipush (v := (16 : Int32)) hx hb dX7_drawn_40 (by decide) ?_
          refine lv_irem hx hb dX7_drawn_42 (by decide) ?_
          refine lv_aload_n hx hb dX7_drawn_43 rfl (lv_at hl 0 rfl) ?_
          refine lv_iload_n hx hb dX7_drawn_44 rfl (lv_at hl 2 rfl) ?_
          refine lv_aload_n hx hb dX7_drawn_45 rfl (lv_at hl 0 rfl) ?_
          refine lv_iload_n hx hb dX7_drawn_46 rfl (lv_at hl 2 rfl) ?_
          refine lv_iconst (v := (2 : Int32)) hx hb dX7_drawn_47 (by decide) ?_
          obtain ⟨r_9, e_9, h⟩ := nb_oE h
          refine nb_callV (n := 2) (As := [.int x2, .int (2 : Int32)]) (rest := [.int x2, .ref (ad 52), .int (r_8 - r_8 / (16 : Int32) * (16 : Int32))]) hx hb hml hown hts hK hZ hP hS (k_X7_of had M_8 N x2 (2 : Int32) e_9) gX7_drawn_X7_of rfl (by decide +kernel) (nb_rm (Nat.le_of_ble_eq_true rfl) (Nat.le_of_ble_eq_true rfl)) nb_a52 rfl rfl rfl hl.1 rfl (Nat.le_of_ble_eq_true rfl) dX7_drawn_48 (fun H locs hP hS => ?_)
          refine W.eq (g2 := F0 m 51 ls [.int r_9, .int x2, .ref (ad 52), .int (r_8 - r_8 / (16 : Int32) * (16 : Int32))]) rfl ?_
          obtain ⟨r_10, M_10, e_10, h⟩ := nb_pE h
          refine nb_callV (n := 2) (As := [.int x2, .int r_9]) (rest := [.int (r_8 - r_8 / (16 : Int32) * (16 : Int32))]) hx hb hml hown hts hK hZ hP hS (k_X7_riskOf had M_8 N x2 r_9 e_10) gX7_drawn_X7_riskOf rfl (by decide +kernel) (nb_rm (Nat.le_of_ble_eq_true rfl) (Nat.le_of_ble_eq_true rfl)) nb_a52 rfl rfl rfl hl.1 rfl (Nat.le_of_ble_eq_true rfl) dX7_drawn_51 (fun H locs hP hS => ?_)
          refine W.eq (g2 := F0 m 54 ls [.int r_10, .int (r_8 - r_8 / (16 : Int32) * (16 : Int32))]) rfl ?_
          refine lv_icmp_ge (tgt := 66) hx hb dX7_drawn_54 (by decide) (fun c_11 => ?_) (fun c_11 => ?_)
          · have h := nb_t c_11 h
            refine lv_iinc (v := x2 + 1) (lv' := [(2, .int (x2 + 1)), (0, .ref (ad 52)), (1, .int x1)]) hx hb dX7_drawn_66 hl (k := 2) rfl (congrArg (HAdd.hAdd x2) (by decide)) (by decide) rfl (fun ls hl => ?_)
            refine lv_goto (tgt := 4) hx hb dX7_drawn_69 (by decide) ?_
            exact ih _ _ _ h _ _ hP hS _ (lv_sub hl [1, 2, 0] rfl)
          · have h := nb_f c_11 h
            refine lv_aload_n hx hb dX7_drawn_57 rfl (lv_at hl 0 rfl) ?_
            refine lv_iload_n hx hb dX7_drawn_58 rfl (lv_at hl 2 rfl) ?_
            obtain ⟨r_12, M_12, e_12, h⟩ := nb_pE h
            refine nb_callV (n := 1) (As := [.int x2]) (rest := []) hx hb hml hown hts hK hZ hP hS (k_X7_breaksDown had M_10 N x2 e_12) gX7_drawn_X7_breaksDown rfl (by decide +kernel) (nb_rm (Nat.le_of_ble_eq_true rfl) (Nat.le_of_ble_eq_true rfl)) nb_a52 rfl rfl rfl hl.1 rfl (Nat.le_of_ble_eq_true rfl) dX7_drawn_59 (fun H locs hP hS => ?_)
            refine W.eq (g2 := F0 m 62 ls [.int r_12]) rfl ?_
            refine lv_istore_n (lv' := [(3, .int r_12), (0, .ref (ad 52)), (1, .int x1), (2, .int x2)]) hx hb dX7_drawn_62 rfl hl (by decide) rfl (fun ls hl => ?_)
            refine lv_iinc (v := x1 + 1) (lv' := [(1, .int (x1 + 1)), (3, .int r_12), (0, .ref (ad 52)), (2, .int x2)]) hx hb dX7_drawn_63 hl (k := 2) rfl (congrArg (HAdd.hAdd x1) (by decide)) (by decide) rfl (fun ls hl => ?_)
            refine lv_iinc (v := x2 + 1) (lv' := [(2, .int (x2 + 1)), (1, .int (x1 + 1)), (3, .int r_12), (0, .ref (ad 52))]) hx hb dX7_drawn_66 hl (k := 3) rfl (congrArg (HAdd.hAdd x2) (by decide)) (by decide) rfl (fun ls hl => ?_)
            refine lv_goto (tgt := 4) hx hb dX7_drawn_69 (by decide) ?_
            exact ih _ _ _ h _ _ hP hS _ (lv_sub hl [3, 1, 0] rfl)
set_option maxHeartbeats 4000000 in
set_option maxRecDepth 100000 in
theorem k_X7_drawn {r : Int32} {M' : nb_M} (had : nb_AD ad b0) (M N : nb_M) (h : f_X7_drawn M = some (r, M')) : nb_C l D ad ca b0 yX7_drawn wsX7_drawn 5 [.ref (ad 52)] N M (some (.int r)) N M' := by
  refine nb_of (cc := cX7_drawn) (maxL := 4) (ret := (some .int)) (own := RX7) (by decide +kernel) rfl rfl (Nat.le_of_ble_eq_true rfl) ?_
  intro p e s m args below meth c ls X hP hS hl
  have hl : lv_has ls 4 [(0, .ref (ad 52))] := hl
  obtain ⟨hx, hb, hml, hown, hts, hr, hlk, hK, hZ⟩ := id X
  unfold f_X7_drawn at h
  refine lv_iconst (v := (0 : Int32)) hx hb dX7_drawn_0 (by decide) ?_
  refine lv_istore_n (lv' := [(1, .int (0 : Int32)), (0, .ref (ad 52))]) hx hb dX7_drawn_1 rfl hl (by decide) rfl (fun ls hl => ?_)
  refine lv_iconst (v := (0 : Int32)) hx hb dX7_drawn_2 (by decide) ?_
  refine lv_istore_n (lv' := [(2, .int (0 : Int32)), (1, .int (0 : Int32)), (0, .ref (ad 52))]) hx hb dX7_drawn_3 rfl hl (by decide) rfl (fun ls hl => ?_)
  exact w_X7_drawn_4 had X nb_F _ _ _ h _ _ hP hS _ (lv_sub hl [2, 1, 0] rfl)
set_option maxHeartbeats 4000000 in
set_option maxRecDepth 100000 in
theorem w_X7_loose_42 {N : nb_M} {r : Int32} {M' : nb_M} (had : nb_AD ad b0) (X : nb_X p s m args meth c cX7_loose 4 RX7 (some .int) wsX7_loose D ca b0) : ∀ (n : Nat) (M : nb_M) (x1 : Int32) (x2 : Int32) (x3 : Int32), f_X7_loose_42 n M x1 x2 x3 = some (r, M') → ∀ (H : Heap) (locs : List Loc), va_P D vwCl (nb_w ad ca N M) H → va_S (fun q => b0 ≤ q) s.heap H locs → ∀ ls : Array Slot, lv_has ls 4 [(0, .ref (ad 52)), (1, .int x1), (2, .int x2), (3, .int x3)] → W p l e (nb_R 6) s m args below meth c H locs 0 0 (nb_Q below args s D ad ca b0 (some (.int r)) N M') (F0 m 42 ls []) := by
  obtain ⟨hx, hb, hml, hown, hts, hr, hlk, hK, hZ⟩ := id X
  intro n
  induction n with
  | zero =>
    intro M x1 x2 x3 h
    rw [f_X7_loose_42] at h
    cases h
  | succ n ih =>
    intro M x1 x2 x3 h H locs hP hS ls hl
    rw [f_X7_loose_42] at h
    refine lv_iload_n hx hb dX7_loose_42 rfl (lv_at hl 3 rfl) ?_
    refine lv_iload_n hx hb dX7_loose_43 rfl (lv_at hl 1 rfl) ?_
    refine lv_icmp_ge (tgt := 60) hx hb dX7_loose_44 (by decide) (fun c_4 => ?_) (fun c_4 => ?_)
    · have h := nb_t c_4 h
      refine lv_iload_n hx hb dX7_loose_60 rfl (lv_at hl 2 rfl) ?_
      obtain ⟨rfl, rfl⟩ := nb_e2 h
      exact nb_iret hx hb hr hlk hP hS dX7_loose_61
    · have h := nb_f c_4 h
      refine lv_iload_n hx hb dX7_loose_47 rfl (lv_at hl 2 rfl) ?_
      refine lv_aload_n hx hb dX7_loose_48 rfl (lv_at hl 0 rfl) ?_
      obtain ⟨r_5, M_5, e_5, h⟩ := nb_pE h
      refine nb_callV (n := 0) (As := []) (rest := [.int x2]) hx hb hml hown hts hK hZ hP hS (k_X7_drawn had M N e_5) gX7_loose_X7_drawn rfl (by decide +kernel) (nb_rm (Nat.le_of_ble_eq_true rfl) (Nat.le_of_ble_eq_true rfl)) nb_a52 rfl rfl rfl hl.1 rfl (Nat.le_of_ble_eq_true rfl) dX7_loose_49 (fun H locs hP hS => ?_)
      refine W.eq (g2 := F0 m 52 ls [.int r_5, .int x2]) rfl ?_
      refine lv_iadd hx hb dX7_loose_52 ?_
      refine lv_topi (fun v_6 e_6 => ?_)
      have h := nb_nA e_6 h
      refine lv_istore_n (lv' := [(2, .int v_6), (0, .ref (ad 52)), (1, .int x1), (3, .int x3)]) hx hb dX7_loose_53 rfl hl (by decide) rfl (fun ls hl => ?_)
      refine lv_iinc (v := x3 + 1) (lv' := [(3, .int (x3 + 1)), (2, .int v_6), (0, .ref (ad 52)), (1, .int x1)]) hx hb dX7_loose_54 hl (k := 3) rfl (congrArg (HAdd.hAdd x3) (by decide)) (by decide) rfl (fun ls hl => ?_)
      refine lv_goto (tgt := 42) hx hb dX7_loose_57 (by decide) ?_
      exact ih _ _ _ _ h _ _ hP hS _ (lv_sub hl [2, 3, 1, 0] rfl)
set_option maxHeartbeats 4000000 in
set_option maxRecDepth 100000 in
theorem k_X7_loose {r : Int32} {M' : nb_M} (had : nb_AD ad b0) (M N : nb_M) (p0 : Int32) (h : f_X7_loose M p0 = some (r, M')) : nb_C l D ad ca b0 yX7_loose wsX7_loose 6 [.ref (ad 52), .int p0] N M (some (.int r)) N M' := by
  refine nb_of (cc := cX7_loose) (maxL := 4) (ret := (some .int)) (own := RX7) (by decide +kernel) rfl rfl (Nat.le_of_ble_eq_true rfl) ?_
  intro p e s m args below meth c ls X hP hS hl
  have hl : lv_has ls 4 [(0, .ref (ad 52)), (1, .int p0)] := hl
  obtain ⟨hx, hb, hml, hown, hts, hr, hlk, hK, hZ⟩ := id X
  have w_1 := hts (.fieldLink RX7 9 "NineBreakagesModel" "row" "[I") (by decide +kernel)
  have in7 : ∀ w ∈ u_ws RX7 TX7 21, w ∈ wsX7_loose := fun w q => List.mem_cons_of_mem _ (List.mem_append_right _ q)
  have w_3 := hts (.constant RX7 113 (-1000000003)) (by decide +kernel)
  have w_4 := hts (.constant RX7 77 (-1000000001)) (by decide +kernel)
  unfold f_X7_loose at h
  refine lv_iload_n hx hb dX7_loose_0 rfl (lv_at hl 1 rfl) ?_
  refine lv_iconst (v := (1 : Int32)) hx hb dX7_loose_1 (by decide) ?_
  refine lv_bipush (v := (30 : Int32)) hx hb dX7_loose_2 (by decide) ?_
  refine nb_callS (n := 3) (As := [.int p0, .int (1 : Int32), .int (30 : Int32)]) (rest := []) hx hb hml hown hts hK hZ hP hS (k_X7_in had M N p0 (1 : Int32) (30 : Int32)) gX7_loose_X7_in rfl (by decide +kernel) (nb_rm (Nat.le_of_ble_eq_true rfl) (Nat.le_of_ble_eq_true rfl)) rfl hl.1 rfl (Nat.le_of_ble_eq_true rfl) dX7_loose_4 (fun H locs hP hS => ?_)
  refine W.eq (g2 := F0 m 7 ls [.int (f_X7_in p0 (1 : Int32) (30 : Int32))]) rfl ?_
  refine lv_if_ne (tgt := 17) hx hb dX7_loose_7 (by decide) (fun c_2 => ?_) (fun c_2 => ?_)
  · have h := nb_f c_2 h
    refine lv_aload_n hx hb dX7_loose_17 rfl (lv_at hl 0 rfl) ?_
    refine va_get (v := .ref (ad 53)) (C := RX7) (T := TX7) (N := 21) hx hb hts in7 hown hK.1 hP 52 nb_a52 rfl 0 (by decide) w_1 (fun _ h9 => h9) rfl dX7_loose_18 ?_
    refine lv_iconst (v := (0 : Int32)) hx hb dX7_loose_21 (by decide) ?_
    refine va_iald hx hb hK.1 hP 53 0 nb_a53 rfl (nb_lit rfl) dX7_loose_22 ?_
    refine lv_iload_n hx hb dX7_loose_23 rfl (lv_at hl 1 rfl) ?_
    refine lv_iadd hx hb dX7_loose_24 ?_
    refine lv_sipush (v := (9999 : Int32)) hx hb dX7_loose_25 (by decide) ?_
    refine lv_icmp_le (tgt := 38) hx hb dX7_loose_28 (by decide) (fun c_3 => ?_) (fun c_3 => ?_)
    · have h := nb_t c_3 h
      refine lv_iconst (v := (0 : Int32)) hx hb dX7_loose_38 (by decide) ?_
      refine lv_istore_n (lv' := [(2, .int (0 : Int32)), (0, .ref (ad 52)), (1, .int p0)]) hx hb dX7_loose_39 rfl hl (by decide) rfl (fun ls hl => ?_)
      refine lv_iconst (v := (0 : Int32)) hx hb dX7_loose_40 (by decide) ?_
      refine lv_istore_n (lv' := [(3, .int (0 : Int32)), (2, .int (0 : Int32)), (0, .ref (ad 52)), (1, .int p0)]) hx hb dX7_loose_41 rfl hl (by decide) rfl (fun ls hl => ?_)
      exact w_X7_loose_42 had X nb_F _ _ _ _ h _ _ hP hS _ (lv_sub hl [2, 3, 1, 0] rfl)
    · have h := nb_f c_3 h
      refine lv_aload_n hx hb dX7_loose_31 rfl (lv_at hl 0 rfl) ?_
      refine lv_ldc (v := (-1000000003 : Int32)) hx hb hown w_3 dX7_loose_32 ?_
      obtain ⟨r_7, M_7, e_7, h⟩ := nb_pE h
      refine nb_callV (n := 1) (As := [.int (-1000000003 : Int32)]) (rest := []) hx hb hml hown hts hK hZ hP hS (k_X7_error had M N (-1000000003 : Int32) e_7) gX7_loose_X7_error rfl (by decide +kernel) (nb_rm (Nat.le_of_ble_eq_true rfl) (Nat.le_of_ble_eq_true rfl)) nb_a52 rfl rfl rfl hl.1 rfl (Nat.le_of_ble_eq_true rfl) dX7_loose_34 (fun H locs hP hS => ?_)
      refine W.eq (g2 := F0 m 37 ls [.int r_7]) rfl ?_
      obtain ⟨rfl, rfl⟩ := nb_e2 h
      exact nb_iret hx hb hr hlk hP hS dX7_loose_37
  · have h := nb_t c_2 h
    refine lv_aload_n hx hb dX7_loose_10 rfl (lv_at hl 0 rfl) ?_
    refine lv_ldc (v := (-1000000001 : Int32)) hx hb hown w_4 dX7_loose_11 ?_
    obtain ⟨r_8, M_8, e_8, h⟩ := nb_pE h
    refine nb_callV (n := 1) (As := [.int (-1000000001 : Int32)]) (rest := []) hx hb hml hown hts hK hZ hP hS (k_X7_error had M N (-1000000001 : Int32) e_8) gX7_loose_X7_error rfl (by decide +kernel) (nb_rm (Nat.le_of_ble_eq_true rfl) (Nat.le_of_ble_eq_true rfl)) nb_a52 rfl rfl rfl hl.1 rfl (Nat.le_of_ble_eq_true rfl) dX7_loose_13 (fun H locs hP hS => ?_)
    refine W.eq (g2 := F0 m 16 ls [.int r_8]) rfl ?_
    obtain ⟨rfl, rfl⟩ := nb_e2 h
    exact nb_iret hx hb hr hlk hP hS dX7_loose_16
set_option maxHeartbeats 4000000 in
set_option maxRecDepth 100000 in
theorem k_X7_seed {r : Int32} {M' : nb_M} (had : nb_AD ad b0) (M N : nb_M) (p0 : Int32) (h : f_X7_seed M p0 = some (r, M')) : nb_C l D ad ca b0 yX7_seed wsX7_seed 1 [.ref (ad 52), .int p0] N M (some (.int r)) N M' := by
  refine nb_of (cc := cX7_seed) (maxL := 2) (ret := (some .int)) (own := RX7) (by decide +kernel) rfl rfl (Nat.le_of_ble_eq_true rfl) ?_
  intro p e s m args below meth c ls X hP hS hl
  have hl : lv_has ls 2 [(0, .ref (ad 52)), (1, .int p0)] := hl
  obtain ⟨hx, hb, hml, hown, hts, hr, hlk, hK, hZ⟩ := id X
  unfold f_X7_seed at h
  refine lv_aload_n hx hb dX7_seed_0 rfl (lv_at hl 0 rfl) ?_
  refine lv_iconst (v := (1 : Int32)) hx hb dX7_seed_1 (by decide) ?_
  refine lv_iload_n hx hb dX7_seed_2 rfl (lv_at hl 1 rfl) ?_
  obtain ⟨r_1, M_1, e_1, h⟩ := nb_pE h
  refine nb_callV (n := 2) (As := [.int (1 : Int32), .int p0]) (rest := []) hx hb hml hown hts hK hZ hP hS (k_X7_becomes had M N (1 : Int32) p0 e_1) gX7_seed_X7_becomes rfl (by decide +kernel) (nb_rm (Nat.le_of_ble_eq_true rfl) (Nat.le_of_ble_eq_true rfl)) nb_a52 rfl rfl rfl hl.1 rfl (Nat.le_of_ble_eq_true rfl) dX7_seed_3 (fun H locs hP hS => ?_)
  refine W.eq (g2 := F0 m 6 ls [.int r_1]) rfl ?_
  obtain ⟨rfl, rfl⟩ := nb_e2 h
  exact nb_iret hx hb hr hlk hP hS dX7_seed_6
set_option maxHeartbeats 4000000 in
set_option maxRecDepth 100000 in
theorem w_X7_leftOf_4 {N : nb_M} {r : Int32} (had : nb_AD ad b0) (X : nb_X p s m args meth c cX7_leftOf 4 RX7 (some .int) wsX7_leftOf D ca b0) : ∀ (n : Nat) (M : nb_M) (x1 : Int32) (x2 : Int32) (x3 : Int32), f_X7_leftOf_4 n M x1 x2 x3 = some r → ∀ (H : Heap) (locs : List Loc), va_P D vwCl (nb_w ad ca N M) H → va_S (fun q => b0 ≤ q) s.heap H locs → ∀ ls : Array Slot, lv_has ls 4 [(0, .ref (ad 52)), (1, .int x1), (2, .int x2), (3, .int x3)] → W p l e (nb_R 4) s m args below meth c H locs 0 0 (nb_Q below args s D ad ca b0 (some (.int r)) N M) (F0 m 4 ls []) := by
  obtain ⟨hx, hb, hml, hown, hts, hr, hlk, hK, hZ⟩ := id X
  have w_1 := hts (.fieldLink RX7 9 "NineBreakagesModel" "row" "[I") (by decide +kernel)
  have in7 : ∀ w ∈ u_ws RX7 TX7 21, w ∈ wsX7_leftOf := fun w q => List.mem_cons_of_mem _ (List.mem_append_right _ q)
  intro n
  induction n with
  | zero =>
    intro M x1 x2 x3 h
    rw [f_X7_leftOf_4] at h
    cases h
  | succ n ih =>
    intro M x1 x2 x3 h H locs hP hS ls hl
    rw [f_X7_leftOf_4] at h
    refine lv_iload_n hx hb dX7_leftOf_4 rfl (lv_at hl 3 rfl) ?_
    refine lv_aload_n hx hb dX7_leftOf_5 rfl (lv_at hl 0 rfl) ?_
    refine va_get (v := .ref (ad 53)) (C := RX7) (T := TX7) (N := 21) hx hb hts in7 hown hK.1 hP 52 nb_a52 rfl 0 (by decide) w_1 (fun _ h9 => h9) rfl dX7_leftOf_6 ?_
    refine lv_iconst (v := (2 : Int32)) hx hb dX7_leftOf_9 (by decide) ?_
    refine va_iald hx hb hK.1 hP 53 0 nb_a53 rfl (nb_lit rfl) dX7_leftOf_10 ?_
    refine lv_icmp_ge (tgt := 57) hx hb dX7_leftOf_11 (by decide) (fun c_1 => ?_) (fun c_1 => ?_)
    · have h := nb_t c_1 h
      refine lv_iload_n hx hb dX7_leftOf_57 rfl (lv_at hl 2 rfl) ?_
      obtain rfl := nb_e1 h
      exact nb_iret hx hb hr hlk hP hS dX7_leftOf_58
    · have h := nb_f c_1 h
      refine lv_iload_n hx hb dX7_leftOf_14 rfl (lv_at hl 2 rfl) ?_
      refine lv_aload_n hx hb dX7_leftOf_15 rfl (lv_at hl 0 rfl) ?_
      refine lv_iload_n hx hb dX7_leftOf_16 rfl (lv_at hl 3 rfl) ?_
      refine lv_iconst (v := (2 : Int32)) hx hb dX7_leftOf_17 (by decide) ?_
      obtain ⟨r_2, e_2, h⟩ := nb_oE h
      refine nb_callV (n := 2) (As := [.int x3, .int (2 : Int32)]) (rest := [.int x2]) hx hb hml hown hts hK hZ hP hS (k_X7_of had M N x3 (2 : Int32) e_2) gX7_leftOf_X7_of rfl (by decide +kernel) (nb_rm (Nat.le_of_ble_eq_true rfl) (Nat.le_of_ble_eq_true rfl)) nb_a52 rfl rfl rfl hl.1 rfl (Nat.le_of_ble_eq_true rfl) dX7_leftOf_18 (fun H locs hP hS => ?_)
      refine W.eq (g2 := F0 m 21 ls [.int r_2, .int x2]) rfl ?_
      refine lv_iload_n hx hb dX7_leftOf_21 rfl (lv_at hl 1 rfl) ?_
      refine lv_icmp_ne (tgt := 48) hx hb dX7_leftOf_22 (by decide) (fun c_3 => ?_) (fun c_3 => ?_)
      · have h := nb_f c_3 h
        refine lv_iconst (v := (0 : Int32)) hx hb dX7_leftOf_48 (by decide) ?_
        refine lv_ior hx hb dX7_leftOf_49 ?_
        refine lv_topi (fun v_4 e_4 => ?_)
        have h := nb_nA e_4 h
        refine lv_istore_n (lv' := [(2, .int v_4), (0, .ref (ad 52)), (1, .int x1), (3, .int x3)]) hx hb dX7_leftOf_50 rfl hl (by decide) rfl (fun ls hl => ?_)
        refine lv_iinc (v := x3 + 1) (lv' := [(3, .int (x3 + 1)), (2, .int v_4), (0, .ref (ad 52)), (1, .int x1)]) hx hb dX7_leftOf_51 hl (k := 3) rfl (congrArg (HAdd.hAdd x3) (by decide)) (by decide) rfl (fun ls hl => ?_)
        refine lv_goto (tgt := 4) hx hb dX7_leftOf_54 (by decide) ?_
        exact ih _ _ _ _ h _ _ hP hS _ (lv_sub hl [2, 3, 1, 0] rfl)
      · have h := nb_t c_3 h
        refine lv_aload_n hx hb dX7_leftOf_25 rfl (lv_at hl 0 rfl) ?_
        refine lv_iload_n hx hb dX7_leftOf_26 rfl (lv_at hl 3 rfl) ?_
        refine lv_iconst (v := (3 : Int32)) hx hb dX7_leftOf_27 (by decide) ?_
        obtain ⟨r_5, e_5, h⟩ := nb_oE h
        refine nb_callV (n := 2) (As := [.int x3, .int (3 : Int32)]) (rest := [.int x2]) hx hb hml hown hts hK hZ hP hS (k_X7_of had M N x3 (3 : Int32) e_5) gX7_leftOf_X7_of rfl (by decide +kernel) (nb_rm (Nat.le_of_ble_eq_true rfl) (Nat.le_of_ble_eq_true rfl)) nb_a52 rfl rfl rfl hl.1 rfl (Nat.le_of_ble_eq_true rfl) dX7_leftOf_28 (fun H locs hP hS => ?_)
        refine W.eq (g2 := F0 m 31 ls [.int r_5, .int x2]) rfl ?_
        refine lv_if_ne (tgt := 48) hx hb dX7_leftOf_31 (by decide) (fun c_6 => ?_) (fun c_6 => ?_)
        · have h := nb_f c_6 h
          refine lv_iconst (v := (0 : Int32)) hx hb dX7_leftOf_48 (by decide) ?_
          refine lv_ior hx hb dX7_leftOf_49 ?_
          refine lv_topi (fun v_7 e_7 => ?_)
          have h := nb_nA e_7 h
          refine lv_istore_n (lv' := [(2, .int v_7), (0, .ref (ad 52)), (1, .int x1), (3, .int x3)]) hx hb dX7_leftOf_50 rfl hl (by decide) rfl (fun ls hl => ?_)
          refine lv_iinc (v := x3 + 1) (lv' := [(3, .int (x3 + 1)), (2, .int v_7), (0, .ref (ad 52)), (1, .int x1)]) hx hb dX7_leftOf_51 hl (k := 3) rfl (congrArg (HAdd.hAdd x3) (by decide)) (by decide) rfl (fun ls hl => ?_)
          refine lv_goto (tgt := 4) hx hb dX7_leftOf_54 (by decide) ?_
          exact ih _ _ _ _ h _ _ hP hS _ (lv_sub hl [2, 3, 1, 0] rfl)
        · have h := nb_t c_6 h
          refine lv_aload_n hx hb dX7_leftOf_34 rfl (lv_at hl 0 rfl) ?_
          refine lv_iload_n hx hb dX7_leftOf_35 rfl (lv_at hl 3 rfl) ?_
          obtain ⟨r_8, e_8, h⟩ := nb_oE h
          refine nb_callV (n := 1) (As := [.int x3]) (rest := [.int x2]) hx hb hml hown hts hK hZ hP hS (k_X7_doesCount had M N x3 e_8) gX7_leftOf_X7_doesCount rfl (by decide +kernel) (nb_rm (Nat.le_of_ble_eq_true rfl) (Nat.le_of_ble_eq_true rfl)) nb_a52 rfl rfl rfl hl.1 rfl (Nat.le_of_ble_eq_true rfl) dX7_leftOf_36 (fun H locs hP hS => ?_)
          refine W.eq (g2 := F0 m 39 ls [.int r_8, .int x2]) rfl ?_
          refine lv_if_eq (tgt := 48) hx hb dX7_leftOf_39 (by decide) (fun c_9 => ?_) (fun c_9 => ?_)
          · have h := nb_t c_9 h
            refine lv_iconst (v := (0 : Int32)) hx hb dX7_leftOf_48 (by decide) ?_
            refine lv_ior hx hb dX7_leftOf_49 ?_
            refine lv_topi (fun v_10 e_10 => ?_)
            have h := nb_nA e_10 h
            refine lv_istore_n (lv' := [(2, .int v_10), (0, .ref (ad 52)), (1, .int x1), (3, .int x3)]) hx hb dX7_leftOf_50 rfl hl (by decide) rfl (fun ls hl => ?_)
            refine lv_iinc (v := x3 + 1) (lv' := [(3, .int (x3 + 1)), (2, .int v_10), (0, .ref (ad 52)), (1, .int x1)]) hx hb dX7_leftOf_51 hl (k := 3) rfl (congrArg (HAdd.hAdd x3) (by decide)) (by decide) rfl (fun ls hl => ?_)
            refine lv_goto (tgt := 4) hx hb dX7_leftOf_54 (by decide) ?_
            exact ih _ _ _ _ h _ _ hP hS _ (lv_sub hl [2, 3, 1, 0] rfl)
          · have h := nb_f c_9 h
            refine lv_iconst (v := (1 : Int32)) hx hb dX7_leftOf_42 (by decide) ?_
            refine lv_iload_n hx hb dX7_leftOf_43 rfl (lv_at hl 3 rfl) ?_
            refine lv_ishl hx hb dX7_leftOf_44 ?_
            refine lv_goto (tgt := 49) hx hb dX7_leftOf_45 (by decide) ?_
            refine lv_ior hx hb dX7_leftOf_49 ?_
            refine lv_topi (fun v_11 e_11 => ?_)
            have h := nb_nA e_11 h
            refine lv_istore_n (lv' := [(2, .int v_11), (0, .ref (ad 52)), (1, .int x1), (3, .int x3)]) hx hb dX7_leftOf_50 rfl hl (by decide) rfl (fun ls hl => ?_)
            refine lv_iinc (v := x3 + 1) (lv' := [(3, .int (x3 + 1)), (2, .int v_11), (0, .ref (ad 52)), (1, .int x1)]) hx hb dX7_leftOf_51 hl (k := 3) rfl (congrArg (HAdd.hAdd x3) (by decide)) (by decide) rfl (fun ls hl => ?_)
            refine lv_goto (tgt := 4) hx hb dX7_leftOf_54 (by decide) ?_
            exact ih _ _ _ _ h _ _ hP hS _ (lv_sub hl [2, 3, 1, 0] rfl)
set_option maxHeartbeats 4000000 in
set_option maxRecDepth 100000 in
theorem k_X7_leftOf {r : Int32} (had : nb_AD ad b0) (M N : nb_M) (p0 : Int32) (h : f_X7_leftOf M p0 = some r) : nb_C l D ad ca b0 yX7_leftOf wsX7_leftOf 4 [.ref (ad 52), .int p0] N M (some (.int r)) N M := by
  refine nb_of (cc := cX7_leftOf) (maxL := 4) (ret := (some .int)) (own := RX7) (by decide +kernel) rfl rfl (Nat.le_of_ble_eq_true rfl) ?_
  intro p e s m args below meth c ls X hP hS hl
  have hl : lv_has ls 4 [(0, .ref (ad 52)), (1, .int p0)] := hl
  obtain ⟨hx, hb, hml, hown, hts, hr, hlk, hK, hZ⟩ := id X
  unfold f_X7_leftOf at h
  refine lv_iconst (v := (0 : Int32)) hx hb dX7_leftOf_0 (by decide) ?_
  refine lv_istore_n (lv' := [(2, .int (0 : Int32)), (0, .ref (ad 52)), (1, .int p0)]) hx hb dX7_leftOf_1 rfl hl (by decide) rfl (fun ls hl => ?_)
  refine lv_iconst (v := (0 : Int32)) hx hb dX7_leftOf_2 (by decide) ?_
  refine lv_istore_n (lv' := [(3, .int (0 : Int32)), (2, .int (0 : Int32)), (0, .ref (ad 52)), (1, .int p0)]) hx hb dX7_leftOf_3 rfl hl (by decide) rfl (fun ls hl => ?_)
  exact w_X7_leftOf_4 had X nb_F _ _ _ _ h _ _ hP hS _ (lv_sub hl [2, 3, 1, 0] rfl)
set_option maxHeartbeats 4000000 in
set_option maxRecDepth 100000 in
theorem w_X7_bits_4 {N : nb_M} {M : nb_M} {r : Int32} (had : nb_AD ad b0) (X : nb_X p s m args meth c cX7_bits 3 RX7 (some .int) wsX7_bits D ca b0) : ∀ (n : Nat) (x1 : Int32) (x2 : Int32), f_X7_bits_4 n x1 x2 = some r → ∀ (H : Heap) (locs : List Loc), va_P D vwCl (nb_w ad ca N M) H → va_S (fun q => b0 ≤ q) s.heap H locs → ∀ ls : Array Slot, lv_has ls 3 [(1, .int x1), (2, .int x2)] → W p l e (nb_R 0) s m args below meth c H locs 0 0 (nb_Q below args s D ad ca b0 (some (.int r)) N M) (F0 m 4 ls []) := by
  obtain ⟨hx, hb, hml, hown, hts, hr, hlk, hK, hZ⟩ := id X
  intro n
  induction n with
  | zero =>
    intro x1 x2 h
    rw [f_X7_bits_4] at h
    cases h
  | succ n ih =>
    intro x1 x2 h H locs hP hS ls hl
    rw [f_X7_bits_4] at h
    refine lv_iload_n hx hb dX7_bits_4 rfl (lv_at hl 1 rfl) ?_
    refine lv_if_eq (tgt := 20) hx hb dX7_bits_5 (by decide) (fun c_1 => ?_) (fun c_1 => ?_)
    · have h := nb_t c_1 h
      refine lv_iload_n hx hb dX7_bits_20 rfl (lv_at hl 0 rfl) ?_
      obtain rfl := nb_e1 h
      exact nb_iret hx hb hr hlk hP hS dX7_bits_21
    · have h := nb_f c_1 h
      refine lv_iinc (v := x1 + 1) (lv' := [(1, .int (x1 + 1)), (2, .int x2)]) hx hb dX7_bits_8 hl (k := 0) rfl (congrArg (HAdd.hAdd x1) (by decide)) (by decide) rfl (fun ls hl => ?_)
      refine lv_iload_n hx hb dX7_bits_11 rfl (lv_at hl 1 rfl) ?_
      refine lv_iload_n hx hb dX7_bits_12 rfl (lv_at hl 1 rfl) ?_
      refine lv_iconst (v := (1 : Int32)) hx hb dX7_bits_13 (by decide) ?_
      refine lv_isub hx hb dX7_bits_14 ?_
      refine lv_iand hx hb dX7_bits_15 ?_
      refine lv_topi (fun v_2 e_2 => ?_)
      have h := nb_nA e_2 h
      refine lv_istore_n (lv' := [(2, .int v_2), (1, .int (x1 + 1))]) hx hb dX7_bits_16 rfl hl (by decide) rfl (fun ls hl => ?_)
      refine lv_goto (tgt := 4) hx hb dX7_bits_17 (by decide) ?_
      exact ih _ _ h _ _ hP hS _ (lv_sub hl [1, 0] rfl)
set_option maxHeartbeats 4000000 in
set_option maxRecDepth 100000 in
theorem k_X7_bits {r : Int32} (had : nb_AD ad b0) (M N : nb_M) (p0 : Int32) (h : f_X7_bits p0 = some r) : nb_C l D ad ca b0 yX7_bits wsX7_bits 0 [.int p0] N M (some (.int r)) N M := by
  refine nb_of (cc := cX7_bits) (maxL := 3) (ret := (some .int)) (own := RX7) (by decide +kernel) rfl rfl (Nat.le_of_ble_eq_true rfl) ?_
  intro p e s m args below meth c ls X hP hS hl
  have hl : lv_has ls 3 [(0, .int p0)] := hl
  obtain ⟨hx, hb, hml, hown, hts, hr, hlk, hK, hZ⟩ := id X
  unfold f_X7_bits at h
  refine lv_iconst (v := (0 : Int32)) hx hb dX7_bits_0 (by decide) ?_
  refine lv_istore_n (lv' := [(1, .int (0 : Int32)), (0, .int p0)]) hx hb dX7_bits_1 rfl hl (by decide) rfl (fun ls hl => ?_)
  refine lv_iload_n hx hb dX7_bits_2 rfl (lv_at hl 1 rfl) ?_
  refine lv_istore_n (lv' := [(2, .int p0), (1, .int (0 : Int32)), (0, .int p0)]) hx hb dX7_bits_3 rfl hl (by decide) rfl (fun ls hl => ?_)
  exact w_X7_bits_4 had X nb_F _ _ h _ _ hP hS _ (lv_sub hl [1, 0] rfl)
set_option maxHeartbeats 4000000 in
set_option maxRecDepth 100000 in
theorem k_X7_left {r : Int32} {M' : nb_M} (had : nb_AD ad b0) (M N : nb_M) (p0 : Int32) (p1 : Int32) (h : f_X7_left M p0 p1 = some (r, M')) : nb_C l D ad ca b0 yX7_left wsX7_left 5 [.ref (ad 52), .int p0, .int p1] N M (some (.int r)) N M' := by
  refine nb_of (cc := cX7_left) (maxL := 3) (ret := (some .int)) (own := RX7) (by decide +kernel) rfl rfl (Nat.le_of_ble_eq_true rfl) ?_
  intro p e s m args below meth c ls X hP hS hl
  have hl : lv_has ls 3 [(0, .ref (ad 52)), (1, .int p0), (2, .int p1)] := hl
  obtain ⟨hx, hb, hml, hown, hts, hr, hlk, hK, hZ⟩ := id X
  have w_1 := hts (.constant RX7 77 (-1000000001)) (by decide +kernel)
  unfold f_X7_left at h
  refine lv_aload_n hx hb dX7_left_0 rfl (lv_at hl 0 rfl) ?_
  refine lv_iload_n hx hb dX7_left_1 rfl (lv_at hl 1 rfl) ?_
  refine nb_callV (n := 1) (As := [.int p0]) (rest := []) hx hb hml hown hts hK hZ hP hS (k_X7_isPerson had M N p0) gX7_left_X7_isPerson rfl (by decide +kernel) (nb_rm (Nat.le_of_ble_eq_true rfl) (Nat.le_of_ble_eq_true rfl)) nb_a52 rfl rfl rfl hl.1 rfl (Nat.le_of_ble_eq_true rfl) dX7_left_2 (fun H locs hP hS => ?_)
  refine W.eq (g2 := F0 m 5 ls [.int (f_X7_isPerson M p0)]) rfl ?_
  refine lv_if_eq (tgt := 17) hx hb dX7_left_5 (by decide) (fun c_2 => ?_) (fun c_2 => ?_)
  · have h := nb_t c_2 h
    refine lv_aload_n hx hb dX7_left_17 rfl (lv_at hl 0 rfl) ?_
    refine lv_ldc (v := (-1000000001 : Int32)) hx hb hown w_1 dX7_left_18 ?_
    obtain ⟨r_3, M_3, e_3, h⟩ := nb_pE h
    refine nb_callV (n := 1) (As := [.int (-1000000001 : Int32)]) (rest := []) hx hb hml hown hts hK hZ hP hS (k_X7_error had M N (-1000000001 : Int32) e_3) gX7_left_X7_error rfl (by decide +kernel) (nb_rm (Nat.le_of_ble_eq_true rfl) (Nat.le_of_ble_eq_true rfl)) nb_a52 rfl rfl rfl hl.1 rfl (Nat.le_of_ble_eq_true rfl) dX7_left_20 (fun H locs hP hS => ?_)
    refine W.eq (g2 := F0 m 23 ls [.int r_3]) rfl ?_
    obtain ⟨rfl, rfl⟩ := nb_e2 h
    exact nb_iret hx hb hr hlk hP hS dX7_left_23
  · have h := nb_f c_2 h
    refine lv_iload_n hx hb dX7_left_8 rfl (lv_at hl 2 rfl) ?_
    refine lv_iconst (v := (0 : Int32)) hx hb dX7_left_9 (by decide) ?_
    refine lv_iconst (v := (2 : Int32)) hx hb dX7_left_10 (by decide) ?_
    refine nb_callS (n := 3) (As := [.int p1, .int (0 : Int32), .int (2 : Int32)]) (rest := []) hx hb hml hown hts hK hZ hP hS (k_X7_in had M N p1 (0 : Int32) (2 : Int32)) gX7_left_X7_in rfl (by decide +kernel) (nb_rm (Nat.le_of_ble_eq_true rfl) (Nat.le_of_ble_eq_true rfl)) rfl hl.1 rfl (Nat.le_of_ble_eq_true rfl) dX7_left_11 (fun H locs hP hS => ?_)
    refine W.eq (g2 := F0 m 14 ls [.int (f_X7_in p1 (0 : Int32) (2 : Int32))]) rfl ?_
    refine lv_if_ne (tgt := 24) hx hb dX7_left_14 (by decide) (fun c_5 => ?_) (fun c_5 => ?_)
    · have h := nb_f c_5 h
      refine lv_iload_n hx hb dX7_left_24 rfl (lv_at hl 2 rfl) ?_
      refine lv_iconst (v := (2 : Int32)) hx hb dX7_left_25 (by decide) ?_
      refine lv_icmp_ne (tgt := 37) hx hb dX7_left_26 (by decide) (fun c_6 => ?_) (fun c_6 => ?_)
      · have h := nb_f c_6 h
        refine lv_iload_n hx hb dX7_left_37 rfl (lv_at hl 2 rfl) ?_
        refine lv_if_ne (tgt := 49) hx hb dX7_left_38 (by decide) (fun c_7 => ?_) (fun c_7 => ?_)
        · have h := nb_f c_7 h
          refine lv_aload_n hx hb dX7_left_49 rfl (lv_at hl 0 rfl) ?_
          refine lv_iload_n hx hb dX7_left_50 rfl (lv_at hl 1 rfl) ?_
          obtain ⟨r_8, e_8, h⟩ := nb_oE h
          refine nb_callV (n := 1) (As := [.int p0]) (rest := []) hx hb hml hown hts hK hZ hP hS (k_X7_leftOf had M N p0 e_8) gX7_left_X7_leftOf rfl (by decide +kernel) (nb_rm (Nat.le_of_ble_eq_true rfl) (Nat.le_of_ble_eq_true rfl)) nb_a52 rfl rfl rfl hl.1 rfl (Nat.le_of_ble_eq_true rfl) dX7_left_51 (fun H locs hP hS => ?_)
          refine W.eq (g2 := F0 m 54 ls [.int r_8]) rfl ?_
          obtain ⟨r_9, e_9, h⟩ := nb_oE h
          refine nb_callS (n := 1) (As := [.int r_8]) (rest := []) hx hb hml hown hts hK hZ hP hS (k_X7_bits had M N r_8 e_9) gX7_left_X7_bits rfl (by decide +kernel) (nb_rm (Nat.le_of_ble_eq_true rfl) (Nat.le_of_ble_eq_true rfl)) rfl hl.1 rfl (Nat.le_of_ble_eq_true rfl) dX7_left_54 (fun H locs hP hS => ?_)
          refine W.eq (g2 := F0 m 57 ls [.int r_9]) rfl ?_
          obtain ⟨rfl, rfl⟩ := nb_e2 h
          exact nb_iret hx hb hr hlk hP hS dX7_left_57
        · have h := nb_t c_7 h
          refine lv_aload_n hx hb dX7_left_41 rfl (lv_at hl 0 rfl) ?_
          refine lv_iload_n hx hb dX7_left_42 rfl (lv_at hl 1 rfl) ?_
          obtain ⟨r_10, e_10, h⟩ := nb_oE h
          refine nb_callV (n := 1) (As := [.int p0]) (rest := []) hx hb hml hown hts hK hZ hP hS (k_X7_leftOf had M N p0 e_10) gX7_left_X7_leftOf rfl (by decide +kernel) (nb_rm (Nat.le_of_ble_eq_true rfl) (Nat.le_of_ble_eq_true rfl)) nb_a52 rfl rfl rfl hl.1 rfl (Nat.le_of_ble_eq_true rfl) dX7_left_43 (fun H locs hP hS => ?_)
          refine W.eq (g2 := F0 m 46 ls [.int r_10]) rfl ?_
          refine lv_goto (tgt := 57) hx hb dX7_left_46 (by decide) ?_
          obtain ⟨rfl, rfl⟩ := nb_e2 h
          exact nb_iret hx hb hr hlk hP hS dX7_left_57
      · have h := nb_t c_6 h
        refine lv_aload_n hx hb dX7_left_29 rfl (lv_at hl 0 rfl) ?_
        refine lv_iload_n hx hb dX7_left_30 rfl (lv_at hl 1 rfl) ?_
        obtain ⟨r_11, e_11, h⟩ := nb_oE h
        refine nb_callV (n := 1) (As := [.int p0]) (rest := []) hx hb hml hown hts hK hZ hP hS (k_X7_dueOf had M N p0 e_11) gX7_left_X7_dueOf rfl (by decide +kernel) (nb_rm (Nat.le_of_ble_eq_true rfl) (Nat.le_of_ble_eq_true rfl)) nb_a52 rfl rfl rfl hl.1 rfl (Nat.le_of_ble_eq_true rfl) dX7_left_31 (fun H locs hP hS => ?_)
        refine W.eq (g2 := F0 m 34 ls [.int r_11]) rfl ?_
        refine lv_goto (tgt := 57) hx hb dX7_left_34 (by decide) ?_
        obtain ⟨rfl, rfl⟩ := nb_e2 h
        exact nb_iret hx hb hr hlk hP hS dX7_left_57
    · have h := nb_t c_5 h
      refine lv_aload_n hx hb dX7_left_17 rfl (lv_at hl 0 rfl) ?_
      refine lv_ldc (v := (-1000000001 : Int32)) hx hb hown w_1 dX7_left_18 ?_
      obtain ⟨r_12, M_12, e_12, h⟩ := nb_pE h
      refine nb_callV (n := 1) (As := [.int (-1000000001 : Int32)]) (rest := []) hx hb hml hown hts hK hZ hP hS (k_X7_error had M N (-1000000001 : Int32) e_12) gX7_left_X7_error rfl (by decide +kernel) (nb_rm (Nat.le_of_ble_eq_true rfl) (Nat.le_of_ble_eq_true rfl)) nb_a52 rfl rfl rfl hl.1 rfl (Nat.le_of_ble_eq_true rfl) dX7_left_20 (fun H locs hP hS => ?_)
      refine W.eq (g2 := F0 m 23 ls [.int r_12]) rfl ?_
      obtain ⟨rfl, rfl⟩ := nb_e2 h
      exact nb_iret hx hb hr hlk hP hS dX7_left_23
set_option maxHeartbeats 4000000 in
set_option maxRecDepth 100000 in
theorem w_X7_findWays_42 {N : nb_M} {M' : nb_M} (had : nb_AD ad b0) (X : nb_X p s m args meth c cX7_findWays 7 RX7 none wsX7_findWays D ca b0) : ∀ (n : Nat) (M : nb_M) (x1 : Int32) (x2 : Int32) (x3 : Int32), f_X7_findWays_42 n M x1 x2 x3 = some (M') → ∀ (H : Heap) (locs : List Loc), va_P D vwCl (nb_w ad ca N M) H → va_S (fun q => b0 ≤ q) s.heap H locs → ∀ ls : Array Slot, lv_has ls 7 [(0, .ref (ad 52)), (1, .int x1), (2, .int x2), (3, .int x3)] → W p l e (nb_R 5) s m args below meth c H locs 0 0 (nb_Q below args s D ad ca b0 none N M') (F0 m 42 ls []) := by
  obtain ⟨hx, hb, hml, hown, hts, hr, hlk, hK, hZ⟩ := id X
  have w_1 := hts (.fieldLink RX7 9 "NineBreakagesModel" "row" "[I") (by decide +kernel)
  have in7 : ∀ w ∈ u_ws RX7 TX7 21, w ∈ wsX7_findWays := fun w q => List.mem_cons_of_mem _ (List.mem_append_right _ q)
  have w_3 := hts (.fieldLink RX7 40 "NineBreakagesModel" "ways" "[J") (by decide +kernel)
  have w_4 := hts (.constantLong RX7 197 (16)) (by decide +kernel)
  have w_5 := hts (.fieldLink RX7 194 "NineBreakagesModel" "all" "J") (by decide +kernel)
  intro n
  induction n with
  | zero =>
    intro M x1 x2 x3 h
    rw [f_X7_findWays_42] at h
    cases h
  | succ n ih =>
    intro M x1 x2 x3 h H locs hP hS ls hl
    rw [f_X7_findWays_42] at h
    refine lv_iload_n hx hb dX7_findWays_42 rfl (lv_at hl 3 rfl) ?_
    refine lv_aload_n hx hb dX7_findWays_43 rfl (lv_at hl 0 rfl) ?_
    refine va_get (v := .ref (ad 53)) (C := RX7) (T := TX7) (N := 21) hx hb hts in7 hown hK.1 hP 52 nb_a52 rfl 0 (by decide) w_1 (fun _ h9 => h9) rfl dX7_findWays_44 ?_
    refine lv_iconst (v := (2 : Int32)) hx hb dX7_findWays_47 (by decide) ?_
    refine va_iald hx hb hK.1 hP 53 0 nb_a53 rfl (nb_lit rfl) dX7_findWays_48 ?_
    refine lv_icmp_ge (tgt := 146) hx hb dX7_findWays_49 (by decide) (fun c_4 => ?_) (fun c_4 => ?_)
    · have h := nb_t c_4 h
      obtain rfl := nb_e1 h
      exact nb_vret hx hb hr hlk hP hS dX7_findWays_146
    · have h := nb_f c_4 h
      refine lv_iload_n hx hb dX7_findWays_52 rfl (lv_at hl 2 rfl) ?_
      refine lv_iload_n hx hb dX7_findWays_53 rfl (lv_at hl 3 rfl) ?_
      refine lv_ishr hx hb dX7_findWays_54 ?_
      refine lv_iconst (v := (1 : Int32)) hx hb dX7_findWays_55 (by decide) ?_
      refine lv_iand hx hb dX7_findWays_56 ?_
      refine lv_iconst (v := (1 : Int32)) hx hb dX7_findWays_57 (by decide) ?_
      refine lv_icmp_ne (tgt := 140) hx hb dX7_findWays_58 (by decide) (fun c_5 => ?_) (fun c_5 => ?_)
      · have h := nb_f c_5 h
        refine lv_iinc (v := x3 + 1) (lv' := [(3, .int (x3 + 1)), (0, .ref (ad 52)), (1, .int x1), (2, .int x2)]) hx hb dX7_findWays_140 hl (k := 3) rfl (congrArg (HAdd.hAdd x3) (by decide)) (by decide) rfl (fun ls hl => ?_)
        refine lv_goto (tgt := 42) hx hb dX7_findWays_143 (by decide) ?_
        exact ih _ _ _ _ h _ _ hP hS _ (lv_sub hl [1, 2, 3, 0] rfl)
      · have h := nb_t c_5 h
        refine lv_aload_n hx hb dX7_findWays_61 rfl (lv_at hl 0 rfl) ?_
        refine lv_iload_n hx hb dX7_findWays_62 rfl (lv_at hl 3 rfl) ?_
        refine lv_iload_n hx hb dX7_findWays_63 rfl (lv_at hl 1 rfl) ?_
        obtain ⟨r_6, M_6, e_6, h⟩ := nb_pE h
        refine nb_callV (n := 2) (As := [.int x3, .int x1]) (rest := []) hx hb hml hown hts hK hZ hP hS (k_X7_riskOf had M N x3 x1 e_6) gX7_findWays_X7_riskOf rfl (by decide +kernel) (nb_rm (Nat.le_of_ble_eq_true rfl) (Nat.le_of_ble_eq_true rfl)) nb_a52 rfl rfl rfl hl.1 rfl (Nat.le_of_ble_eq_true rfl) dX7_findWays_64 (fun H locs hP hS => ?_)
        refine W.eq (g2 := F0 m 67 ls [.int r_6]) rfl ?_
        refine lv_i2l hx hb dX7_findWays_67 rfl ?_
        refine lv_topl (fun v_7 e_7 => ?_)
        have h := nb_nA e_7 h
        refine lv_lstore (lv' := [(4, .long v_7), (0, .ref (ad 52)), (1, .int x1), (2, .int x2), (3, .int x3)]) hx hb dX7_findWays_68 hl (by decide) rfl (fun ls hl => ?_)
        refine lv_bipush (v := (9 : Int32)) hx hb dX7_findWays_70 (by decide) ?_
        refine lv_istore (lv' := [(6, .int (9 : Int32)), (4, .long v_7), (0, .ref (ad 52)), (1, .int x1), (2, .int x2), (3, .int x3)]) hx hb dX7_findWays_72 hl (by decide) rfl (fun ls hl => ?_)
        refine lv_iload hx hb dX7_findWays_74 (lv_at hl 0 rfl) ?_
        refine lv_if_lt (tgt := 128) hx hb dX7_findWays_76 (by decide) (fun c_8 => absurd c_8 (by decide)) (fun _ => ?_)
        refine lv_aload_n hx hb dX7_findWays_79 rfl (lv_at hl 2 rfl) ?_
        refine va_get (v := .ref (ad 63)) (C := RX7) (T := TX7) (N := 21) hx hb hts in7 hown hK.1 hP 52 nb_a52 rfl 16 (by decide) w_3 (fun _ h9 => h9) rfl dX7_findWays_80 ?_
        refine lv_iload hx hb dX7_findWays_83 (lv_at hl 0 rfl) ?_
        refine lv_aload_n hx hb dX7_findWays_85 rfl (lv_at hl 2 rfl) ?_
        refine va_get (v := .ref (ad 63)) (C := RX7) (T := TX7) (N := 21) hx hb hts in7 hown hK.1 hP 52 nb_a52 rfl 16 (by decide) w_3 (fun _ h9 => h9) rfl dX7_findWays_86 ?_
        refine lv_iload hx hb dX7_findWays_89 (lv_at hl 0 rfl) ?_
        refine va_lald hx hb hK.1 hP 63 1 nb_a63 rfl (nb_lit rfl) dX7_findWays_91 ?_
        refine lv_ldc2 (v := (16 : Int64)) hx hb hown w_4 dX7_findWays_92 ?_
        refine lv_lload hx hb dX7_findWays_95 (lv_at hl 1 rfl) ?_
        refine lv_lsub hx hb dX7_findWays_97 ?_
        refine lv_lmul hx hb dX7_findWays_98 ?_
        refine lv_iload hx hb dX7_findWays_99 (lv_at hl 0 rfl) ?_
        refine lv_if_le (tgt := 119) hx hb dX7_findWays_101 (by decide) (fun c_9 => absurd c_9 (by decide)) (fun _ => ?_)
        refine lv_aload_n hx hb dX7_findWays_104 rfl (lv_at hl 2 rfl) ?_
        refine va_get (v := .ref (ad 63)) (C := RX7) (T := TX7) (N := 21) hx hb hts in7 hown hK.1 hP 52 nb_a52 rfl 16 (by decide) w_3 (fun _ h9 => h9) rfl dX7_findWays_105 ?_
        refine lv_iload hx hb dX7_findWays_108 (lv_at hl 0 rfl) ?_
        refine lv_iconst (v := (1 : Int32)) hx hb dX7_findWays_110 (by decide) ?_
        refine lv_isub hx hb dX7_findWays_111 ?_
        refine va_lald hx hb hK.1 hP 63 1 nb_a63 rfl (nb_lit rfl) dX7_findWays_112 ?_
        refine lv_lload hx hb dX7_findWays_113 (lv_at hl 1 rfl) ?_
        refine lv_lmul hx hb dX7_findWays_115 ?_
        refine lv_goto (tgt := 120) hx hb dX7_findWays_116 (by decide) ?_
        refine lv_ladd hx hb dX7_findWays_120 ?_
        refine nb_last hx hb had hK hP hS nb_a63 (nb_lit rfl) (nb_s63 _ _) dX7_findWays_121 (fun H locs hP hS => ?_)
        obtain ⟨M_10, e_10, h⟩ := nb_nE h
        rw [e_10] at hP
        refine lv_iinc (v := (8 : Int32)) (lv' := [(6, .int (8 : Int32)), (4, .long v_7), (0, .ref (ad 52)), (1, .int x1), (2, .int x2), (3, .int x3)]) hx hb dX7_findWays_122 hl (k := 0) rfl (by decide) (by decide) rfl (fun ls hl => ?_)
        refine lv_goto (tgt := 74) hx hb dX7_findWays_125 (by decide) ?_
        refine lv_iload hx hb dX7_findWays_74 (lv_at hl 0 rfl) ?_
        refine lv_if_lt (tgt := 128) hx hb dX7_findWays_76 (by decide) (fun c_11 => absurd c_11 (by decide)) (fun _ => ?_)
        refine lv_aload_n hx hb dX7_findWays_79 rfl (lv_at hl 2 rfl) ?_
        refine va_get (v := .ref (ad 63)) (C := RX7) (T := TX7) (N := 21) hx hb hts in7 hown hK.1 hP 52 nb_a52 rfl 16 (by decide) w_3 (fun _ h9 => h9) rfl dX7_findWays_80 ?_
        refine lv_iload hx hb dX7_findWays_83 (lv_at hl 0 rfl) ?_
        refine lv_aload_n hx hb dX7_findWays_85 rfl (lv_at hl 2 rfl) ?_
        refine va_get (v := .ref (ad 63)) (C := RX7) (T := TX7) (N := 21) hx hb hts in7 hown hK.1 hP 52 nb_a52 rfl 16 (by decide) w_3 (fun _ h9 => h9) rfl dX7_findWays_86 ?_
        refine lv_iload hx hb dX7_findWays_89 (lv_at hl 0 rfl) ?_
        refine va_lald hx hb hK.1 hP 63 1 nb_a63 rfl (nb_lit rfl) dX7_findWays_91 ?_
        refine lv_ldc2 (v := (16 : Int64)) hx hb hown w_4 dX7_findWays_92 ?_
        refine lv_lload hx hb dX7_findWays_95 (lv_at hl 1 rfl) ?_
        refine lv_lsub hx hb dX7_findWays_97 ?_
        refine lv_lmul hx hb dX7_findWays_98 ?_
        refine lv_iload hx hb dX7_findWays_99 (lv_at hl 0 rfl) ?_
        refine lv_if_le (tgt := 119) hx hb dX7_findWays_101 (by decide) (fun c_12 => absurd c_12 (by decide)) (fun _ => ?_)
        refine lv_aload_n hx hb dX7_findWays_104 rfl (lv_at hl 2 rfl) ?_
        refine va_get (v := .ref (ad 63)) (C := RX7) (T := TX7) (N := 21) hx hb hts in7 hown hK.1 hP 52 nb_a52 rfl 16 (by decide) w_3 (fun _ h9 => h9) rfl dX7_findWays_105 ?_
        refine lv_iload hx hb dX7_findWays_108 (lv_at hl 0 rfl) ?_
        refine lv_iconst (v := (1 : Int32)) hx hb dX7_findWays_110 (by decide) ?_
        refine lv_isub hx hb dX7_findWays_111 ?_
        refine va_lald hx hb hK.1 hP 63 1 nb_a63 rfl (nb_lit rfl) dX7_findWays_112 ?_
        refine lv_lload hx hb dX7_findWays_113 (lv_at hl 1 rfl) ?_
        refine lv_lmul hx hb dX7_findWays_115 ?_
        refine lv_goto (tgt := 120) hx hb dX7_findWays_116 (by decide) ?_
        refine lv_ladd hx hb dX7_findWays_120 ?_
        refine nb_last hx hb had hK hP hS nb_a63 (nb_lit rfl) (nb_s63 _ _) dX7_findWays_121 (fun H locs hP hS => ?_)
        obtain ⟨M_13, e_13, h⟩ := nb_nE h
        rw [e_13] at hP
        refine lv_iinc (v := (7 : Int32)) (lv' := [(6, .int (7 : Int32)), (4, .long v_7), (0, .ref (ad 52)), (1, .int x1), (2, .int x2), (3, .int x3)]) hx hb dX7_findWays_122 hl (k := 0) rfl (by decide) (by decide) rfl (fun ls hl => ?_)
        refine lv_goto (tgt := 74) hx hb dX7_findWays_125 (by decide) ?_
        refine lv_iload hx hb dX7_findWays_74 (lv_at hl 0 rfl) ?_
        refine lv_if_lt (tgt := 128) hx hb dX7_findWays_76 (by decide) (fun c_14 => absurd c_14 (by decide)) (fun _ => ?_)
        refine lv_aload_n hx hb dX7_findWays_79 rfl (lv_at hl 2 rfl) ?_
        refine va_get (v := .ref (ad 63)) (C := RX7) (T := TX7) (N := 21) hx hb hts in7 hown hK.1 hP 52 nb_a52 rfl 16 (by decide) w_3 (fun _ h9 => h9) rfl dX7_findWays_80 ?_
        refine lv_iload hx hb dX7_findWays_83 (lv_at hl 0 rfl) ?_
        refine lv_aload_n hx hb dX7_findWays_85 rfl (lv_at hl 2 rfl) ?_
        refine va_get (v := .ref (ad 63)) (C := RX7) (T := TX7) (N := 21) hx hb hts in7 hown hK.1 hP 52 nb_a52 rfl 16 (by decide) w_3 (fun _ h9 => h9) rfl dX7_findWays_86 ?_
        refine lv_iload hx hb dX7_findWays_89 (lv_at hl 0 rfl) ?_
        refine va_lald hx hb hK.1 hP 63 1 nb_a63 rfl (nb_lit rfl) dX7_findWays_91 ?_
        refine lv_ldc2 (v := (16 : Int64)) hx hb hown w_4 dX7_findWays_92 ?_
        refine lv_lload hx hb dX7_findWays_95 (lv_at hl 1 rfl) ?_
        refine lv_lsub hx hb dX7_findWays_97 ?_
        refine lv_lmul hx hb dX7_findWays_98 ?_
        refine lv_iload hx hb dX7_findWays_99 (lv_at hl 0 rfl) ?_
        refine lv_if_le (tgt := 119) hx hb dX7_findWays_101 (by decide) (fun c_15 => absurd c_15 (by decide)) (fun _ => ?_)
        refine lv_aload_n hx hb dX7_findWays_104 rfl (lv_at hl 2 rfl) ?_
        refine va_get (v := .ref (ad 63)) (C := RX7) (T := TX7) (N := 21) hx hb hts in7 hown hK.1 hP 52 nb_a52 rfl 16 (by decide) w_3 (fun _ h9 => h9) rfl dX7_findWays_105 ?_
        refine lv_iload hx hb dX7_findWays_108 (lv_at hl 0 rfl) ?_
        refine lv_iconst (v := (1 : Int32)) hx hb dX7_findWays_110 (by decide) ?_
        refine lv_isub hx hb dX7_findWays_111 ?_
        refine va_lald hx hb hK.1 hP 63 1 nb_a63 rfl (nb_lit rfl) dX7_findWays_112 ?_
        refine lv_lload hx hb dX7_findWays_113 (lv_at hl 1 rfl) ?_
        refine lv_lmul hx hb dX7_findWays_115 ?_
        refine lv_goto (tgt := 120) hx hb dX7_findWays_116 (by decide) ?_
        refine lv_ladd hx hb dX7_findWays_120 ?_
        refine nb_last hx hb had hK hP hS nb_a63 (nb_lit rfl) (nb_s63 _ _) dX7_findWays_121 (fun H locs hP hS => ?_)
        obtain ⟨M_16, e_16, h⟩ := nb_nE h
        rw [e_16] at hP
        refine lv_iinc (v := (6 : Int32)) (lv' := [(6, .int (6 : Int32)), (4, .long v_7), (0, .ref (ad 52)), (1, .int x1), (2, .int x2), (3, .int x3)]) hx hb dX7_findWays_122 hl (k := 0) rfl (by decide) (by decide) rfl (fun ls hl => ?_)
        refine lv_goto (tgt := 74) hx hb dX7_findWays_125 (by decide) ?_
        refine lv_iload hx hb dX7_findWays_74 (lv_at hl 0 rfl) ?_
        refine lv_if_lt (tgt := 128) hx hb dX7_findWays_76 (by decide) (fun c_17 => absurd c_17 (by decide)) (fun _ => ?_)
        refine lv_aload_n hx hb dX7_findWays_79 rfl (lv_at hl 2 rfl) ?_
        refine va_get (v := .ref (ad 63)) (C := RX7) (T := TX7) (N := 21) hx hb hts in7 hown hK.1 hP 52 nb_a52 rfl 16 (by decide) w_3 (fun _ h9 => h9) rfl dX7_findWays_80 ?_
        refine lv_iload hx hb dX7_findWays_83 (lv_at hl 0 rfl) ?_
        refine lv_aload_n hx hb dX7_findWays_85 rfl (lv_at hl 2 rfl) ?_
        refine va_get (v := .ref (ad 63)) (C := RX7) (T := TX7) (N := 21) hx hb hts in7 hown hK.1 hP 52 nb_a52 rfl 16 (by decide) w_3 (fun _ h9 => h9) rfl dX7_findWays_86 ?_
        refine lv_iload hx hb dX7_findWays_89 (lv_at hl 0 rfl) ?_
        refine va_lald hx hb hK.1 hP 63 1 nb_a63 rfl (nb_lit rfl) dX7_findWays_91 ?_
        refine lv_ldc2 (v := (16 : Int64)) hx hb hown w_4 dX7_findWays_92 ?_
        refine lv_lload hx hb dX7_findWays_95 (lv_at hl 1 rfl) ?_
        refine lv_lsub hx hb dX7_findWays_97 ?_
        refine lv_lmul hx hb dX7_findWays_98 ?_
        refine lv_iload hx hb dX7_findWays_99 (lv_at hl 0 rfl) ?_
        refine lv_if_le (tgt := 119) hx hb dX7_findWays_101 (by decide) (fun c_18 => absurd c_18 (by decide)) (fun _ => ?_)
        refine lv_aload_n hx hb dX7_findWays_104 rfl (lv_at hl 2 rfl) ?_
        refine va_get (v := .ref (ad 63)) (C := RX7) (T := TX7) (N := 21) hx hb hts in7 hown hK.1 hP 52 nb_a52 rfl 16 (by decide) w_3 (fun _ h9 => h9) rfl dX7_findWays_105 ?_
        refine lv_iload hx hb dX7_findWays_108 (lv_at hl 0 rfl) ?_
        refine lv_iconst (v := (1 : Int32)) hx hb dX7_findWays_110 (by decide) ?_
        refine lv_isub hx hb dX7_findWays_111 ?_
        refine va_lald hx hb hK.1 hP 63 1 nb_a63 rfl (nb_lit rfl) dX7_findWays_112 ?_
        refine lv_lload hx hb dX7_findWays_113 (lv_at hl 1 rfl) ?_
        refine lv_lmul hx hb dX7_findWays_115 ?_
        refine lv_goto (tgt := 120) hx hb dX7_findWays_116 (by decide) ?_
        refine lv_ladd hx hb dX7_findWays_120 ?_
        refine nb_last hx hb had hK hP hS nb_a63 (nb_lit rfl) (nb_s63 _ _) dX7_findWays_121 (fun H locs hP hS => ?_)
        obtain ⟨M_19, e_19, h⟩ := nb_nE h
        rw [e_19] at hP
        refine lv_iinc (v := (5 : Int32)) (lv' := [(6, .int (5 : Int32)), (4, .long v_7), (0, .ref (ad 52)), (1, .int x1), (2, .int x2), (3, .int x3)]) hx hb dX7_findWays_122 hl (k := 0) rfl (by decide) (by decide) rfl (fun ls hl => ?_)
        refine lv_goto (tgt := 74) hx hb dX7_findWays_125 (by decide) ?_
        refine lv_iload hx hb dX7_findWays_74 (lv_at hl 0 rfl) ?_
        refine lv_if_lt (tgt := 128) hx hb dX7_findWays_76 (by decide) (fun c_20 => absurd c_20 (by decide)) (fun _ => ?_)
        refine lv_aload_n hx hb dX7_findWays_79 rfl (lv_at hl 2 rfl) ?_
        refine va_get (v := .ref (ad 63)) (C := RX7) (T := TX7) (N := 21) hx hb hts in7 hown hK.1 hP 52 nb_a52 rfl 16 (by decide) w_3 (fun _ h9 => h9) rfl dX7_findWays_80 ?_
        refine lv_iload hx hb dX7_findWays_83 (lv_at hl 0 rfl) ?_
        refine lv_aload_n hx hb dX7_findWays_85 rfl (lv_at hl 2 rfl) ?_
        refine va_get (v := .ref (ad 63)) (C := RX7) (T := TX7) (N := 21) hx hb hts in7 hown hK.1 hP 52 nb_a52 rfl 16 (by decide) w_3 (fun _ h9 => h9) rfl dX7_findWays_86 ?_
        refine lv_iload hx hb dX7_findWays_89 (lv_at hl 0 rfl) ?_
        refine va_lald hx hb hK.1 hP 63 1 nb_a63 rfl (nb_lit rfl) dX7_findWays_91 ?_
        refine lv_ldc2 (v := (16 : Int64)) hx hb hown w_4 dX7_findWays_92 ?_
        refine lv_lload hx hb dX7_findWays_95 (lv_at hl 1 rfl) ?_
        refine lv_lsub hx hb dX7_findWays_97 ?_
        refine lv_lmul hx hb dX7_findWays_98 ?_
        refine lv_iload hx hb dX7_findWays_99 (lv_at hl 0 rfl) ?_
        refine lv_if_le (tgt := 119) hx hb dX7_findWays_101 (by decide) (fun c_21 => absurd c_21 (by decide)) (fun _ => ?_)
        refine lv_aload_n hx hb dX7_findWays_104 rfl (lv_at hl 2 rfl) ?_
        refine va_get (v := .ref (ad 63)) (C := RX7) (T := TX7) (N := 21) hx hb hts in7 hown hK.1 hP 52 nb_a52 rfl 16 (by decide) w_3 (fun _ h9 => h9) rfl dX7_findWays_105 ?_
        refine lv_iload hx hb dX7_findWays_108 (lv_at hl 0 rfl) ?_
        refine lv_iconst (v := (1 : Int32)) hx hb dX7_findWays_110 (by decide) ?_
        refine lv_isub hx hb dX7_findWays_111 ?_
        refine va_lald hx hb hK.1 hP 63 1 nb_a63 rfl (nb_lit rfl) dX7_findWays_112 ?_
        refine lv_lload hx hb dX7_findWays_113 (lv_at hl 1 rfl) ?_
        refine lv_lmul hx hb dX7_findWays_115 ?_
        refine lv_goto (tgt := 120) hx hb dX7_findWays_116 (by decide) ?_
        refine lv_ladd hx hb dX7_findWays_120 ?_
        refine nb_last hx hb had hK hP hS nb_a63 (nb_lit rfl) (nb_s63 _ _) dX7_findWays_121 (fun H locs hP hS => ?_)
        obtain ⟨M_22, e_22, h⟩ := nb_nE h
        rw [e_22] at hP
        refine lv_iinc (v := (4 : Int32)) (lv' := [(6, .int (4 : Int32)), (4, .long v_7), (0, .ref (ad 52)), (1, .int x1), (2, .int x2), (3, .int x3)]) hx hb dX7_findWays_122 hl (k := 0) rfl (by decide) (by decide) rfl (fun ls hl => ?_)
        refine lv_goto (tgt := 74) hx hb dX7_findWays_125 (by decide) ?_
        refine lv_iload hx hb dX7_findWays_74 (lv_at hl 0 rfl) ?_
        refine lv_if_lt (tgt := 128) hx hb dX7_findWays_76 (by decide) (fun c_23 => absurd c_23 (by decide)) (fun _ => ?_)
        refine lv_aload_n hx hb dX7_findWays_79 rfl (lv_at hl 2 rfl) ?_
        refine va_get (v := .ref (ad 63)) (C := RX7) (T := TX7) (N := 21) hx hb hts in7 hown hK.1 hP 52 nb_a52 rfl 16 (by decide) w_3 (fun _ h9 => h9) rfl dX7_findWays_80 ?_
        refine lv_iload hx hb dX7_findWays_83 (lv_at hl 0 rfl) ?_
        refine lv_aload_n hx hb dX7_findWays_85 rfl (lv_at hl 2 rfl) ?_
        refine va_get (v := .ref (ad 63)) (C := RX7) (T := TX7) (N := 21) hx hb hts in7 hown hK.1 hP 52 nb_a52 rfl 16 (by decide) w_3 (fun _ h9 => h9) rfl dX7_findWays_86 ?_
        refine lv_iload hx hb dX7_findWays_89 (lv_at hl 0 rfl) ?_
        refine va_lald hx hb hK.1 hP 63 1 nb_a63 rfl (nb_lit rfl) dX7_findWays_91 ?_
        refine lv_ldc2 (v := (16 : Int64)) hx hb hown w_4 dX7_findWays_92 ?_
        refine lv_lload hx hb dX7_findWays_95 (lv_at hl 1 rfl) ?_
        refine lv_lsub hx hb dX7_findWays_97 ?_
        refine lv_lmul hx hb dX7_findWays_98 ?_
        refine lv_iload hx hb dX7_findWays_99 (lv_at hl 0 rfl) ?_
        refine lv_if_le (tgt := 119) hx hb dX7_findWays_101 (by decide) (fun c_24 => absurd c_24 (by decide)) (fun _ => ?_)
        refine lv_aload_n hx hb dX7_findWays_104 rfl (lv_at hl 2 rfl) ?_
        refine va_get (v := .ref (ad 63)) (C := RX7) (T := TX7) (N := 21) hx hb hts in7 hown hK.1 hP 52 nb_a52 rfl 16 (by decide) w_3 (fun _ h9 => h9) rfl dX7_findWays_105 ?_
        refine lv_iload hx hb dX7_findWays_108 (lv_at hl 0 rfl) ?_
        refine lv_iconst (v := (1 : Int32)) hx hb dX7_findWays_110 (by decide) ?_
        refine lv_isub hx hb dX7_findWays_111 ?_
        refine va_lald hx hb hK.1 hP 63 1 nb_a63 rfl (nb_lit rfl) dX7_findWays_112 ?_
        refine lv_lload hx hb dX7_findWays_113 (lv_at hl 1 rfl) ?_
        refine lv_lmul hx hb dX7_findWays_115 ?_
        refine lv_goto (tgt := 120) hx hb dX7_findWays_116 (by decide) ?_
        refine lv_ladd hx hb dX7_findWays_120 ?_
        refine nb_last hx hb had hK hP hS nb_a63 (nb_lit rfl) (nb_s63 _ _) dX7_findWays_121 (fun H locs hP hS => ?_)
        obtain ⟨M_25, e_25, h⟩ := nb_nE h
        rw [e_25] at hP
        refine lv_iinc (v := (3 : Int32)) (lv' := [(6, .int (3 : Int32)), (4, .long v_7), (0, .ref (ad 52)), (1, .int x1), (2, .int x2), (3, .int x3)]) hx hb dX7_findWays_122 hl (k := 0) rfl (by decide) (by decide) rfl (fun ls hl => ?_)
        refine lv_goto (tgt := 74) hx hb dX7_findWays_125 (by decide) ?_
        refine lv_iload hx hb dX7_findWays_74 (lv_at hl 0 rfl) ?_
        refine lv_if_lt (tgt := 128) hx hb dX7_findWays_76 (by decide) (fun c_26 => absurd c_26 (by decide)) (fun _ => ?_)
        refine lv_aload_n hx hb dX7_findWays_79 rfl (lv_at hl 2 rfl) ?_
        refine va_get (v := .ref (ad 63)) (C := RX7) (T := TX7) (N := 21) hx hb hts in7 hown hK.1 hP 52 nb_a52 rfl 16 (by decide) w_3 (fun _ h9 => h9) rfl dX7_findWays_80 ?_
        refine lv_iload hx hb dX7_findWays_83 (lv_at hl 0 rfl) ?_
        refine lv_aload_n hx hb dX7_findWays_85 rfl (lv_at hl 2 rfl) ?_
        refine va_get (v := .ref (ad 63)) (C := RX7) (T := TX7) (N := 21) hx hb hts in7 hown hK.1 hP 52 nb_a52 rfl 16 (by decide) w_3 (fun _ h9 => h9) rfl dX7_findWays_86 ?_
        refine lv_iload hx hb dX7_findWays_89 (lv_at hl 0 rfl) ?_
        refine va_lald hx hb hK.1 hP 63 1 nb_a63 rfl (nb_lit rfl) dX7_findWays_91 ?_
        refine lv_ldc2 (v := (16 : Int64)) hx hb hown w_4 dX7_findWays_92 ?_
        refine lv_lload hx hb dX7_findWays_95 (lv_at hl 1 rfl) ?_
        refine lv_lsub hx hb dX7_findWays_97 ?_
        refine lv_lmul hx hb dX7_findWays_98 ?_
        refine lv_iload hx hb dX7_findWays_99 (lv_at hl 0 rfl) ?_
        refine lv_if_le (tgt := 119) hx hb dX7_findWays_101 (by decide) (fun c_27 => absurd c_27 (by decide)) (fun _ => ?_)
        refine lv_aload_n hx hb dX7_findWays_104 rfl (lv_at hl 2 rfl) ?_
        refine va_get (v := .ref (ad 63)) (C := RX7) (T := TX7) (N := 21) hx hb hts in7 hown hK.1 hP 52 nb_a52 rfl 16 (by decide) w_3 (fun _ h9 => h9) rfl dX7_findWays_105 ?_
        refine lv_iload hx hb dX7_findWays_108 (lv_at hl 0 rfl) ?_
        refine lv_iconst (v := (1 : Int32)) hx hb dX7_findWays_110 (by decide) ?_
        refine lv_isub hx hb dX7_findWays_111 ?_
        refine va_lald hx hb hK.1 hP 63 1 nb_a63 rfl (nb_lit rfl) dX7_findWays_112 ?_
        refine lv_lload hx hb dX7_findWays_113 (lv_at hl 1 rfl) ?_
        refine lv_lmul hx hb dX7_findWays_115 ?_
        refine lv_goto (tgt := 120) hx hb dX7_findWays_116 (by decide) ?_
        refine lv_ladd hx hb dX7_findWays_120 ?_
        refine nb_last hx hb had hK hP hS nb_a63 (nb_lit rfl) (nb_s63 _ _) dX7_findWays_121 (fun H locs hP hS => ?_)
        obtain ⟨M_28, e_28, h⟩ := nb_nE h
        rw [e_28] at hP
        refine lv_iinc (v := (2 : Int32)) (lv' := [(6, .int (2 : Int32)), (4, .long v_7), (0, .ref (ad 52)), (1, .int x1), (2, .int x2), (3, .int x3)]) hx hb dX7_findWays_122 hl (k := 0) rfl (by decide) (by decide) rfl (fun ls hl => ?_)
        refine lv_goto (tgt := 74) hx hb dX7_findWays_125 (by decide) ?_
        refine lv_iload hx hb dX7_findWays_74 (lv_at hl 0 rfl) ?_
        refine lv_if_lt (tgt := 128) hx hb dX7_findWays_76 (by decide) (fun c_29 => absurd c_29 (by decide)) (fun _ => ?_)
        refine lv_aload_n hx hb dX7_findWays_79 rfl (lv_at hl 2 rfl) ?_
        refine va_get (v := .ref (ad 63)) (C := RX7) (T := TX7) (N := 21) hx hb hts in7 hown hK.1 hP 52 nb_a52 rfl 16 (by decide) w_3 (fun _ h9 => h9) rfl dX7_findWays_80 ?_
        refine lv_iload hx hb dX7_findWays_83 (lv_at hl 0 rfl) ?_
        refine lv_aload_n hx hb dX7_findWays_85 rfl (lv_at hl 2 rfl) ?_
        refine va_get (v := .ref (ad 63)) (C := RX7) (T := TX7) (N := 21) hx hb hts in7 hown hK.1 hP 52 nb_a52 rfl 16 (by decide) w_3 (fun _ h9 => h9) rfl dX7_findWays_86 ?_
        refine lv_iload hx hb dX7_findWays_89 (lv_at hl 0 rfl) ?_
        refine va_lald hx hb hK.1 hP 63 1 nb_a63 rfl (nb_lit rfl) dX7_findWays_91 ?_
        refine lv_ldc2 (v := (16 : Int64)) hx hb hown w_4 dX7_findWays_92 ?_
        refine lv_lload hx hb dX7_findWays_95 (lv_at hl 1 rfl) ?_
        refine lv_lsub hx hb dX7_findWays_97 ?_
        refine lv_lmul hx hb dX7_findWays_98 ?_
        refine lv_iload hx hb dX7_findWays_99 (lv_at hl 0 rfl) ?_
        refine lv_if_le (tgt := 119) hx hb dX7_findWays_101 (by decide) (fun c_30 => absurd c_30 (by decide)) (fun _ => ?_)
        refine lv_aload_n hx hb dX7_findWays_104 rfl (lv_at hl 2 rfl) ?_
        refine va_get (v := .ref (ad 63)) (C := RX7) (T := TX7) (N := 21) hx hb hts in7 hown hK.1 hP 52 nb_a52 rfl 16 (by decide) w_3 (fun _ h9 => h9) rfl dX7_findWays_105 ?_
        refine lv_iload hx hb dX7_findWays_108 (lv_at hl 0 rfl) ?_
        refine lv_iconst (v := (1 : Int32)) hx hb dX7_findWays_110 (by decide) ?_
        refine lv_isub hx hb dX7_findWays_111 ?_
        refine va_lald hx hb hK.1 hP 63 1 nb_a63 rfl (nb_lit rfl) dX7_findWays_112 ?_
        refine lv_lload hx hb dX7_findWays_113 (lv_at hl 1 rfl) ?_
        refine lv_lmul hx hb dX7_findWays_115 ?_
        refine lv_goto (tgt := 120) hx hb dX7_findWays_116 (by decide) ?_
        refine lv_ladd hx hb dX7_findWays_120 ?_
        refine nb_last hx hb had hK hP hS nb_a63 (nb_lit rfl) (nb_s63 _ _) dX7_findWays_121 (fun H locs hP hS => ?_)
        obtain ⟨M_31, e_31, h⟩ := nb_nE h
        rw [e_31] at hP
        refine lv_iinc (v := (1 : Int32)) (lv' := [(6, .int (1 : Int32)), (4, .long v_7), (0, .ref (ad 52)), (1, .int x1), (2, .int x2), (3, .int x3)]) hx hb dX7_findWays_122 hl (k := 0) rfl (by decide) (by decide) rfl (fun ls hl => ?_)
        refine lv_goto (tgt := 74) hx hb dX7_findWays_125 (by decide) ?_
        refine lv_iload hx hb dX7_findWays_74 (lv_at hl 0 rfl) ?_
        refine lv_if_lt (tgt := 128) hx hb dX7_findWays_76 (by decide) (fun c_32 => absurd c_32 (by decide)) (fun _ => ?_)
        refine lv_aload_n hx hb dX7_findWays_79 rfl (lv_at hl 2 rfl) ?_
        refine va_get (v := .ref (ad 63)) (C := RX7) (T := TX7) (N := 21) hx hb hts in7 hown hK.1 hP 52 nb_a52 rfl 16 (by decide) w_3 (fun _ h9 => h9) rfl dX7_findWays_80 ?_
        refine lv_iload hx hb dX7_findWays_83 (lv_at hl 0 rfl) ?_
        refine lv_aload_n hx hb dX7_findWays_85 rfl (lv_at hl 2 rfl) ?_
        refine va_get (v := .ref (ad 63)) (C := RX7) (T := TX7) (N := 21) hx hb hts in7 hown hK.1 hP 52 nb_a52 rfl 16 (by decide) w_3 (fun _ h9 => h9) rfl dX7_findWays_86 ?_
        refine lv_iload hx hb dX7_findWays_89 (lv_at hl 0 rfl) ?_
        refine va_lald hx hb hK.1 hP 63 1 nb_a63 rfl (nb_lit rfl) dX7_findWays_91 ?_
        refine lv_ldc2 (v := (16 : Int64)) hx hb hown w_4 dX7_findWays_92 ?_
        refine lv_lload hx hb dX7_findWays_95 (lv_at hl 1 rfl) ?_
        refine lv_lsub hx hb dX7_findWays_97 ?_
        refine lv_lmul hx hb dX7_findWays_98 ?_
        refine lv_iload hx hb dX7_findWays_99 (lv_at hl 0 rfl) ?_
        refine lv_if_le (tgt := 119) hx hb dX7_findWays_101 (by decide) (fun c_33 => absurd c_33 (by decide)) (fun _ => ?_)
        refine lv_aload_n hx hb dX7_findWays_104 rfl (lv_at hl 2 rfl) ?_
        refine va_get (v := .ref (ad 63)) (C := RX7) (T := TX7) (N := 21) hx hb hts in7 hown hK.1 hP 52 nb_a52 rfl 16 (by decide) w_3 (fun _ h9 => h9) rfl dX7_findWays_105 ?_
        refine lv_iload hx hb dX7_findWays_108 (lv_at hl 0 rfl) ?_
        refine lv_iconst (v := (1 : Int32)) hx hb dX7_findWays_110 (by decide) ?_
        refine lv_isub hx hb dX7_findWays_111 ?_
        refine va_lald hx hb hK.1 hP 63 1 nb_a63 rfl (nb_lit rfl) dX7_findWays_112 ?_
        refine lv_lload hx hb dX7_findWays_113 (lv_at hl 1 rfl) ?_
        refine lv_lmul hx hb dX7_findWays_115 ?_
        refine lv_goto (tgt := 120) hx hb dX7_findWays_116 (by decide) ?_
        refine lv_ladd hx hb dX7_findWays_120 ?_
        refine nb_last hx hb had hK hP hS nb_a63 (nb_lit rfl) (nb_s63 _ _) dX7_findWays_121 (fun H locs hP hS => ?_)
        obtain ⟨M_34, e_34, h⟩ := nb_nE h
        rw [e_34] at hP
        refine lv_iinc (v := (0 : Int32)) (lv' := [(6, .int (0 : Int32)), (4, .long v_7), (0, .ref (ad 52)), (1, .int x1), (2, .int x2), (3, .int x3)]) hx hb dX7_findWays_122 hl (k := 0) rfl (by decide) (by decide) rfl (fun ls hl => ?_)
        refine lv_goto (tgt := 74) hx hb dX7_findWays_125 (by decide) ?_
        refine lv_iload hx hb dX7_findWays_74 (lv_at hl 0 rfl) ?_
        refine lv_if_lt (tgt := 128) hx hb dX7_findWays_76 (by decide) (fun c_35 => absurd c_35 (by decide)) (fun _ => ?_)
        refine lv_aload_n hx hb dX7_findWays_79 rfl (lv_at hl 2 rfl) ?_
        refine va_get (v := .ref (ad 63)) (C := RX7) (T := TX7) (N := 21) hx hb hts in7 hown hK.1 hP 52 nb_a52 rfl 16 (by decide) w_3 (fun _ h9 => h9) rfl dX7_findWays_80 ?_
        refine lv_iload hx hb dX7_findWays_83 (lv_at hl 0 rfl) ?_
        refine lv_aload_n hx hb dX7_findWays_85 rfl (lv_at hl 2 rfl) ?_
        refine va_get (v := .ref (ad 63)) (C := RX7) (T := TX7) (N := 21) hx hb hts in7 hown hK.1 hP 52 nb_a52 rfl 16 (by decide) w_3 (fun _ h9 => h9) rfl dX7_findWays_86 ?_
        refine lv_iload hx hb dX7_findWays_89 (lv_at hl 0 rfl) ?_
        refine va_lald hx hb hK.1 hP 63 1 nb_a63 rfl (nb_lit rfl) dX7_findWays_91 ?_
        refine lv_ldc2 (v := (16 : Int64)) hx hb hown w_4 dX7_findWays_92 ?_
        refine lv_lload hx hb dX7_findWays_95 (lv_at hl 1 rfl) ?_
        refine lv_lsub hx hb dX7_findWays_97 ?_
        refine lv_lmul hx hb dX7_findWays_98 ?_
        refine lv_iload hx hb dX7_findWays_99 (lv_at hl 0 rfl) ?_
        refine lv_if_le (tgt := 119) hx hb dX7_findWays_101 (by decide) (fun _ => ?_) (fun c_36 => absurd (by decide) c_36)
        refine lv_lconst (v := (0 : Int64)) hx hb dX7_findWays_119 (by decide) ?_
        refine lv_ladd hx hb dX7_findWays_120 ?_
        refine nb_last hx hb had hK hP hS nb_a63 (nb_lit rfl) (nb_s63 _ _) dX7_findWays_121 (fun H locs hP hS => ?_)
        obtain ⟨M_37, e_37, h⟩ := nb_nE h
        rw [e_37] at hP
        refine lv_iinc (v := (-1 : Int32)) (lv' := [(6, .int (-1 : Int32)), (4, .long v_7), (0, .ref (ad 52)), (1, .int x1), (2, .int x2), (3, .int x3)]) hx hb dX7_findWays_122 hl (k := 0) rfl (by decide) (by decide) rfl (fun ls hl => ?_)
        refine lv_goto (tgt := 74) hx hb dX7_findWays_125 (by decide) ?_
        refine lv_iload hx hb dX7_findWays_74 (lv_at hl 0 rfl) ?_
        refine lv_if_lt (tgt := 128) hx hb dX7_findWays_76 (by decide) (fun _ => ?_) (fun c_38 => absurd (by decide) c_38)
        refine lv_aload_n hx hb dX7_findWays_128 rfl (lv_at hl 2 rfl) ?_
        refine lv_dup hx hb dX7_findWays_129 rfl ?_
        refine va_get (v := .long (M_37.2 0 17)) (C := RX7) (T := TX7) (N := 21) hx hb hts in7 hown hK.1 hP 52 nb_a52 rfl 17 (by decide) w_5 (fun _ h9 => h9) rfl dX7_findWays_130 ?_
        refine lv_ldc2 (v := (16 : Int64)) hx hb hown w_4 dX7_findWays_133 ?_
        refine lv_lmul hx hb dX7_findWays_136 ?_
        refine nb_put (C := RX7) (T := TX7) (NN := 21) hx hb had hts in7 tyX7 tyX7_ok nmX7 hown hK hP hS nb_a52 rfl 17 (by decide) w_5 rfl (ty := .long) (by decide +kernel) rfl rfl (Nat.le_of_ble_eq_true rfl) (nb_p52_17 _) dX7_findWays_137 (fun H locs hP hS => ?_)
        obtain ⟨M_39, e_39, h⟩ := nb_nE h
        rw [e_39] at hP
        refine lv_iinc (v := x3 + 1) (lv' := [(3, .int (x3 + 1)), (6, .int (-1 : Int32)), (4, .long v_7), (0, .ref (ad 52)), (1, .int x1), (2, .int x2)]) hx hb dX7_findWays_140 hl (k := 5) rfl (congrArg (HAdd.hAdd x3) (by decide)) (by decide) rfl (fun ls hl => ?_)
        refine lv_goto (tgt := 42) hx hb dX7_findWays_143 (by decide) ?_
        exact ih _ _ _ _ h _ _ hP hS _ (lv_sub hl [3, 4, 5, 0] rfl)
end GEN
