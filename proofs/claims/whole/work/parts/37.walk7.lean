section GEN
variable {p : Program} {l : Launch} {e : Env} {s : State} {m : MethodId} {args : Array Value} {below : List Frame} {meth : Method} {c : Code} {D : va_G} {ad : Nat → Nat} {ca : Nat → ClassId} {b0 : Nat}
set_option maxHeartbeats 4000000 in
set_option maxRecDepth 100000 in
theorem w_X7_check_16 {N : nb_M} {r : Int32} {M' : nb_M} (had : nb_AD ad b0) (X : nb_X p s m args meth c cX7_check 3 RX7 (some .int) wsX7_check D ca b0) : ∀ (n : Nat) (M : nb_M) (x1 : Int32) (x2 : Int32), f_X7_check_16 n M x1 x2 = some (r, M') → ∀ (H : Heap) (locs : List Loc), va_P D vwCl (nb_w ad ca N M) H → va_S (fun q => b0 ≤ q) s.heap H locs → ∀ ls : Array Slot, lv_has ls 3 [(0, .ref (ad 52)), (1, .int x1), (2, .int x2)] → W p l e (nb_R 2) s m args below meth c H locs 0 0 (nb_Q below args s D ad ca b0 (some (.int r)) N M') (F0 m 16 ls []) := by
  obtain ⟨hx, hb, hml, hown, hts, hr, hlk, hK, hZ⟩ := id X
  have w_1 := hts (.fieldLink RX7 9 "NineBreakagesModel" "row" "[I") (by decide +kernel)
  have in7 : ∀ w ∈ u_ws RX7 TX7 21, w ∈ wsX7_check := fun w q => List.mem_cons_of_mem _ (List.mem_append_right _ q)
  intro n
  induction n with
  | zero =>
    intro M x1 x2 h
    rw [f_X7_check_16] at h
    cases h
  | succ n ih =>
    intro M x1 x2 h H locs hP hS ls hl
    rw [f_X7_check_16] at h
    refine lv_iload_n hx hb dX7_check_16 rfl (lv_at hl 2 rfl) ?_
    refine lv_iload_n hx hb dX7_check_17 rfl (lv_at hl 1 rfl) ?_
    refine lv_icmp_ge (tgt := 57) hx hb dX7_check_18 (by decide) (fun c_3 => ?_) (fun c_3 => ?_)
    · have h := nb_t c_3 h
      refine lv_iconst (v := (0 : Int32)) hx hb dX7_check_57 (by decide) ?_
      obtain ⟨rfl, rfl⟩ := nb_e2 h
      exact nb_iret hx hb hr hlk hP hS dX7_check_58
    · have h := nb_f c_3 h
      refine lv_aload_n hx hb dX7_check_21 rfl (lv_at hl 0 rfl) ?_
      refine lv_iload_n hx hb dX7_check_22 rfl (lv_at hl 2 rfl) ?_
      refine nb_callV (n := 1) (As := [.int x2]) (rest := []) hx hb hml hown hts hK hZ hP hS (k_X7_isPerson had M N x2) gX7_check_X7_isPerson rfl (by decide +kernel) (nb_rm (Nat.le_of_ble_eq_true rfl) (Nat.le_of_ble_eq_true rfl)) nb_a52 rfl rfl rfl hl.1 rfl (Nat.le_of_ble_eq_true rfl) dX7_check_23 (fun H locs hP hS => ?_)
      refine W.eq (g2 := F0 m 26 ls [.int (f_X7_isPerson M x2)]) rfl ?_
      refine lv_if_eq (tgt := 47) hx hb dX7_check_26 (by decide) (fun c_5 => ?_) (fun c_5 => ?_)
      · have h := nb_t c_5 h
        refine lv_iconst (v := (1 : Int32)) hx hb dX7_check_47 (by decide) ?_
        refine lv_iload_n hx hb dX7_check_48 rfl (lv_at hl 2 rfl) ?_
        refine lv_iadd hx hb dX7_check_49 ?_
        obtain ⟨rfl, rfl⟩ := nb_e2 h
        exact nb_iret hx hb hr hlk hP hS dX7_check_50
      · have h := nb_f c_5 h
        refine lv_aload_n hx hb dX7_check_29 rfl (lv_at hl 0 rfl) ?_
        refine va_get (v := .ref (ad 53)) (C := RX7) (T := TX7) (N := 21) hx hb hts in7 hown hK.1 hP 52 nb_a52 rfl 0 (by decide) w_1 (fun _ h9 => h9) rfl dX7_check_30 ?_
        refine lv_bipush (v := (117 : Int32)) hx hb dX7_check_33 (by decide) ?_
        refine lv_iload_n hx hb dX7_check_35 rfl (lv_at hl 2 rfl) ?_
        refine lv_iadd hx hb dX7_check_36 ?_
        obtain ⟨c_6, h⟩ := nb_c h
        refine va_iald hx hb hK.1 hP 53 0 nb_a53 rfl c_6 dX7_check_37 ?_
        refine lv_aload_n hx hb dX7_check_38 rfl (lv_at hl 0 rfl) ?_
        refine lv_iload_n hx hb dX7_check_39 rfl (lv_at hl 2 rfl) ?_
        refine lv_iconst (v := (2 : Int32)) hx hb dX7_check_40 (by decide) ?_
        obtain ⟨r_7, e_7, h⟩ := nb_oE h
        refine nb_callV (n := 2) (As := [.int x2, .int (2 : Int32)]) (rest := [.int (M.1 1 ((117 : Int32) + x2).toNatClampNeg)]) hx hb hml hown hts hK hZ hP hS (k_X7_about had M N x2 (2 : Int32) e_7) gX7_check_X7_about rfl (by decide +kernel) (nb_rm (Nat.le_of_ble_eq_true rfl) (Nat.le_of_ble_eq_true rfl)) nb_a52 rfl rfl rfl hl.1 rfl (Nat.le_of_ble_eq_true rfl) dX7_check_41 (fun H locs hP hS => ?_)
        refine W.eq (g2 := F0 m 44 ls [.int r_7, .int (M.1 1 ((117 : Int32) + x2).toNatClampNeg)]) rfl ?_
        refine lv_icmp_eq (tgt := 51) hx hb dX7_check_44 (by decide) (fun c_8 => ?_) (fun c_8 => ?_)
        · have h := nb_t c_8 h
          refine lv_iinc (v := x2 + 1) (lv' := [(2, .int (x2 + 1)), (0, .ref (ad 52)), (1, .int x1)]) hx hb dX7_check_51 hl (k := 2) rfl (congrArg (HAdd.hAdd x2) (by decide)) (by decide) rfl (fun ls hl => ?_)
          refine lv_goto (tgt := 16) hx hb dX7_check_54 (by decide) ?_
          exact ih _ _ _ h _ _ hP hS _ (lv_sub hl [1, 2, 0] rfl)
        · have h := nb_f c_8 h
          refine lv_iconst (v := (1 : Int32)) hx hb dX7_check_47 (by decide) ?_
          refine lv_iload_n hx hb dX7_check_48 rfl (lv_at hl 2 rfl) ?_
          refine lv_iadd hx hb dX7_check_49 ?_
          obtain ⟨rfl, rfl⟩ := nb_e2 h
          exact nb_iret hx hb hr hlk hP hS dX7_check_50
set_option maxHeartbeats 4000000 in
set_option maxRecDepth 100000 in
theorem k_X7_check {r : Int32} {M' : nb_M} (had : nb_AD ad b0) (M N : nb_M) (h : f_X7_check M = some (r, M')) : nb_C l D ad ca b0 yX7_check wsX7_check 2 [.ref (ad 52)] N M (some (.int r)) N M' := by
  refine nb_of (cc := cX7_check) (maxL := 3) (ret := (some .int)) (own := RX7) (by decide +kernel) rfl rfl (Nat.le_of_ble_eq_true rfl) ?_
  intro p e s m args below meth c ls X hP hS hl
  have hl : lv_has ls 3 [(0, .ref (ad 52))] := hl
  obtain ⟨hx, hb, hml, hown, hts, hr, hlk, hK, hZ⟩ := id X
  have w_1 := hts (.fieldLink RX7 9 "NineBreakagesModel" "row" "[I") (by decide +kernel)
  have in7 : ∀ w ∈ u_ws RX7 TX7 21, w ∈ wsX7_check := fun w q => List.mem_cons_of_mem _ (List.mem_append_right _ q)
  unfold f_X7_check at h
  refine lv_aload_n hx hb dX7_check_0 rfl (lv_at hl 0 rfl) ?_
  refine va_get (v := .ref (ad 53)) (C := RX7) (T := TX7) (N := 21) hx hb hts in7 hown hK.1 hP 52 nb_a52 rfl 0 (by decide) w_1 (fun _ h9 => h9) rfl dX7_check_1 ?_
  refine lv_iconst (v := (5 : Int32)) hx hb dX7_check_4 (by decide) ?_
  refine va_iald hx hb hK.1 hP 53 0 nb_a53 rfl (nb_lit rfl) dX7_check_5 ?_
  refine lv_topi (fun v_1 e_1 => ?_)
  have h := nb_nA e_1 h
  refine lv_istore_n (lv' := [(1, .int v_1), (0, .ref (ad 52))]) hx hb dX7_check_6 rfl hl (by decide) rfl (fun ls hl => ?_)
  refine lv_aload_n hx hb dX7_check_7 rfl (lv_at hl 1 rfl) ?_
  refine va_get (v := .ref (ad 53)) (C := RX7) (T := TX7) (N := 21) hx hb hts in7 hown hK.1 hP 52 nb_a52 rfl 0 (by decide) w_1 (fun _ h9 => h9) rfl dX7_check_8 ?_
  refine lv_iconst (v := (5 : Int32)) hx hb dX7_check_11 (by decide) ?_
  refine lv_iconst (v := (0 : Int32)) hx hb dX7_check_12 (by decide) ?_
  refine nb_iast hx hb had hK hP hS nb_a53 (nb_lit rfl) (nb_t53 _ _) dX7_check_13 (fun H locs hP hS => ?_)
  obtain ⟨M_2, e_2, h⟩ := nb_nE h
  rw [e_2] at hP
  refine lv_iconst (v := (0 : Int32)) hx hb dX7_check_14 (by decide) ?_
  refine lv_istore_n (lv' := [(2, .int (0 : Int32)), (1, .int v_1), (0, .ref (ad 52))]) hx hb dX7_check_15 rfl hl (by decide) rfl (fun ls hl => ?_)
  exact w_X7_check_16 had X nb_F _ _ _ h _ _ hP hS _ (lv_sub hl [2, 1, 0] rfl)
set_option maxHeartbeats 4000000 in
set_option maxRecDepth 100000 in
theorem k_X7_count {r : Int32} {M' : nb_M} (had : nb_AD ad b0) (M N : nb_M) (p0 : Int32) (h : f_X7_count M p0 = some (r, M')) : nb_C l D ad ca b0 yX7_count wsX7_count 2 [.ref (ad 52), .int p0] N M (some (.int r)) N M' := by
  refine nb_of (cc := cX7_count) (maxL := 2) (ret := (some .int)) (own := RX7) (by decide +kernel) rfl rfl (Nat.le_of_ble_eq_true rfl) ?_
  intro p e s m args below meth c ls X hP hS hl
  have hl : lv_has ls 2 [(0, .ref (ad 52)), (1, .int p0)] := hl
  obtain ⟨hx, hb, hml, hown, hts, hr, hlk, hK, hZ⟩ := id X
  have w_1 := hts (.fieldLink RX7 9 "NineBreakagesModel" "row" "[I") (by decide +kernel)
  have in7 : ∀ w ∈ u_ws RX7 TX7 21, w ∈ wsX7_count := fun w q => List.mem_cons_of_mem _ (List.mem_append_right _ q)
  have w_3 := hts (.fieldLink RX7 213 "NineBreakagesModel" "traced" "I") (by decide +kernel)
  have w_4 := hts (.constant RX7 77 (-1000000001)) (by decide +kernel)
  unfold f_X7_count at h
  refine lv_iload_n hx hb dX7_count_0 rfl (lv_at hl 1 rfl) ?_
  refine nb_tsw [(0, 48), (1, 55), (2, 62), (3, 69), (4, 74), (5, 81), (6, 88), (7, 93)] 100 hx hb dX7_count_1 (by decide +kernel) ?_
  refine nb_split (fun c_1 => ?_) (fun c_1 => ?_)
  · have h := nb_t c_1 h
    refine lv_aload_n hx hb dX7_count_48 rfl (lv_at hl 0 rfl) ?_
    refine va_get (v := .ref (ad 53)) (C := RX7) (T := TX7) (N := 21) hx hb hts in7 hown hK.1 hP 52 nb_a52 rfl 0 (by decide) w_1 (fun _ h9 => h9) rfl dX7_count_49 ?_
    refine lv_iconst (v := (2 : Int32)) hx hb dX7_count_52 (by decide) ?_
    refine va_iald hx hb hK.1 hP 53 0 nb_a53 rfl (nb_lit rfl) dX7_count_53 ?_
    obtain ⟨rfl, rfl⟩ := nb_e2 h
    exact nb_iret hx hb hr hlk hP hS dX7_count_54
  · have h := nb_f c_1 h
    refine nb_split (fun c_2 => ?_) (fun c_2 => ?_)
    · have h := nb_t c_2 h
      refine lv_aload_n hx hb dX7_count_55 rfl (lv_at hl 0 rfl) ?_
      refine va_get (v := .ref (ad 53)) (C := RX7) (T := TX7) (N := 21) hx hb hts in7 hown hK.1 hP 52 nb_a52 rfl 0 (by decide) w_1 (fun _ h9 => h9) rfl dX7_count_56 ?_
      refine lv_iconst (v := (3 : Int32)) hx hb dX7_count_59 (by decide) ?_
      refine va_iald hx hb hK.1 hP 53 0 nb_a53 rfl (nb_lit rfl) dX7_count_60 ?_
      obtain ⟨rfl, rfl⟩ := nb_e2 h
      exact nb_iret hx hb hr hlk hP hS dX7_count_61
    · have h := nb_f c_2 h
      refine nb_split (fun c_3 => ?_) (fun c_3 => ?_)
      · have h := nb_t c_3 h
        refine lv_aload_n hx hb dX7_count_62 rfl (lv_at hl 0 rfl) ?_
        refine va_get (v := .ref (ad 53)) (C := RX7) (T := TX7) (N := 21) hx hb hts in7 hown hK.1 hP 52 nb_a52 rfl 0 (by decide) w_1 (fun _ h9 => h9) rfl dX7_count_63 ?_
        refine lv_iconst (v := (0 : Int32)) hx hb dX7_count_66 (by decide) ?_
        refine va_iald hx hb hK.1 hP 53 0 nb_a53 rfl (nb_lit rfl) dX7_count_67 ?_
        obtain ⟨rfl, rfl⟩ := nb_e2 h
        exact nb_iret hx hb hr hlk hP hS dX7_count_68
      · have h := nb_f c_3 h
        refine nb_split (fun c_4 => ?_) (fun c_4 => ?_)
        · have h := nb_t c_4 h
          refine lv_aload_n hx hb dX7_count_69 rfl (lv_at hl 0 rfl) ?_
          obtain ⟨r_5, e_5, h⟩ := nb_oE h
          refine nb_callV (n := 0) (As := []) (rest := []) hx hb hml hown hts hK hZ hP hS (k_X7_shards had M N e_5) gX7_count_X7_shards rfl (by decide +kernel) (nb_rm (Nat.le_of_ble_eq_true rfl) (Nat.le_of_ble_eq_true rfl)) nb_a52 rfl rfl rfl hl.1 rfl (Nat.le_of_ble_eq_true rfl) dX7_count_70 (fun H locs hP hS => ?_)
          refine W.eq (g2 := F0 m 73 ls [.int r_5]) rfl ?_
          obtain ⟨rfl, rfl⟩ := nb_e2 h
          exact nb_iret hx hb hr hlk hP hS dX7_count_73
        · have h := nb_f c_4 h
          refine nb_split (fun c_6 => ?_) (fun c_6 => ?_)
          · have h := nb_t c_6 h
            refine lv_aload_n hx hb dX7_count_74 rfl (lv_at hl 0 rfl) ?_
            refine va_get (v := .ref (ad 53)) (C := RX7) (T := TX7) (N := 21) hx hb hts in7 hown hK.1 hP 52 nb_a52 rfl 0 (by decide) w_1 (fun _ h9 => h9) rfl dX7_count_75 ?_
            refine lv_iconst (v := (4 : Int32)) hx hb dX7_count_78 (by decide) ?_
            refine va_iald hx hb hK.1 hP 53 0 nb_a53 rfl (nb_lit rfl) dX7_count_79 ?_
            obtain ⟨rfl, rfl⟩ := nb_e2 h
            exact nb_iret hx hb hr hlk hP hS dX7_count_80
          · have h := nb_f c_6 h
            refine nb_split (fun c_7 => ?_) (fun c_7 => ?_)
            · have h := nb_t c_7 h
              refine lv_aload_n hx hb dX7_count_81 rfl (lv_at hl 0 rfl) ?_
              refine va_get (v := .ref (ad 53)) (C := RX7) (T := TX7) (N := 21) hx hb hts in7 hown hK.1 hP 52 nb_a52 rfl 0 (by decide) w_1 (fun _ h9 => h9) rfl dX7_count_82 ?_
              refine lv_iconst (v := (5 : Int32)) hx hb dX7_count_85 (by decide) ?_
              refine va_iald hx hb hK.1 hP 53 0 nb_a53 rfl (nb_lit rfl) dX7_count_86 ?_
              obtain ⟨rfl, rfl⟩ := nb_e2 h
              exact nb_iret hx hb hr hlk hP hS dX7_count_87
            · have h := nb_f c_7 h
              refine nb_split (fun c_8 => ?_) (fun c_8 => ?_)
              · have h := nb_t c_8 h
                refine lv_aload_n hx hb dX7_count_88 rfl (lv_at hl 0 rfl) ?_
                refine va_get (v := .int (M.1 0 19)) (C := RX7) (T := TX7) (N := 21) hx hb hts in7 hown hK.1 hP 52 nb_a52 rfl 19 (by decide) w_3 (fun _ h9 => h9) rfl dX7_count_89 ?_
                obtain ⟨rfl, rfl⟩ := nb_e2 h
                exact nb_iret hx hb hr hlk hP hS dX7_count_92
              · have h := nb_f c_8 h
                refine nb_split (fun c_9 => ?_) (fun c_9 => ?_)
                · have h := nb_t c_9 h
                  refine lv_aload_n hx hb dX7_count_93 rfl (lv_at hl 0 rfl) ?_
                  refine va_get (v := .ref (ad 53)) (C := RX7) (T := TX7) (N := 21) hx hb hts in7 hown hK.1 hP 52 nb_a52 rfl 0 (by decide) w_1 (fun _ h9 => h9) rfl dX7_count_94 ?_
                  refine lv_iconst (v := (1 : Int32)) hx hb dX7_count_97 (by decide) ?_
                  refine va_iald hx hb hK.1 hP 53 0 nb_a53 rfl (nb_lit rfl) dX7_count_98 ?_
                  obtain ⟨rfl, rfl⟩ := nb_e2 h
                  exact nb_iret hx hb hr hlk hP hS dX7_count_99
                · have h := nb_f c_9 h
                  refine W.eq (g2 := F0 m 100 ls []) rfl ?_
                  refine lv_aload_n hx hb dX7_count_100 rfl (lv_at hl 0 rfl) ?_
                  refine lv_ldc (v := (-1000000001 : Int32)) hx hb hown w_4 dX7_count_101 ?_
                  obtain ⟨r_10, M_10, e_10, h⟩ := nb_pE h
                  refine nb_callV (n := 1) (As := [.int (-1000000001 : Int32)]) (rest := []) hx hb hml hown hts hK hZ hP hS (k_X7_error had M N (-1000000001 : Int32) e_10) gX7_count_X7_error rfl (by decide +kernel) (nb_rm (Nat.le_of_ble_eq_true rfl) (Nat.le_of_ble_eq_true rfl)) nb_a52 rfl rfl rfl hl.1 rfl (Nat.le_of_ble_eq_true rfl) dX7_count_103 (fun H locs hP hS => ?_)
                  refine W.eq (g2 := F0 m 106 ls [.int r_10]) rfl ?_
                  obtain ⟨rfl, rfl⟩ := nb_e2 h
                  exact nb_iret hx hb hr hlk hP hS dX7_count_106
set_option maxHeartbeats 4000000 in
set_option maxRecDepth 100000 in
theorem k_X7_told {r : Int32} {M' : nb_M} (had : nb_AD ad b0) (M N : nb_M) (p0 : Int32) (h : f_X7_told M p0 = some (r, M')) : nb_C l D ad ca b0 yX7_told wsX7_told 1 [.ref (ad 52), .int p0] N M (some (.int r)) N M' := by
  refine nb_of (cc := cX7_told) (maxL := 2) (ret := (some .int)) (own := RX7) (by decide +kernel) rfl rfl (Nat.le_of_ble_eq_true rfl) ?_
  intro p e s m args below meth c ls X hP hS hl
  have hl : lv_has ls 2 [(0, .ref (ad 52)), (1, .int p0)] := hl
  obtain ⟨hx, hb, hml, hown, hts, hr, hlk, hK, hZ⟩ := id X
  have w_1 := hts (.constant RX7 77 (-1000000001)) (by decide +kernel)
  have w_2 := hts (.fieldLink RX7 16 "NineBreakagesModel" "errors" "[I") (by decide +kernel)
  have in7 : ∀ w ∈ u_ws RX7 TX7 21, w ∈ wsX7_told := fun w q => List.mem_cons_of_mem _ (List.mem_append_right _ q)
  unfold f_X7_told at h
  refine lv_iload_n hx hb dX7_told_0 rfl (lv_at hl 1 rfl) ?_
  refine lv_iconst (v := (1 : Int32)) hx hb dX7_told_1 (by decide) ?_
  refine lv_bipush (v := (6 : Int32)) hx hb dX7_told_2 (by decide) ?_
  refine nb_callS (n := 3) (As := [.int p0, .int (1 : Int32), .int (6 : Int32)]) (rest := []) hx hb hml hown hts hK hZ hP hS (k_X7_in had M N p0 (1 : Int32) (6 : Int32)) gX7_told_X7_in rfl (by decide +kernel) (nb_rm (Nat.le_of_ble_eq_true rfl) (Nat.le_of_ble_eq_true rfl)) rfl hl.1 rfl (Nat.le_of_ble_eq_true rfl) dX7_told_4 (fun H locs hP hS => ?_)
  refine W.eq (g2 := F0 m 7 ls [.int (f_X7_in p0 (1 : Int32) (6 : Int32))]) rfl ?_
  refine lv_if_eq (tgt := 19) hx hb dX7_told_7 (by decide) (fun c_2 => ?_) (fun c_2 => ?_)
  · have h := nb_t c_2 h
    refine lv_aload_n hx hb dX7_told_19 rfl (lv_at hl 0 rfl) ?_
    refine lv_ldc (v := (-1000000001 : Int32)) hx hb hown w_1 dX7_told_20 ?_
    obtain ⟨r_3, M_3, e_3, h⟩ := nb_pE h
    refine nb_callV (n := 1) (As := [.int (-1000000001 : Int32)]) (rest := []) hx hb hml hown hts hK hZ hP hS (k_X7_error had M N (-1000000001 : Int32) e_3) gX7_told_X7_error rfl (by decide +kernel) (nb_rm (Nat.le_of_ble_eq_true rfl) (Nat.le_of_ble_eq_true rfl)) nb_a52 rfl rfl rfl hl.1 rfl (Nat.le_of_ble_eq_true rfl) dX7_told_22 (fun H locs hP hS => ?_)
    refine W.eq (g2 := F0 m 25 ls [.int r_3]) rfl ?_
    obtain ⟨rfl, rfl⟩ := nb_e2 h
    exact nb_iret hx hb hr hlk hP hS dX7_told_25
  · have h := nb_f c_2 h
    refine lv_aload_n hx hb dX7_told_10 rfl (lv_at hl 0 rfl) ?_
    refine va_get (v := .ref (ad 55)) (C := RX7) (T := TX7) (N := 21) hx hb hts in7 hown hK.1 hP 52 nb_a52 rfl 3 (by decide) w_2 (fun _ h9 => h9) rfl dX7_told_11 ?_
    refine lv_iload_n hx hb dX7_told_14 rfl (lv_at hl 1 rfl) ?_
    obtain ⟨c_4, h⟩ := nb_c h
    refine va_iald hx hb hK.1 hP 55 0 nb_a55 rfl c_4 dX7_told_15 ?_
    refine lv_goto (tgt := 25) hx hb dX7_told_16 (by decide) ?_
    obtain ⟨rfl, rfl⟩ := nb_e2 h
    exact nb_iret hx hb hr hlk hP hS dX7_told_25
end GEN
