section GEN
variable {p : Program} {l : Launch} {e : Env} {s : State} {m : MethodId} {args : Array Value} {below : List Frame} {meth : Method} {c : Code} {D : va_G} {ad : Nat → Nat} {ca : Nat → ClassId} {b0 : Nat}
set_option maxHeartbeats 4000000 in
set_option maxRecDepth 100000 in
theorem k_X2_has_43 (had : nb_AD ad b0) (M N : nb_M) (p0 : Int32) (p1 : Int32) : nb_C l D ad ca b0 yX2_has wsX2_has 0 [.ref (ad 43), .int p0, .int p1] M N (some (.int (f_X2_has_43 M p0 p1))) M N := by
  obtain ⟨r, h⟩ : ∃ r, f_X2_has_43 M p0 p1 = r := ⟨_, rfl⟩
  rw [h]
  refine nb_of (cc := cX2_has) (maxL := 3) (ret := (some .boolean)) (own := RX2) (by decide +kernel) rfl rfl (Nat.le_of_ble_eq_true rfl) ?_
  intro p e s m args below meth c ls X hP hS hl
  have hl : lv_has ls 3 [(0, .ref (ad 43)), (1, .int p0), (2, .int p1)] := hl
  obtain ⟨hx, hb, hml, hown, hts, hr, hlk, hK, hZ⟩ := id X
  have w_1 := hts (.fieldLink RX2 19 "NineBreakages$Sheet" "size" "I") (by decide +kernel)
  have in2 : ∀ w ∈ u_ws RX2 TX2 3, w ∈ wsX2_has := fun w q => List.mem_cons_of_mem _ (List.mem_append_right _ q)
  unfold f_X2_has_43 at h
  refine lv_iload_n hx hb dX2_has_0 rfl (lv_at hl 1 rfl) ?_
  refine lv_if_lt (tgt := 30) hx hb dX2_has_1 (by decide) (fun c_1 => ?_) (fun c_1 => ?_)
  · have h := nb_t c_1 h
    refine lv_iconst (v := (0 : Int32)) hx hb dX2_has_30 (by decide) ?_
    obtain rfl := nb_e3 h
    exact nb_zret (by decide) hx hb hr hlk hP hS dX2_has_31
  · have h := nb_f c_1 h
    refine lv_iload_n hx hb dX2_has_4 rfl (lv_at hl 2 rfl) ?_
    refine lv_if_lt (tgt := 30) hx hb dX2_has_5 (by decide) (fun c_2 => ?_) (fun c_2 => ?_)
    · have h := nb_t c_2 h
      refine lv_iconst (v := (0 : Int32)) hx hb dX2_has_30 (by decide) ?_
      obtain rfl := nb_e3 h
      exact nb_zret (by decide) hx hb hr hlk hP hS dX2_has_31
    · have h := nb_f c_2 h
      refine lv_iload_n hx hb dX2_has_8 rfl (lv_at hl 1 rfl) ?_
      refine lv_aload_n hx hb dX2_has_9 rfl (lv_at hl 0 rfl) ?_
      refine va_get (v := .int (M.1 43 2)) (C := RX2) (T := TX2) (N := 3) hx hb hts in2 hown hK.1 hP 43 nb_a43 rfl 2 (by decide) w_1 (fun _ h9 => h9) rfl dX2_has_10 ?_
      refine lv_icmp_gt (tgt := 30) hx hb dX2_has_13 (by decide) (fun c_3 => ?_) (fun c_3 => ?_)
      · have h := nb_t c_3 h
        refine lv_iconst (v := (0 : Int32)) hx hb dX2_has_30 (by decide) ?_
        obtain rfl := nb_e3 h
        exact nb_zret (by decide) hx hb hr hlk hP hS dX2_has_31
      · have h := nb_f c_3 h
        refine lv_iload_n hx hb dX2_has_16 rfl (lv_at hl 2 rfl) ?_
        refine lv_aload_n hx hb dX2_has_17 rfl (lv_at hl 0 rfl) ?_
        refine va_get (v := .int (M.1 43 2)) (C := RX2) (T := TX2) (N := 3) hx hb hts in2 hown hK.1 hP 43 nb_a43 rfl 2 (by decide) w_1 (fun _ h9 => h9) rfl dX2_has_18 ?_
        refine lv_iload_n hx hb dX2_has_21 rfl (lv_at hl 1 rfl) ?_
        refine lv_isub hx hb dX2_has_22 ?_
        refine lv_icmp_gt (tgt := 30) hx hb dX2_has_23 (by decide) (fun c_4 => ?_) (fun c_4 => ?_)
        · have h := nb_t c_4 h
          refine lv_iconst (v := (0 : Int32)) hx hb dX2_has_30 (by decide) ?_
          obtain rfl := nb_e3 h
          exact nb_zret (by decide) hx hb hr hlk hP hS dX2_has_31
        · have h := nb_f c_4 h
          refine lv_iconst (v := (1 : Int32)) hx hb dX2_has_26 (by decide) ?_
          refine lv_goto (tgt := 31) hx hb dX2_has_27 (by decide) ?_
          obtain rfl := nb_e3 h
          exact nb_zret (by decide) hx hb hr hlk hP hS dX2_has_31
set_option maxHeartbeats 4000000 in
set_option maxRecDepth 100000 in
theorem k_X2_has_45 (had : nb_AD ad b0) (M N : nb_M) (p0 : Int32) (p1 : Int32) : nb_C l D ad ca b0 yX2_has wsX2_has 0 [.ref (ad 45), .int p0, .int p1] M N (some (.int (f_X2_has_45 M p0 p1))) M N := by
  obtain ⟨r, h⟩ : ∃ r, f_X2_has_45 M p0 p1 = r := ⟨_, rfl⟩
  rw [h]
  refine nb_of (cc := cX2_has) (maxL := 3) (ret := (some .boolean)) (own := RX2) (by decide +kernel) rfl rfl (Nat.le_of_ble_eq_true rfl) ?_
  intro p e s m args below meth c ls X hP hS hl
  have hl : lv_has ls 3 [(0, .ref (ad 45)), (1, .int p0), (2, .int p1)] := hl
  obtain ⟨hx, hb, hml, hown, hts, hr, hlk, hK, hZ⟩ := id X
  have w_1 := hts (.fieldLink RX2 19 "NineBreakages$Sheet" "size" "I") (by decide +kernel)
  have in2 : ∀ w ∈ u_ws RX2 TX2 3, w ∈ wsX2_has := fun w q => List.mem_cons_of_mem _ (List.mem_append_right _ q)
  unfold f_X2_has_45 at h
  refine lv_iload_n hx hb dX2_has_0 rfl (lv_at hl 1 rfl) ?_
  refine lv_if_lt (tgt := 30) hx hb dX2_has_1 (by decide) (fun c_1 => ?_) (fun c_1 => ?_)
  · have h := nb_t c_1 h
    refine lv_iconst (v := (0 : Int32)) hx hb dX2_has_30 (by decide) ?_
    obtain rfl := nb_e3 h
    exact nb_zret (by decide) hx hb hr hlk hP hS dX2_has_31
  · have h := nb_f c_1 h
    refine lv_iload_n hx hb dX2_has_4 rfl (lv_at hl 2 rfl) ?_
    refine lv_if_lt (tgt := 30) hx hb dX2_has_5 (by decide) (fun c_2 => ?_) (fun c_2 => ?_)
    · have h := nb_t c_2 h
      refine lv_iconst (v := (0 : Int32)) hx hb dX2_has_30 (by decide) ?_
      obtain rfl := nb_e3 h
      exact nb_zret (by decide) hx hb hr hlk hP hS dX2_has_31
    · have h := nb_f c_2 h
      refine lv_iload_n hx hb dX2_has_8 rfl (lv_at hl 1 rfl) ?_
      refine lv_aload_n hx hb dX2_has_9 rfl (lv_at hl 0 rfl) ?_
      refine va_get (v := .int (M.1 45 2)) (C := RX2) (T := TX2) (N := 3) hx hb hts in2 hown hK.1 hP 45 nb_a45 rfl 2 (by decide) w_1 (fun _ h9 => h9) rfl dX2_has_10 ?_
      refine lv_icmp_gt (tgt := 30) hx hb dX2_has_13 (by decide) (fun c_3 => ?_) (fun c_3 => ?_)
      · have h := nb_t c_3 h
        refine lv_iconst (v := (0 : Int32)) hx hb dX2_has_30 (by decide) ?_
        obtain rfl := nb_e3 h
        exact nb_zret (by decide) hx hb hr hlk hP hS dX2_has_31
      · have h := nb_f c_3 h
        refine lv_iload_n hx hb dX2_has_16 rfl (lv_at hl 2 rfl) ?_
        refine lv_aload_n hx hb dX2_has_17 rfl (lv_at hl 0 rfl) ?_
        refine va_get (v := .int (M.1 45 2)) (C := RX2) (T := TX2) (N := 3) hx hb hts in2 hown hK.1 hP 45 nb_a45 rfl 2 (by decide) w_1 (fun _ h9 => h9) rfl dX2_has_18 ?_
        refine lv_iload_n hx hb dX2_has_21 rfl (lv_at hl 1 rfl) ?_
        refine lv_isub hx hb dX2_has_22 ?_
        refine lv_icmp_gt (tgt := 30) hx hb dX2_has_23 (by decide) (fun c_4 => ?_) (fun c_4 => ?_)
        · have h := nb_t c_4 h
          refine lv_iconst (v := (0 : Int32)) hx hb dX2_has_30 (by decide) ?_
          obtain rfl := nb_e3 h
          exact nb_zret (by decide) hx hb hr hlk hP hS dX2_has_31
        · have h := nb_f c_4 h
          refine lv_iconst (v := (1 : Int32)) hx hb dX2_has_26 (by decide) ?_
          refine lv_goto (tgt := 31) hx hb dX2_has_27 (by decide) ?_
          obtain rfl := nb_e3 h
          exact nb_zret (by decide) hx hb hr hlk hP hS dX2_has_31
set_option maxHeartbeats 4000000 in
set_option maxRecDepth 100000 in
theorem k_X2_has_47 (had : nb_AD ad b0) (M N : nb_M) (p0 : Int32) (p1 : Int32) : nb_C l D ad ca b0 yX2_has wsX2_has 0 [.ref (ad 47), .int p0, .int p1] M N (some (.int (f_X2_has_47 M p0 p1))) M N := by
  obtain ⟨r, h⟩ : ∃ r, f_X2_has_47 M p0 p1 = r := ⟨_, rfl⟩
  rw [h]
  refine nb_of (cc := cX2_has) (maxL := 3) (ret := (some .boolean)) (own := RX2) (by decide +kernel) rfl rfl (Nat.le_of_ble_eq_true rfl) ?_
  intro p e s m args below meth c ls X hP hS hl
  have hl : lv_has ls 3 [(0, .ref (ad 47)), (1, .int p0), (2, .int p1)] := hl
  obtain ⟨hx, hb, hml, hown, hts, hr, hlk, hK, hZ⟩ := id X
  have w_1 := hts (.fieldLink RX2 19 "NineBreakages$Sheet" "size" "I") (by decide +kernel)
  have in2 : ∀ w ∈ u_ws RX2 TX2 3, w ∈ wsX2_has := fun w q => List.mem_cons_of_mem _ (List.mem_append_right _ q)
  unfold f_X2_has_47 at h
  refine lv_iload_n hx hb dX2_has_0 rfl (lv_at hl 1 rfl) ?_
  refine lv_if_lt (tgt := 30) hx hb dX2_has_1 (by decide) (fun c_1 => ?_) (fun c_1 => ?_)
  · have h := nb_t c_1 h
    refine lv_iconst (v := (0 : Int32)) hx hb dX2_has_30 (by decide) ?_
    obtain rfl := nb_e3 h
    exact nb_zret (by decide) hx hb hr hlk hP hS dX2_has_31
  · have h := nb_f c_1 h
    refine lv_iload_n hx hb dX2_has_4 rfl (lv_at hl 2 rfl) ?_
    refine lv_if_lt (tgt := 30) hx hb dX2_has_5 (by decide) (fun c_2 => ?_) (fun c_2 => ?_)
    · have h := nb_t c_2 h
      refine lv_iconst (v := (0 : Int32)) hx hb dX2_has_30 (by decide) ?_
      obtain rfl := nb_e3 h
      exact nb_zret (by decide) hx hb hr hlk hP hS dX2_has_31
    · have h := nb_f c_2 h
      refine lv_iload_n hx hb dX2_has_8 rfl (lv_at hl 1 rfl) ?_
      refine lv_aload_n hx hb dX2_has_9 rfl (lv_at hl 0 rfl) ?_
      refine va_get (v := .int (M.1 47 2)) (C := RX2) (T := TX2) (N := 3) hx hb hts in2 hown hK.1 hP 47 nb_a47 rfl 2 (by decide) w_1 (fun _ h9 => h9) rfl dX2_has_10 ?_
      refine lv_icmp_gt (tgt := 30) hx hb dX2_has_13 (by decide) (fun c_3 => ?_) (fun c_3 => ?_)
      · have h := nb_t c_3 h
        refine lv_iconst (v := (0 : Int32)) hx hb dX2_has_30 (by decide) ?_
        obtain rfl := nb_e3 h
        exact nb_zret (by decide) hx hb hr hlk hP hS dX2_has_31
      · have h := nb_f c_3 h
        refine lv_iload_n hx hb dX2_has_16 rfl (lv_at hl 2 rfl) ?_
        refine lv_aload_n hx hb dX2_has_17 rfl (lv_at hl 0 rfl) ?_
        refine va_get (v := .int (M.1 47 2)) (C := RX2) (T := TX2) (N := 3) hx hb hts in2 hown hK.1 hP 47 nb_a47 rfl 2 (by decide) w_1 (fun _ h9 => h9) rfl dX2_has_18 ?_
        refine lv_iload_n hx hb dX2_has_21 rfl (lv_at hl 1 rfl) ?_
        refine lv_isub hx hb dX2_has_22 ?_
        refine lv_icmp_gt (tgt := 30) hx hb dX2_has_23 (by decide) (fun c_4 => ?_) (fun c_4 => ?_)
        · have h := nb_t c_4 h
          refine lv_iconst (v := (0 : Int32)) hx hb dX2_has_30 (by decide) ?_
          obtain rfl := nb_e3 h
          exact nb_zret (by decide) hx hb hr hlk hP hS dX2_has_31
        · have h := nb_f c_4 h
          refine lv_iconst (v := (1 : Int32)) hx hb dX2_has_26 (by decide) ?_
          refine lv_goto (tgt := 31) hx hb dX2_has_27 (by decide) ?_
          obtain rfl := nb_e3 h
          exact nb_zret (by decide) hx hb hr hlk hP hS dX2_has_31
set_option maxHeartbeats 4000000 in
set_option maxRecDepth 100000 in
theorem k_X2_has_49 (had : nb_AD ad b0) (M N : nb_M) (p0 : Int32) (p1 : Int32) : nb_C l D ad ca b0 yX2_has wsX2_has 0 [.ref (ad 49), .int p0, .int p1] M N (some (.int (f_X2_has_49 M p0 p1))) M N := by
  obtain ⟨r, h⟩ : ∃ r, f_X2_has_49 M p0 p1 = r := ⟨_, rfl⟩
  rw [h]
  refine nb_of (cc := cX2_has) (maxL := 3) (ret := (some .boolean)) (own := RX2) (by decide +kernel) rfl rfl (Nat.le_of_ble_eq_true rfl) ?_
  intro p e s m args below meth c ls X hP hS hl
  have hl : lv_has ls 3 [(0, .ref (ad 49)), (1, .int p0), (2, .int p1)] := hl
  obtain ⟨hx, hb, hml, hown, hts, hr, hlk, hK, hZ⟩ := id X
  have w_1 := hts (.fieldLink RX2 19 "NineBreakages$Sheet" "size" "I") (by decide +kernel)
  have in2 : ∀ w ∈ u_ws RX2 TX2 3, w ∈ wsX2_has := fun w q => List.mem_cons_of_mem _ (List.mem_append_right _ q)
  unfold f_X2_has_49 at h
  refine lv_iload_n hx hb dX2_has_0 rfl (lv_at hl 1 rfl) ?_
  refine lv_if_lt (tgt := 30) hx hb dX2_has_1 (by decide) (fun c_1 => ?_) (fun c_1 => ?_)
  · have h := nb_t c_1 h
    refine lv_iconst (v := (0 : Int32)) hx hb dX2_has_30 (by decide) ?_
    obtain rfl := nb_e3 h
    exact nb_zret (by decide) hx hb hr hlk hP hS dX2_has_31
  · have h := nb_f c_1 h
    refine lv_iload_n hx hb dX2_has_4 rfl (lv_at hl 2 rfl) ?_
    refine lv_if_lt (tgt := 30) hx hb dX2_has_5 (by decide) (fun c_2 => ?_) (fun c_2 => ?_)
    · have h := nb_t c_2 h
      refine lv_iconst (v := (0 : Int32)) hx hb dX2_has_30 (by decide) ?_
      obtain rfl := nb_e3 h
      exact nb_zret (by decide) hx hb hr hlk hP hS dX2_has_31
    · have h := nb_f c_2 h
      refine lv_iload_n hx hb dX2_has_8 rfl (lv_at hl 1 rfl) ?_
      refine lv_aload_n hx hb dX2_has_9 rfl (lv_at hl 0 rfl) ?_
      refine va_get (v := .int (M.1 49 2)) (C := RX2) (T := TX2) (N := 3) hx hb hts in2 hown hK.1 hP 49 nb_a49 rfl 2 (by decide) w_1 (fun _ h9 => h9) rfl dX2_has_10 ?_
      refine lv_icmp_gt (tgt := 30) hx hb dX2_has_13 (by decide) (fun c_3 => ?_) (fun c_3 => ?_)
      · have h := nb_t c_3 h
        refine lv_iconst (v := (0 : Int32)) hx hb dX2_has_30 (by decide) ?_
        obtain rfl := nb_e3 h
        exact nb_zret (by decide) hx hb hr hlk hP hS dX2_has_31
      · have h := nb_f c_3 h
        refine lv_iload_n hx hb dX2_has_16 rfl (lv_at hl 2 rfl) ?_
        refine lv_aload_n hx hb dX2_has_17 rfl (lv_at hl 0 rfl) ?_
        refine va_get (v := .int (M.1 49 2)) (C := RX2) (T := TX2) (N := 3) hx hb hts in2 hown hK.1 hP 49 nb_a49 rfl 2 (by decide) w_1 (fun _ h9 => h9) rfl dX2_has_18 ?_
        refine lv_iload_n hx hb dX2_has_21 rfl (lv_at hl 1 rfl) ?_
        refine lv_isub hx hb dX2_has_22 ?_
        refine lv_icmp_gt (tgt := 30) hx hb dX2_has_23 (by decide) (fun c_4 => ?_) (fun c_4 => ?_)
        · have h := nb_t c_4 h
          refine lv_iconst (v := (0 : Int32)) hx hb dX2_has_30 (by decide) ?_
          obtain rfl := nb_e3 h
          exact nb_zret (by decide) hx hb hr hlk hP hS dX2_has_31
        · have h := nb_f c_4 h
          refine lv_iconst (v := (1 : Int32)) hx hb dX2_has_26 (by decide) ?_
          refine lv_goto (tgt := 31) hx hb dX2_has_27 (by decide) ?_
          obtain rfl := nb_e3 h
          exact nb_zret (by decide) hx hb hr hlk hP hS dX2_has_31
set_option maxHeartbeats 4000000 in
set_option maxRecDepth 100000 in
theorem k_X6_move {r : Int32} {M' : nb_M} (had : nb_AD ad b0) (M N : nb_M) (p0 : Int32) (p1 : Int32) (p2 : Int32) (p3 : Int32) (p4 : Int32) (h : f_X6_move M p0 p1 p2 p3 p4 = some (r, M')) : nb_C l D ad ca b0 yX6_move wsX6_move 2 [.ref (ad 0), .int p0, .int p1, .int p2, .int p3, .int p4] M N (some (.int r)) M' N := by
  refine nb_of (cc := cX6_move) (maxL := 8) (ret := (some .int)) (own := RX6) (by decide +kernel) rfl rfl (Nat.le_of_ble_eq_true rfl) ?_
  intro p e s m args below meth c ls X hP hS hl
  have hl : lv_has ls 8 [(0, .ref (ad 0)), (1, .int p0), (2, .int p1), (3, .int p2), (4, .int p3), (5, .int p4)] := hl
  obtain ⟨hx, hb, hml, hown, hts, hr, hlk, hK, hZ⟩ := id X
  have w_1 := hts (.fieldLink RX6 46 "NineBreakages" "sheets" "[LNineBreakages$Sheet;") (by decide +kernel)
  have in6 : ∀ w ∈ u_ws RX6 TX6 8, w ∈ wsX6_move := fun w q => List.mem_cons_of_mem _ (List.mem_append_left _ (List.mem_append_right _ q))
  have w_3 := hts (.fieldLink RX6 260 "NineBreakages$Sheet" "bits" "I") (by decide +kernel)
  have in2 : ∀ w ∈ u_ws RX2 TX2 3, w ∈ wsX6_move := fun w q => List.mem_cons_of_mem _ (List.mem_append_right _ q)
  have w_5 := hts (.fieldLink RX6 254 "NineBreakages$Sheet" "numbers" "[I") (by decide +kernel)
  have w_6 := hts (.methodLink RX6 266 arraycopyName) (by decide +kernel)
  have w_7 := hts (.native arraycopyName) (by decide +kernel)
  have w_8 := hts (.static arraycopyName) (by decide +kernel)
  have w_9 := hts (.initialized "java/lang/System") (by decide +kernel)
  unfold f_X6_move at h
  refine lv_iload_n hx hb dX6_move_0 rfl (lv_at hl 1 rfl) ?_
  refine nb_callS (n := 1) (As := [.int p0]) (rest := []) hx hb hml hown hts hK hZ hP hS (k_X6_isSheet had M N p0) gX6_move_X6_isSheet rfl (by decide +kernel) (nb_rm (Nat.le_of_ble_eq_true rfl) (Nat.le_of_ble_eq_true rfl)) rfl hl.1 rfl (Nat.le_of_ble_eq_true rfl) dX6_move_1 (fun H locs hP hS => ?_)
  refine W.eq (g2 := F0 m 4 ls [.int (f_X6_isSheet p0)]) rfl ?_
  refine lv_if_eq (tgt := 14) hx hb dX6_move_4 (by decide) (fun c_2 => ?_) (fun c_2 => ?_)
  · have h := nb_t c_2 h
    refine lv_aload_n hx hb dX6_move_14 rfl (lv_at hl 0 rfl) ?_
    refine lv_iconst (v := (1 : Int32)) hx hb dX6_move_15 (by decide) ?_
    obtain ⟨r_3, M_3, e_3, h⟩ := nb_pE h
    refine nb_callV (n := 1) (As := [.int (1 : Int32)]) (rest := []) hx hb hml hown hts hK hZ hP hS (k_X6_fail had M N (1 : Int32) e_3) gX6_move_X6_fail rfl (by decide +kernel) (nb_rm (Nat.le_of_ble_eq_true rfl) (Nat.le_of_ble_eq_true rfl)) nb_a0 rfl rfl rfl hl.1 rfl (Nat.le_of_ble_eq_true rfl) dX6_move_16 (fun H locs hP hS => ?_)
    refine W.eq (g2 := F0 m 19 ls [.int r_3]) rfl ?_
    obtain ⟨rfl, rfl⟩ := nb_e2 h
    exact nb_iret hx hb hr hlk hP hS dX6_move_19
  · have h := nb_f c_2 h
    refine lv_iload_n hx hb dX6_move_7 rfl (lv_at hl 3 rfl) ?_
    refine nb_callS (n := 1) (As := [.int p2]) (rest := []) hx hb hml hown hts hK hZ hP hS (k_X6_isSheet had M N p2) gX6_move_X6_isSheet rfl (by decide +kernel) (nb_rm (Nat.le_of_ble_eq_true rfl) (Nat.le_of_ble_eq_true rfl)) rfl hl.1 rfl (Nat.le_of_ble_eq_true rfl) dX6_move_8 (fun H locs hP hS => ?_)
    refine W.eq (g2 := F0 m 11 ls [.int (f_X6_isSheet p2)]) rfl ?_
    refine lv_if_ne (tgt := 20) hx hb dX6_move_11 (by decide) (fun c_5 => ?_) (fun c_5 => ?_)
    · have h := nb_f c_5 h
      refine lv_aload_n hx hb dX6_move_20 rfl (lv_at hl 0 rfl) ?_
      refine va_get (v := .ref (ad 42)) (C := RX6) (T := TX6) (N := 8) hx hb hts in6 hown hK.1 hP 0 nb_a0 rfl 5 (by decide) w_1 (fun _ h9 => h9) rfl dX6_move_21 ?_
      refine lv_iload_n hx hb dX6_move_24 rfl (lv_at hl 1 rfl) ?_
      by_cases c_6 : p0 = 0
      · have h := nb_t c_6 h
        refine nb_ald (t0 := 3) (E := RX2) (v := (0 : Int32)) hx hb hK hP nb_a42 rfl c_6 (nb_lit rfl) rfl dX6_move_25 ?_
        refine lv_astore (lv' := [(6, .ref (ad 43)), (0, .ref (ad 0)), (1, .int p0), (2, .int p1), (3, .int p2), (4, .int p3), (5, .int p4)]) hx hb dX6_move_26 hl (by decide) rfl (fun ls hl => ?_)
        refine lv_aload_n hx hb dX6_move_28 rfl (lv_at hl 1 rfl) ?_
        refine va_get (v := .ref (ad 42)) (C := RX6) (T := TX6) (N := 8) hx hb hts in6 hown hK.1 hP 0 nb_a0 rfl 5 (by decide) w_1 (fun _ h9 => h9) rfl dX6_move_29 ?_
        refine lv_iload_n hx hb dX6_move_32 rfl (lv_at hl 4 rfl) ?_
        by_cases c_7 : p2 = 0
        · have h := nb_t c_7 h
          refine nb_ald (t0 := 3) (E := RX2) (v := (0 : Int32)) hx hb hK hP nb_a42 rfl c_7 (nb_lit rfl) rfl dX6_move_33 ?_
          refine lv_astore (lv' := [(7, .ref (ad 43)), (6, .ref (ad 43)), (0, .ref (ad 0)), (1, .int p0), (2, .int p1), (3, .int p2), (4, .int p3), (5, .int p4)]) hx hb dX6_move_34 hl (by decide) rfl (fun ls hl => ?_)
          refine lv_aload hx hb dX6_move_36 (lv_at hl 1 rfl) ?_
          refine nb_callV (n := 0) (As := []) (rest := []) hx hb hml hown hts hK hZ hP hS (k_X2_isMissing_43 had M N) gX6_move_X2_isMissing rfl (by decide +kernel) (nb_rm (Nat.le_of_ble_eq_true rfl) (Nat.le_of_ble_eq_true rfl)) nb_a43 rfl rfl rfl hl.1 rfl (Nat.le_of_ble_eq_true rfl) dX6_move_38 (fun H locs hP hS => ?_)
          refine W.eq (g2 := F0 m 41 ls [.int (f_X2_isMissing_43 M)]) rfl ?_
          refine lv_if_ne (tgt := 52) hx hb dX6_move_41 (by decide) (fun c_9 => ?_) (fun c_9 => ?_)
          · have h := nb_f c_9 h
            refine lv_aload_n hx hb dX6_move_52 rfl (lv_at hl 2 rfl) ?_
            refine lv_iconst (v := (2 : Int32)) hx hb dX6_move_53 (by decide) ?_
            obtain ⟨r_10, M_10, e_10, h⟩ := nb_pE h
            refine nb_callV (n := 1) (As := [.int (2 : Int32)]) (rest := []) hx hb hml hown hts hK hZ hP hS (k_X6_fail had M N (2 : Int32) e_10) gX6_move_X6_fail rfl (by decide +kernel) (nb_rm (Nat.le_of_ble_eq_true rfl) (Nat.le_of_ble_eq_true rfl)) nb_a0 rfl rfl rfl hl.1 rfl (Nat.le_of_ble_eq_true rfl) dX6_move_54 (fun H locs hP hS => ?_)
            refine W.eq (g2 := F0 m 57 ls [.int r_10]) rfl ?_
            obtain ⟨rfl, rfl⟩ := nb_e2 h
            exact nb_iret hx hb hr hlk hP hS dX6_move_57
          · have h := nb_t c_9 h
            refine lv_aload hx hb dX6_move_44 (lv_at hl 0 rfl) ?_
            refine nb_callV (n := 0) (As := []) (rest := []) hx hb hml hown hts hK hZ hP hS (k_X2_isMissing_43 had M N) gX6_move_X2_isMissing rfl (by decide +kernel) (nb_rm (Nat.le_of_ble_eq_true rfl) (Nat.le_of_ble_eq_true rfl)) nb_a43 rfl rfl rfl hl.1 rfl (Nat.le_of_ble_eq_true rfl) dX6_move_46 (fun H locs hP hS => ?_)
            refine W.eq (g2 := F0 m 49 ls [.int (f_X2_isMissing_43 M)]) rfl ?_
            refine lv_if_eq (tgt := 58) hx hb dX6_move_49 (by decide) (fun _ => ?_) (fun c_12 => absurd c_9 c_12)
            refine lv_aload hx hb dX6_move_58 (lv_at hl 1 rfl) ?_
            refine va_get (v := .int (M.1 43 1)) (C := RX2) (T := TX2) (N := 3) hx hb hts in2 hown hK.1 hP 43 nb_a43 rfl 1 (by decide) w_3 (fun _ h9 => h9) rfl dX6_move_60 ?_
            refine lv_aload hx hb dX6_move_63 (lv_at hl 0 rfl) ?_
            refine va_get (v := .int (M.1 43 1)) (C := RX2) (T := TX2) (N := 3) hx hb hts in2 hown hK.1 hP 43 nb_a43 rfl 1 (by decide) w_3 (fun _ h9 => h9) rfl dX6_move_65 ?_
            refine lv_icmp_eq (tgt := 77) hx hb dX6_move_68 (by decide) (fun c_13 => ?_) (fun c_13 => ?_)
            · have h := nb_t c_13 h
              refine lv_aload hx hb dX6_move_77 (lv_at hl 1 rfl) ?_
              refine lv_iload_n hx hb dX6_move_79 rfl (lv_at hl 4 rfl) ?_
              refine lv_iload hx hb dX6_move_80 (lv_at hl 7 rfl) ?_
              refine nb_callV (n := 2) (As := [.int p1, .int p4]) (rest := []) hx hb hml hown hts hK hZ hP hS (k_X2_has_43 had M N p1 p4) gX6_move_X2_has rfl (by decide +kernel) (nb_rm (Nat.le_of_ble_eq_true rfl) (Nat.le_of_ble_eq_true rfl)) nb_a43 rfl rfl rfl hl.1 rfl (Nat.le_of_ble_eq_true rfl) dX6_move_82 (fun H locs hP hS => ?_)
              refine W.eq (g2 := F0 m 85 ls [.int (f_X2_has_43 M p1 p4)]) rfl ?_
              refine lv_if_eq (tgt := 100) hx hb dX6_move_85 (by decide) (fun c_15 => ?_) (fun c_15 => ?_)
              · have h := nb_t c_15 h
                refine lv_aload_n hx hb dX6_move_100 rfl (lv_at hl 2 rfl) ?_
                refine lv_iconst (v := (1 : Int32)) hx hb dX6_move_101 (by decide) ?_
                obtain ⟨r_16, M_16, e_16, h⟩ := nb_pE h
                refine nb_callV (n := 1) (As := [.int (1 : Int32)]) (rest := []) hx hb hml hown hts hK hZ hP hS (k_X6_fail had M N (1 : Int32) e_16) gX6_move_X6_fail rfl (by decide +kernel) (nb_rm (Nat.le_of_ble_eq_true rfl) (Nat.le_of_ble_eq_true rfl)) nb_a0 rfl rfl rfl hl.1 rfl (Nat.le_of_ble_eq_true rfl) dX6_move_102 (fun H locs hP hS => ?_)
                refine W.eq (g2 := F0 m 105 ls [.int r_16]) rfl ?_
                obtain ⟨rfl, rfl⟩ := nb_e2 h
                exact nb_iret hx hb hr hlk hP hS dX6_move_105
              · have h := nb_f c_15 h
                refine lv_aload hx hb dX6_move_88 (lv_at hl 0 rfl) ?_
                refine lv_iload hx hb dX6_move_90 (lv_at hl 6 rfl) ?_
                refine lv_iload hx hb dX6_move_92 (lv_at hl 7 rfl) ?_
                refine nb_callV (n := 2) (As := [.int p3, .int p4]) (rest := []) hx hb hml hown hts hK hZ hP hS (k_X2_has_43 had M N p3 p4) gX6_move_X2_has rfl (by decide +kernel) (nb_rm (Nat.le_of_ble_eq_true rfl) (Nat.le_of_ble_eq_true rfl)) nb_a43 rfl rfl rfl hl.1 rfl (Nat.le_of_ble_eq_true rfl) dX6_move_94 (fun H locs hP hS => ?_)
                refine W.eq (g2 := F0 m 97 ls [.int (f_X2_has_43 M p3 p4)]) rfl ?_
                refine lv_if_ne (tgt := 106) hx hb dX6_move_97 (by decide) (fun c_18 => ?_) (fun c_18 => ?_)
                · have h := nb_f c_18 h
                  refine lv_aload hx hb dX6_move_106 (lv_at hl 1 rfl) ?_
                  refine va_get (v := .ref (ad 44)) (C := RX2) (T := TX2) (N := 3) hx hb hts in2 hown hK.1 hP 43 nb_a43 rfl 0 (by decide) w_5 (fun _ h9 => h9) rfl dX6_move_108 ?_
                  refine lv_iload_n hx hb dX6_move_111 rfl (lv_at hl 4 rfl) ?_
                  refine lv_aload hx hb dX6_move_112 (lv_at hl 0 rfl) ?_
                  refine va_get (v := .ref (ad 44)) (C := RX2) (T := TX2) (N := 3) hx hb hts in2 hown hK.1 hP 43 nb_a43 rfl 0 (by decide) w_5 (fun _ h9 => h9) rfl dX6_move_114 ?_
                  refine lv_iload hx hb dX6_move_117 (lv_at hl 6 rfl) ?_
                  refine lv_iload hx hb dX6_move_119 (lv_at hl 7 rfl) ?_
                  obtain ⟨c_19, h⟩ := nb_c h
                  refine nb_copy hx hb hml hl.1 had hown w_6 w_7 w_8 w_9 hK hP hS nb_a44 nb_a44 (Nat.le_of_ble_eq_true rfl) (Nat.le_of_ble_eq_true rfl) c_19 (nb_s44 _) dX6_move_121 (fun H locs hP hS => ?_)
                  obtain ⟨M_19, e_19, h⟩ := nb_nE h
                  rw [e_19] at hP
                  refine lv_iload hx hb dX6_move_124 (lv_at hl 7 rfl) ?_
                  obtain ⟨rfl, rfl⟩ := nb_e2 h
                  exact nb_iret hx hb hr hlk hP hS dX6_move_126
                · have h := nb_t c_18 h
                  refine lv_aload_n hx hb dX6_move_100 rfl (lv_at hl 2 rfl) ?_
                  refine lv_iconst (v := (1 : Int32)) hx hb dX6_move_101 (by decide) ?_
                  obtain ⟨r_20, M_20, e_20, h⟩ := nb_pE h
                  refine nb_callV (n := 1) (As := [.int (1 : Int32)]) (rest := []) hx hb hml hown hts hK hZ hP hS (k_X6_fail had M N (1 : Int32) e_20) gX6_move_X6_fail rfl (by decide +kernel) (nb_rm (Nat.le_of_ble_eq_true rfl) (Nat.le_of_ble_eq_true rfl)) nb_a0 rfl rfl rfl hl.1 rfl (Nat.le_of_ble_eq_true rfl) dX6_move_102 (fun H locs hP hS => ?_)
                  refine W.eq (g2 := F0 m 105 ls [.int r_20]) rfl ?_
                  obtain ⟨rfl, rfl⟩ := nb_e2 h
                  exact nb_iret hx hb hr hlk hP hS dX6_move_105
            · have h := nb_f c_13 h
              refine lv_aload_n hx hb dX6_move_71 rfl (lv_at hl 2 rfl) ?_
              refine lv_iconst (v := (5 : Int32)) hx hb dX6_move_72 (by decide) ?_
              obtain ⟨r_21, M_21, e_21, h⟩ := nb_pE h
              refine nb_callV (n := 1) (As := [.int (5 : Int32)]) (rest := []) hx hb hml hown hts hK hZ hP hS (k_X6_fail had M N (5 : Int32) e_21) gX6_move_X6_fail rfl (by decide +kernel) (nb_rm (Nat.le_of_ble_eq_true rfl) (Nat.le_of_ble_eq_true rfl)) nb_a0 rfl rfl rfl hl.1 rfl (Nat.le_of_ble_eq_true rfl) dX6_move_73 (fun H locs hP hS => ?_)
              refine W.eq (g2 := F0 m 76 ls [.int r_21]) rfl ?_
              obtain ⟨rfl, rfl⟩ := nb_e2 h
              exact nb_iret hx hb hr hlk hP hS dX6_move_76
        · have h := nb_f c_7 h
          by_cases c_22 : p2 = 1
          · have h := nb_t c_22 h
            refine nb_ald (t0 := 3) (E := RX2) (v := (1 : Int32)) hx hb hK hP nb_a42 rfl c_22 (nb_lit rfl) rfl dX6_move_33 ?_
            refine lv_astore (lv' := [(7, .ref (ad 45)), (6, .ref (ad 43)), (0, .ref (ad 0)), (1, .int p0), (2, .int p1), (3, .int p2), (4, .int p3), (5, .int p4)]) hx hb dX6_move_34 hl (by decide) rfl (fun ls hl => ?_)
            refine lv_aload hx hb dX6_move_36 (lv_at hl 1 rfl) ?_
            refine nb_callV (n := 0) (As := []) (rest := []) hx hb hml hown hts hK hZ hP hS (k_X2_isMissing_43 had M N) gX6_move_X2_isMissing rfl (by decide +kernel) (nb_rm (Nat.le_of_ble_eq_true rfl) (Nat.le_of_ble_eq_true rfl)) nb_a43 rfl rfl rfl hl.1 rfl (Nat.le_of_ble_eq_true rfl) dX6_move_38 (fun H locs hP hS => ?_)
            refine W.eq (g2 := F0 m 41 ls [.int (f_X2_isMissing_43 M)]) rfl ?_
            refine lv_if_ne (tgt := 52) hx hb dX6_move_41 (by decide) (fun c_24 => ?_) (fun c_24 => ?_)
            · have h := nb_f c_24 h
              refine lv_aload_n hx hb dX6_move_52 rfl (lv_at hl 2 rfl) ?_
              refine lv_iconst (v := (2 : Int32)) hx hb dX6_move_53 (by decide) ?_
              obtain ⟨r_25, M_25, e_25, h⟩ := nb_pE h
              refine nb_callV (n := 1) (As := [.int (2 : Int32)]) (rest := []) hx hb hml hown hts hK hZ hP hS (k_X6_fail had M N (2 : Int32) e_25) gX6_move_X6_fail rfl (by decide +kernel) (nb_rm (Nat.le_of_ble_eq_true rfl) (Nat.le_of_ble_eq_true rfl)) nb_a0 rfl rfl rfl hl.1 rfl (Nat.le_of_ble_eq_true rfl) dX6_move_54 (fun H locs hP hS => ?_)
              refine W.eq (g2 := F0 m 57 ls [.int r_25]) rfl ?_
              obtain ⟨rfl, rfl⟩ := nb_e2 h
              exact nb_iret hx hb hr hlk hP hS dX6_move_57
            · have h := nb_t c_24 h
              refine lv_aload hx hb dX6_move_44 (lv_at hl 0 rfl) ?_
              refine nb_callV (n := 0) (As := []) (rest := []) hx hb hml hown hts hK hZ hP hS (k_X2_isMissing_45 had M N) gX6_move_X2_isMissing rfl (by decide +kernel) (nb_rm (Nat.le_of_ble_eq_true rfl) (Nat.le_of_ble_eq_true rfl)) nb_a45 rfl rfl rfl hl.1 rfl (Nat.le_of_ble_eq_true rfl) dX6_move_46 (fun H locs hP hS => ?_)
              refine W.eq (g2 := F0 m 49 ls [.int (f_X2_isMissing_45 M)]) rfl ?_
              refine lv_if_eq (tgt := 58) hx hb dX6_move_49 (by decide) (fun c_27 => ?_) (fun c_27 => ?_)
              · have h := nb_t c_27 h
                refine lv_aload hx hb dX6_move_58 (lv_at hl 1 rfl) ?_
                refine va_get (v := .int (M.1 43 1)) (C := RX2) (T := TX2) (N := 3) hx hb hts in2 hown hK.1 hP 43 nb_a43 rfl 1 (by decide) w_3 (fun _ h9 => h9) rfl dX6_move_60 ?_
                refine lv_aload hx hb dX6_move_63 (lv_at hl 0 rfl) ?_
                refine va_get (v := .int (M.1 45 1)) (C := RX2) (T := TX2) (N := 3) hx hb hts in2 hown hK.1 hP 45 nb_a45 rfl 1 (by decide) w_3 (fun _ h9 => h9) rfl dX6_move_65 ?_
                refine lv_icmp_eq (tgt := 77) hx hb dX6_move_68 (by decide) (fun c_28 => ?_) (fun c_28 => ?_)
                · have h := nb_t c_28 h
                  refine lv_aload hx hb dX6_move_77 (lv_at hl 1 rfl) ?_
                  refine lv_iload_n hx hb dX6_move_79 rfl (lv_at hl 4 rfl) ?_
                  refine lv_iload hx hb dX6_move_80 (lv_at hl 7 rfl) ?_
                  refine nb_callV (n := 2) (As := [.int p1, .int p4]) (rest := []) hx hb hml hown hts hK hZ hP hS (k_X2_has_43 had M N p1 p4) gX6_move_X2_has rfl (by decide +kernel) (nb_rm (Nat.le_of_ble_eq_true rfl) (Nat.le_of_ble_eq_true rfl)) nb_a43 rfl rfl rfl hl.1 rfl (Nat.le_of_ble_eq_true rfl) dX6_move_82 (fun H locs hP hS => ?_)
                  refine W.eq (g2 := F0 m 85 ls [.int (f_X2_has_43 M p1 p4)]) rfl ?_
                  refine lv_if_eq (tgt := 100) hx hb dX6_move_85 (by decide) (fun c_30 => ?_) (fun c_30 => ?_)
                  · have h := nb_t c_30 h
                    refine lv_aload_n hx hb dX6_move_100 rfl (lv_at hl 2 rfl) ?_
                    refine lv_iconst (v := (1 : Int32)) hx hb dX6_move_101 (by decide) ?_
                    obtain ⟨r_31, M_31, e_31, h⟩ := nb_pE h
                    refine nb_callV (n := 1) (As := [.int (1 : Int32)]) (rest := []) hx hb hml hown hts hK hZ hP hS (k_X6_fail had M N (1 : Int32) e_31) gX6_move_X6_fail rfl (by decide +kernel) (nb_rm (Nat.le_of_ble_eq_true rfl) (Nat.le_of_ble_eq_true rfl)) nb_a0 rfl rfl rfl hl.1 rfl (Nat.le_of_ble_eq_true rfl) dX6_move_102 (fun H locs hP hS => ?_)
                    refine W.eq (g2 := F0 m 105 ls [.int r_31]) rfl ?_
                    obtain ⟨rfl, rfl⟩ := nb_e2 h
                    exact nb_iret hx hb hr hlk hP hS dX6_move_105
                  · have h := nb_f c_30 h
                    refine lv_aload hx hb dX6_move_88 (lv_at hl 0 rfl) ?_
                    refine lv_iload hx hb dX6_move_90 (lv_at hl 6 rfl) ?_
                    refine lv_iload hx hb dX6_move_92 (lv_at hl 7 rfl) ?_
                    refine nb_callV (n := 2) (As := [.int p3, .int p4]) (rest := []) hx hb hml hown hts hK hZ hP hS (k_X2_has_45 had M N p3 p4) gX6_move_X2_has rfl (by decide +kernel) (nb_rm (Nat.le_of_ble_eq_true rfl) (Nat.le_of_ble_eq_true rfl)) nb_a45 rfl rfl rfl hl.1 rfl (Nat.le_of_ble_eq_true rfl) dX6_move_94 (fun H locs hP hS => ?_)
                    refine W.eq (g2 := F0 m 97 ls [.int (f_X2_has_45 M p3 p4)]) rfl ?_
                    refine lv_if_ne (tgt := 106) hx hb dX6_move_97 (by decide) (fun c_33 => ?_) (fun c_33 => ?_)
                    · have h := nb_f c_33 h
                      refine lv_aload hx hb dX6_move_106 (lv_at hl 1 rfl) ?_
                      refine va_get (v := .ref (ad 44)) (C := RX2) (T := TX2) (N := 3) hx hb hts in2 hown hK.1 hP 43 nb_a43 rfl 0 (by decide) w_5 (fun _ h9 => h9) rfl dX6_move_108 ?_
                      refine lv_iload_n hx hb dX6_move_111 rfl (lv_at hl 4 rfl) ?_
                      refine lv_aload hx hb dX6_move_112 (lv_at hl 0 rfl) ?_
                      refine va_get (v := .ref (ad 46)) (C := RX2) (T := TX2) (N := 3) hx hb hts in2 hown hK.1 hP 45 nb_a45 rfl 0 (by decide) w_5 (fun _ h9 => h9) rfl dX6_move_114 ?_
                      refine lv_iload hx hb dX6_move_117 (lv_at hl 6 rfl) ?_
                      refine lv_iload hx hb dX6_move_119 (lv_at hl 7 rfl) ?_
                      obtain ⟨c_34, h⟩ := nb_c h
                      refine nb_copy hx hb hml hl.1 had hown w_6 w_7 w_8 w_9 hK hP hS nb_a44 nb_a46 (Nat.le_of_ble_eq_true rfl) (Nat.le_of_ble_eq_true rfl) c_34 (nb_s46 _) dX6_move_121 (fun H locs hP hS => ?_)
                      obtain ⟨M_34, e_34, h⟩ := nb_nE h
                      rw [e_34] at hP
                      refine lv_iload hx hb dX6_move_124 (lv_at hl 7 rfl) ?_
                      obtain ⟨rfl, rfl⟩ := nb_e2 h
                      exact nb_iret hx hb hr hlk hP hS dX6_move_126
                    · have h := nb_t c_33 h
                      refine lv_aload_n hx hb dX6_move_100 rfl (lv_at hl 2 rfl) ?_
                      refine lv_iconst (v := (1 : Int32)) hx hb dX6_move_101 (by decide) ?_
                      obtain ⟨r_35, M_35, e_35, h⟩ := nb_pE h
                      refine nb_callV (n := 1) (As := [.int (1 : Int32)]) (rest := []) hx hb hml hown hts hK hZ hP hS (k_X6_fail had M N (1 : Int32) e_35) gX6_move_X6_fail rfl (by decide +kernel) (nb_rm (Nat.le_of_ble_eq_true rfl) (Nat.le_of_ble_eq_true rfl)) nb_a0 rfl rfl rfl hl.1 rfl (Nat.le_of_ble_eq_true rfl) dX6_move_102 (fun H locs hP hS => ?_)
                      refine W.eq (g2 := F0 m 105 ls [.int r_35]) rfl ?_
                      obtain ⟨rfl, rfl⟩ := nb_e2 h
                      exact nb_iret hx hb hr hlk hP hS dX6_move_105
                · have h := nb_f c_28 h
                  refine lv_aload_n hx hb dX6_move_71 rfl (lv_at hl 2 rfl) ?_
                  refine lv_iconst (v := (5 : Int32)) hx hb dX6_move_72 (by decide) ?_
                  obtain ⟨r_36, M_36, e_36, h⟩ := nb_pE h
                  refine nb_callV (n := 1) (As := [.int (5 : Int32)]) (rest := []) hx hb hml hown hts hK hZ hP hS (k_X6_fail had M N (5 : Int32) e_36) gX6_move_X6_fail rfl (by decide +kernel) (nb_rm (Nat.le_of_ble_eq_true rfl) (Nat.le_of_ble_eq_true rfl)) nb_a0 rfl rfl rfl hl.1 rfl (Nat.le_of_ble_eq_true rfl) dX6_move_73 (fun H locs hP hS => ?_)
                  refine W.eq (g2 := F0 m 76 ls [.int r_36]) rfl ?_
                  obtain ⟨rfl, rfl⟩ := nb_e2 h
                  exact nb_iret hx hb hr hlk hP hS dX6_move_76
              · have h := nb_f c_27 h
                refine lv_aload_n hx hb dX6_move_52 rfl (lv_at hl 2 rfl) ?_
                refine lv_iconst (v := (2 : Int32)) hx hb dX6_move_53 (by decide) ?_
                obtain ⟨r_37, M_37, e_37, h⟩ := nb_pE h
                refine nb_callV (n := 1) (As := [.int (2 : Int32)]) (rest := []) hx hb hml hown hts hK hZ hP hS (k_X6_fail had M N (2 : Int32) e_37) gX6_move_X6_fail rfl (by decide +kernel) (nb_rm (Nat.le_of_ble_eq_true rfl) (Nat.le_of_ble_eq_true rfl)) nb_a0 rfl rfl rfl hl.1 rfl (Nat.le_of_ble_eq_true rfl) dX6_move_54 (fun H locs hP hS => ?_)
                refine W.eq (g2 := F0 m 57 ls [.int r_37]) rfl ?_
                obtain ⟨rfl, rfl⟩ := nb_e2 h
                exact nb_iret hx hb hr hlk hP hS dX6_move_57
          · have h := nb_f c_22 h
            by_cases c_38 : p2 = 2
            · have h := nb_t c_38 h
              refine nb_ald (t0 := 3) (E := RX2) (v := (2 : Int32)) hx hb hK hP nb_a42 rfl c_38 (nb_lit rfl) rfl dX6_move_33 ?_
              refine lv_astore (lv' := [(7, .ref (ad 47)), (6, .ref (ad 43)), (0, .ref (ad 0)), (1, .int p0), (2, .int p1), (3, .int p2), (4, .int p3), (5, .int p4)]) hx hb dX6_move_34 hl (by decide) rfl (fun ls hl => ?_)
              refine lv_aload hx hb dX6_move_36 (lv_at hl 1 rfl) ?_
              refine nb_callV (n := 0) (As := []) (rest := []) hx hb hml hown hts hK hZ hP hS (k_X2_isMissing_43 had M N) gX6_move_X2_isMissing rfl (by decide +kernel) (nb_rm (Nat.le_of_ble_eq_true rfl) (Nat.le_of_ble_eq_true rfl)) nb_a43 rfl rfl rfl hl.1 rfl (Nat.le_of_ble_eq_true rfl) dX6_move_38 (fun H locs hP hS => ?_)
              refine W.eq (g2 := F0 m 41 ls [.int (f_X2_isMissing_43 M)]) rfl ?_
              refine lv_if_ne (tgt := 52) hx hb dX6_move_41 (by decide) (fun c_40 => ?_) (fun c_40 => ?_)
              · have h := nb_f c_40 h
                refine lv_aload_n hx hb dX6_move_52 rfl (lv_at hl 2 rfl) ?_
                refine lv_iconst (v := (2 : Int32)) hx hb dX6_move_53 (by decide) ?_
                obtain ⟨r_41, M_41, e_41, h⟩ := nb_pE h
                refine nb_callV (n := 1) (As := [.int (2 : Int32)]) (rest := []) hx hb hml hown hts hK hZ hP hS (k_X6_fail had M N (2 : Int32) e_41) gX6_move_X6_fail rfl (by decide +kernel) (nb_rm (Nat.le_of_ble_eq_true rfl) (Nat.le_of_ble_eq_true rfl)) nb_a0 rfl rfl rfl hl.1 rfl (Nat.le_of_ble_eq_true rfl) dX6_move_54 (fun H locs hP hS => ?_)
                refine W.eq (g2 := F0 m 57 ls [.int r_41]) rfl ?_
                obtain ⟨rfl, rfl⟩ := nb_e2 h
                exact nb_iret hx hb hr hlk hP hS dX6_move_57
              · have h := nb_t c_40 h
                refine lv_aload hx hb dX6_move_44 (lv_at hl 0 rfl) ?_
                refine nb_callV (n := 0) (As := []) (rest := []) hx hb hml hown hts hK hZ hP hS (k_X2_isMissing_47 had M N) gX6_move_X2_isMissing rfl (by decide +kernel) (nb_rm (Nat.le_of_ble_eq_true rfl) (Nat.le_of_ble_eq_true rfl)) nb_a47 rfl rfl rfl hl.1 rfl (Nat.le_of_ble_eq_true rfl) dX6_move_46 (fun H locs hP hS => ?_)
                refine W.eq (g2 := F0 m 49 ls [.int (f_X2_isMissing_47 M)]) rfl ?_
                refine lv_if_eq (tgt := 58) hx hb dX6_move_49 (by decide) (fun c_43 => ?_) (fun c_43 => ?_)
                · have h := nb_t c_43 h
                  refine lv_aload hx hb dX6_move_58 (lv_at hl 1 rfl) ?_
                  refine va_get (v := .int (M.1 43 1)) (C := RX2) (T := TX2) (N := 3) hx hb hts in2 hown hK.1 hP 43 nb_a43 rfl 1 (by decide) w_3 (fun _ h9 => h9) rfl dX6_move_60 ?_
                  refine lv_aload hx hb dX6_move_63 (lv_at hl 0 rfl) ?_
                  refine va_get (v := .int (M.1 47 1)) (C := RX2) (T := TX2) (N := 3) hx hb hts in2 hown hK.1 hP 47 nb_a47 rfl 1 (by decide) w_3 (fun _ h9 => h9) rfl dX6_move_65 ?_
                  refine lv_icmp_eq (tgt := 77) hx hb dX6_move_68 (by decide) (fun c_44 => ?_) (fun c_44 => ?_)
                  · have h := nb_t c_44 h
                    refine lv_aload hx hb dX6_move_77 (lv_at hl 1 rfl) ?_
                    refine lv_iload_n hx hb dX6_move_79 rfl (lv_at hl 4 rfl) ?_
                    refine lv_iload hx hb dX6_move_80 (lv_at hl 7 rfl) ?_
                    refine nb_callV (n := 2) (As := [.int p1, .int p4]) (rest := []) hx hb hml hown hts hK hZ hP hS (k_X2_has_43 had M N p1 p4) gX6_move_X2_has rfl (by decide +kernel) (nb_rm (Nat.le_of_ble_eq_true rfl) (Nat.le_of_ble_eq_true rfl)) nb_a43 rfl rfl rfl hl.1 rfl (Nat.le_of_ble_eq_true rfl) dX6_move_82 (fun H locs hP hS => ?_)
                    refine W.eq (g2 := F0 m 85 ls [.int (f_X2_has_43 M p1 p4)]) rfl ?_
                    refine lv_if_eq (tgt := 100) hx hb dX6_move_85 (by decide) (fun c_46 => ?_) (fun c_46 => ?_)
                    · have h := nb_t c_46 h
                      refine lv_aload_n hx hb dX6_move_100 rfl (lv_at hl 2 rfl) ?_
                      refine lv_iconst (v := (1 : Int32)) hx hb dX6_move_101 (by decide) ?_
                      obtain ⟨r_47, M_47, e_47, h⟩ := nb_pE h
                      refine nb_callV (n := 1) (As := [.int (1 : Int32)]) (rest := []) hx hb hml hown hts hK hZ hP hS (k_X6_fail had M N (1 : Int32) e_47) gX6_move_X6_fail rfl (by decide +kernel) (nb_rm (Nat.le_of_ble_eq_true rfl) (Nat.le_of_ble_eq_true rfl)) nb_a0 rfl rfl rfl hl.1 rfl (Nat.le_of_ble_eq_true rfl) dX6_move_102 (fun H locs hP hS => ?_)
                      refine W.eq (g2 := F0 m 105 ls [.int r_47]) rfl ?_
                      obtain ⟨rfl, rfl⟩ := nb_e2 h
                      exact nb_iret hx hb hr hlk hP hS dX6_move_105
                    · have h := nb_f c_46 h
                      refine lv_aload hx hb dX6_move_88 (lv_at hl 0 rfl) ?_
                      refine lv_iload hx hb dX6_move_90 (lv_at hl 6 rfl) ?_
                      refine lv_iload hx hb dX6_move_92 (lv_at hl 7 rfl) ?_
                      refine nb_callV (n := 2) (As := [.int p3, .int p4]) (rest := []) hx hb hml hown hts hK hZ hP hS (k_X2_has_47 had M N p3 p4) gX6_move_X2_has rfl (by decide +kernel) (nb_rm (Nat.le_of_ble_eq_true rfl) (Nat.le_of_ble_eq_true rfl)) nb_a47 rfl rfl rfl hl.1 rfl (Nat.le_of_ble_eq_true rfl) dX6_move_94 (fun H locs hP hS => ?_)
                      refine W.eq (g2 := F0 m 97 ls [.int (f_X2_has_47 M p3 p4)]) rfl ?_
                      refine lv_if_ne (tgt := 106) hx hb dX6_move_97 (by decide) (fun c_49 => ?_) (fun c_49 => ?_)
                      · have h := nb_f c_49 h
                        refine lv_aload hx hb dX6_move_106 (lv_at hl 1 rfl) ?_
                        refine va_get (v := .ref (ad 44)) (C := RX2) (T := TX2) (N := 3) hx hb hts in2 hown hK.1 hP 43 nb_a43 rfl 0 (by decide) w_5 (fun _ h9 => h9) rfl dX6_move_108 ?_
                        refine lv_iload_n hx hb dX6_move_111 rfl (lv_at hl 4 rfl) ?_
                        refine lv_aload hx hb dX6_move_112 (lv_at hl 0 rfl) ?_
                        refine va_get (v := .ref (ad 48)) (C := RX2) (T := TX2) (N := 3) hx hb hts in2 hown hK.1 hP 47 nb_a47 rfl 0 (by decide) w_5 (fun _ h9 => h9) rfl dX6_move_114 ?_
                        refine lv_iload hx hb dX6_move_117 (lv_at hl 6 rfl) ?_
                        refine lv_iload hx hb dX6_move_119 (lv_at hl 7 rfl) ?_
                        obtain ⟨c_50, h⟩ := nb_c h
                        refine nb_copy hx hb hml hl.1 had hown w_6 w_7 w_8 w_9 hK hP hS nb_a44 nb_a48 (Nat.le_of_ble_eq_true rfl) (Nat.le_of_ble_eq_true rfl) c_50 (nb_s48 _) dX6_move_121 (fun H locs hP hS => ?_)
                        obtain ⟨M_50, e_50, h⟩ := nb_nE h
                        rw [e_50] at hP
                        refine lv_iload hx hb dX6_move_124 (lv_at hl 7 rfl) ?_
                        obtain ⟨rfl, rfl⟩ := nb_e2 h
                        exact nb_iret hx hb hr hlk hP hS dX6_move_126
                      · have h := nb_t c_49 h
                        refine lv_aload_n hx hb dX6_move_100 rfl (lv_at hl 2 rfl) ?_
                        refine lv_iconst (v := (1 : Int32)) hx hb dX6_move_101 (by decide) ?_
                        obtain ⟨r_51, M_51, e_51, h⟩ := nb_pE h
                        refine nb_callV (n := 1) (As := [.int (1 : Int32)]) (rest := []) hx hb hml hown hts hK hZ hP hS (k_X6_fail had M N (1 : Int32) e_51) gX6_move_X6_fail rfl (by decide +kernel) (nb_rm (Nat.le_of_ble_eq_true rfl) (Nat.le_of_ble_eq_true rfl)) nb_a0 rfl rfl rfl hl.1 rfl (Nat.le_of_ble_eq_true rfl) dX6_move_102 (fun H locs hP hS => ?_)
                        refine W.eq (g2 := F0 m 105 ls [.int r_51]) rfl ?_
                        obtain ⟨rfl, rfl⟩ := nb_e2 h
                        exact nb_iret hx hb hr hlk hP hS dX6_move_105
                  · have h := nb_f c_44 h
                    refine lv_aload_n hx hb dX6_move_71 rfl (lv_at hl 2 rfl) ?_
                    refine lv_iconst (v := (5 : Int32)) hx hb dX6_move_72 (by decide) ?_
                    obtain ⟨r_52, M_52, e_52, h⟩ := nb_pE h
                    refine nb_callV (n := 1) (As := [.int (5 : Int32)]) (rest := []) hx hb hml hown hts hK hZ hP hS (k_X6_fail had M N (5 : Int32) e_52) gX6_move_X6_fail rfl (by decide +kernel) (nb_rm (Nat.le_of_ble_eq_true rfl) (Nat.le_of_ble_eq_true rfl)) nb_a0 rfl rfl rfl hl.1 rfl (Nat.le_of_ble_eq_true rfl) dX6_move_73 (fun H locs hP hS => ?_)
                    refine W.eq (g2 := F0 m 76 ls [.int r_52]) rfl ?_
                    obtain ⟨rfl, rfl⟩ := nb_e2 h
                    exact nb_iret hx hb hr hlk hP hS dX6_move_76
                · have h := nb_f c_43 h
                  refine lv_aload_n hx hb dX6_move_52 rfl (lv_at hl 2 rfl) ?_
                  refine lv_iconst (v := (2 : Int32)) hx hb dX6_move_53 (by decide) ?_
                  obtain ⟨r_53, M_53, e_53, h⟩ := nb_pE h
                  refine nb_callV (n := 1) (As := [.int (2 : Int32)]) (rest := []) hx hb hml hown hts hK hZ hP hS (k_X6_fail had M N (2 : Int32) e_53) gX6_move_X6_fail rfl (by decide +kernel) (nb_rm (Nat.le_of_ble_eq_true rfl) (Nat.le_of_ble_eq_true rfl)) nb_a0 rfl rfl rfl hl.1 rfl (Nat.le_of_ble_eq_true rfl) dX6_move_54 (fun H locs hP hS => ?_)
                  refine W.eq (g2 := F0 m 57 ls [.int r_53]) rfl ?_
                  obtain ⟨rfl, rfl⟩ := nb_e2 h
                  exact nb_iret hx hb hr hlk hP hS dX6_move_57
            · have h := nb_f c_38 h
              by_cases c_54 : p2 = 3
              · have h := nb_t c_54 h
                refine nb_ald (t0 := 3) (E := RX2) (v := (3 : Int32)) hx hb hK hP nb_a42 rfl c_54 (nb_lit rfl) rfl dX6_move_33 ?_
                refine lv_astore (lv' := [(7, .ref (ad 49)), (6, .ref (ad 43)), (0, .ref (ad 0)), (1, .int p0), (2, .int p1), (3, .int p2), (4, .int p3), (5, .int p4)]) hx hb dX6_move_34 hl (by decide) rfl (fun ls hl => ?_)
                refine lv_aload hx hb dX6_move_36 (lv_at hl 1 rfl) ?_
                refine nb_callV (n := 0) (As := []) (rest := []) hx hb hml hown hts hK hZ hP hS (k_X2_isMissing_43 had M N) gX6_move_X2_isMissing rfl (by decide +kernel) (nb_rm (Nat.le_of_ble_eq_true rfl) (Nat.le_of_ble_eq_true rfl)) nb_a43 rfl rfl rfl hl.1 rfl (Nat.le_of_ble_eq_true rfl) dX6_move_38 (fun H locs hP hS => ?_)
                refine W.eq (g2 := F0 m 41 ls [.int (f_X2_isMissing_43 M)]) rfl ?_
                refine lv_if_ne (tgt := 52) hx hb dX6_move_41 (by decide) (fun c_56 => ?_) (fun c_56 => ?_)
                · have h := nb_f c_56 h
                  refine lv_aload_n hx hb dX6_move_52 rfl (lv_at hl 2 rfl) ?_
                  refine lv_iconst (v := (2 : Int32)) hx hb dX6_move_53 (by decide) ?_
                  obtain ⟨r_57, M_57, e_57, h⟩ := nb_pE h
                  refine nb_callV (n := 1) (As := [.int (2 : Int32)]) (rest := []) hx hb hml hown hts hK hZ hP hS (k_X6_fail had M N (2 : Int32) e_57) gX6_move_X6_fail rfl (by decide +kernel) (nb_rm (Nat.le_of_ble_eq_true rfl) (Nat.le_of_ble_eq_true rfl)) nb_a0 rfl rfl rfl hl.1 rfl (Nat.le_of_ble_eq_true rfl) dX6_move_54 (fun H locs hP hS => ?_)
                  refine W.eq (g2 := F0 m 57 ls [.int r_57]) rfl ?_
                  obtain ⟨rfl, rfl⟩ := nb_e2 h
                  exact nb_iret hx hb hr hlk hP hS dX6_move_57
                · have h := nb_t c_56 h
                  refine lv_aload hx hb dX6_move_44 (lv_at hl 0 rfl) ?_
                  refine nb_callV (n := 0) (As := []) (rest := []) hx hb hml hown hts hK hZ hP hS (k_X2_isMissing_49 had M N) gX6_move_X2_isMissing rfl (by decide +kernel) (nb_rm (Nat.le_of_ble_eq_true rfl) (Nat.le_of_ble_eq_true rfl)) nb_a49 rfl rfl rfl hl.1 rfl (Nat.le_of_ble_eq_true rfl) dX6_move_46 (fun H locs hP hS => ?_)
                  refine W.eq (g2 := F0 m 49 ls [.int (f_X2_isMissing_49 M)]) rfl ?_
                  refine lv_if_eq (tgt := 58) hx hb dX6_move_49 (by decide) (fun c_59 => ?_) (fun c_59 => ?_)
                  · have h := nb_t c_59 h
                    refine lv_aload hx hb dX6_move_58 (lv_at hl 1 rfl) ?_
                    refine va_get (v := .int (M.1 43 1)) (C := RX2) (T := TX2) (N := 3) hx hb hts in2 hown hK.1 hP 43 nb_a43 rfl 1 (by decide) w_3 (fun _ h9 => h9) rfl dX6_move_60 ?_
                    refine lv_aload hx hb dX6_move_63 (lv_at hl 0 rfl) ?_
                    refine va_get (v := .int (M.1 49 1)) (C := RX2) (T := TX2) (N := 3) hx hb hts in2 hown hK.1 hP 49 nb_a49 rfl 1 (by decide) w_3 (fun _ h9 => h9) rfl dX6_move_65 ?_
                    refine lv_icmp_eq (tgt := 77) hx hb dX6_move_68 (by decide) (fun c_60 => ?_) (fun c_60 => ?_)
                    · have h := nb_t c_60 h
                      refine lv_aload hx hb dX6_move_77 (lv_at hl 1 rfl) ?_
                      refine lv_iload_n hx hb dX6_move_79 rfl (lv_at hl 4 rfl) ?_
                      refine lv_iload hx hb dX6_move_80 (lv_at hl 7 rfl) ?_
                      refine nb_callV (n := 2) (As := [.int p1, .int p4]) (rest := []) hx hb hml hown hts hK hZ hP hS (k_X2_has_43 had M N p1 p4) gX6_move_X2_has rfl (by decide +kernel) (nb_rm (Nat.le_of_ble_eq_true rfl) (Nat.le_of_ble_eq_true rfl)) nb_a43 rfl rfl rfl hl.1 rfl (Nat.le_of_ble_eq_true rfl) dX6_move_82 (fun H locs hP hS => ?_)
                      refine W.eq (g2 := F0 m 85 ls [.int (f_X2_has_43 M p1 p4)]) rfl ?_
                      refine lv_if_eq (tgt := 100) hx hb dX6_move_85 (by decide) (fun c_62 => ?_) (fun c_62 => ?_)
                      · have h := nb_t c_62 h
                        refine lv_aload_n hx hb dX6_move_100 rfl (lv_at hl 2 rfl) ?_
                        refine lv_iconst (v := (1 : Int32)) hx hb dX6_move_101 (by decide) ?_
                        obtain ⟨r_63, M_63, e_63, h⟩ := nb_pE h
                        refine nb_callV (n := 1) (As := [.int (1 : Int32)]) (rest := []) hx hb hml hown hts hK hZ hP hS (k_X6_fail had M N (1 : Int32) e_63) gX6_move_X6_fail rfl (by decide +kernel) (nb_rm (Nat.le_of_ble_eq_true rfl) (Nat.le_of_ble_eq_true rfl)) nb_a0 rfl rfl rfl hl.1 rfl (Nat.le_of_ble_eq_true rfl) dX6_move_102 (fun H locs hP hS => ?_)
                        refine W.eq (g2 := F0 m 105 ls [.int r_63]) rfl ?_
                        obtain ⟨rfl, rfl⟩ := nb_e2 h
                        exact nb_iret hx hb hr hlk hP hS dX6_move_105
                      · have h := nb_f c_62 h
                        refine lv_aload hx hb dX6_move_88 (lv_at hl 0 rfl) ?_
                        refine lv_iload hx hb dX6_move_90 (lv_at hl 6 rfl) ?_
                        refine lv_iload hx hb dX6_move_92 (lv_at hl 7 rfl) ?_
                        refine nb_callV (n := 2) (As := [.int p3, .int p4]) (rest := []) hx hb hml hown hts hK hZ hP hS (k_X2_has_49 had M N p3 p4) gX6_move_X2_has rfl (by decide +kernel) (nb_rm (Nat.le_of_ble_eq_true rfl) (Nat.le_of_ble_eq_true rfl)) nb_a49 rfl rfl rfl hl.1 rfl (Nat.le_of_ble_eq_true rfl) dX6_move_94 (fun H locs hP hS => ?_)
                        refine W.eq (g2 := F0 m 97 ls [.int (f_X2_has_49 M p3 p4)]) rfl ?_
                        refine lv_if_ne (tgt := 106) hx hb dX6_move_97 (by decide) (fun c_65 => ?_) (fun c_65 => ?_)
                        · have h := nb_f c_65 h
                          refine lv_aload hx hb dX6_move_106 (lv_at hl 1 rfl) ?_
                          refine va_get (v := .ref (ad 44)) (C := RX2) (T := TX2) (N := 3) hx hb hts in2 hown hK.1 hP 43 nb_a43 rfl 0 (by decide) w_5 (fun _ h9 => h9) rfl dX6_move_108 ?_
                          refine lv_iload_n hx hb dX6_move_111 rfl (lv_at hl 4 rfl) ?_
                          refine lv_aload hx hb dX6_move_112 (lv_at hl 0 rfl) ?_
                          refine va_get (v := .ref (ad 50)) (C := RX2) (T := TX2) (N := 3) hx hb hts in2 hown hK.1 hP 49 nb_a49 rfl 0 (by decide) w_5 (fun _ h9 => h9) rfl dX6_move_114 ?_
                          refine lv_iload hx hb dX6_move_117 (lv_at hl 6 rfl) ?_
                          refine lv_iload hx hb dX6_move_119 (lv_at hl 7 rfl) ?_
                          obtain ⟨c_66, h⟩ := nb_c h
                          refine nb_copy hx hb hml hl.1 had hown w_6 w_7 w_8 w_9 hK hP hS nb_a44 nb_a50 (Nat.le_of_ble_eq_true rfl) (Nat.le_of_ble_eq_true rfl) c_66 (nb_s50 _) dX6_move_121 (fun H locs hP hS => ?_)
                          obtain ⟨M_66, e_66, h⟩ := nb_nE h
                          rw [e_66] at hP
                          refine lv_iload hx hb dX6_move_124 (lv_at hl 7 rfl) ?_
                          obtain ⟨rfl, rfl⟩ := nb_e2 h
                          exact nb_iret hx hb hr hlk hP hS dX6_move_126
                        · have h := nb_t c_65 h
                          refine lv_aload_n hx hb dX6_move_100 rfl (lv_at hl 2 rfl) ?_
                          refine lv_iconst (v := (1 : Int32)) hx hb dX6_move_101 (by decide) ?_
                          obtain ⟨r_67, M_67, e_67, h⟩ := nb_pE h
                          refine nb_callV (n := 1) (As := [.int (1 : Int32)]) (rest := []) hx hb hml hown hts hK hZ hP hS (k_X6_fail had M N (1 : Int32) e_67) gX6_move_X6_fail rfl (by decide +kernel) (nb_rm (Nat.le_of_ble_eq_true rfl) (Nat.le_of_ble_eq_true rfl)) nb_a0 rfl rfl rfl hl.1 rfl (Nat.le_of_ble_eq_true rfl) dX6_move_102 (fun H locs hP hS => ?_)
                          refine W.eq (g2 := F0 m 105 ls [.int r_67]) rfl ?_
                          obtain ⟨rfl, rfl⟩ := nb_e2 h
                          exact nb_iret hx hb hr hlk hP hS dX6_move_105
                    · have h := nb_f c_60 h
                      refine lv_aload_n hx hb dX6_move_71 rfl (lv_at hl 2 rfl) ?_
                      refine lv_iconst (v := (5 : Int32)) hx hb dX6_move_72 (by decide) ?_
                      obtain ⟨r_68, M_68, e_68, h⟩ := nb_pE h
                      refine nb_callV (n := 1) (As := [.int (5 : Int32)]) (rest := []) hx hb hml hown hts hK hZ hP hS (k_X6_fail had M N (5 : Int32) e_68) gX6_move_X6_fail rfl (by decide +kernel) (nb_rm (Nat.le_of_ble_eq_true rfl) (Nat.le_of_ble_eq_true rfl)) nb_a0 rfl rfl rfl hl.1 rfl (Nat.le_of_ble_eq_true rfl) dX6_move_73 (fun H locs hP hS => ?_)
                      refine W.eq (g2 := F0 m 76 ls [.int r_68]) rfl ?_
                      obtain ⟨rfl, rfl⟩ := nb_e2 h
                      exact nb_iret hx hb hr hlk hP hS dX6_move_76
                  · have h := nb_f c_59 h
                    refine lv_aload_n hx hb dX6_move_52 rfl (lv_at hl 2 rfl) ?_
                    refine lv_iconst (v := (2 : Int32)) hx hb dX6_move_53 (by decide) ?_
                    obtain ⟨r_69, M_69, e_69, h⟩ := nb_pE h
                    refine nb_callV (n := 1) (As := [.int (2 : Int32)]) (rest := []) hx hb hml hown hts hK hZ hP hS (k_X6_fail had M N (2 : Int32) e_69) gX6_move_X6_fail rfl (by decide +kernel) (nb_rm (Nat.le_of_ble_eq_true rfl) (Nat.le_of_ble_eq_true rfl)) nb_a0 rfl rfl rfl hl.1 rfl (Nat.le_of_ble_eq_true rfl) dX6_move_54 (fun H locs hP hS => ?_)
                    refine W.eq (g2 := F0 m 57 ls [.int r_69]) rfl ?_
                    obtain ⟨rfl, rfl⟩ := nb_e2 h
                    exact nb_iret hx hb hr hlk hP hS dX6_move_57
              · have h := nb_f c_54 h
                cases h
      · have h := nb_f c_6 h
        by_cases c_70 : p0 = 1
        · have h := nb_t c_70 h
          refine nb_ald (t0 := 3) (E := RX2) (v := (1 : Int32)) hx hb hK hP nb_a42 rfl c_70 (nb_lit rfl) rfl dX6_move_25 ?_
          refine lv_astore (lv' := [(6, .ref (ad 45)), (0, .ref (ad 0)), (1, .int p0), (2, .int p1), (3, .int p2), (4, .int p3), (5, .int p4)]) hx hb dX6_move_26 hl (by decide) rfl (fun ls hl => ?_)
          refine lv_aload_n hx hb dX6_move_28 rfl (lv_at hl 1 rfl) ?_
          refine va_get (v := .ref (ad 42)) (C := RX6) (T := TX6) (N := 8) hx hb hts in6 hown hK.1 hP 0 nb_a0 rfl 5 (by decide) w_1 (fun _ h9 => h9) rfl dX6_move_29 ?_
          refine lv_iload_n hx hb dX6_move_32 rfl (lv_at hl 4 rfl) ?_
          by_cases c_71 : p2 = 0
          · have h := nb_t c_71 h
            refine nb_ald (t0 := 3) (E := RX2) (v := (0 : Int32)) hx hb hK hP nb_a42 rfl c_71 (nb_lit rfl) rfl dX6_move_33 ?_
            refine lv_astore (lv' := [(7, .ref (ad 43)), (6, .ref (ad 45)), (0, .ref (ad 0)), (1, .int p0), (2, .int p1), (3, .int p2), (4, .int p3), (5, .int p4)]) hx hb dX6_move_34 hl (by decide) rfl (fun ls hl => ?_)
            refine lv_aload hx hb dX6_move_36 (lv_at hl 1 rfl) ?_
            refine nb_callV (n := 0) (As := []) (rest := []) hx hb hml hown hts hK hZ hP hS (k_X2_isMissing_45 had M N) gX6_move_X2_isMissing rfl (by decide +kernel) (nb_rm (Nat.le_of_ble_eq_true rfl) (Nat.le_of_ble_eq_true rfl)) nb_a45 rfl rfl rfl hl.1 rfl (Nat.le_of_ble_eq_true rfl) dX6_move_38 (fun H locs hP hS => ?_)
            refine W.eq (g2 := F0 m 41 ls [.int (f_X2_isMissing_45 M)]) rfl ?_
            refine lv_if_ne (tgt := 52) hx hb dX6_move_41 (by decide) (fun c_73 => ?_) (fun c_73 => ?_)
            · have h := nb_f c_73 h
              refine lv_aload_n hx hb dX6_move_52 rfl (lv_at hl 2 rfl) ?_
              refine lv_iconst (v := (2 : Int32)) hx hb dX6_move_53 (by decide) ?_
              obtain ⟨r_74, M_74, e_74, h⟩ := nb_pE h
              refine nb_callV (n := 1) (As := [.int (2 : Int32)]) (rest := []) hx hb hml hown hts hK hZ hP hS (k_X6_fail had M N (2 : Int32) e_74) gX6_move_X6_fail rfl (by decide +kernel) (nb_rm (Nat.le_of_ble_eq_true rfl) (Nat.le_of_ble_eq_true rfl)) nb_a0 rfl rfl rfl hl.1 rfl (Nat.le_of_ble_eq_true rfl) dX6_move_54 (fun H locs hP hS => ?_)
              refine W.eq (g2 := F0 m 57 ls [.int r_74]) rfl ?_
              obtain ⟨rfl, rfl⟩ := nb_e2 h
              exact nb_iret hx hb hr hlk hP hS dX6_move_57
            · have h := nb_t c_73 h
              refine lv_aload hx hb dX6_move_44 (lv_at hl 0 rfl) ?_
              refine nb_callV (n := 0) (As := []) (rest := []) hx hb hml hown hts hK hZ hP hS (k_X2_isMissing_43 had M N) gX6_move_X2_isMissing rfl (by decide +kernel) (nb_rm (Nat.le_of_ble_eq_true rfl) (Nat.le_of_ble_eq_true rfl)) nb_a43 rfl rfl rfl hl.1 rfl (Nat.le_of_ble_eq_true rfl) dX6_move_46 (fun H locs hP hS => ?_)
              refine W.eq (g2 := F0 m 49 ls [.int (f_X2_isMissing_43 M)]) rfl ?_
              refine lv_if_eq (tgt := 58) hx hb dX6_move_49 (by decide) (fun c_76 => ?_) (fun c_76 => ?_)
              · have h := nb_t c_76 h
                refine lv_aload hx hb dX6_move_58 (lv_at hl 1 rfl) ?_
                refine va_get (v := .int (M.1 45 1)) (C := RX2) (T := TX2) (N := 3) hx hb hts in2 hown hK.1 hP 45 nb_a45 rfl 1 (by decide) w_3 (fun _ h9 => h9) rfl dX6_move_60 ?_
                refine lv_aload hx hb dX6_move_63 (lv_at hl 0 rfl) ?_
                refine va_get (v := .int (M.1 43 1)) (C := RX2) (T := TX2) (N := 3) hx hb hts in2 hown hK.1 hP 43 nb_a43 rfl 1 (by decide) w_3 (fun _ h9 => h9) rfl dX6_move_65 ?_
                refine lv_icmp_eq (tgt := 77) hx hb dX6_move_68 (by decide) (fun c_77 => ?_) (fun c_77 => ?_)
                · have h := nb_t c_77 h
                  refine lv_aload hx hb dX6_move_77 (lv_at hl 1 rfl) ?_
                  refine lv_iload_n hx hb dX6_move_79 rfl (lv_at hl 4 rfl) ?_
                  refine lv_iload hx hb dX6_move_80 (lv_at hl 7 rfl) ?_
                  refine nb_callV (n := 2) (As := [.int p1, .int p4]) (rest := []) hx hb hml hown hts hK hZ hP hS (k_X2_has_45 had M N p1 p4) gX6_move_X2_has rfl (by decide +kernel) (nb_rm (Nat.le_of_ble_eq_true rfl) (Nat.le_of_ble_eq_true rfl)) nb_a45 rfl rfl rfl hl.1 rfl (Nat.le_of_ble_eq_true rfl) dX6_move_82 (fun H locs hP hS => ?_)
                  refine W.eq (g2 := F0 m 85 ls [.int (f_X2_has_45 M p1 p4)]) rfl ?_
                  refine lv_if_eq (tgt := 100) hx hb dX6_move_85 (by decide) (fun c_79 => ?_) (fun c_79 => ?_)
                  · have h := nb_t c_79 h
                    refine lv_aload_n hx hb dX6_move_100 rfl (lv_at hl 2 rfl) ?_
                    refine lv_iconst (v := (1 : Int32)) hx hb dX6_move_101 (by decide) ?_
                    obtain ⟨r_80, M_80, e_80, h⟩ := nb_pE h
                    refine nb_callV (n := 1) (As := [.int (1 : Int32)]) (rest := []) hx hb hml hown hts hK hZ hP hS (k_X6_fail had M N (1 : Int32) e_80) gX6_move_X6_fail rfl (by decide +kernel) (nb_rm (Nat.le_of_ble_eq_true rfl) (Nat.le_of_ble_eq_true rfl)) nb_a0 rfl rfl rfl hl.1 rfl (Nat.le_of_ble_eq_true rfl) dX6_move_102 (fun H locs hP hS => ?_)
                    refine W.eq (g2 := F0 m 105 ls [.int r_80]) rfl ?_
                    obtain ⟨rfl, rfl⟩ := nb_e2 h
                    exact nb_iret hx hb hr hlk hP hS dX6_move_105
                  · have h := nb_f c_79 h
                    refine lv_aload hx hb dX6_move_88 (lv_at hl 0 rfl) ?_
                    refine lv_iload hx hb dX6_move_90 (lv_at hl 6 rfl) ?_
                    refine lv_iload hx hb dX6_move_92 (lv_at hl 7 rfl) ?_
                    refine nb_callV (n := 2) (As := [.int p3, .int p4]) (rest := []) hx hb hml hown hts hK hZ hP hS (k_X2_has_43 had M N p3 p4) gX6_move_X2_has rfl (by decide +kernel) (nb_rm (Nat.le_of_ble_eq_true rfl) (Nat.le_of_ble_eq_true rfl)) nb_a43 rfl rfl rfl hl.1 rfl (Nat.le_of_ble_eq_true rfl) dX6_move_94 (fun H locs hP hS => ?_)
                    refine W.eq (g2 := F0 m 97 ls [.int (f_X2_has_43 M p3 p4)]) rfl ?_
                    refine lv_if_ne (tgt := 106) hx hb dX6_move_97 (by decide) (fun c_82 => ?_) (fun c_82 => ?_)
                    · have h := nb_f c_82 h
                      refine lv_aload hx hb dX6_move_106 (lv_at hl 1 rfl) ?_
                      refine va_get (v := .ref (ad 46)) (C := RX2) (T := TX2) (N := 3) hx hb hts in2 hown hK.1 hP 45 nb_a45 rfl 0 (by decide) w_5 (fun _ h9 => h9) rfl dX6_move_108 ?_
                      refine lv_iload_n hx hb dX6_move_111 rfl (lv_at hl 4 rfl) ?_
                      refine lv_aload hx hb dX6_move_112 (lv_at hl 0 rfl) ?_
                      refine va_get (v := .ref (ad 44)) (C := RX2) (T := TX2) (N := 3) hx hb hts in2 hown hK.1 hP 43 nb_a43 rfl 0 (by decide) w_5 (fun _ h9 => h9) rfl dX6_move_114 ?_
                      refine lv_iload hx hb dX6_move_117 (lv_at hl 6 rfl) ?_
                      refine lv_iload hx hb dX6_move_119 (lv_at hl 7 rfl) ?_
                      obtain ⟨c_83, h⟩ := nb_c h
                      refine nb_copy hx hb hml hl.1 had hown w_6 w_7 w_8 w_9 hK hP hS nb_a46 nb_a44 (Nat.le_of_ble_eq_true rfl) (Nat.le_of_ble_eq_true rfl) c_83 (nb_s44 _) dX6_move_121 (fun H locs hP hS => ?_)
                      obtain ⟨M_83, e_83, h⟩ := nb_nE h
                      rw [e_83] at hP
                      refine lv_iload hx hb dX6_move_124 (lv_at hl 7 rfl) ?_
                      obtain ⟨rfl, rfl⟩ := nb_e2 h
                      exact nb_iret hx hb hr hlk hP hS dX6_move_126
                    · have h := nb_t c_82 h
                      refine lv_aload_n hx hb dX6_move_100 rfl (lv_at hl 2 rfl) ?_
                      refine lv_iconst (v := (1 : Int32)) hx hb dX6_move_101 (by decide) ?_
                      obtain ⟨r_84, M_84, e_84, h⟩ := nb_pE h
                      refine nb_callV (n := 1) (As := [.int (1 : Int32)]) (rest := []) hx hb hml hown hts hK hZ hP hS (k_X6_fail had M N (1 : Int32) e_84) gX6_move_X6_fail rfl (by decide +kernel) (nb_rm (Nat.le_of_ble_eq_true rfl) (Nat.le_of_ble_eq_true rfl)) nb_a0 rfl rfl rfl hl.1 rfl (Nat.le_of_ble_eq_true rfl) dX6_move_102 (fun H locs hP hS => ?_)
                      refine W.eq (g2 := F0 m 105 ls [.int r_84]) rfl ?_
                      obtain ⟨rfl, rfl⟩ := nb_e2 h
                      exact nb_iret hx hb hr hlk hP hS dX6_move_105
                · have h := nb_f c_77 h
                  refine lv_aload_n hx hb dX6_move_71 rfl (lv_at hl 2 rfl) ?_
                  refine lv_iconst (v := (5 : Int32)) hx hb dX6_move_72 (by decide) ?_
                  obtain ⟨r_85, M_85, e_85, h⟩ := nb_pE h
                  refine nb_callV (n := 1) (As := [.int (5 : Int32)]) (rest := []) hx hb hml hown hts hK hZ hP hS (k_X6_fail had M N (5 : Int32) e_85) gX6_move_X6_fail rfl (by decide +kernel) (nb_rm (Nat.le_of_ble_eq_true rfl) (Nat.le_of_ble_eq_true rfl)) nb_a0 rfl rfl rfl hl.1 rfl (Nat.le_of_ble_eq_true rfl) dX6_move_73 (fun H locs hP hS => ?_)
                  refine W.eq (g2 := F0 m 76 ls [.int r_85]) rfl ?_
                  obtain ⟨rfl, rfl⟩ := nb_e2 h
                  exact nb_iret hx hb hr hlk hP hS dX6_move_76
              · have h := nb_f c_76 h
                refine lv_aload_n hx hb dX6_move_52 rfl (lv_at hl 2 rfl) ?_
                refine lv_iconst (v := (2 : Int32)) hx hb dX6_move_53 (by decide) ?_
                obtain ⟨r_86, M_86, e_86, h⟩ := nb_pE h
                refine nb_callV (n := 1) (As := [.int (2 : Int32)]) (rest := []) hx hb hml hown hts hK hZ hP hS (k_X6_fail had M N (2 : Int32) e_86) gX6_move_X6_fail rfl (by decide +kernel) (nb_rm (Nat.le_of_ble_eq_true rfl) (Nat.le_of_ble_eq_true rfl)) nb_a0 rfl rfl rfl hl.1 rfl (Nat.le_of_ble_eq_true rfl) dX6_move_54 (fun H locs hP hS => ?_)
                refine W.eq (g2 := F0 m 57 ls [.int r_86]) rfl ?_
                obtain ⟨rfl, rfl⟩ := nb_e2 h
                exact nb_iret hx hb hr hlk hP hS dX6_move_57
          · have h := nb_f c_71 h
            by_cases c_87 : p2 = 1
            · have h := nb_t c_87 h
              refine nb_ald (t0 := 3) (E := RX2) (v := (1 : Int32)) hx hb hK hP nb_a42 rfl c_87 (nb_lit rfl) rfl dX6_move_33 ?_
              refine lv_astore (lv' := [(7, .ref (ad 45)), (6, .ref (ad 45)), (0, .ref (ad 0)), (1, .int p0), (2, .int p1), (3, .int p2), (4, .int p3), (5, .int p4)]) hx hb dX6_move_34 hl (by decide) rfl (fun ls hl => ?_)
              refine lv_aload hx hb dX6_move_36 (lv_at hl 1 rfl) ?_
              refine nb_callV (n := 0) (As := []) (rest := []) hx hb hml hown hts hK hZ hP hS (k_X2_isMissing_45 had M N) gX6_move_X2_isMissing rfl (by decide +kernel) (nb_rm (Nat.le_of_ble_eq_true rfl) (Nat.le_of_ble_eq_true rfl)) nb_a45 rfl rfl rfl hl.1 rfl (Nat.le_of_ble_eq_true rfl) dX6_move_38 (fun H locs hP hS => ?_)
              refine W.eq (g2 := F0 m 41 ls [.int (f_X2_isMissing_45 M)]) rfl ?_
              refine lv_if_ne (tgt := 52) hx hb dX6_move_41 (by decide) (fun c_89 => ?_) (fun c_89 => ?_)
              · have h := nb_f c_89 h
                refine lv_aload_n hx hb dX6_move_52 rfl (lv_at hl 2 rfl) ?_
                refine lv_iconst (v := (2 : Int32)) hx hb dX6_move_53 (by decide) ?_
                obtain ⟨r_90, M_90, e_90, h⟩ := nb_pE h
                refine nb_callV (n := 1) (As := [.int (2 : Int32)]) (rest := []) hx hb hml hown hts hK hZ hP hS (k_X6_fail had M N (2 : Int32) e_90) gX6_move_X6_fail rfl (by decide +kernel) (nb_rm (Nat.le_of_ble_eq_true rfl) (Nat.le_of_ble_eq_true rfl)) nb_a0 rfl rfl rfl hl.1 rfl (Nat.le_of_ble_eq_true rfl) dX6_move_54 (fun H locs hP hS => ?_)
                refine W.eq (g2 := F0 m 57 ls [.int r_90]) rfl ?_
                obtain ⟨rfl, rfl⟩ := nb_e2 h
                exact nb_iret hx hb hr hlk hP hS dX6_move_57
              · have h := nb_t c_89 h
                refine lv_aload hx hb dX6_move_44 (lv_at hl 0 rfl) ?_
                refine nb_callV (n := 0) (As := []) (rest := []) hx hb hml hown hts hK hZ hP hS (k_X2_isMissing_45 had M N) gX6_move_X2_isMissing rfl (by decide +kernel) (nb_rm (Nat.le_of_ble_eq_true rfl) (Nat.le_of_ble_eq_true rfl)) nb_a45 rfl rfl rfl hl.1 rfl (Nat.le_of_ble_eq_true rfl) dX6_move_46 (fun H locs hP hS => ?_)
                refine W.eq (g2 := F0 m 49 ls [.int (f_X2_isMissing_45 M)]) rfl ?_
                refine lv_if_eq (tgt := 58) hx hb dX6_move_49 (by decide) (fun _ => ?_) (fun c_92 => absurd c_89 c_92)
                refine lv_aload hx hb dX6_move_58 (lv_at hl 1 rfl) ?_
                refine va_get (v := .int (M.1 45 1)) (C := RX2) (T := TX2) (N := 3) hx hb hts in2 hown hK.1 hP 45 nb_a45 rfl 1 (by decide) w_3 (fun _ h9 => h9) rfl dX6_move_60 ?_
                refine lv_aload hx hb dX6_move_63 (lv_at hl 0 rfl) ?_
                refine va_get (v := .int (M.1 45 1)) (C := RX2) (T := TX2) (N := 3) hx hb hts in2 hown hK.1 hP 45 nb_a45 rfl 1 (by decide) w_3 (fun _ h9 => h9) rfl dX6_move_65 ?_
                refine lv_icmp_eq (tgt := 77) hx hb dX6_move_68 (by decide) (fun c_93 => ?_) (fun c_93 => ?_)
                · have h := nb_t c_93 h
                  refine lv_aload hx hb dX6_move_77 (lv_at hl 1 rfl) ?_
                  refine lv_iload_n hx hb dX6_move_79 rfl (lv_at hl 4 rfl) ?_
                  refine lv_iload hx hb dX6_move_80 (lv_at hl 7 rfl) ?_
                  refine nb_callV (n := 2) (As := [.int p1, .int p4]) (rest := []) hx hb hml hown hts hK hZ hP hS (k_X2_has_45 had M N p1 p4) gX6_move_X2_has rfl (by decide +kernel) (nb_rm (Nat.le_of_ble_eq_true rfl) (Nat.le_of_ble_eq_true rfl)) nb_a45 rfl rfl rfl hl.1 rfl (Nat.le_of_ble_eq_true rfl) dX6_move_82 (fun H locs hP hS => ?_)
                  refine W.eq (g2 := F0 m 85 ls [.int (f_X2_has_45 M p1 p4)]) rfl ?_
                  refine lv_if_eq (tgt := 100) hx hb dX6_move_85 (by decide) (fun c_95 => ?_) (fun c_95 => ?_)
                  · have h := nb_t c_95 h
                    refine lv_aload_n hx hb dX6_move_100 rfl (lv_at hl 2 rfl) ?_
                    refine lv_iconst (v := (1 : Int32)) hx hb dX6_move_101 (by decide) ?_
                    obtain ⟨r_96, M_96, e_96, h⟩ := nb_pE h
                    refine nb_callV (n := 1) (As := [.int (1 : Int32)]) (rest := []) hx hb hml hown hts hK hZ hP hS (k_X6_fail had M N (1 : Int32) e_96) gX6_move_X6_fail rfl (by decide +kernel) (nb_rm (Nat.le_of_ble_eq_true rfl) (Nat.le_of_ble_eq_true rfl)) nb_a0 rfl rfl rfl hl.1 rfl (Nat.le_of_ble_eq_true rfl) dX6_move_102 (fun H locs hP hS => ?_)
                    refine W.eq (g2 := F0 m 105 ls [.int r_96]) rfl ?_
                    obtain ⟨rfl, rfl⟩ := nb_e2 h
                    exact nb_iret hx hb hr hlk hP hS dX6_move_105
                  · have h := nb_f c_95 h
                    refine lv_aload hx hb dX6_move_88 (lv_at hl 0 rfl) ?_
                    refine lv_iload hx hb dX6_move_90 (lv_at hl 6 rfl) ?_
                    refine lv_iload hx hb dX6_move_92 (lv_at hl 7 rfl) ?_
                    refine nb_callV (n := 2) (As := [.int p3, .int p4]) (rest := []) hx hb hml hown hts hK hZ hP hS (k_X2_has_45 had M N p3 p4) gX6_move_X2_has rfl (by decide +kernel) (nb_rm (Nat.le_of_ble_eq_true rfl) (Nat.le_of_ble_eq_true rfl)) nb_a45 rfl rfl rfl hl.1 rfl (Nat.le_of_ble_eq_true rfl) dX6_move_94 (fun H locs hP hS => ?_)
                    refine W.eq (g2 := F0 m 97 ls [.int (f_X2_has_45 M p3 p4)]) rfl ?_
                    refine lv_if_ne (tgt := 106) hx hb dX6_move_97 (by decide) (fun c_98 => ?_) (fun c_98 => ?_)
                    · have h := nb_f c_98 h
                      refine lv_aload hx hb dX6_move_106 (lv_at hl 1 rfl) ?_
                      refine va_get (v := .ref (ad 46)) (C := RX2) (T := TX2) (N := 3) hx hb hts in2 hown hK.1 hP 45 nb_a45 rfl 0 (by decide) w_5 (fun _ h9 => h9) rfl dX6_move_108 ?_
                      refine lv_iload_n hx hb dX6_move_111 rfl (lv_at hl 4 rfl) ?_
                      refine lv_aload hx hb dX6_move_112 (lv_at hl 0 rfl) ?_
                      refine va_get (v := .ref (ad 46)) (C := RX2) (T := TX2) (N := 3) hx hb hts in2 hown hK.1 hP 45 nb_a45 rfl 0 (by decide) w_5 (fun _ h9 => h9) rfl dX6_move_114 ?_
                      refine lv_iload hx hb dX6_move_117 (lv_at hl 6 rfl) ?_
                      refine lv_iload hx hb dX6_move_119 (lv_at hl 7 rfl) ?_
                      obtain ⟨c_99, h⟩ := nb_c h
                      refine nb_copy hx hb hml hl.1 had hown w_6 w_7 w_8 w_9 hK hP hS nb_a46 nb_a46 (Nat.le_of_ble_eq_true rfl) (Nat.le_of_ble_eq_true rfl) c_99 (nb_s46 _) dX6_move_121 (fun H locs hP hS => ?_)
                      obtain ⟨M_99, e_99, h⟩ := nb_nE h
                      rw [e_99] at hP
                      refine lv_iload hx hb dX6_move_124 (lv_at hl 7 rfl) ?_
                      obtain ⟨rfl, rfl⟩ := nb_e2 h
                      exact nb_iret hx hb hr hlk hP hS dX6_move_126
                    · have h := nb_t c_98 h
                      refine lv_aload_n hx hb dX6_move_100 rfl (lv_at hl 2 rfl) ?_
                      refine lv_iconst (v := (1 : Int32)) hx hb dX6_move_101 (by decide) ?_
                      obtain ⟨r_100, M_100, e_100, h⟩ := nb_pE h
                      refine nb_callV (n := 1) (As := [.int (1 : Int32)]) (rest := []) hx hb hml hown hts hK hZ hP hS (k_X6_fail had M N (1 : Int32) e_100) gX6_move_X6_fail rfl (by decide +kernel) (nb_rm (Nat.le_of_ble_eq_true rfl) (Nat.le_of_ble_eq_true rfl)) nb_a0 rfl rfl rfl hl.1 rfl (Nat.le_of_ble_eq_true rfl) dX6_move_102 (fun H locs hP hS => ?_)
                      refine W.eq (g2 := F0 m 105 ls [.int r_100]) rfl ?_
                      obtain ⟨rfl, rfl⟩ := nb_e2 h
                      exact nb_iret hx hb hr hlk hP hS dX6_move_105
                · have h := nb_f c_93 h
                  refine lv_aload_n hx hb dX6_move_71 rfl (lv_at hl 2 rfl) ?_
                  refine lv_iconst (v := (5 : Int32)) hx hb dX6_move_72 (by decide) ?_
                  obtain ⟨r_101, M_101, e_101, h⟩ := nb_pE h
                  refine nb_callV (n := 1) (As := [.int (5 : Int32)]) (rest := []) hx hb hml hown hts hK hZ hP hS (k_X6_fail had M N (5 : Int32) e_101) gX6_move_X6_fail rfl (by decide +kernel) (nb_rm (Nat.le_of_ble_eq_true rfl) (Nat.le_of_ble_eq_true rfl)) nb_a0 rfl rfl rfl hl.1 rfl (Nat.le_of_ble_eq_true rfl) dX6_move_73 (fun H locs hP hS => ?_)
                  refine W.eq (g2 := F0 m 76 ls [.int r_101]) rfl ?_
                  obtain ⟨rfl, rfl⟩ := nb_e2 h
                  exact nb_iret hx hb hr hlk hP hS dX6_move_76
            · have h := nb_f c_87 h
              by_cases c_102 : p2 = 2
              · have h := nb_t c_102 h
                refine nb_ald (t0 := 3) (E := RX2) (v := (2 : Int32)) hx hb hK hP nb_a42 rfl c_102 (nb_lit rfl) rfl dX6_move_33 ?_
                refine lv_astore (lv' := [(7, .ref (ad 47)), (6, .ref (ad 45)), (0, .ref (ad 0)), (1, .int p0), (2, .int p1), (3, .int p2), (4, .int p3), (5, .int p4)]) hx hb dX6_move_34 hl (by decide) rfl (fun ls hl => ?_)
                refine lv_aload hx hb dX6_move_36 (lv_at hl 1 rfl) ?_
                refine nb_callV (n := 0) (As := []) (rest := []) hx hb hml hown hts hK hZ hP hS (k_X2_isMissing_45 had M N) gX6_move_X2_isMissing rfl (by decide +kernel) (nb_rm (Nat.le_of_ble_eq_true rfl) (Nat.le_of_ble_eq_true rfl)) nb_a45 rfl rfl rfl hl.1 rfl (Nat.le_of_ble_eq_true rfl) dX6_move_38 (fun H locs hP hS => ?_)
                refine W.eq (g2 := F0 m 41 ls [.int (f_X2_isMissing_45 M)]) rfl ?_
                refine lv_if_ne (tgt := 52) hx hb dX6_move_41 (by decide) (fun c_104 => ?_) (fun c_104 => ?_)
                · have h := nb_f c_104 h
                  refine lv_aload_n hx hb dX6_move_52 rfl (lv_at hl 2 rfl) ?_
                  refine lv_iconst (v := (2 : Int32)) hx hb dX6_move_53 (by decide) ?_
                  obtain ⟨r_105, M_105, e_105, h⟩ := nb_pE h
                  refine nb_callV (n := 1) (As := [.int (2 : Int32)]) (rest := []) hx hb hml hown hts hK hZ hP hS (k_X6_fail had M N (2 : Int32) e_105) gX6_move_X6_fail rfl (by decide +kernel) (nb_rm (Nat.le_of_ble_eq_true rfl) (Nat.le_of_ble_eq_true rfl)) nb_a0 rfl rfl rfl hl.1 rfl (Nat.le_of_ble_eq_true rfl) dX6_move_54 (fun H locs hP hS => ?_)
                  refine W.eq (g2 := F0 m 57 ls [.int r_105]) rfl ?_
                  obtain ⟨rfl, rfl⟩ := nb_e2 h
                  exact nb_iret hx hb hr hlk hP hS dX6_move_57
                · have h := nb_t c_104 h
                  refine lv_aload hx hb dX6_move_44 (lv_at hl 0 rfl) ?_
                  refine nb_callV (n := 0) (As := []) (rest := []) hx hb hml hown hts hK hZ hP hS (k_X2_isMissing_47 had M N) gX6_move_X2_isMissing rfl (by decide +kernel) (nb_rm (Nat.le_of_ble_eq_true rfl) (Nat.le_of_ble_eq_true rfl)) nb_a47 rfl rfl rfl hl.1 rfl (Nat.le_of_ble_eq_true rfl) dX6_move_46 (fun H locs hP hS => ?_)
                  refine W.eq (g2 := F0 m 49 ls [.int (f_X2_isMissing_47 M)]) rfl ?_
                  refine lv_if_eq (tgt := 58) hx hb dX6_move_49 (by decide) (fun c_107 => ?_) (fun c_107 => ?_)
                  · have h := nb_t c_107 h
                    refine lv_aload hx hb dX6_move_58 (lv_at hl 1 rfl) ?_
                    refine va_get (v := .int (M.1 45 1)) (C := RX2) (T := TX2) (N := 3) hx hb hts in2 hown hK.1 hP 45 nb_a45 rfl 1 (by decide) w_3 (fun _ h9 => h9) rfl dX6_move_60 ?_
                    refine lv_aload hx hb dX6_move_63 (lv_at hl 0 rfl) ?_
                    refine va_get (v := .int (M.1 47 1)) (C := RX2) (T := TX2) (N := 3) hx hb hts in2 hown hK.1 hP 47 nb_a47 rfl 1 (by decide) w_3 (fun _ h9 => h9) rfl dX6_move_65 ?_
                    refine lv_icmp_eq (tgt := 77) hx hb dX6_move_68 (by decide) (fun c_108 => ?_) (fun c_108 => ?_)
                    · have h := nb_t c_108 h
                      refine lv_aload hx hb dX6_move_77 (lv_at hl 1 rfl) ?_
                      refine lv_iload_n hx hb dX6_move_79 rfl (lv_at hl 4 rfl) ?_
                      refine lv_iload hx hb dX6_move_80 (lv_at hl 7 rfl) ?_
                      refine nb_callV (n := 2) (As := [.int p1, .int p4]) (rest := []) hx hb hml hown hts hK hZ hP hS (k_X2_has_45 had M N p1 p4) gX6_move_X2_has rfl (by decide +kernel) (nb_rm (Nat.le_of_ble_eq_true rfl) (Nat.le_of_ble_eq_true rfl)) nb_a45 rfl rfl rfl hl.1 rfl (Nat.le_of_ble_eq_true rfl) dX6_move_82 (fun H locs hP hS => ?_)
                      refine W.eq (g2 := F0 m 85 ls [.int (f_X2_has_45 M p1 p4)]) rfl ?_
                      refine lv_if_eq (tgt := 100) hx hb dX6_move_85 (by decide) (fun c_110 => ?_) (fun c_110 => ?_)
                      · have h := nb_t c_110 h
                        refine lv_aload_n hx hb dX6_move_100 rfl (lv_at hl 2 rfl) ?_
                        refine lv_iconst (v := (1 : Int32)) hx hb dX6_move_101 (by decide) ?_
                        obtain ⟨r_111, M_111, e_111, h⟩ := nb_pE h
                        refine nb_callV (n := 1) (As := [.int (1 : Int32)]) (rest := []) hx hb hml hown hts hK hZ hP hS (k_X6_fail had M N (1 : Int32) e_111) gX6_move_X6_fail rfl (by decide +kernel) (nb_rm (Nat.le_of_ble_eq_true rfl) (Nat.le_of_ble_eq_true rfl)) nb_a0 rfl rfl rfl hl.1 rfl (Nat.le_of_ble_eq_true rfl) dX6_move_102 (fun H locs hP hS => ?_)
                        refine W.eq (g2 := F0 m 105 ls [.int r_111]) rfl ?_
                        obtain ⟨rfl, rfl⟩ := nb_e2 h
                        exact nb_iret hx hb hr hlk hP hS dX6_move_105
                      · have h := nb_f c_110 h
                        refine lv_aload hx hb dX6_move_88 (lv_at hl 0 rfl) ?_
                        refine lv_iload hx hb dX6_move_90 (lv_at hl 6 rfl) ?_
                        refine lv_iload hx hb dX6_move_92 (lv_at hl 7 rfl) ?_
                        refine nb_callV (n := 2) (As := [.int p3, .int p4]) (rest := []) hx hb hml hown hts hK hZ hP hS (k_X2_has_47 had M N p3 p4) gX6_move_X2_has rfl (by decide +kernel) (nb_rm (Nat.le_of_ble_eq_true rfl) (Nat.le_of_ble_eq_true rfl)) nb_a47 rfl rfl rfl hl.1 rfl (Nat.le_of_ble_eq_true rfl) dX6_move_94 (fun H locs hP hS => ?_)
                        refine W.eq (g2 := F0 m 97 ls [.int (f_X2_has_47 M p3 p4)]) rfl ?_
                        refine lv_if_ne (tgt := 106) hx hb dX6_move_97 (by decide) (fun c_113 => ?_) (fun c_113 => ?_)
                        · have h := nb_f c_113 h
                          refine lv_aload hx hb dX6_move_106 (lv_at hl 1 rfl) ?_
                          refine va_get (v := .ref (ad 46)) (C := RX2) (T := TX2) (N := 3) hx hb hts in2 hown hK.1 hP 45 nb_a45 rfl 0 (by decide) w_5 (fun _ h9 => h9) rfl dX6_move_108 ?_
                          refine lv_iload_n hx hb dX6_move_111 rfl (lv_at hl 4 rfl) ?_
                          refine lv_aload hx hb dX6_move_112 (lv_at hl 0 rfl) ?_
                          refine va_get (v := .ref (ad 48)) (C := RX2) (T := TX2) (N := 3) hx hb hts in2 hown hK.1 hP 47 nb_a47 rfl 0 (by decide) w_5 (fun _ h9 => h9) rfl dX6_move_114 ?_
                          refine lv_iload hx hb dX6_move_117 (lv_at hl 6 rfl) ?_
                          refine lv_iload hx hb dX6_move_119 (lv_at hl 7 rfl) ?_
                          obtain ⟨c_114, h⟩ := nb_c h
                          refine nb_copy hx hb hml hl.1 had hown w_6 w_7 w_8 w_9 hK hP hS nb_a46 nb_a48 (Nat.le_of_ble_eq_true rfl) (Nat.le_of_ble_eq_true rfl) c_114 (nb_s48 _) dX6_move_121 (fun H locs hP hS => ?_)
                          obtain ⟨M_114, e_114, h⟩ := nb_nE h
                          rw [e_114] at hP
                          refine lv_iload hx hb dX6_move_124 (lv_at hl 7 rfl) ?_
                          obtain ⟨rfl, rfl⟩ := nb_e2 h
                          exact nb_iret hx hb hr hlk hP hS dX6_move_126
                        · have h := nb_t c_113 h
                          refine lv_aload_n hx hb dX6_move_100 rfl (lv_at hl 2 rfl) ?_
                          refine lv_iconst (v := (1 : Int32)) hx hb dX6_move_101 (by decide) ?_
                          obtain ⟨r_115, M_115, e_115, h⟩ := nb_pE h
                          refine nb_callV (n := 1) (As := [.int (1 : Int32)]) (rest := []) hx hb hml hown hts hK hZ hP hS (k_X6_fail had M N (1 : Int32) e_115) gX6_move_X6_fail rfl (by decide +kernel) (nb_rm (Nat.le_of_ble_eq_true rfl) (Nat.le_of_ble_eq_true rfl)) nb_a0 rfl rfl rfl hl.1 rfl (Nat.le_of_ble_eq_true rfl) dX6_move_102 (fun H locs hP hS => ?_)
                          refine W.eq (g2 := F0 m 105 ls [.int r_115]) rfl ?_
                          obtain ⟨rfl, rfl⟩ := nb_e2 h
                          exact nb_iret hx hb hr hlk hP hS dX6_move_105
                    · have h := nb_f c_108 h
                      refine lv_aload_n hx hb dX6_move_71 rfl (lv_at hl 2 rfl) ?_
                      refine lv_iconst (v := (5 : Int32)) hx hb dX6_move_72 (by decide) ?_
                      obtain ⟨r_116, M_116, e_116, h⟩ := nb_pE h
                      refine nb_callV (n := 1) (As := [.int (5 : Int32)]) (rest := []) hx hb hml hown hts hK hZ hP hS (k_X6_fail had M N (5 : Int32) e_116) gX6_move_X6_fail rfl (by decide +kernel) (nb_rm (Nat.le_of_ble_eq_true rfl) (Nat.le_of_ble_eq_true rfl)) nb_a0 rfl rfl rfl hl.1 rfl (Nat.le_of_ble_eq_true rfl) dX6_move_73 (fun H locs hP hS => ?_)
                      refine W.eq (g2 := F0 m 76 ls [.int r_116]) rfl ?_
                      obtain ⟨rfl, rfl⟩ := nb_e2 h
                      exact nb_iret hx hb hr hlk hP hS dX6_move_76
                  · have h := nb_f c_107 h
                    refine lv_aload_n hx hb dX6_move_52 rfl (lv_at hl 2 rfl) ?_
                    refine lv_iconst (v := (2 : Int32)) hx hb dX6_move_53 (by decide) ?_
                    obtain ⟨r_117, M_117, e_117, h⟩ := nb_pE h
                    refine nb_callV (n := 1) (As := [.int (2 : Int32)]) (rest := []) hx hb hml hown hts hK hZ hP hS (k_X6_fail had M N (2 : Int32) e_117) gX6_move_X6_fail rfl (by decide +kernel) (nb_rm (Nat.le_of_ble_eq_true rfl) (Nat.le_of_ble_eq_true rfl)) nb_a0 rfl rfl rfl hl.1 rfl (Nat.le_of_ble_eq_true rfl) dX6_move_54 (fun H locs hP hS => ?_)
                    refine W.eq (g2 := F0 m 57 ls [.int r_117]) rfl ?_
                    obtain ⟨rfl, rfl⟩ := nb_e2 h
                    exact nb_iret hx hb hr hlk hP hS dX6_move_57
              · have h := nb_f c_102 h
                by_cases c_118 : p2 = 3
                · have h := nb_t c_118 h
                  refine nb_ald (t0 := 3) (E := RX2) (v := (3 : Int32)) hx hb hK hP nb_a42 rfl c_118 (nb_lit rfl) rfl dX6_move_33 ?_
                  refine lv_astore (lv' := [(7, .ref (ad 49)), (6, .ref (ad 45)), (0, .ref (ad 0)), (1, .int p0), (2, .int p1), (3, .int p2), (4, .int p3), (5, .int p4)]) hx hb dX6_move_34 hl (by decide) rfl (fun ls hl => ?_)
                  refine lv_aload hx hb dX6_move_36 (lv_at hl 1 rfl) ?_
                  refine nb_callV (n := 0) (As := []) (rest := []) hx hb hml hown hts hK hZ hP hS (k_X2_isMissing_45 had M N) gX6_move_X2_isMissing rfl (by decide +kernel) (nb_rm (Nat.le_of_ble_eq_true rfl) (Nat.le_of_ble_eq_true rfl)) nb_a45 rfl rfl rfl hl.1 rfl (Nat.le_of_ble_eq_true rfl) dX6_move_38 (fun H locs hP hS => ?_)
                  refine W.eq (g2 := F0 m 41 ls [.int (f_X2_isMissing_45 M)]) rfl ?_
                  refine lv_if_ne (tgt := 52) hx hb dX6_move_41 (by decide) (fun c_120 => ?_) (fun c_120 => ?_)
                  · have h := nb_f c_120 h
                    refine lv_aload_n hx hb dX6_move_52 rfl (lv_at hl 2 rfl) ?_
                    refine lv_iconst (v := (2 : Int32)) hx hb dX6_move_53 (by decide) ?_
                    obtain ⟨r_121, M_121, e_121, h⟩ := nb_pE h
                    refine nb_callV (n := 1) (As := [.int (2 : Int32)]) (rest := []) hx hb hml hown hts hK hZ hP hS (k_X6_fail had M N (2 : Int32) e_121) gX6_move_X6_fail rfl (by decide +kernel) (nb_rm (Nat.le_of_ble_eq_true rfl) (Nat.le_of_ble_eq_true rfl)) nb_a0 rfl rfl rfl hl.1 rfl (Nat.le_of_ble_eq_true rfl) dX6_move_54 (fun H locs hP hS => ?_)
                    refine W.eq (g2 := F0 m 57 ls [.int r_121]) rfl ?_
                    obtain ⟨rfl, rfl⟩ := nb_e2 h
                    exact nb_iret hx hb hr hlk hP hS dX6_move_57
                  · have h := nb_t c_120 h
                    refine lv_aload hx hb dX6_move_44 (lv_at hl 0 rfl) ?_
                    refine nb_callV (n := 0) (As := []) (rest := []) hx hb hml hown hts hK hZ hP hS (k_X2_isMissing_49 had M N) gX6_move_X2_isMissing rfl (by decide +kernel) (nb_rm (Nat.le_of_ble_eq_true rfl) (Nat.le_of_ble_eq_true rfl)) nb_a49 rfl rfl rfl hl.1 rfl (Nat.le_of_ble_eq_true rfl) dX6_move_46 (fun H locs hP hS => ?_)
                    refine W.eq (g2 := F0 m 49 ls [.int (f_X2_isMissing_49 M)]) rfl ?_
                    refine lv_if_eq (tgt := 58) hx hb dX6_move_49 (by decide) (fun c_123 => ?_) (fun c_123 => ?_)
                    · have h := nb_t c_123 h
                      refine lv_aload hx hb dX6_move_58 (lv_at hl 1 rfl) ?_
                      refine va_get (v := .int (M.1 45 1)) (C := RX2) (T := TX2) (N := 3) hx hb hts in2 hown hK.1 hP 45 nb_a45 rfl 1 (by decide) w_3 (fun _ h9 => h9) rfl dX6_move_60 ?_
                      refine lv_aload hx hb dX6_move_63 (lv_at hl 0 rfl) ?_
                      refine va_get (v := .int (M.1 49 1)) (C := RX2) (T := TX2) (N := 3) hx hb hts in2 hown hK.1 hP 49 nb_a49 rfl 1 (by decide) w_3 (fun _ h9 => h9) rfl dX6_move_65 ?_
                      refine lv_icmp_eq (tgt := 77) hx hb dX6_move_68 (by decide) (fun c_124 => ?_) (fun c_124 => ?_)
                      · have h := nb_t c_124 h
                        refine lv_aload hx hb dX6_move_77 (lv_at hl 1 rfl) ?_
                        refine lv_iload_n hx hb dX6_move_79 rfl (lv_at hl 4 rfl) ?_
                        refine lv_iload hx hb dX6_move_80 (lv_at hl 7 rfl) ?_
                        refine nb_callV (n := 2) (As := [.int p1, .int p4]) (rest := []) hx hb hml hown hts hK hZ hP hS (k_X2_has_45 had M N p1 p4) gX6_move_X2_has rfl (by decide +kernel) (nb_rm (Nat.le_of_ble_eq_true rfl) (Nat.le_of_ble_eq_true rfl)) nb_a45 rfl rfl rfl hl.1 rfl (Nat.le_of_ble_eq_true rfl) dX6_move_82 (fun H locs hP hS => ?_)
                        refine W.eq (g2 := F0 m 85 ls [.int (f_X2_has_45 M p1 p4)]) rfl ?_
                        refine lv_if_eq (tgt := 100) hx hb dX6_move_85 (by decide) (fun c_126 => ?_) (fun c_126 => ?_)
                        · have h := nb_t c_126 h
                          refine lv_aload_n hx hb dX6_move_100 rfl (lv_at hl 2 rfl) ?_
                          refine lv_iconst (v := (1 : Int32)) hx hb dX6_move_101 (by decide) ?_
                          obtain ⟨r_127, M_127, e_127, h⟩ := nb_pE h
                          refine nb_callV (n := 1) (As := [.int (1 : Int32)]) (rest := []) hx hb hml hown hts hK hZ hP hS (k_X6_fail had M N (1 : Int32) e_127) gX6_move_X6_fail rfl (by decide +kernel) (nb_rm (Nat.le_of_ble_eq_true rfl) (Nat.le_of_ble_eq_true rfl)) nb_a0 rfl rfl rfl hl.1 rfl (Nat.le_of_ble_eq_true rfl) dX6_move_102 (fun H locs hP hS => ?_)
                          refine W.eq (g2 := F0 m 105 ls [.int r_127]) rfl ?_
                          obtain ⟨rfl, rfl⟩ := nb_e2 h
                          exact nb_iret hx hb hr hlk hP hS dX6_move_105
                        · have h := nb_f c_126 h
                          refine lv_aload hx hb dX6_move_88 (lv_at hl 0 rfl) ?_
                          refine lv_iload hx hb dX6_move_90 (lv_at hl 6 rfl) ?_
                          refine lv_iload hx hb dX6_move_92 (lv_at hl 7 rfl) ?_
                          refine nb_callV (n := 2) (As := [.int p3, .int p4]) (rest := []) hx hb hml hown hts hK hZ hP hS (k_X2_has_49 had M N p3 p4) gX6_move_X2_has rfl (by decide +kernel) (nb_rm (Nat.le_of_ble_eq_true rfl) (Nat.le_of_ble_eq_true rfl)) nb_a49 rfl rfl rfl hl.1 rfl (Nat.le_of_ble_eq_true rfl) dX6_move_94 (fun H locs hP hS => ?_)
                          refine W.eq (g2 := F0 m 97 ls [.int (f_X2_has_49 M p3 p4)]) rfl ?_
                          refine lv_if_ne (tgt := 106) hx hb dX6_move_97 (by decide) (fun c_129 => ?_) (fun c_129 => ?_)
                          · have h := nb_f c_129 h
                            refine lv_aload hx hb dX6_move_106 (lv_at hl 1 rfl) ?_
                            refine va_get (v := .ref (ad 46)) (C := RX2) (T := TX2) (N := 3) hx hb hts in2 hown hK.1 hP 45 nb_a45 rfl 0 (by decide) w_5 (fun _ h9 => h9) rfl dX6_move_108 ?_
                            refine lv_iload_n hx hb dX6_move_111 rfl (lv_at hl 4 rfl) ?_
                            refine lv_aload hx hb dX6_move_112 (lv_at hl 0 rfl) ?_
                            refine va_get (v := .ref (ad 50)) (C := RX2) (T := TX2) (N := 3) hx hb hts in2 hown hK.1 hP 49 nb_a49 rfl 0 (by decide) w_5 (fun _ h9 => h9) rfl dX6_move_114 ?_
                            refine lv_iload hx hb dX6_move_117 (lv_at hl 6 rfl) ?_
                            refine lv_iload hx hb dX6_move_119 (lv_at hl 7 rfl) ?_
                            obtain ⟨c_130, h⟩ := nb_c h
                            refine nb_copy hx hb hml hl.1 had hown w_6 w_7 w_8 w_9 hK hP hS nb_a46 nb_a50 (Nat.le_of_ble_eq_true rfl) (Nat.le_of_ble_eq_true rfl) c_130 (nb_s50 _) dX6_move_121 (fun H locs hP hS => ?_)
                            obtain ⟨M_130, e_130, h⟩ := nb_nE h
                            rw [e_130] at hP
                            refine lv_iload hx hb dX6_move_124 (lv_at hl 7 rfl) ?_
                            obtain ⟨rfl, rfl⟩ := nb_e2 h
                            exact nb_iret hx hb hr hlk hP hS dX6_move_126
                          · have h := nb_t c_129 h
                            refine lv_aload_n hx hb dX6_move_100 rfl (lv_at hl 2 rfl) ?_
                            refine lv_iconst (v := (1 : Int32)) hx hb dX6_move_101 (by decide) ?_
                            obtain ⟨r_131, M_131, e_131, h⟩ := nb_pE h
                            refine nb_callV (n := 1) (As := [.int (1 : Int32)]) (rest := []) hx hb hml hown hts hK hZ hP hS (k_X6_fail had M N (1 : Int32) e_131) gX6_move_X6_fail rfl (by decide +kernel) (nb_rm (Nat.le_of_ble_eq_true rfl) (Nat.le_of_ble_eq_true rfl)) nb_a0 rfl rfl rfl hl.1 rfl (Nat.le_of_ble_eq_true rfl) dX6_move_102 (fun H locs hP hS => ?_)
                            refine W.eq (g2 := F0 m 105 ls [.int r_131]) rfl ?_
                            obtain ⟨rfl, rfl⟩ := nb_e2 h
                            exact nb_iret hx hb hr hlk hP hS dX6_move_105
                      · have h := nb_f c_124 h
                        refine lv_aload_n hx hb dX6_move_71 rfl (lv_at hl 2 rfl) ?_
                        refine lv_iconst (v := (5 : Int32)) hx hb dX6_move_72 (by decide) ?_
                        obtain ⟨r_132, M_132, e_132, h⟩ := nb_pE h
                        refine nb_callV (n := 1) (As := [.int (5 : Int32)]) (rest := []) hx hb hml hown hts hK hZ hP hS (k_X6_fail had M N (5 : Int32) e_132) gX6_move_X6_fail rfl (by decide +kernel) (nb_rm (Nat.le_of_ble_eq_true rfl) (Nat.le_of_ble_eq_true rfl)) nb_a0 rfl rfl rfl hl.1 rfl (Nat.le_of_ble_eq_true rfl) dX6_move_73 (fun H locs hP hS => ?_)
                        refine W.eq (g2 := F0 m 76 ls [.int r_132]) rfl ?_
                        obtain ⟨rfl, rfl⟩ := nb_e2 h
                        exact nb_iret hx hb hr hlk hP hS dX6_move_76
                    · have h := nb_f c_123 h
                      refine lv_aload_n hx hb dX6_move_52 rfl (lv_at hl 2 rfl) ?_
                      refine lv_iconst (v := (2 : Int32)) hx hb dX6_move_53 (by decide) ?_
                      obtain ⟨r_133, M_133, e_133, h⟩ := nb_pE h
                      refine nb_callV (n := 1) (As := [.int (2 : Int32)]) (rest := []) hx hb hml hown hts hK hZ hP hS (k_X6_fail had M N (2 : Int32) e_133) gX6_move_X6_fail rfl (by decide +kernel) (nb_rm (Nat.le_of_ble_eq_true rfl) (Nat.le_of_ble_eq_true rfl)) nb_a0 rfl rfl rfl hl.1 rfl (Nat.le_of_ble_eq_true rfl) dX6_move_54 (fun H locs hP hS => ?_)
                      refine W.eq (g2 := F0 m 57 ls [.int r_133]) rfl ?_
                      obtain ⟨rfl, rfl⟩ := nb_e2 h
                      exact nb_iret hx hb hr hlk hP hS dX6_move_57
                · have h := nb_f c_118 h
                  cases h
        · have h := nb_f c_70 h
          by_cases c_134 : p0 = 2
          · have h := nb_t c_134 h
            refine nb_ald (t0 := 3) (E := RX2) (v := (2 : Int32)) hx hb hK hP nb_a42 rfl c_134 (nb_lit rfl) rfl dX6_move_25 ?_
            refine lv_astore (lv' := [(6, .ref (ad 47)), (0, .ref (ad 0)), (1, .int p0), (2, .int p1), (3, .int p2), (4, .int p3), (5, .int p4)]) hx hb dX6_move_26 hl (by decide) rfl (fun ls hl => ?_)
            refine lv_aload_n hx hb dX6_move_28 rfl (lv_at hl 1 rfl) ?_
            refine va_get (v := .ref (ad 42)) (C := RX6) (T := TX6) (N := 8) hx hb hts in6 hown hK.1 hP 0 nb_a0 rfl 5 (by decide) w_1 (fun _ h9 => h9) rfl dX6_move_29 ?_
            refine lv_iload_n hx hb dX6_move_32 rfl (lv_at hl 4 rfl) ?_
            by_cases c_135 : p2 = 0
            · have h := nb_t c_135 h
              refine nb_ald (t0 := 3) (E := RX2) (v := (0 : Int32)) hx hb hK hP nb_a42 rfl c_135 (nb_lit rfl) rfl dX6_move_33 ?_
              refine lv_astore (lv' := [(7, .ref (ad 43)), (6, .ref (ad 47)), (0, .ref (ad 0)), (1, .int p0), (2, .int p1), (3, .int p2), (4, .int p3), (5, .int p4)]) hx hb dX6_move_34 hl (by decide) rfl (fun ls hl => ?_)
              refine lv_aload hx hb dX6_move_36 (lv_at hl 1 rfl) ?_
              refine nb_callV (n := 0) (As := []) (rest := []) hx hb hml hown hts hK hZ hP hS (k_X2_isMissing_47 had M N) gX6_move_X2_isMissing rfl (by decide +kernel) (nb_rm (Nat.le_of_ble_eq_true rfl) (Nat.le_of_ble_eq_true rfl)) nb_a47 rfl rfl rfl hl.1 rfl (Nat.le_of_ble_eq_true rfl) dX6_move_38 (fun H locs hP hS => ?_)
              refine W.eq (g2 := F0 m 41 ls [.int (f_X2_isMissing_47 M)]) rfl ?_
              refine lv_if_ne (tgt := 52) hx hb dX6_move_41 (by decide) (fun c_137 => ?_) (fun c_137 => ?_)
              · have h := nb_f c_137 h
                refine lv_aload_n hx hb dX6_move_52 rfl (lv_at hl 2 rfl) ?_
                refine lv_iconst (v := (2 : Int32)) hx hb dX6_move_53 (by decide) ?_
                obtain ⟨r_138, M_138, e_138, h⟩ := nb_pE h
                refine nb_callV (n := 1) (As := [.int (2 : Int32)]) (rest := []) hx hb hml hown hts hK hZ hP hS (k_X6_fail had M N (2 : Int32) e_138) gX6_move_X6_fail rfl (by decide +kernel) (nb_rm (Nat.le_of_ble_eq_true rfl) (Nat.le_of_ble_eq_true rfl)) nb_a0 rfl rfl rfl hl.1 rfl (Nat.le_of_ble_eq_true rfl) dX6_move_54 (fun H locs hP hS => ?_)
                refine W.eq (g2 := F0 m 57 ls [.int r_138]) rfl ?_
                obtain ⟨rfl, rfl⟩ := nb_e2 h
                exact nb_iret hx hb hr hlk hP hS dX6_move_57
              · have h := nb_t c_137 h
                refine lv_aload hx hb dX6_move_44 (lv_at hl 0 rfl) ?_
                refine nb_callV (n := 0) (As := []) (rest := []) hx hb hml hown hts hK hZ hP hS (k_X2_isMissing_43 had M N) gX6_move_X2_isMissing rfl (by decide +kernel) (nb_rm (Nat.le_of_ble_eq_true rfl) (Nat.le_of_ble_eq_true rfl)) nb_a43 rfl rfl rfl hl.1 rfl (Nat.le_of_ble_eq_true rfl) dX6_move_46 (fun H locs hP hS => ?_)
                refine W.eq (g2 := F0 m 49 ls [.int (f_X2_isMissing_43 M)]) rfl ?_
                refine lv_if_eq (tgt := 58) hx hb dX6_move_49 (by decide) (fun c_140 => ?_) (fun c_140 => ?_)
                · have h := nb_t c_140 h
                  refine lv_aload hx hb dX6_move_58 (lv_at hl 1 rfl) ?_
                  refine va_get (v := .int (M.1 47 1)) (C := RX2) (T := TX2) (N := 3) hx hb hts in2 hown hK.1 hP 47 nb_a47 rfl 1 (by decide) w_3 (fun _ h9 => h9) rfl dX6_move_60 ?_
                  refine lv_aload hx hb dX6_move_63 (lv_at hl 0 rfl) ?_
                  refine va_get (v := .int (M.1 43 1)) (C := RX2) (T := TX2) (N := 3) hx hb hts in2 hown hK.1 hP 43 nb_a43 rfl 1 (by decide) w_3 (fun _ h9 => h9) rfl dX6_move_65 ?_
                  refine lv_icmp_eq (tgt := 77) hx hb dX6_move_68 (by decide) (fun c_141 => ?_) (fun c_141 => ?_)
                  · have h := nb_t c_141 h
                    refine lv_aload hx hb dX6_move_77 (lv_at hl 1 rfl) ?_
                    refine lv_iload_n hx hb dX6_move_79 rfl (lv_at hl 4 rfl) ?_
                    refine lv_iload hx hb dX6_move_80 (lv_at hl 7 rfl) ?_
                    refine nb_callV (n := 2) (As := [.int p1, .int p4]) (rest := []) hx hb hml hown hts hK hZ hP hS (k_X2_has_47 had M N p1 p4) gX6_move_X2_has rfl (by decide +kernel) (nb_rm (Nat.le_of_ble_eq_true rfl) (Nat.le_of_ble_eq_true rfl)) nb_a47 rfl rfl rfl hl.1 rfl (Nat.le_of_ble_eq_true rfl) dX6_move_82 (fun H locs hP hS => ?_)
                    refine W.eq (g2 := F0 m 85 ls [.int (f_X2_has_47 M p1 p4)]) rfl ?_
                    refine lv_if_eq (tgt := 100) hx hb dX6_move_85 (by decide) (fun c_143 => ?_) (fun c_143 => ?_)
                    · have h := nb_t c_143 h
                      refine lv_aload_n hx hb dX6_move_100 rfl (lv_at hl 2 rfl) ?_
                      refine lv_iconst (v := (1 : Int32)) hx hb dX6_move_101 (by decide) ?_
                      obtain ⟨r_144, M_144, e_144, h⟩ := nb_pE h
                      refine nb_callV (n := 1) (As := [.int (1 : Int32)]) (rest := []) hx hb hml hown hts hK hZ hP hS (k_X6_fail had M N (1 : Int32) e_144) gX6_move_X6_fail rfl (by decide +kernel) (nb_rm (Nat.le_of_ble_eq_true rfl) (Nat.le_of_ble_eq_true rfl)) nb_a0 rfl rfl rfl hl.1 rfl (Nat.le_of_ble_eq_true rfl) dX6_move_102 (fun H locs hP hS => ?_)
                      refine W.eq (g2 := F0 m 105 ls [.int r_144]) rfl ?_
                      obtain ⟨rfl, rfl⟩ := nb_e2 h
                      exact nb_iret hx hb hr hlk hP hS dX6_move_105
                    · have h := nb_f c_143 h
                      refine lv_aload hx hb dX6_move_88 (lv_at hl 0 rfl) ?_
                      refine lv_iload hx hb dX6_move_90 (lv_at hl 6 rfl) ?_
                      refine lv_iload hx hb dX6_move_92 (lv_at hl 7 rfl) ?_
                      refine nb_callV (n := 2) (As := [.int p3, .int p4]) (rest := []) hx hb hml hown hts hK hZ hP hS (k_X2_has_43 had M N p3 p4) gX6_move_X2_has rfl (by decide +kernel) (nb_rm (Nat.le_of_ble_eq_true rfl) (Nat.le_of_ble_eq_true rfl)) nb_a43 rfl rfl rfl hl.1 rfl (Nat.le_of_ble_eq_true rfl) dX6_move_94 (fun H locs hP hS => ?_)
                      refine W.eq (g2 := F0 m 97 ls [.int (f_X2_has_43 M p3 p4)]) rfl ?_
                      refine lv_if_ne (tgt := 106) hx hb dX6_move_97 (by decide) (fun c_146 => ?_) (fun c_146 => ?_)
                      · have h := nb_f c_146 h
                        refine lv_aload hx hb dX6_move_106 (lv_at hl 1 rfl) ?_
                        refine va_get (v := .ref (ad 48)) (C := RX2) (T := TX2) (N := 3) hx hb hts in2 hown hK.1 hP 47 nb_a47 rfl 0 (by decide) w_5 (fun _ h9 => h9) rfl dX6_move_108 ?_
                        refine lv_iload_n hx hb dX6_move_111 rfl (lv_at hl 4 rfl) ?_
                        refine lv_aload hx hb dX6_move_112 (lv_at hl 0 rfl) ?_
                        refine va_get (v := .ref (ad 44)) (C := RX2) (T := TX2) (N := 3) hx hb hts in2 hown hK.1 hP 43 nb_a43 rfl 0 (by decide) w_5 (fun _ h9 => h9) rfl dX6_move_114 ?_
                        refine lv_iload hx hb dX6_move_117 (lv_at hl 6 rfl) ?_
                        refine lv_iload hx hb dX6_move_119 (lv_at hl 7 rfl) ?_
                        obtain ⟨c_147, h⟩ := nb_c h
                        refine nb_copy hx hb hml hl.1 had hown w_6 w_7 w_8 w_9 hK hP hS nb_a48 nb_a44 (Nat.le_of_ble_eq_true rfl) (Nat.le_of_ble_eq_true rfl) c_147 (nb_s44 _) dX6_move_121 (fun H locs hP hS => ?_)
                        obtain ⟨M_147, e_147, h⟩ := nb_nE h
                        rw [e_147] at hP
                        refine lv_iload hx hb dX6_move_124 (lv_at hl 7 rfl) ?_
                        obtain ⟨rfl, rfl⟩ := nb_e2 h
                        exact nb_iret hx hb hr hlk hP hS dX6_move_126
                      · have h := nb_t c_146 h
                        refine lv_aload_n hx hb dX6_move_100 rfl (lv_at hl 2 rfl) ?_
                        refine lv_iconst (v := (1 : Int32)) hx hb dX6_move_101 (by decide) ?_
                        obtain ⟨r_148, M_148, e_148, h⟩ := nb_pE h
                        refine nb_callV (n := 1) (As := [.int (1 : Int32)]) (rest := []) hx hb hml hown hts hK hZ hP hS (k_X6_fail had M N (1 : Int32) e_148) gX6_move_X6_fail rfl (by decide +kernel) (nb_rm (Nat.le_of_ble_eq_true rfl) (Nat.le_of_ble_eq_true rfl)) nb_a0 rfl rfl rfl hl.1 rfl (Nat.le_of_ble_eq_true rfl) dX6_move_102 (fun H locs hP hS => ?_)
                        refine W.eq (g2 := F0 m 105 ls [.int r_148]) rfl ?_
                        obtain ⟨rfl, rfl⟩ := nb_e2 h
                        exact nb_iret hx hb hr hlk hP hS dX6_move_105
                  · have h := nb_f c_141 h
                    refine lv_aload_n hx hb dX6_move_71 rfl (lv_at hl 2 rfl) ?_
                    refine lv_iconst (v := (5 : Int32)) hx hb dX6_move_72 (by decide) ?_
                    obtain ⟨r_149, M_149, e_149, h⟩ := nb_pE h
                    refine nb_callV (n := 1) (As := [.int (5 : Int32)]) (rest := []) hx hb hml hown hts hK hZ hP hS (k_X6_fail had M N (5 : Int32) e_149) gX6_move_X6_fail rfl (by decide +kernel) (nb_rm (Nat.le_of_ble_eq_true rfl) (Nat.le_of_ble_eq_true rfl)) nb_a0 rfl rfl rfl hl.1 rfl (Nat.le_of_ble_eq_true rfl) dX6_move_73 (fun H locs hP hS => ?_)
                    refine W.eq (g2 := F0 m 76 ls [.int r_149]) rfl ?_
                    obtain ⟨rfl, rfl⟩ := nb_e2 h
                    exact nb_iret hx hb hr hlk hP hS dX6_move_76
                · have h := nb_f c_140 h
                  refine lv_aload_n hx hb dX6_move_52 rfl (lv_at hl 2 rfl) ?_
                  refine lv_iconst (v := (2 : Int32)) hx hb dX6_move_53 (by decide) ?_
                  obtain ⟨r_150, M_150, e_150, h⟩ := nb_pE h
                  refine nb_callV (n := 1) (As := [.int (2 : Int32)]) (rest := []) hx hb hml hown hts hK hZ hP hS (k_X6_fail had M N (2 : Int32) e_150) gX6_move_X6_fail rfl (by decide +kernel) (nb_rm (Nat.le_of_ble_eq_true rfl) (Nat.le_of_ble_eq_true rfl)) nb_a0 rfl rfl rfl hl.1 rfl (Nat.le_of_ble_eq_true rfl) dX6_move_54 (fun H locs hP hS => ?_)
                  refine W.eq (g2 := F0 m 57 ls [.int r_150]) rfl ?_
                  obtain ⟨rfl, rfl⟩ := nb_e2 h
                  exact nb_iret hx hb hr hlk hP hS dX6_move_57
            · have h := nb_f c_135 h
              by_cases c_151 : p2 = 1
              · have h := nb_t c_151 h
                refine nb_ald (t0 := 3) (E := RX2) (v := (1 : Int32)) hx hb hK hP nb_a42 rfl c_151 (nb_lit rfl) rfl dX6_move_33 ?_
                refine lv_astore (lv' := [(7, .ref (ad 45)), (6, .ref (ad 47)), (0, .ref (ad 0)), (1, .int p0), (2, .int p1), (3, .int p2), (4, .int p3), (5, .int p4)]) hx hb dX6_move_34 hl (by decide) rfl (fun ls hl => ?_)
                refine lv_aload hx hb dX6_move_36 (lv_at hl 1 rfl) ?_
                refine nb_callV (n := 0) (As := []) (rest := []) hx hb hml hown hts hK hZ hP hS (k_X2_isMissing_47 had M N) gX6_move_X2_isMissing rfl (by decide +kernel) (nb_rm (Nat.le_of_ble_eq_true rfl) (Nat.le_of_ble_eq_true rfl)) nb_a47 rfl rfl rfl hl.1 rfl (Nat.le_of_ble_eq_true rfl) dX6_move_38 (fun H locs hP hS => ?_)
                refine W.eq (g2 := F0 m 41 ls [.int (f_X2_isMissing_47 M)]) rfl ?_
                refine lv_if_ne (tgt := 52) hx hb dX6_move_41 (by decide) (fun c_153 => ?_) (fun c_153 => ?_)
                · have h := nb_f c_153 h
                  refine lv_aload_n hx hb dX6_move_52 rfl (lv_at hl 2 rfl) ?_
                  refine lv_iconst (v := (2 : Int32)) hx hb dX6_move_53 (by decide) ?_
                  obtain ⟨r_154, M_154, e_154, h⟩ := nb_pE h
                  refine nb_callV (n := 1) (As := [.int (2 : Int32)]) (rest := []) hx hb hml hown hts hK hZ hP hS (k_X6_fail had M N (2 : Int32) e_154) gX6_move_X6_fail rfl (by decide +kernel) (nb_rm (Nat.le_of_ble_eq_true rfl) (Nat.le_of_ble_eq_true rfl)) nb_a0 rfl rfl rfl hl.1 rfl (Nat.le_of_ble_eq_true rfl) dX6_move_54 (fun H locs hP hS => ?_)
                  refine W.eq (g2 := F0 m 57 ls [.int r_154]) rfl ?_
                  obtain ⟨rfl, rfl⟩ := nb_e2 h
                  exact nb_iret hx hb hr hlk hP hS dX6_move_57
                · have h := nb_t c_153 h
                  refine lv_aload hx hb dX6_move_44 (lv_at hl 0 rfl) ?_
                  refine nb_callV (n := 0) (As := []) (rest := []) hx hb hml hown hts hK hZ hP hS (k_X2_isMissing_45 had M N) gX6_move_X2_isMissing rfl (by decide +kernel) (nb_rm (Nat.le_of_ble_eq_true rfl) (Nat.le_of_ble_eq_true rfl)) nb_a45 rfl rfl rfl hl.1 rfl (Nat.le_of_ble_eq_true rfl) dX6_move_46 (fun H locs hP hS => ?_)
                  refine W.eq (g2 := F0 m 49 ls [.int (f_X2_isMissing_45 M)]) rfl ?_
                  refine lv_if_eq (tgt := 58) hx hb dX6_move_49 (by decide) (fun c_156 => ?_) (fun c_156 => ?_)
                  · have h := nb_t c_156 h
                    refine lv_aload hx hb dX6_move_58 (lv_at hl 1 rfl) ?_
                    refine va_get (v := .int (M.1 47 1)) (C := RX2) (T := TX2) (N := 3) hx hb hts in2 hown hK.1 hP 47 nb_a47 rfl 1 (by decide) w_3 (fun _ h9 => h9) rfl dX6_move_60 ?_
                    refine lv_aload hx hb dX6_move_63 (lv_at hl 0 rfl) ?_
                    refine va_get (v := .int (M.1 45 1)) (C := RX2) (T := TX2) (N := 3) hx hb hts in2 hown hK.1 hP 45 nb_a45 rfl 1 (by decide) w_3 (fun _ h9 => h9) rfl dX6_move_65 ?_
                    refine lv_icmp_eq (tgt := 77) hx hb dX6_move_68 (by decide) (fun c_157 => ?_) (fun c_157 => ?_)
                    · have h := nb_t c_157 h
                      refine lv_aload hx hb dX6_move_77 (lv_at hl 1 rfl) ?_
                      refine lv_iload_n hx hb dX6_move_79 rfl (lv_at hl 4 rfl) ?_
                      refine lv_iload hx hb dX6_move_80 (lv_at hl 7 rfl) ?_
                      refine nb_callV (n := 2) (As := [.int p1, .int p4]) (rest := []) hx hb hml hown hts hK hZ hP hS (k_X2_has_47 had M N p1 p4) gX6_move_X2_has rfl (by decide +kernel) (nb_rm (Nat.le_of_ble_eq_true rfl) (Nat.le_of_ble_eq_true rfl)) nb_a47 rfl rfl rfl hl.1 rfl (Nat.le_of_ble_eq_true rfl) dX6_move_82 (fun H locs hP hS => ?_)
                      refine W.eq (g2 := F0 m 85 ls [.int (f_X2_has_47 M p1 p4)]) rfl ?_
                      refine lv_if_eq (tgt := 100) hx hb dX6_move_85 (by decide) (fun c_159 => ?_) (fun c_159 => ?_)
                      · have h := nb_t c_159 h
                        refine lv_aload_n hx hb dX6_move_100 rfl (lv_at hl 2 rfl) ?_
                        refine lv_iconst (v := (1 : Int32)) hx hb dX6_move_101 (by decide) ?_
                        obtain ⟨r_160, M_160, e_160, h⟩ := nb_pE h
                        refine nb_callV (n := 1) (As := [.int (1 : Int32)]) (rest := []) hx hb hml hown hts hK hZ hP hS (k_X6_fail had M N (1 : Int32) e_160) gX6_move_X6_fail rfl (by decide +kernel) (nb_rm (Nat.le_of_ble_eq_true rfl) (Nat.le_of_ble_eq_true rfl)) nb_a0 rfl rfl rfl hl.1 rfl (Nat.le_of_ble_eq_true rfl) dX6_move_102 (fun H locs hP hS => ?_)
                        refine W.eq (g2 := F0 m 105 ls [.int r_160]) rfl ?_
                        obtain ⟨rfl, rfl⟩ := nb_e2 h
                        exact nb_iret hx hb hr hlk hP hS dX6_move_105
                      · have h := nb_f c_159 h
                        refine lv_aload hx hb dX6_move_88 (lv_at hl 0 rfl) ?_
                        refine lv_iload hx hb dX6_move_90 (lv_at hl 6 rfl) ?_
                        refine lv_iload hx hb dX6_move_92 (lv_at hl 7 rfl) ?_
                        refine nb_callV (n := 2) (As := [.int p3, .int p4]) (rest := []) hx hb hml hown hts hK hZ hP hS (k_X2_has_45 had M N p3 p4) gX6_move_X2_has rfl (by decide +kernel) (nb_rm (Nat.le_of_ble_eq_true rfl) (Nat.le_of_ble_eq_true rfl)) nb_a45 rfl rfl rfl hl.1 rfl (Nat.le_of_ble_eq_true rfl) dX6_move_94 (fun H locs hP hS => ?_)
                        refine W.eq (g2 := F0 m 97 ls [.int (f_X2_has_45 M p3 p4)]) rfl ?_
                        refine lv_if_ne (tgt := 106) hx hb dX6_move_97 (by decide) (fun c_162 => ?_) (fun c_162 => ?_)
                        · have h := nb_f c_162 h
                          refine lv_aload hx hb dX6_move_106 (lv_at hl 1 rfl) ?_
                          refine va_get (v := .ref (ad 48)) (C := RX2) (T := TX2) (N := 3) hx hb hts in2 hown hK.1 hP 47 nb_a47 rfl 0 (by decide) w_5 (fun _ h9 => h9) rfl dX6_move_108 ?_
                          refine lv_iload_n hx hb dX6_move_111 rfl (lv_at hl 4 rfl) ?_
                          refine lv_aload hx hb dX6_move_112 (lv_at hl 0 rfl) ?_
                          refine va_get (v := .ref (ad 46)) (C := RX2) (T := TX2) (N := 3) hx hb hts in2 hown hK.1 hP 45 nb_a45 rfl 0 (by decide) w_5 (fun _ h9 => h9) rfl dX6_move_114 ?_
                          refine lv_iload hx hb dX6_move_117 (lv_at hl 6 rfl) ?_
                          refine lv_iload hx hb dX6_move_119 (lv_at hl 7 rfl) ?_
                          obtain ⟨c_163, h⟩ := nb_c h
                          refine nb_copy hx hb hml hl.1 had hown w_6 w_7 w_8 w_9 hK hP hS nb_a48 nb_a46 (Nat.le_of_ble_eq_true rfl) (Nat.le_of_ble_eq_true rfl) c_163 (nb_s46 _) dX6_move_121 (fun H locs hP hS => ?_)
                          obtain ⟨M_163, e_163, h⟩ := nb_nE h
                          rw [e_163] at hP
                          refine lv_iload hx hb dX6_move_124 (lv_at hl 7 rfl) ?_
                          obtain ⟨rfl, rfl⟩ := nb_e2 h
                          exact nb_iret hx hb hr hlk hP hS dX6_move_126
                        · have h := nb_t c_162 h
                          refine lv_aload_n hx hb dX6_move_100 rfl (lv_at hl 2 rfl) ?_
                          refine lv_iconst (v := (1 : Int32)) hx hb dX6_move_101 (by decide) ?_
                          obtain ⟨r_164, M_164, e_164, h⟩ := nb_pE h
                          refine nb_callV (n := 1) (As := [.int (1 : Int32)]) (rest := []) hx hb hml hown hts hK hZ hP hS (k_X6_fail had M N (1 : Int32) e_164) gX6_move_X6_fail rfl (by decide +kernel) (nb_rm (Nat.le_of_ble_eq_true rfl) (Nat.le_of_ble_eq_true rfl)) nb_a0 rfl rfl rfl hl.1 rfl (Nat.le_of_ble_eq_true rfl) dX6_move_102 (fun H locs hP hS => ?_)
                          refine W.eq (g2 := F0 m 105 ls [.int r_164]) rfl ?_
                          obtain ⟨rfl, rfl⟩ := nb_e2 h
                          exact nb_iret hx hb hr hlk hP hS dX6_move_105
                    · have h := nb_f c_157 h
                      refine lv_aload_n hx hb dX6_move_71 rfl (lv_at hl 2 rfl) ?_
                      refine lv_iconst (v := (5 : Int32)) hx hb dX6_move_72 (by decide) ?_
                      obtain ⟨r_165, M_165, e_165, h⟩ := nb_pE h
                      refine nb_callV (n := 1) (As := [.int (5 : Int32)]) (rest := []) hx hb hml hown hts hK hZ hP hS (k_X6_fail had M N (5 : Int32) e_165) gX6_move_X6_fail rfl (by decide +kernel) (nb_rm (Nat.le_of_ble_eq_true rfl) (Nat.le_of_ble_eq_true rfl)) nb_a0 rfl rfl rfl hl.1 rfl (Nat.le_of_ble_eq_true rfl) dX6_move_73 (fun H locs hP hS => ?_)
                      refine W.eq (g2 := F0 m 76 ls [.int r_165]) rfl ?_
                      obtain ⟨rfl, rfl⟩ := nb_e2 h
                      exact nb_iret hx hb hr hlk hP hS dX6_move_76
                  · have h := nb_f c_156 h
                    refine lv_aload_n hx hb dX6_move_52 rfl (lv_at hl 2 rfl) ?_
                    refine lv_iconst (v := (2 : Int32)) hx hb dX6_move_53 (by decide) ?_
                    obtain ⟨r_166, M_166, e_166, h⟩ := nb_pE h
                    refine nb_callV (n := 1) (As := [.int (2 : Int32)]) (rest := []) hx hb hml hown hts hK hZ hP hS (k_X6_fail had M N (2 : Int32) e_166) gX6_move_X6_fail rfl (by decide +kernel) (nb_rm (Nat.le_of_ble_eq_true rfl) (Nat.le_of_ble_eq_true rfl)) nb_a0 rfl rfl rfl hl.1 rfl (Nat.le_of_ble_eq_true rfl) dX6_move_54 (fun H locs hP hS => ?_)
                    refine W.eq (g2 := F0 m 57 ls [.int r_166]) rfl ?_
                    obtain ⟨rfl, rfl⟩ := nb_e2 h
                    exact nb_iret hx hb hr hlk hP hS dX6_move_57
              · have h := nb_f c_151 h
                by_cases c_167 : p2 = 2
                · have h := nb_t c_167 h
                  refine nb_ald (t0 := 3) (E := RX2) (v := (2 : Int32)) hx hb hK hP nb_a42 rfl c_167 (nb_lit rfl) rfl dX6_move_33 ?_
                  refine lv_astore (lv' := [(7, .ref (ad 47)), (6, .ref (ad 47)), (0, .ref (ad 0)), (1, .int p0), (2, .int p1), (3, .int p2), (4, .int p3), (5, .int p4)]) hx hb dX6_move_34 hl (by decide) rfl (fun ls hl => ?_)
                  refine lv_aload hx hb dX6_move_36 (lv_at hl 1 rfl) ?_
                  refine nb_callV (n := 0) (As := []) (rest := []) hx hb hml hown hts hK hZ hP hS (k_X2_isMissing_47 had M N) gX6_move_X2_isMissing rfl (by decide +kernel) (nb_rm (Nat.le_of_ble_eq_true rfl) (Nat.le_of_ble_eq_true rfl)) nb_a47 rfl rfl rfl hl.1 rfl (Nat.le_of_ble_eq_true rfl) dX6_move_38 (fun H locs hP hS => ?_)
                  refine W.eq (g2 := F0 m 41 ls [.int (f_X2_isMissing_47 M)]) rfl ?_
                  refine lv_if_ne (tgt := 52) hx hb dX6_move_41 (by decide) (fun c_169 => ?_) (fun c_169 => ?_)
                  · have h := nb_f c_169 h
                    refine lv_aload_n hx hb dX6_move_52 rfl (lv_at hl 2 rfl) ?_
                    refine lv_iconst (v := (2 : Int32)) hx hb dX6_move_53 (by decide) ?_
                    obtain ⟨r_170, M_170, e_170, h⟩ := nb_pE h
                    refine nb_callV (n := 1) (As := [.int (2 : Int32)]) (rest := []) hx hb hml hown hts hK hZ hP hS (k_X6_fail had M N (2 : Int32) e_170) gX6_move_X6_fail rfl (by decide +kernel) (nb_rm (Nat.le_of_ble_eq_true rfl) (Nat.le_of_ble_eq_true rfl)) nb_a0 rfl rfl rfl hl.1 rfl (Nat.le_of_ble_eq_true rfl) dX6_move_54 (fun H locs hP hS => ?_)
                    refine W.eq (g2 := F0 m 57 ls [.int r_170]) rfl ?_
                    obtain ⟨rfl, rfl⟩ := nb_e2 h
                    exact nb_iret hx hb hr hlk hP hS dX6_move_57
                  · have h := nb_t c_169 h
                    refine lv_aload hx hb dX6_move_44 (lv_at hl 0 rfl) ?_
                    refine nb_callV (n := 0) (As := []) (rest := []) hx hb hml hown hts hK hZ hP hS (k_X2_isMissing_47 had M N) gX6_move_X2_isMissing rfl (by decide +kernel) (nb_rm (Nat.le_of_ble_eq_true rfl) (Nat.le_of_ble_eq_true rfl)) nb_a47 rfl rfl rfl hl.1 rfl (Nat.le_of_ble_eq_true rfl) dX6_move_46 (fun H locs hP hS => ?_)
                    refine W.eq (g2 := F0 m 49 ls [.int (f_X2_isMissing_47 M)]) rfl ?_
                    refine lv_if_eq (tgt := 58) hx hb dX6_move_49 (by decide) (fun _ => ?_) (fun c_172 => absurd c_169 c_172)
                    refine lv_aload hx hb dX6_move_58 (lv_at hl 1 rfl) ?_
                    refine va_get (v := .int (M.1 47 1)) (C := RX2) (T := TX2) (N := 3) hx hb hts in2 hown hK.1 hP 47 nb_a47 rfl 1 (by decide) w_3 (fun _ h9 => h9) rfl dX6_move_60 ?_
                    refine lv_aload hx hb dX6_move_63 (lv_at hl 0 rfl) ?_
                    refine va_get (v := .int (M.1 47 1)) (C := RX2) (T := TX2) (N := 3) hx hb hts in2 hown hK.1 hP 47 nb_a47 rfl 1 (by decide) w_3 (fun _ h9 => h9) rfl dX6_move_65 ?_
                    refine lv_icmp_eq (tgt := 77) hx hb dX6_move_68 (by decide) (fun c_173 => ?_) (fun c_173 => ?_)
                    · have h := nb_t c_173 h
                      refine lv_aload hx hb dX6_move_77 (lv_at hl 1 rfl) ?_
                      refine lv_iload_n hx hb dX6_move_79 rfl (lv_at hl 4 rfl) ?_
                      refine lv_iload hx hb dX6_move_80 (lv_at hl 7 rfl) ?_
                      refine nb_callV (n := 2) (As := [.int p1, .int p4]) (rest := []) hx hb hml hown hts hK hZ hP hS (k_X2_has_47 had M N p1 p4) gX6_move_X2_has rfl (by decide +kernel) (nb_rm (Nat.le_of_ble_eq_true rfl) (Nat.le_of_ble_eq_true rfl)) nb_a47 rfl rfl rfl hl.1 rfl (Nat.le_of_ble_eq_true rfl) dX6_move_82 (fun H locs hP hS => ?_)
                      refine W.eq (g2 := F0 m 85 ls [.int (f_X2_has_47 M p1 p4)]) rfl ?_
                      refine lv_if_eq (tgt := 100) hx hb dX6_move_85 (by decide) (fun c_175 => ?_) (fun c_175 => ?_)
                      · have h := nb_t c_175 h
                        refine lv_aload_n hx hb dX6_move_100 rfl (lv_at hl 2 rfl) ?_
                        refine lv_iconst (v := (1 : Int32)) hx hb dX6_move_101 (by decide) ?_
                        obtain ⟨r_176, M_176, e_176, h⟩ := nb_pE h
                        refine nb_callV (n := 1) (As := [.int (1 : Int32)]) (rest := []) hx hb hml hown hts hK hZ hP hS (k_X6_fail had M N (1 : Int32) e_176) gX6_move_X6_fail rfl (by decide +kernel) (nb_rm (Nat.le_of_ble_eq_true rfl) (Nat.le_of_ble_eq_true rfl)) nb_a0 rfl rfl rfl hl.1 rfl (Nat.le_of_ble_eq_true rfl) dX6_move_102 (fun H locs hP hS => ?_)
                        refine W.eq (g2 := F0 m 105 ls [.int r_176]) rfl ?_
                        obtain ⟨rfl, rfl⟩ := nb_e2 h
                        exact nb_iret hx hb hr hlk hP hS dX6_move_105
                      · have h := nb_f c_175 h
                        refine lv_aload hx hb dX6_move_88 (lv_at hl 0 rfl) ?_
                        refine lv_iload hx hb dX6_move_90 (lv_at hl 6 rfl) ?_
                        refine lv_iload hx hb dX6_move_92 (lv_at hl 7 rfl) ?_
                        refine nb_callV (n := 2) (As := [.int p3, .int p4]) (rest := []) hx hb hml hown hts hK hZ hP hS (k_X2_has_47 had M N p3 p4) gX6_move_X2_has rfl (by decide +kernel) (nb_rm (Nat.le_of_ble_eq_true rfl) (Nat.le_of_ble_eq_true rfl)) nb_a47 rfl rfl rfl hl.1 rfl (Nat.le_of_ble_eq_true rfl) dX6_move_94 (fun H locs hP hS => ?_)
                        refine W.eq (g2 := F0 m 97 ls [.int (f_X2_has_47 M p3 p4)]) rfl ?_
                        refine lv_if_ne (tgt := 106) hx hb dX6_move_97 (by decide) (fun c_178 => ?_) (fun c_178 => ?_)
                        · have h := nb_f c_178 h
                          refine lv_aload hx hb dX6_move_106 (lv_at hl 1 rfl) ?_
                          refine va_get (v := .ref (ad 48)) (C := RX2) (T := TX2) (N := 3) hx hb hts in2 hown hK.1 hP 47 nb_a47 rfl 0 (by decide) w_5 (fun _ h9 => h9) rfl dX6_move_108 ?_
                          refine lv_iload_n hx hb dX6_move_111 rfl (lv_at hl 4 rfl) ?_
                          refine lv_aload hx hb dX6_move_112 (lv_at hl 0 rfl) ?_
                          refine va_get (v := .ref (ad 48)) (C := RX2) (T := TX2) (N := 3) hx hb hts in2 hown hK.1 hP 47 nb_a47 rfl 0 (by decide) w_5 (fun _ h9 => h9) rfl dX6_move_114 ?_
                          refine lv_iload hx hb dX6_move_117 (lv_at hl 6 rfl) ?_
                          refine lv_iload hx hb dX6_move_119 (lv_at hl 7 rfl) ?_
                          obtain ⟨c_179, h⟩ := nb_c h
                          refine nb_copy hx hb hml hl.1 had hown w_6 w_7 w_8 w_9 hK hP hS nb_a48 nb_a48 (Nat.le_of_ble_eq_true rfl) (Nat.le_of_ble_eq_true rfl) c_179 (nb_s48 _) dX6_move_121 (fun H locs hP hS => ?_)
                          obtain ⟨M_179, e_179, h⟩ := nb_nE h
                          rw [e_179] at hP
                          refine lv_iload hx hb dX6_move_124 (lv_at hl 7 rfl) ?_
                          obtain ⟨rfl, rfl⟩ := nb_e2 h
                          exact nb_iret hx hb hr hlk hP hS dX6_move_126
                        · have h := nb_t c_178 h
                          refine lv_aload_n hx hb dX6_move_100 rfl (lv_at hl 2 rfl) ?_
                          refine lv_iconst (v := (1 : Int32)) hx hb dX6_move_101 (by decide) ?_
                          obtain ⟨r_180, M_180, e_180, h⟩ := nb_pE h
                          refine nb_callV (n := 1) (As := [.int (1 : Int32)]) (rest := []) hx hb hml hown hts hK hZ hP hS (k_X6_fail had M N (1 : Int32) e_180) gX6_move_X6_fail rfl (by decide +kernel) (nb_rm (Nat.le_of_ble_eq_true rfl) (Nat.le_of_ble_eq_true rfl)) nb_a0 rfl rfl rfl hl.1 rfl (Nat.le_of_ble_eq_true rfl) dX6_move_102 (fun H locs hP hS => ?_)
                          refine W.eq (g2 := F0 m 105 ls [.int r_180]) rfl ?_
                          obtain ⟨rfl, rfl⟩ := nb_e2 h
                          exact nb_iret hx hb hr hlk hP hS dX6_move_105
                    · have h := nb_f c_173 h
                      refine lv_aload_n hx hb dX6_move_71 rfl (lv_at hl 2 rfl) ?_
                      refine lv_iconst (v := (5 : Int32)) hx hb dX6_move_72 (by decide) ?_
                      obtain ⟨r_181, M_181, e_181, h⟩ := nb_pE h
                      refine nb_callV (n := 1) (As := [.int (5 : Int32)]) (rest := []) hx hb hml hown hts hK hZ hP hS (k_X6_fail had M N (5 : Int32) e_181) gX6_move_X6_fail rfl (by decide +kernel) (nb_rm (Nat.le_of_ble_eq_true rfl) (Nat.le_of_ble_eq_true rfl)) nb_a0 rfl rfl rfl hl.1 rfl (Nat.le_of_ble_eq_true rfl) dX6_move_73 (fun H locs hP hS => ?_)
                      refine W.eq (g2 := F0 m 76 ls [.int r_181]) rfl ?_
                      obtain ⟨rfl, rfl⟩ := nb_e2 h
                      exact nb_iret hx hb hr hlk hP hS dX6_move_76
                · have h := nb_f c_167 h
                  by_cases c_182 : p2 = 3
                  · have h := nb_t c_182 h
                    refine nb_ald (t0 := 3) (E := RX2) (v := (3 : Int32)) hx hb hK hP nb_a42 rfl c_182 (nb_lit rfl) rfl dX6_move_33 ?_
                    refine lv_astore (lv' := [(7, .ref (ad 49)), (6, .ref (ad 47)), (0, .ref (ad 0)), (1, .int p0), (2, .int p1), (3, .int p2), (4, .int p3), (5, .int p4)]) hx hb dX6_move_34 hl (by decide) rfl (fun ls hl => ?_)
                    refine lv_aload hx hb dX6_move_36 (lv_at hl 1 rfl) ?_
                    refine nb_callV (n := 0) (As := []) (rest := []) hx hb hml hown hts hK hZ hP hS (k_X2_isMissing_47 had M N) gX6_move_X2_isMissing rfl (by decide +kernel) (nb_rm (Nat.le_of_ble_eq_true rfl) (Nat.le_of_ble_eq_true rfl)) nb_a47 rfl rfl rfl hl.1 rfl (Nat.le_of_ble_eq_true rfl) dX6_move_38 (fun H locs hP hS => ?_)
                    refine W.eq (g2 := F0 m 41 ls [.int (f_X2_isMissing_47 M)]) rfl ?_
                    refine lv_if_ne (tgt := 52) hx hb dX6_move_41 (by decide) (fun c_184 => ?_) (fun c_184 => ?_)
                    · have h := nb_f c_184 h
                      refine lv_aload_n hx hb dX6_move_52 rfl (lv_at hl 2 rfl) ?_
                      refine lv_iconst (v := (2 : Int32)) hx hb dX6_move_53 (by decide) ?_
                      obtain ⟨r_185, M_185, e_185, h⟩ := nb_pE h
                      refine nb_callV (n := 1) (As := [.int (2 : Int32)]) (rest := []) hx hb hml hown hts hK hZ hP hS (k_X6_fail had M N (2 : Int32) e_185) gX6_move_X6_fail rfl (by decide +kernel) (nb_rm (Nat.le_of_ble_eq_true rfl) (Nat.le_of_ble_eq_true rfl)) nb_a0 rfl rfl rfl hl.1 rfl (Nat.le_of_ble_eq_true rfl) dX6_move_54 (fun H locs hP hS => ?_)
                      refine W.eq (g2 := F0 m 57 ls [.int r_185]) rfl ?_
                      obtain ⟨rfl, rfl⟩ := nb_e2 h
                      exact nb_iret hx hb hr hlk hP hS dX6_move_57
                    · have h := nb_t c_184 h
                      refine lv_aload hx hb dX6_move_44 (lv_at hl 0 rfl) ?_
                      refine nb_callV (n := 0) (As := []) (rest := []) hx hb hml hown hts hK hZ hP hS (k_X2_isMissing_49 had M N) gX6_move_X2_isMissing rfl (by decide +kernel) (nb_rm (Nat.le_of_ble_eq_true rfl) (Nat.le_of_ble_eq_true rfl)) nb_a49 rfl rfl rfl hl.1 rfl (Nat.le_of_ble_eq_true rfl) dX6_move_46 (fun H locs hP hS => ?_)
                      refine W.eq (g2 := F0 m 49 ls [.int (f_X2_isMissing_49 M)]) rfl ?_
                      refine lv_if_eq (tgt := 58) hx hb dX6_move_49 (by decide) (fun c_187 => ?_) (fun c_187 => ?_)
                      · have h := nb_t c_187 h
                        refine lv_aload hx hb dX6_move_58 (lv_at hl 1 rfl) ?_
                        refine va_get (v := .int (M.1 47 1)) (C := RX2) (T := TX2) (N := 3) hx hb hts in2 hown hK.1 hP 47 nb_a47 rfl 1 (by decide) w_3 (fun _ h9 => h9) rfl dX6_move_60 ?_
                        refine lv_aload hx hb dX6_move_63 (lv_at hl 0 rfl) ?_
                        refine va_get (v := .int (M.1 49 1)) (C := RX2) (T := TX2) (N := 3) hx hb hts in2 hown hK.1 hP 49 nb_a49 rfl 1 (by decide) w_3 (fun _ h9 => h9) rfl dX6_move_65 ?_
                        refine lv_icmp_eq (tgt := 77) hx hb dX6_move_68 (by decide) (fun c_188 => ?_) (fun c_188 => ?_)
                        · have h := nb_t c_188 h
                          refine lv_aload hx hb dX6_move_77 (lv_at hl 1 rfl) ?_
                          refine lv_iload_n hx hb dX6_move_79 rfl (lv_at hl 4 rfl) ?_
                          refine lv_iload hx hb dX6_move_80 (lv_at hl 7 rfl) ?_
                          refine nb_callV (n := 2) (As := [.int p1, .int p4]) (rest := []) hx hb hml hown hts hK hZ hP hS (k_X2_has_47 had M N p1 p4) gX6_move_X2_has rfl (by decide +kernel) (nb_rm (Nat.le_of_ble_eq_true rfl) (Nat.le_of_ble_eq_true rfl)) nb_a47 rfl rfl rfl hl.1 rfl (Nat.le_of_ble_eq_true rfl) dX6_move_82 (fun H locs hP hS => ?_)
                          refine W.eq (g2 := F0 m 85 ls [.int (f_X2_has_47 M p1 p4)]) rfl ?_
                          refine lv_if_eq (tgt := 100) hx hb dX6_move_85 (by decide) (fun c_190 => ?_) (fun c_190 => ?_)
                          · have h := nb_t c_190 h
                            refine lv_aload_n hx hb dX6_move_100 rfl (lv_at hl 2 rfl) ?_
                            refine lv_iconst (v := (1 : Int32)) hx hb dX6_move_101 (by decide) ?_
                            obtain ⟨r_191, M_191, e_191, h⟩ := nb_pE h
                            refine nb_callV (n := 1) (As := [.int (1 : Int32)]) (rest := []) hx hb hml hown hts hK hZ hP hS (k_X6_fail had M N (1 : Int32) e_191) gX6_move_X6_fail rfl (by decide +kernel) (nb_rm (Nat.le_of_ble_eq_true rfl) (Nat.le_of_ble_eq_true rfl)) nb_a0 rfl rfl rfl hl.1 rfl (Nat.le_of_ble_eq_true rfl) dX6_move_102 (fun H locs hP hS => ?_)
                            refine W.eq (g2 := F0 m 105 ls [.int r_191]) rfl ?_
                            obtain ⟨rfl, rfl⟩ := nb_e2 h
                            exact nb_iret hx hb hr hlk hP hS dX6_move_105
                          · have h := nb_f c_190 h
                            refine lv_aload hx hb dX6_move_88 (lv_at hl 0 rfl) ?_
                            refine lv_iload hx hb dX6_move_90 (lv_at hl 6 rfl) ?_
                            refine lv_iload hx hb dX6_move_92 (lv_at hl 7 rfl) ?_
                            refine nb_callV (n := 2) (As := [.int p3, .int p4]) (rest := []) hx hb hml hown hts hK hZ hP hS (k_X2_has_49 had M N p3 p4) gX6_move_X2_has rfl (by decide +kernel) (nb_rm (Nat.le_of_ble_eq_true rfl) (Nat.le_of_ble_eq_true rfl)) nb_a49 rfl rfl rfl hl.1 rfl (Nat.le_of_ble_eq_true rfl) dX6_move_94 (fun H locs hP hS => ?_)
                            refine W.eq (g2 := F0 m 97 ls [.int (f_X2_has_49 M p3 p4)]) rfl ?_
                            refine lv_if_ne (tgt := 106) hx hb dX6_move_97 (by decide) (fun c_193 => ?_) (fun c_193 => ?_)
                            · have h := nb_f c_193 h
                              refine lv_aload hx hb dX6_move_106 (lv_at hl 1 rfl) ?_
                              refine va_get (v := .ref (ad 48)) (C := RX2) (T := TX2) (N := 3) hx hb hts in2 hown hK.1 hP 47 nb_a47 rfl 0 (by decide) w_5 (fun _ h9 => h9) rfl dX6_move_108 ?_
                              refine lv_iload_n hx hb dX6_move_111 rfl (lv_at hl 4 rfl) ?_
                              refine lv_aload hx hb dX6_move_112 (lv_at hl 0 rfl) ?_
                              refine va_get (v := .ref (ad 50)) (C := RX2) (T := TX2) (N := 3) hx hb hts in2 hown hK.1 hP 49 nb_a49 rfl 0 (by decide) w_5 (fun _ h9 => h9) rfl dX6_move_114 ?_
                              refine lv_iload hx hb dX6_move_117 (lv_at hl 6 rfl) ?_
                              refine lv_iload hx hb dX6_move_119 (lv_at hl 7 rfl) ?_
                              obtain ⟨c_194, h⟩ := nb_c h
                              refine nb_copy hx hb hml hl.1 had hown w_6 w_7 w_8 w_9 hK hP hS nb_a48 nb_a50 (Nat.le_of_ble_eq_true rfl) (Nat.le_of_ble_eq_true rfl) c_194 (nb_s50 _) dX6_move_121 (fun H locs hP hS => ?_)
                              obtain ⟨M_194, e_194, h⟩ := nb_nE h
                              rw [e_194] at hP
                              refine lv_iload hx hb dX6_move_124 (lv_at hl 7 rfl) ?_
                              obtain ⟨rfl, rfl⟩ := nb_e2 h
                              exact nb_iret hx hb hr hlk hP hS dX6_move_126
                            · have h := nb_t c_193 h
                              refine lv_aload_n hx hb dX6_move_100 rfl (lv_at hl 2 rfl) ?_
                              refine lv_iconst (v := (1 : Int32)) hx hb dX6_move_101 (by decide) ?_
                              obtain ⟨r_195, M_195, e_195, h⟩ := nb_pE h
                              refine nb_callV (n := 1) (As := [.int (1 : Int32)]) (rest := []) hx hb hml hown hts hK hZ hP hS (k_X6_fail had M N (1 : Int32) e_195) gX6_move_X6_fail rfl (by decide +kernel) (nb_rm (Nat.le_of_ble_eq_true rfl) (Nat.le_of_ble_eq_true rfl)) nb_a0 rfl rfl rfl hl.1 rfl (Nat.le_of_ble_eq_true rfl) dX6_move_102 (fun H locs hP hS => ?_)
                              refine W.eq (g2 := F0 m 105 ls [.int r_195]) rfl ?_
                              obtain ⟨rfl, rfl⟩ := nb_e2 h
                              exact nb_iret hx hb hr hlk hP hS dX6_move_105
                        · have h := nb_f c_188 h
                          refine lv_aload_n hx hb dX6_move_71 rfl (lv_at hl 2 rfl) ?_
                          refine lv_iconst (v := (5 : Int32)) hx hb dX6_move_72 (by decide) ?_
                          obtain ⟨r_196, M_196, e_196, h⟩ := nb_pE h
                          refine nb_callV (n := 1) (As := [.int (5 : Int32)]) (rest := []) hx hb hml hown hts hK hZ hP hS (k_X6_fail had M N (5 : Int32) e_196) gX6_move_X6_fail rfl (by decide +kernel) (nb_rm (Nat.le_of_ble_eq_true rfl) (Nat.le_of_ble_eq_true rfl)) nb_a0 rfl rfl rfl hl.1 rfl (Nat.le_of_ble_eq_true rfl) dX6_move_73 (fun H locs hP hS => ?_)
                          refine W.eq (g2 := F0 m 76 ls [.int r_196]) rfl ?_
                          obtain ⟨rfl, rfl⟩ := nb_e2 h
                          exact nb_iret hx hb hr hlk hP hS dX6_move_76
                      · have h := nb_f c_187 h
                        refine lv_aload_n hx hb dX6_move_52 rfl (lv_at hl 2 rfl) ?_
                        refine lv_iconst (v := (2 : Int32)) hx hb dX6_move_53 (by decide) ?_
                        obtain ⟨r_197, M_197, e_197, h⟩ := nb_pE h
                        refine nb_callV (n := 1) (As := [.int (2 : Int32)]) (rest := []) hx hb hml hown hts hK hZ hP hS (k_X6_fail had M N (2 : Int32) e_197) gX6_move_X6_fail rfl (by decide +kernel) (nb_rm (Nat.le_of_ble_eq_true rfl) (Nat.le_of_ble_eq_true rfl)) nb_a0 rfl rfl rfl hl.1 rfl (Nat.le_of_ble_eq_true rfl) dX6_move_54 (fun H locs hP hS => ?_)
                        refine W.eq (g2 := F0 m 57 ls [.int r_197]) rfl ?_
                        obtain ⟨rfl, rfl⟩ := nb_e2 h
                        exact nb_iret hx hb hr hlk hP hS dX6_move_57
                  · have h := nb_f c_182 h
                    cases h
          · have h := nb_f c_134 h
            by_cases c_198 : p0 = 3
            · have h := nb_t c_198 h
              refine nb_ald (t0 := 3) (E := RX2) (v := (3 : Int32)) hx hb hK hP nb_a42 rfl c_198 (nb_lit rfl) rfl dX6_move_25 ?_
              refine lv_astore (lv' := [(6, .ref (ad 49)), (0, .ref (ad 0)), (1, .int p0), (2, .int p1), (3, .int p2), (4, .int p3), (5, .int p4)]) hx hb dX6_move_26 hl (by decide) rfl (fun ls hl => ?_)
              refine lv_aload_n hx hb dX6_move_28 rfl (lv_at hl 1 rfl) ?_
              refine va_get (v := .ref (ad 42)) (C := RX6) (T := TX6) (N := 8) hx hb hts in6 hown hK.1 hP 0 nb_a0 rfl 5 (by decide) w_1 (fun _ h9 => h9) rfl dX6_move_29 ?_
              refine lv_iload_n hx hb dX6_move_32 rfl (lv_at hl 4 rfl) ?_
              by_cases c_199 : p2 = 0
              · have h := nb_t c_199 h
                refine nb_ald (t0 := 3) (E := RX2) (v := (0 : Int32)) hx hb hK hP nb_a42 rfl c_199 (nb_lit rfl) rfl dX6_move_33 ?_
                refine lv_astore (lv' := [(7, .ref (ad 43)), (6, .ref (ad 49)), (0, .ref (ad 0)), (1, .int p0), (2, .int p1), (3, .int p2), (4, .int p3), (5, .int p4)]) hx hb dX6_move_34 hl (by decide) rfl (fun ls hl => ?_)
                refine lv_aload hx hb dX6_move_36 (lv_at hl 1 rfl) ?_
                refine nb_callV (n := 0) (As := []) (rest := []) hx hb hml hown hts hK hZ hP hS (k_X2_isMissing_49 had M N) gX6_move_X2_isMissing rfl (by decide +kernel) (nb_rm (Nat.le_of_ble_eq_true rfl) (Nat.le_of_ble_eq_true rfl)) nb_a49 rfl rfl rfl hl.1 rfl (Nat.le_of_ble_eq_true rfl) dX6_move_38 (fun H locs hP hS => ?_)
                refine W.eq (g2 := F0 m 41 ls [.int (f_X2_isMissing_49 M)]) rfl ?_
                refine lv_if_ne (tgt := 52) hx hb dX6_move_41 (by decide) (fun c_201 => ?_) (fun c_201 => ?_)
                · have h := nb_f c_201 h
                  refine lv_aload_n hx hb dX6_move_52 rfl (lv_at hl 2 rfl) ?_
                  refine lv_iconst (v := (2 : Int32)) hx hb dX6_move_53 (by decide) ?_
                  obtain ⟨r_202, M_202, e_202, h⟩ := nb_pE h
                  refine nb_callV (n := 1) (As := [.int (2 : Int32)]) (rest := []) hx hb hml hown hts hK hZ hP hS (k_X6_fail had M N (2 : Int32) e_202) gX6_move_X6_fail rfl (by decide +kernel) (nb_rm (Nat.le_of_ble_eq_true rfl) (Nat.le_of_ble_eq_true rfl)) nb_a0 rfl rfl rfl hl.1 rfl (Nat.le_of_ble_eq_true rfl) dX6_move_54 (fun H locs hP hS => ?_)
                  refine W.eq (g2 := F0 m 57 ls [.int r_202]) rfl ?_
                  obtain ⟨rfl, rfl⟩ := nb_e2 h
                  exact nb_iret hx hb hr hlk hP hS dX6_move_57
                · have h := nb_t c_201 h
                  refine lv_aload hx hb dX6_move_44 (lv_at hl 0 rfl) ?_
                  refine nb_callV (n := 0) (As := []) (rest := []) hx hb hml hown hts hK hZ hP hS (k_X2_isMissing_43 had M N) gX6_move_X2_isMissing rfl (by decide +kernel) (nb_rm (Nat.le_of_ble_eq_true rfl) (Nat.le_of_ble_eq_true rfl)) nb_a43 rfl rfl rfl hl.1 rfl (Nat.le_of_ble_eq_true rfl) dX6_move_46 (fun H locs hP hS => ?_)
                  refine W.eq (g2 := F0 m 49 ls [.int (f_X2_isMissing_43 M)]) rfl ?_
                  refine lv_if_eq (tgt := 58) hx hb dX6_move_49 (by decide) (fun c_204 => ?_) (fun c_204 => ?_)
                  · have h := nb_t c_204 h
                    refine lv_aload hx hb dX6_move_58 (lv_at hl 1 rfl) ?_
                    refine va_get (v := .int (M.1 49 1)) (C := RX2) (T := TX2) (N := 3) hx hb hts in2 hown hK.1 hP 49 nb_a49 rfl 1 (by decide) w_3 (fun _ h9 => h9) rfl dX6_move_60 ?_
                    refine lv_aload hx hb dX6_move_63 (lv_at hl 0 rfl) ?_
                    refine va_get (v := .int (M.1 43 1)) (C := RX2) (T := TX2) (N := 3) hx hb hts in2 hown hK.1 hP 43 nb_a43 rfl 1 (by decide) w_3 (fun _ h9 => h9) rfl dX6_move_65 ?_
                    refine lv_icmp_eq (tgt := 77) hx hb dX6_move_68 (by decide) (fun c_205 => ?_) (fun c_205 => ?_)
                    · have h := nb_t c_205 h
                      refine lv_aload hx hb dX6_move_77 (lv_at hl 1 rfl) ?_
                      refine lv_iload_n hx hb dX6_move_79 rfl (lv_at hl 4 rfl) ?_
                      refine lv_iload hx hb dX6_move_80 (lv_at hl 7 rfl) ?_
                      refine nb_callV (n := 2) (As := [.int p1, .int p4]) (rest := []) hx hb hml hown hts hK hZ hP hS (k_X2_has_49 had M N p1 p4) gX6_move_X2_has rfl (by decide +kernel) (nb_rm (Nat.le_of_ble_eq_true rfl) (Nat.le_of_ble_eq_true rfl)) nb_a49 rfl rfl rfl hl.1 rfl (Nat.le_of_ble_eq_true rfl) dX6_move_82 (fun H locs hP hS => ?_)
                      refine W.eq (g2 := F0 m 85 ls [.int (f_X2_has_49 M p1 p4)]) rfl ?_
                      refine lv_if_eq (tgt := 100) hx hb dX6_move_85 (by decide) (fun c_207 => ?_) (fun c_207 => ?_)
                      · have h := nb_t c_207 h
                        refine lv_aload_n hx hb dX6_move_100 rfl (lv_at hl 2 rfl) ?_
                        refine lv_iconst (v := (1 : Int32)) hx hb dX6_move_101 (by decide) ?_
                        obtain ⟨r_208, M_208, e_208, h⟩ := nb_pE h
                        refine nb_callV (n := 1) (As := [.int (1 : Int32)]) (rest := []) hx hb hml hown hts hK hZ hP hS (k_X6_fail had M N (1 : Int32) e_208) gX6_move_X6_fail rfl (by decide +kernel) (nb_rm (Nat.le_of_ble_eq_true rfl) (Nat.le_of_ble_eq_true rfl)) nb_a0 rfl rfl rfl hl.1 rfl (Nat.le_of_ble_eq_true rfl) dX6_move_102 (fun H locs hP hS => ?_)
                        refine W.eq (g2 := F0 m 105 ls [.int r_208]) rfl ?_
                        obtain ⟨rfl, rfl⟩ := nb_e2 h
                        exact nb_iret hx hb hr hlk hP hS dX6_move_105
                      · have h := nb_f c_207 h
                        refine lv_aload hx hb dX6_move_88 (lv_at hl 0 rfl) ?_
                        refine lv_iload hx hb dX6_move_90 (lv_at hl 6 rfl) ?_
                        refine lv_iload hx hb dX6_move_92 (lv_at hl 7 rfl) ?_
                        refine nb_callV (n := 2) (As := [.int p3, .int p4]) (rest := []) hx hb hml hown hts hK hZ hP hS (k_X2_has_43 had M N p3 p4) gX6_move_X2_has rfl (by decide +kernel) (nb_rm (Nat.le_of_ble_eq_true rfl) (Nat.le_of_ble_eq_true rfl)) nb_a43 rfl rfl rfl hl.1 rfl (Nat.le_of_ble_eq_true rfl) dX6_move_94 (fun H locs hP hS => ?_)
                        refine W.eq (g2 := F0 m 97 ls [.int (f_X2_has_43 M p3 p4)]) rfl ?_
                        refine lv_if_ne (tgt := 106) hx hb dX6_move_97 (by decide) (fun c_210 => ?_) (fun c_210 => ?_)
                        · have h := nb_f c_210 h
                          refine lv_aload hx hb dX6_move_106 (lv_at hl 1 rfl) ?_
                          refine va_get (v := .ref (ad 50)) (C := RX2) (T := TX2) (N := 3) hx hb hts in2 hown hK.1 hP 49 nb_a49 rfl 0 (by decide) w_5 (fun _ h9 => h9) rfl dX6_move_108 ?_
                          refine lv_iload_n hx hb dX6_move_111 rfl (lv_at hl 4 rfl) ?_
                          refine lv_aload hx hb dX6_move_112 (lv_at hl 0 rfl) ?_
                          refine va_get (v := .ref (ad 44)) (C := RX2) (T := TX2) (N := 3) hx hb hts in2 hown hK.1 hP 43 nb_a43 rfl 0 (by decide) w_5 (fun _ h9 => h9) rfl dX6_move_114 ?_
                          refine lv_iload hx hb dX6_move_117 (lv_at hl 6 rfl) ?_
                          refine lv_iload hx hb dX6_move_119 (lv_at hl 7 rfl) ?_
                          obtain ⟨c_211, h⟩ := nb_c h
                          refine nb_copy hx hb hml hl.1 had hown w_6 w_7 w_8 w_9 hK hP hS nb_a50 nb_a44 (Nat.le_of_ble_eq_true rfl) (Nat.le_of_ble_eq_true rfl) c_211 (nb_s44 _) dX6_move_121 (fun H locs hP hS => ?_)
                          obtain ⟨M_211, e_211, h⟩ := nb_nE h
                          rw [e_211] at hP
                          refine lv_iload hx hb dX6_move_124 (lv_at hl 7 rfl) ?_
                          obtain ⟨rfl, rfl⟩ := nb_e2 h
                          exact nb_iret hx hb hr hlk hP hS dX6_move_126
                        · have h := nb_t c_210 h
                          refine lv_aload_n hx hb dX6_move_100 rfl (lv_at hl 2 rfl) ?_
                          refine lv_iconst (v := (1 : Int32)) hx hb dX6_move_101 (by decide) ?_
                          obtain ⟨r_212, M_212, e_212, h⟩ := nb_pE h
                          refine nb_callV (n := 1) (As := [.int (1 : Int32)]) (rest := []) hx hb hml hown hts hK hZ hP hS (k_X6_fail had M N (1 : Int32) e_212) gX6_move_X6_fail rfl (by decide +kernel) (nb_rm (Nat.le_of_ble_eq_true rfl) (Nat.le_of_ble_eq_true rfl)) nb_a0 rfl rfl rfl hl.1 rfl (Nat.le_of_ble_eq_true rfl) dX6_move_102 (fun H locs hP hS => ?_)
                          refine W.eq (g2 := F0 m 105 ls [.int r_212]) rfl ?_
                          obtain ⟨rfl, rfl⟩ := nb_e2 h
                          exact nb_iret hx hb hr hlk hP hS dX6_move_105
                    · have h := nb_f c_205 h
                      refine lv_aload_n hx hb dX6_move_71 rfl (lv_at hl 2 rfl) ?_
                      refine lv_iconst (v := (5 : Int32)) hx hb dX6_move_72 (by decide) ?_
                      obtain ⟨r_213, M_213, e_213, h⟩ := nb_pE h
                      refine nb_callV (n := 1) (As := [.int (5 : Int32)]) (rest := []) hx hb hml hown hts hK hZ hP hS (k_X6_fail had M N (5 : Int32) e_213) gX6_move_X6_fail rfl (by decide +kernel) (nb_rm (Nat.le_of_ble_eq_true rfl) (Nat.le_of_ble_eq_true rfl)) nb_a0 rfl rfl rfl hl.1 rfl (Nat.le_of_ble_eq_true rfl) dX6_move_73 (fun H locs hP hS => ?_)
                      refine W.eq (g2 := F0 m 76 ls [.int r_213]) rfl ?_
                      obtain ⟨rfl, rfl⟩ := nb_e2 h
                      exact nb_iret hx hb hr hlk hP hS dX6_move_76
                  · have h := nb_f c_204 h
                    refine lv_aload_n hx hb dX6_move_52 rfl (lv_at hl 2 rfl) ?_
                    refine lv_iconst (v := (2 : Int32)) hx hb dX6_move_53 (by decide) ?_
                    obtain ⟨r_214, M_214, e_214, h⟩ := nb_pE h
                    refine nb_callV (n := 1) (As := [.int (2 : Int32)]) (rest := []) hx hb hml hown hts hK hZ hP hS (k_X6_fail had M N (2 : Int32) e_214) gX6_move_X6_fail rfl (by decide +kernel) (nb_rm (Nat.le_of_ble_eq_true rfl) (Nat.le_of_ble_eq_true rfl)) nb_a0 rfl rfl rfl hl.1 rfl (Nat.le_of_ble_eq_true rfl) dX6_move_54 (fun H locs hP hS => ?_)
                    refine W.eq (g2 := F0 m 57 ls [.int r_214]) rfl ?_
                    obtain ⟨rfl, rfl⟩ := nb_e2 h
                    exact nb_iret hx hb hr hlk hP hS dX6_move_57
              · have h := nb_f c_199 h
                by_cases c_215 : p2 = 1
                · have h := nb_t c_215 h
                  refine nb_ald (t0 := 3) (E := RX2) (v := (1 : Int32)) hx hb hK hP nb_a42 rfl c_215 (nb_lit rfl) rfl dX6_move_33 ?_
                  refine lv_astore (lv' := [(7, .ref (ad 45)), (6, .ref (ad 49)), (0, .ref (ad 0)), (1, .int p0), (2, .int p1), (3, .int p2), (4, .int p3), (5, .int p4)]) hx hb dX6_move_34 hl (by decide) rfl (fun ls hl => ?_)
                  refine lv_aload hx hb dX6_move_36 (lv_at hl 1 rfl) ?_
                  refine nb_callV (n := 0) (As := []) (rest := []) hx hb hml hown hts hK hZ hP hS (k_X2_isMissing_49 had M N) gX6_move_X2_isMissing rfl (by decide +kernel) (nb_rm (Nat.le_of_ble_eq_true rfl) (Nat.le_of_ble_eq_true rfl)) nb_a49 rfl rfl rfl hl.1 rfl (Nat.le_of_ble_eq_true rfl) dX6_move_38 (fun H locs hP hS => ?_)
                  refine W.eq (g2 := F0 m 41 ls [.int (f_X2_isMissing_49 M)]) rfl ?_
                  refine lv_if_ne (tgt := 52) hx hb dX6_move_41 (by decide) (fun c_217 => ?_) (fun c_217 => ?_)
                  · have h := nb_f c_217 h
                    refine lv_aload_n hx hb dX6_move_52 rfl (lv_at hl 2 rfl) ?_
                    refine lv_iconst (v := (2 : Int32)) hx hb dX6_move_53 (by decide) ?_
                    obtain ⟨r_218, M_218, e_218, h⟩ := nb_pE h
                    refine nb_callV (n := 1) (As := [.int (2 : Int32)]) (rest := []) hx hb hml hown hts hK hZ hP hS (k_X6_fail had M N (2 : Int32) e_218) gX6_move_X6_fail rfl (by decide +kernel) (nb_rm (Nat.le_of_ble_eq_true rfl) (Nat.le_of_ble_eq_true rfl)) nb_a0 rfl rfl rfl hl.1 rfl (Nat.le_of_ble_eq_true rfl) dX6_move_54 (fun H locs hP hS => ?_)
                    refine W.eq (g2 := F0 m 57 ls [.int r_218]) rfl ?_
                    obtain ⟨rfl, rfl⟩ := nb_e2 h
                    exact nb_iret hx hb hr hlk hP hS dX6_move_57
                  · have h := nb_t c_217 h
                    refine lv_aload hx hb dX6_move_44 (lv_at hl 0 rfl) ?_
                    refine nb_callV (n := 0) (As := []) (rest := []) hx hb hml hown hts hK hZ hP hS (k_X2_isMissing_45 had M N) gX6_move_X2_isMissing rfl (by decide +kernel) (nb_rm (Nat.le_of_ble_eq_true rfl) (Nat.le_of_ble_eq_true rfl)) nb_a45 rfl rfl rfl hl.1 rfl (Nat.le_of_ble_eq_true rfl) dX6_move_46 (fun H locs hP hS => ?_)
                    refine W.eq (g2 := F0 m 49 ls [.int (f_X2_isMissing_45 M)]) rfl ?_
                    refine lv_if_eq (tgt := 58) hx hb dX6_move_49 (by decide) (fun c_220 => ?_) (fun c_220 => ?_)
                    · have h := nb_t c_220 h
                      refine lv_aload hx hb dX6_move_58 (lv_at hl 1 rfl) ?_
                      refine va_get (v := .int (M.1 49 1)) (C := RX2) (T := TX2) (N := 3) hx hb hts in2 hown hK.1 hP 49 nb_a49 rfl 1 (by decide) w_3 (fun _ h9 => h9) rfl dX6_move_60 ?_
                      refine lv_aload hx hb dX6_move_63 (lv_at hl 0 rfl) ?_
                      refine va_get (v := .int (M.1 45 1)) (C := RX2) (T := TX2) (N := 3) hx hb hts in2 hown hK.1 hP 45 nb_a45 rfl 1 (by decide) w_3 (fun _ h9 => h9) rfl dX6_move_65 ?_
                      refine lv_icmp_eq (tgt := 77) hx hb dX6_move_68 (by decide) (fun c_221 => ?_) (fun c_221 => ?_)
                      · have h := nb_t c_221 h
                        refine lv_aload hx hb dX6_move_77 (lv_at hl 1 rfl) ?_
                        refine lv_iload_n hx hb dX6_move_79 rfl (lv_at hl 4 rfl) ?_
                        refine lv_iload hx hb dX6_move_80 (lv_at hl 7 rfl) ?_
                        refine nb_callV (n := 2) (As := [.int p1, .int p4]) (rest := []) hx hb hml hown hts hK hZ hP hS (k_X2_has_49 had M N p1 p4) gX6_move_X2_has rfl (by decide +kernel) (nb_rm (Nat.le_of_ble_eq_true rfl) (Nat.le_of_ble_eq_true rfl)) nb_a49 rfl rfl rfl hl.1 rfl (Nat.le_of_ble_eq_true rfl) dX6_move_82 (fun H locs hP hS => ?_)
                        refine W.eq (g2 := F0 m 85 ls [.int (f_X2_has_49 M p1 p4)]) rfl ?_
                        refine lv_if_eq (tgt := 100) hx hb dX6_move_85 (by decide) (fun c_223 => ?_) (fun c_223 => ?_)
                        · have h := nb_t c_223 h
                          refine lv_aload_n hx hb dX6_move_100 rfl (lv_at hl 2 rfl) ?_
                          refine lv_iconst (v := (1 : Int32)) hx hb dX6_move_101 (by decide) ?_
                          obtain ⟨r_224, M_224, e_224, h⟩ := nb_pE h
                          refine nb_callV (n := 1) (As := [.int (1 : Int32)]) (rest := []) hx hb hml hown hts hK hZ hP hS (k_X6_fail had M N (1 : Int32) e_224) gX6_move_X6_fail rfl (by decide +kernel) (nb_rm (Nat.le_of_ble_eq_true rfl) (Nat.le_of_ble_eq_true rfl)) nb_a0 rfl rfl rfl hl.1 rfl (Nat.le_of_ble_eq_true rfl) dX6_move_102 (fun H locs hP hS => ?_)
                          refine W.eq (g2 := F0 m 105 ls [.int r_224]) rfl ?_
                          obtain ⟨rfl, rfl⟩ := nb_e2 h
                          exact nb_iret hx hb hr hlk hP hS dX6_move_105
                        · have h := nb_f c_223 h
                          refine lv_aload hx hb dX6_move_88 (lv_at hl 0 rfl) ?_
                          refine lv_iload hx hb dX6_move_90 (lv_at hl 6 rfl) ?_
                          refine lv_iload hx hb dX6_move_92 (lv_at hl 7 rfl) ?_
                          refine nb_callV (n := 2) (As := [.int p3, .int p4]) (rest := []) hx hb hml hown hts hK hZ hP hS (k_X2_has_45 had M N p3 p4) gX6_move_X2_has rfl (by decide +kernel) (nb_rm (Nat.le_of_ble_eq_true rfl) (Nat.le_of_ble_eq_true rfl)) nb_a45 rfl rfl rfl hl.1 rfl (Nat.le_of_ble_eq_true rfl) dX6_move_94 (fun H locs hP hS => ?_)
                          refine W.eq (g2 := F0 m 97 ls [.int (f_X2_has_45 M p3 p4)]) rfl ?_
                          refine lv_if_ne (tgt := 106) hx hb dX6_move_97 (by decide) (fun c_226 => ?_) (fun c_226 => ?_)
                          · have h := nb_f c_226 h
                            refine lv_aload hx hb dX6_move_106 (lv_at hl 1 rfl) ?_
                            refine va_get (v := .ref (ad 50)) (C := RX2) (T := TX2) (N := 3) hx hb hts in2 hown hK.1 hP 49 nb_a49 rfl 0 (by decide) w_5 (fun _ h9 => h9) rfl dX6_move_108 ?_
                            refine lv_iload_n hx hb dX6_move_111 rfl (lv_at hl 4 rfl) ?_
                            refine lv_aload hx hb dX6_move_112 (lv_at hl 0 rfl) ?_
                            refine va_get (v := .ref (ad 46)) (C := RX2) (T := TX2) (N := 3) hx hb hts in2 hown hK.1 hP 45 nb_a45 rfl 0 (by decide) w_5 (fun _ h9 => h9) rfl dX6_move_114 ?_
                            refine lv_iload hx hb dX6_move_117 (lv_at hl 6 rfl) ?_
                            refine lv_iload hx hb dX6_move_119 (lv_at hl 7 rfl) ?_
                            obtain ⟨c_227, h⟩ := nb_c h
                            refine nb_copy hx hb hml hl.1 had hown w_6 w_7 w_8 w_9 hK hP hS nb_a50 nb_a46 (Nat.le_of_ble_eq_true rfl) (Nat.le_of_ble_eq_true rfl) c_227 (nb_s46 _) dX6_move_121 (fun H locs hP hS => ?_)
                            obtain ⟨M_227, e_227, h⟩ := nb_nE h
                            rw [e_227] at hP
                            refine lv_iload hx hb dX6_move_124 (lv_at hl 7 rfl) ?_
                            obtain ⟨rfl, rfl⟩ := nb_e2 h
                            exact nb_iret hx hb hr hlk hP hS dX6_move_126
                          · have h := nb_t c_226 h
                            refine lv_aload_n hx hb dX6_move_100 rfl (lv_at hl 2 rfl) ?_
                            refine lv_iconst (v := (1 : Int32)) hx hb dX6_move_101 (by decide) ?_
                            obtain ⟨r_228, M_228, e_228, h⟩ := nb_pE h
                            refine nb_callV (n := 1) (As := [.int (1 : Int32)]) (rest := []) hx hb hml hown hts hK hZ hP hS (k_X6_fail had M N (1 : Int32) e_228) gX6_move_X6_fail rfl (by decide +kernel) (nb_rm (Nat.le_of_ble_eq_true rfl) (Nat.le_of_ble_eq_true rfl)) nb_a0 rfl rfl rfl hl.1 rfl (Nat.le_of_ble_eq_true rfl) dX6_move_102 (fun H locs hP hS => ?_)
                            refine W.eq (g2 := F0 m 105 ls [.int r_228]) rfl ?_
                            obtain ⟨rfl, rfl⟩ := nb_e2 h
                            exact nb_iret hx hb hr hlk hP hS dX6_move_105
                      · have h := nb_f c_221 h
                        refine lv_aload_n hx hb dX6_move_71 rfl (lv_at hl 2 rfl) ?_
                        refine lv_iconst (v := (5 : Int32)) hx hb dX6_move_72 (by decide) ?_
                        obtain ⟨r_229, M_229, e_229, h⟩ := nb_pE h
                        refine nb_callV (n := 1) (As := [.int (5 : Int32)]) (rest := []) hx hb hml hown hts hK hZ hP hS (k_X6_fail had M N (5 : Int32) e_229) gX6_move_X6_fail rfl (by decide +kernel) (nb_rm (Nat.le_of_ble_eq_true rfl) (Nat.le_of_ble_eq_true rfl)) nb_a0 rfl rfl rfl hl.1 rfl (Nat.le_of_ble_eq_true rfl) dX6_move_73 (fun H locs hP hS => ?_)
                        refine W.eq (g2 := F0 m 76 ls [.int r_229]) rfl ?_
                        obtain ⟨rfl, rfl⟩ := nb_e2 h
                        exact nb_iret hx hb hr hlk hP hS dX6_move_76
                    · have h := nb_f c_220 h
                      refine lv_aload_n hx hb dX6_move_52 rfl (lv_at hl 2 rfl) ?_
                      refine lv_iconst (v := (2 : Int32)) hx hb dX6_move_53 (by decide) ?_
                      obtain ⟨r_230, M_230, e_230, h⟩ := nb_pE h
                      refine nb_callV (n := 1) (As := [.int (2 : Int32)]) (rest := []) hx hb hml hown hts hK hZ hP hS (k_X6_fail had M N (2 : Int32) e_230) gX6_move_X6_fail rfl (by decide +kernel) (nb_rm (Nat.le_of_ble_eq_true rfl) (Nat.le_of_ble_eq_true rfl)) nb_a0 rfl rfl rfl hl.1 rfl (Nat.le_of_ble_eq_true rfl) dX6_move_54 (fun H locs hP hS => ?_)
                      refine W.eq (g2 := F0 m 57 ls [.int r_230]) rfl ?_
                      obtain ⟨rfl, rfl⟩ := nb_e2 h
                      exact nb_iret hx hb hr hlk hP hS dX6_move_57
                · have h := nb_f c_215 h
                  by_cases c_231 : p2 = 2
                  · have h := nb_t c_231 h
                    refine nb_ald (t0 := 3) (E := RX2) (v := (2 : Int32)) hx hb hK hP nb_a42 rfl c_231 (nb_lit rfl) rfl dX6_move_33 ?_
                    refine lv_astore (lv' := [(7, .ref (ad 47)), (6, .ref (ad 49)), (0, .ref (ad 0)), (1, .int p0), (2, .int p1), (3, .int p2), (4, .int p3), (5, .int p4)]) hx hb dX6_move_34 hl (by decide) rfl (fun ls hl => ?_)
                    refine lv_aload hx hb dX6_move_36 (lv_at hl 1 rfl) ?_
                    refine nb_callV (n := 0) (As := []) (rest := []) hx hb hml hown hts hK hZ hP hS (k_X2_isMissing_49 had M N) gX6_move_X2_isMissing rfl (by decide +kernel) (nb_rm (Nat.le_of_ble_eq_true rfl) (Nat.le_of_ble_eq_true rfl)) nb_a49 rfl rfl rfl hl.1 rfl (Nat.le_of_ble_eq_true rfl) dX6_move_38 (fun H locs hP hS => ?_)
                    refine W.eq (g2 := F0 m 41 ls [.int (f_X2_isMissing_49 M)]) rfl ?_
                    refine lv_if_ne (tgt := 52) hx hb dX6_move_41 (by decide) (fun c_233 => ?_) (fun c_233 => ?_)
                    · have h := nb_f c_233 h
                      refine lv_aload_n hx hb dX6_move_52 rfl (lv_at hl 2 rfl) ?_
                      refine lv_iconst (v := (2 : Int32)) hx hb dX6_move_53 (by decide) ?_
                      obtain ⟨r_234, M_234, e_234, h⟩ := nb_pE h
                      refine nb_callV (n := 1) (As := [.int (2 : Int32)]) (rest := []) hx hb hml hown hts hK hZ hP hS (k_X6_fail had M N (2 : Int32) e_234) gX6_move_X6_fail rfl (by decide +kernel) (nb_rm (Nat.le_of_ble_eq_true rfl) (Nat.le_of_ble_eq_true rfl)) nb_a0 rfl rfl rfl hl.1 rfl (Nat.le_of_ble_eq_true rfl) dX6_move_54 (fun H locs hP hS => ?_)
                      refine W.eq (g2 := F0 m 57 ls [.int r_234]) rfl ?_
                      obtain ⟨rfl, rfl⟩ := nb_e2 h
                      exact nb_iret hx hb hr hlk hP hS dX6_move_57
                    · have h := nb_t c_233 h
                      refine lv_aload hx hb dX6_move_44 (lv_at hl 0 rfl) ?_
                      refine nb_callV (n := 0) (As := []) (rest := []) hx hb hml hown hts hK hZ hP hS (k_X2_isMissing_47 had M N) gX6_move_X2_isMissing rfl (by decide +kernel) (nb_rm (Nat.le_of_ble_eq_true rfl) (Nat.le_of_ble_eq_true rfl)) nb_a47 rfl rfl rfl hl.1 rfl (Nat.le_of_ble_eq_true rfl) dX6_move_46 (fun H locs hP hS => ?_)
                      refine W.eq (g2 := F0 m 49 ls [.int (f_X2_isMissing_47 M)]) rfl ?_
                      refine lv_if_eq (tgt := 58) hx hb dX6_move_49 (by decide) (fun c_236 => ?_) (fun c_236 => ?_)
                      · have h := nb_t c_236 h
                        refine lv_aload hx hb dX6_move_58 (lv_at hl 1 rfl) ?_
                        refine va_get (v := .int (M.1 49 1)) (C := RX2) (T := TX2) (N := 3) hx hb hts in2 hown hK.1 hP 49 nb_a49 rfl 1 (by decide) w_3 (fun _ h9 => h9) rfl dX6_move_60 ?_
                        refine lv_aload hx hb dX6_move_63 (lv_at hl 0 rfl) ?_
                        refine va_get (v := .int (M.1 47 1)) (C := RX2) (T := TX2) (N := 3) hx hb hts in2 hown hK.1 hP 47 nb_a47 rfl 1 (by decide) w_3 (fun _ h9 => h9) rfl dX6_move_65 ?_
                        refine lv_icmp_eq (tgt := 77) hx hb dX6_move_68 (by decide) (fun c_237 => ?_) (fun c_237 => ?_)
                        · have h := nb_t c_237 h
                          refine lv_aload hx hb dX6_move_77 (lv_at hl 1 rfl) ?_
                          refine lv_iload_n hx hb dX6_move_79 rfl (lv_at hl 4 rfl) ?_
                          refine lv_iload hx hb dX6_move_80 (lv_at hl 7 rfl) ?_
                          refine nb_callV (n := 2) (As := [.int p1, .int p4]) (rest := []) hx hb hml hown hts hK hZ hP hS (k_X2_has_49 had M N p1 p4) gX6_move_X2_has rfl (by decide +kernel) (nb_rm (Nat.le_of_ble_eq_true rfl) (Nat.le_of_ble_eq_true rfl)) nb_a49 rfl rfl rfl hl.1 rfl (Nat.le_of_ble_eq_true rfl) dX6_move_82 (fun H locs hP hS => ?_)
                          refine W.eq (g2 := F0 m 85 ls [.int (f_X2_has_49 M p1 p4)]) rfl ?_
                          refine lv_if_eq (tgt := 100) hx hb dX6_move_85 (by decide) (fun c_239 => ?_) (fun c_239 => ?_)
                          · have h := nb_t c_239 h
                            refine lv_aload_n hx hb dX6_move_100 rfl (lv_at hl 2 rfl) ?_
                            refine lv_iconst (v := (1 : Int32)) hx hb dX6_move_101 (by decide) ?_
                            obtain ⟨r_240, M_240, e_240, h⟩ := nb_pE h
                            refine nb_callV (n := 1) (As := [.int (1 : Int32)]) (rest := []) hx hb hml hown hts hK hZ hP hS (k_X6_fail had M N (1 : Int32) e_240) gX6_move_X6_fail rfl (by decide +kernel) (nb_rm (Nat.le_of_ble_eq_true rfl) (Nat.le_of_ble_eq_true rfl)) nb_a0 rfl rfl rfl hl.1 rfl (Nat.le_of_ble_eq_true rfl) dX6_move_102 (fun H locs hP hS => ?_)
                            refine W.eq (g2 := F0 m 105 ls [.int r_240]) rfl ?_
                            obtain ⟨rfl, rfl⟩ := nb_e2 h
                            exact nb_iret hx hb hr hlk hP hS dX6_move_105
                          · have h := nb_f c_239 h
                            refine lv_aload hx hb dX6_move_88 (lv_at hl 0 rfl) ?_
                            refine lv_iload hx hb dX6_move_90 (lv_at hl 6 rfl) ?_
                            refine lv_iload hx hb dX6_move_92 (lv_at hl 7 rfl) ?_
                            refine nb_callV (n := 2) (As := [.int p3, .int p4]) (rest := []) hx hb hml hown hts hK hZ hP hS (k_X2_has_47 had M N p3 p4) gX6_move_X2_has rfl (by decide +kernel) (nb_rm (Nat.le_of_ble_eq_true rfl) (Nat.le_of_ble_eq_true rfl)) nb_a47 rfl rfl rfl hl.1 rfl (Nat.le_of_ble_eq_true rfl) dX6_move_94 (fun H locs hP hS => ?_)
                            refine W.eq (g2 := F0 m 97 ls [.int (f_X2_has_47 M p3 p4)]) rfl ?_
                            refine lv_if_ne (tgt := 106) hx hb dX6_move_97 (by decide) (fun c_242 => ?_) (fun c_242 => ?_)
                            · have h := nb_f c_242 h
                              refine lv_aload hx hb dX6_move_106 (lv_at hl 1 rfl) ?_
                              refine va_get (v := .ref (ad 50)) (C := RX2) (T := TX2) (N := 3) hx hb hts in2 hown hK.1 hP 49 nb_a49 rfl 0 (by decide) w_5 (fun _ h9 => h9) rfl dX6_move_108 ?_
                              refine lv_iload_n hx hb dX6_move_111 rfl (lv_at hl 4 rfl) ?_
                              refine lv_aload hx hb dX6_move_112 (lv_at hl 0 rfl) ?_
                              refine va_get (v := .ref (ad 48)) (C := RX2) (T := TX2) (N := 3) hx hb hts in2 hown hK.1 hP 47 nb_a47 rfl 0 (by decide) w_5 (fun _ h9 => h9) rfl dX6_move_114 ?_
                              refine lv_iload hx hb dX6_move_117 (lv_at hl 6 rfl) ?_
                              refine lv_iload hx hb dX6_move_119 (lv_at hl 7 rfl) ?_
                              obtain ⟨c_243, h⟩ := nb_c h
                              refine nb_copy hx hb hml hl.1 had hown w_6 w_7 w_8 w_9 hK hP hS nb_a50 nb_a48 (Nat.le_of_ble_eq_true rfl) (Nat.le_of_ble_eq_true rfl) c_243 (nb_s48 _) dX6_move_121 (fun H locs hP hS => ?_)
                              obtain ⟨M_243, e_243, h⟩ := nb_nE h
                              rw [e_243] at hP
                              refine lv_iload hx hb dX6_move_124 (lv_at hl 7 rfl) ?_
                              obtain ⟨rfl, rfl⟩ := nb_e2 h
                              exact nb_iret hx hb hr hlk hP hS dX6_move_126
                            · have h := nb_t c_242 h
                              refine lv_aload_n hx hb dX6_move_100 rfl (lv_at hl 2 rfl) ?_
                              refine lv_iconst (v := (1 : Int32)) hx hb dX6_move_101 (by decide) ?_
                              obtain ⟨r_244, M_244, e_244, h⟩ := nb_pE h
                              refine nb_callV (n := 1) (As := [.int (1 : Int32)]) (rest := []) hx hb hml hown hts hK hZ hP hS (k_X6_fail had M N (1 : Int32) e_244) gX6_move_X6_fail rfl (by decide +kernel) (nb_rm (Nat.le_of_ble_eq_true rfl) (Nat.le_of_ble_eq_true rfl)) nb_a0 rfl rfl rfl hl.1 rfl (Nat.le_of_ble_eq_true rfl) dX6_move_102 (fun H locs hP hS => ?_)
                              refine W.eq (g2 := F0 m 105 ls [.int r_244]) rfl ?_
                              obtain ⟨rfl, rfl⟩ := nb_e2 h
                              exact nb_iret hx hb hr hlk hP hS dX6_move_105
                        · have h := nb_f c_237 h
                          refine lv_aload_n hx hb dX6_move_71 rfl (lv_at hl 2 rfl) ?_
                          refine lv_iconst (v := (5 : Int32)) hx hb dX6_move_72 (by decide) ?_
                          obtain ⟨r_245, M_245, e_245, h⟩ := nb_pE h
                          refine nb_callV (n := 1) (As := [.int (5 : Int32)]) (rest := []) hx hb hml hown hts hK hZ hP hS (k_X6_fail had M N (5 : Int32) e_245) gX6_move_X6_fail rfl (by decide +kernel) (nb_rm (Nat.le_of_ble_eq_true rfl) (Nat.le_of_ble_eq_true rfl)) nb_a0 rfl rfl rfl hl.1 rfl (Nat.le_of_ble_eq_true rfl) dX6_move_73 (fun H locs hP hS => ?_)
                          refine W.eq (g2 := F0 m 76 ls [.int r_245]) rfl ?_
                          obtain ⟨rfl, rfl⟩ := nb_e2 h
                          exact nb_iret hx hb hr hlk hP hS dX6_move_76
                      · have h := nb_f c_236 h
                        refine lv_aload_n hx hb dX6_move_52 rfl (lv_at hl 2 rfl) ?_
                        refine lv_iconst (v := (2 : Int32)) hx hb dX6_move_53 (by decide) ?_
                        obtain ⟨r_246, M_246, e_246, h⟩ := nb_pE h
                        refine nb_callV (n := 1) (As := [.int (2 : Int32)]) (rest := []) hx hb hml hown hts hK hZ hP hS (k_X6_fail had M N (2 : Int32) e_246) gX6_move_X6_fail rfl (by decide +kernel) (nb_rm (Nat.le_of_ble_eq_true rfl) (Nat.le_of_ble_eq_true rfl)) nb_a0 rfl rfl rfl hl.1 rfl (Nat.le_of_ble_eq_true rfl) dX6_move_54 (fun H locs hP hS => ?_)
                        refine W.eq (g2 := F0 m 57 ls [.int r_246]) rfl ?_
                        obtain ⟨rfl, rfl⟩ := nb_e2 h
                        exact nb_iret hx hb hr hlk hP hS dX6_move_57
                  · have h := nb_f c_231 h
                    by_cases c_247 : p2 = 3
                    · have h := nb_t c_247 h
                      refine nb_ald (t0 := 3) (E := RX2) (v := (3 : Int32)) hx hb hK hP nb_a42 rfl c_247 (nb_lit rfl) rfl dX6_move_33 ?_
                      refine lv_astore (lv' := [(7, .ref (ad 49)), (6, .ref (ad 49)), (0, .ref (ad 0)), (1, .int p0), (2, .int p1), (3, .int p2), (4, .int p3), (5, .int p4)]) hx hb dX6_move_34 hl (by decide) rfl (fun ls hl => ?_)
                      refine lv_aload hx hb dX6_move_36 (lv_at hl 1 rfl) ?_
                      refine nb_callV (n := 0) (As := []) (rest := []) hx hb hml hown hts hK hZ hP hS (k_X2_isMissing_49 had M N) gX6_move_X2_isMissing rfl (by decide +kernel) (nb_rm (Nat.le_of_ble_eq_true rfl) (Nat.le_of_ble_eq_true rfl)) nb_a49 rfl rfl rfl hl.1 rfl (Nat.le_of_ble_eq_true rfl) dX6_move_38 (fun H locs hP hS => ?_)
                      refine W.eq (g2 := F0 m 41 ls [.int (f_X2_isMissing_49 M)]) rfl ?_
                      refine lv_if_ne (tgt := 52) hx hb dX6_move_41 (by decide) (fun c_249 => ?_) (fun c_249 => ?_)
                      · have h := nb_f c_249 h
                        refine lv_aload_n hx hb dX6_move_52 rfl (lv_at hl 2 rfl) ?_
                        refine lv_iconst (v := (2 : Int32)) hx hb dX6_move_53 (by decide) ?_
                        obtain ⟨r_250, M_250, e_250, h⟩ := nb_pE h
                        refine nb_callV (n := 1) (As := [.int (2 : Int32)]) (rest := []) hx hb hml hown hts hK hZ hP hS (k_X6_fail had M N (2 : Int32) e_250) gX6_move_X6_fail rfl (by decide +kernel) (nb_rm (Nat.le_of_ble_eq_true rfl) (Nat.le_of_ble_eq_true rfl)) nb_a0 rfl rfl rfl hl.1 rfl (Nat.le_of_ble_eq_true rfl) dX6_move_54 (fun H locs hP hS => ?_)
                        refine W.eq (g2 := F0 m 57 ls [.int r_250]) rfl ?_
                        obtain ⟨rfl, rfl⟩ := nb_e2 h
                        exact nb_iret hx hb hr hlk hP hS dX6_move_57
                      · have h := nb_t c_249 h
                        refine lv_aload hx hb dX6_move_44 (lv_at hl 0 rfl) ?_
                        refine nb_callV (n := 0) (As := []) (rest := []) hx hb hml hown hts hK hZ hP hS (k_X2_isMissing_49 had M N) gX6_move_X2_isMissing rfl (by decide +kernel) (nb_rm (Nat.le_of_ble_eq_true rfl) (Nat.le_of_ble_eq_true rfl)) nb_a49 rfl rfl rfl hl.1 rfl (Nat.le_of_ble_eq_true rfl) dX6_move_46 (fun H locs hP hS => ?_)
                        refine W.eq (g2 := F0 m 49 ls [.int (f_X2_isMissing_49 M)]) rfl ?_
                        refine lv_if_eq (tgt := 58) hx hb dX6_move_49 (by decide) (fun _ => ?_) (fun c_252 => absurd c_249 c_252)
                        refine lv_aload hx hb dX6_move_58 (lv_at hl 1 rfl) ?_
                        refine va_get (v := .int (M.1 49 1)) (C := RX2) (T := TX2) (N := 3) hx hb hts in2 hown hK.1 hP 49 nb_a49 rfl 1 (by decide) w_3 (fun _ h9 => h9) rfl dX6_move_60 ?_
                        refine lv_aload hx hb dX6_move_63 (lv_at hl 0 rfl) ?_
                        refine va_get (v := .int (M.1 49 1)) (C := RX2) (T := TX2) (N := 3) hx hb hts in2 hown hK.1 hP 49 nb_a49 rfl 1 (by decide) w_3 (fun _ h9 => h9) rfl dX6_move_65 ?_
                        refine lv_icmp_eq (tgt := 77) hx hb dX6_move_68 (by decide) (fun c_253 => ?_) (fun c_253 => ?_)
                        · have h := nb_t c_253 h
                          refine lv_aload hx hb dX6_move_77 (lv_at hl 1 rfl) ?_
                          refine lv_iload_n hx hb dX6_move_79 rfl (lv_at hl 4 rfl) ?_
                          refine lv_iload hx hb dX6_move_80 (lv_at hl 7 rfl) ?_
                          refine nb_callV (n := 2) (As := [.int p1, .int p4]) (rest := []) hx hb hml hown hts hK hZ hP hS (k_X2_has_49 had M N p1 p4) gX6_move_X2_has rfl (by decide +kernel) (nb_rm (Nat.le_of_ble_eq_true rfl) (Nat.le_of_ble_eq_true rfl)) nb_a49 rfl rfl rfl hl.1 rfl (Nat.le_of_ble_eq_true rfl) dX6_move_82 (fun H locs hP hS => ?_)
                          refine W.eq (g2 := F0 m 85 ls [.int (f_X2_has_49 M p1 p4)]) rfl ?_
                          refine lv_if_eq (tgt := 100) hx hb dX6_move_85 (by decide) (fun c_255 => ?_) (fun c_255 => ?_)
                          · have h := nb_t c_255 h
                            refine lv_aload_n hx hb dX6_move_100 rfl (lv_at hl 2 rfl) ?_
                            refine lv_iconst (v := (1 : Int32)) hx hb dX6_move_101 (by decide) ?_
                            obtain ⟨r_256, M_256, e_256, h⟩ := nb_pE h
                            refine nb_callV (n := 1) (As := [.int (1 : Int32)]) (rest := []) hx hb hml hown hts hK hZ hP hS (k_X6_fail had M N (1 : Int32) e_256) gX6_move_X6_fail rfl (by decide +kernel) (nb_rm (Nat.le_of_ble_eq_true rfl) (Nat.le_of_ble_eq_true rfl)) nb_a0 rfl rfl rfl hl.1 rfl (Nat.le_of_ble_eq_true rfl) dX6_move_102 (fun H locs hP hS => ?_)
                            refine W.eq (g2 := F0 m 105 ls [.int r_256]) rfl ?_
                            obtain ⟨rfl, rfl⟩ := nb_e2 h
                            exact nb_iret hx hb hr hlk hP hS dX6_move_105
                          · have h := nb_f c_255 h
                            refine lv_aload hx hb dX6_move_88 (lv_at hl 0 rfl) ?_
                            refine lv_iload hx hb dX6_move_90 (lv_at hl 6 rfl) ?_
                            refine lv_iload hx hb dX6_move_92 (lv_at hl 7 rfl) ?_
                            refine nb_callV (n := 2) (As := [.int p3, .int p4]) (rest := []) hx hb hml hown hts hK hZ hP hS (k_X2_has_49 had M N p3 p4) gX6_move_X2_has rfl (by decide +kernel) (nb_rm (Nat.le_of_ble_eq_true rfl) (Nat.le_of_ble_eq_true rfl)) nb_a49 rfl rfl rfl hl.1 rfl (Nat.le_of_ble_eq_true rfl) dX6_move_94 (fun H locs hP hS => ?_)
                            refine W.eq (g2 := F0 m 97 ls [.int (f_X2_has_49 M p3 p4)]) rfl ?_
                            refine lv_if_ne (tgt := 106) hx hb dX6_move_97 (by decide) (fun c_258 => ?_) (fun c_258 => ?_)
                            · have h := nb_f c_258 h
                              refine lv_aload hx hb dX6_move_106 (lv_at hl 1 rfl) ?_
                              refine va_get (v := .ref (ad 50)) (C := RX2) (T := TX2) (N := 3) hx hb hts in2 hown hK.1 hP 49 nb_a49 rfl 0 (by decide) w_5 (fun _ h9 => h9) rfl dX6_move_108 ?_
                              refine lv_iload_n hx hb dX6_move_111 rfl (lv_at hl 4 rfl) ?_
                              refine lv_aload hx hb dX6_move_112 (lv_at hl 0 rfl) ?_
                              refine va_get (v := .ref (ad 50)) (C := RX2) (T := TX2) (N := 3) hx hb hts in2 hown hK.1 hP 49 nb_a49 rfl 0 (by decide) w_5 (fun _ h9 => h9) rfl dX6_move_114 ?_
                              refine lv_iload hx hb dX6_move_117 (lv_at hl 6 rfl) ?_
                              refine lv_iload hx hb dX6_move_119 (lv_at hl 7 rfl) ?_
                              obtain ⟨c_259, h⟩ := nb_c h
                              refine nb_copy hx hb hml hl.1 had hown w_6 w_7 w_8 w_9 hK hP hS nb_a50 nb_a50 (Nat.le_of_ble_eq_true rfl) (Nat.le_of_ble_eq_true rfl) c_259 (nb_s50 _) dX6_move_121 (fun H locs hP hS => ?_)
                              obtain ⟨M_259, e_259, h⟩ := nb_nE h
                              rw [e_259] at hP
                              refine lv_iload hx hb dX6_move_124 (lv_at hl 7 rfl) ?_
                              obtain ⟨rfl, rfl⟩ := nb_e2 h
                              exact nb_iret hx hb hr hlk hP hS dX6_move_126
                            · have h := nb_t c_258 h
                              refine lv_aload_n hx hb dX6_move_100 rfl (lv_at hl 2 rfl) ?_
                              refine lv_iconst (v := (1 : Int32)) hx hb dX6_move_101 (by decide) ?_
                              obtain ⟨r_260, M_260, e_260, h⟩ := nb_pE h
                              refine nb_callV (n := 1) (As := [.int (1 : Int32)]) (rest := []) hx hb hml hown hts hK hZ hP hS (k_X6_fail had M N (1 : Int32) e_260) gX6_move_X6_fail rfl (by decide +kernel) (nb_rm (Nat.le_of_ble_eq_true rfl) (Nat.le_of_ble_eq_true rfl)) nb_a0 rfl rfl rfl hl.1 rfl (Nat.le_of_ble_eq_true rfl) dX6_move_102 (fun H locs hP hS => ?_)
                              refine W.eq (g2 := F0 m 105 ls [.int r_260]) rfl ?_
                              obtain ⟨rfl, rfl⟩ := nb_e2 h
                              exact nb_iret hx hb hr hlk hP hS dX6_move_105
                        · have h := nb_f c_253 h
                          refine lv_aload_n hx hb dX6_move_71 rfl (lv_at hl 2 rfl) ?_
                          refine lv_iconst (v := (5 : Int32)) hx hb dX6_move_72 (by decide) ?_
                          obtain ⟨r_261, M_261, e_261, h⟩ := nb_pE h
                          refine nb_callV (n := 1) (As := [.int (5 : Int32)]) (rest := []) hx hb hml hown hts hK hZ hP hS (k_X6_fail had M N (5 : Int32) e_261) gX6_move_X6_fail rfl (by decide +kernel) (nb_rm (Nat.le_of_ble_eq_true rfl) (Nat.le_of_ble_eq_true rfl)) nb_a0 rfl rfl rfl hl.1 rfl (Nat.le_of_ble_eq_true rfl) dX6_move_73 (fun H locs hP hS => ?_)
                          refine W.eq (g2 := F0 m 76 ls [.int r_261]) rfl ?_
                          obtain ⟨rfl, rfl⟩ := nb_e2 h
                          exact nb_iret hx hb hr hlk hP hS dX6_move_76
                    · have h := nb_f c_247 h
                      cases h
            · have h := nb_f c_198 h
              cases h
    · have h := nb_t c_5 h
      refine lv_aload_n hx hb dX6_move_14 rfl (lv_at hl 0 rfl) ?_
      refine lv_iconst (v := (1 : Int32)) hx hb dX6_move_15 (by decide) ?_
      obtain ⟨r_262, M_262, e_262, h⟩ := nb_pE h
      refine nb_callV (n := 1) (As := [.int (1 : Int32)]) (rest := []) hx hb hml hown hts hK hZ hP hS (k_X6_fail had M N (1 : Int32) e_262) gX6_move_X6_fail rfl (by decide +kernel) (nb_rm (Nat.le_of_ble_eq_true rfl) (Nat.le_of_ble_eq_true rfl)) nb_a0 rfl rfl rfl hl.1 rfl (Nat.le_of_ble_eq_true rfl) dX6_move_16 (fun H locs hP hS => ?_)
      refine W.eq (g2 := F0 m 19 ls [.int r_262]) rfl ?_
      obtain ⟨rfl, rfl⟩ := nb_e2 h
      exact nb_iret hx hb hr hlk hP hS dX6_move_19
set_option maxHeartbeats 4000000 in
set_option maxRecDepth 100000 in
theorem w_X0_takeCares_1_43_2 {N : nb_M} {r : Int32} {M' : nb_M} (had : nb_AD ad b0) (X : nb_X p s m args meth c cX0_takeCares 3 RX0 (some .int) wsX0_takeCares D ca b0) : ∀ (n : Nat) (M : nb_M) (x2 : Int32), f_X0_takeCares_1_43_2 n M x2 = some (r, M') → ∀ (H : Heap) (locs : List Loc), va_P D vwCl (nb_w ad ca M N) H → va_S (fun q => b0 ≤ q) s.heap H locs → ∀ ls : Array Slot, lv_has ls 3 [(0, .ref (ad 1)), (1, .ref (ad 43)), (2, .int x2)] → W p l e (nb_R 1) s m args below meth c H locs 0 0 (nb_Q below args s D ad ca b0 (some (.int r)) M' N) (F0 m 2 ls []) := by
  obtain ⟨hx, hb, hml, hown, hts, hr, hlk, hK, hZ⟩ := id X
  obtain ⟨_, hN1, hN2, hN3, hN4, hN5, hN6⟩ := id hK
  have w_1 := hts (.fieldLink RX0 144 "NineBreakages$Sheet" "size" "I") (by decide +kernel)
  have in2 : ∀ w ∈ u_ws RX2 TX2 3, w ∈ wsX0_takeCares := fun w q => List.mem_cons_of_mem _ (List.mem_append_left _ (List.mem_append_right _ q))
  have w_3 := hts (.fieldLink RX0 53 "NineBreakages$House" "people" "I") (by decide +kernel)
  have in0 : ∀ w ∈ u_ws RX0 TX0 16, w ∈ wsX0_takeCares := fun w q => List.mem_cons_of_mem _ (List.mem_append_right _ q)
  have w_5 := hts (.fieldLink RX0 149 "NineBreakages$Sheet" "numbers" "[I") (by decide +kernel)
  have w_6 := hts (.initialized RX6) (by decide +kernel)
  have w_7 := hts (.static yX6_within) (by decide +kernel)
  have w_8 := hts (.fieldLink RX0 15 "NineBreakages$House" "care" "[I") (by decide +kernel)
  intro n
  induction n with
  | zero =>
    intro M x2 h
    rw [f_X0_takeCares_1_43_2] at h
    cases h
  | succ n ih =>
    intro M x2 h H locs hP hS ls hl
    rw [f_X0_takeCares_1_43_2] at h
    refine lv_iload_n hx hb dX0_takeCares_2 rfl (lv_at hl 2 rfl) ?_
    refine lv_aload_n hx hb dX0_takeCares_3 rfl (lv_at hl 1 rfl) ?_
    refine va_get (v := .int (M.1 43 2)) (C := RX2) (T := TX2) (N := 3) hx hb hts in2 hown hK.1 hP 43 nb_a43 rfl 2 (by decide) w_1 (fun _ h9 => h9) rfl dX0_takeCares_4 ?_
    refine lv_icmp_ge (tgt := 50) hx hb dX0_takeCares_7 (by decide) (fun c_1 => ?_) (fun c_1 => ?_)
    · have h := nb_t c_1 h
      refine lv_iload_n hx hb dX0_takeCares_50 rfl (lv_at hl 2 rfl) ?_
      obtain ⟨rfl, rfl⟩ := nb_e2 h
      exact nb_iret hx hb hr hlk hP hS dX0_takeCares_51
    · have h := nb_f c_1 h
      refine lv_iload_n hx hb dX0_takeCares_10 rfl (lv_at hl 2 rfl) ?_
      refine lv_aload_n hx hb dX0_takeCares_11 rfl (lv_at hl 0 rfl) ?_
      refine va_get (v := .int (M.1 1 2)) (C := RX0) (T := TX0) (N := 16) hx hb hts in0 hown hK.1 hP 1 nb_a1 rfl 2 (by decide) w_3 (fun _ h9 => h9) rfl dX0_takeCares_12 ?_
      refine lv_icmp_ge (tgt := 50) hx hb dX0_takeCares_15 (by decide) (fun c_2 => ?_) (fun c_2 => ?_)
      · have h := nb_t c_2 h
        refine lv_iload_n hx hb dX0_takeCares_50 rfl (lv_at hl 2 rfl) ?_
        obtain ⟨rfl, rfl⟩ := nb_e2 h
        exact nb_iret hx hb hr hlk hP hS dX0_takeCares_51
      · have h := nb_f c_2 h
        refine lv_aload_n hx hb dX0_takeCares_18 rfl (lv_at hl 1 rfl) ?_
        refine va_get (v := .ref (ad 44)) (C := RX2) (T := TX2) (N := 3) hx hb hts in2 hown hK.1 hP 43 nb_a43 rfl 0 (by decide) w_5 (fun _ h9 => h9) rfl dX0_takeCares_19 ?_
        refine lv_iload_n hx hb dX0_takeCares_22 rfl (lv_at hl 2 rfl) ?_
        obtain ⟨c_3, h⟩ := nb_c h
        refine va_iald hx hb hK.1 hP 44 0 nb_a44 rfl c_3 dX0_takeCares_23 ?_
        refine lv_bipush (v := (9 : Int32)) hx hb dX0_takeCares_24 (by decide) ?_
        refine nb_callN (n := 2) (As := [.int (M.1 44 x2.toNatClampNeg), .int (9 : Int32)]) (rest := []) hx hb hml hown hts hK hZ hP hS (k_X6_within had M N (M.1 44 x2.toNatClampNeg) (9 : Int32)) gX0_takeCares_X6_within_n152 rfl hN4 w_6 w_7 (by decide +kernel) (nb_rm (Nat.le_of_ble_eq_true rfl) (Nat.le_of_ble_eq_true rfl)) rfl hl.1 rfl (Nat.le_of_ble_eq_true rfl) dX0_takeCares_26 (fun H locs hP hS => ?_)
        refine W.eq (g2 := F0 m 29 ls [.int (f_X6_within (M.1 44 x2.toNatClampNeg) (9 : Int32))]) rfl ?_
        refine lv_if_eq (tgt := 50) hx hb dX0_takeCares_29 (by decide) (fun c_5 => ?_) (fun c_5 => ?_)
        · have h := nb_t c_5 h
          refine lv_iload_n hx hb dX0_takeCares_50 rfl (lv_at hl 2 rfl) ?_
          obtain ⟨rfl, rfl⟩ := nb_e2 h
          exact nb_iret hx hb hr hlk hP hS dX0_takeCares_51
        · have h := nb_f c_5 h
          refine lv_aload_n hx hb dX0_takeCares_32 rfl (lv_at hl 0 rfl) ?_
          refine va_get (v := .ref (ad 2)) (C := RX0) (T := TX0) (N := 16) hx hb hts in0 hown hK.1 hP 1 nb_a1 rfl 3 (by decide) w_8 (fun _ h9 => h9) rfl dX0_takeCares_33 ?_
          refine lv_iload_n hx hb dX0_takeCares_36 rfl (lv_at hl 2 rfl) ?_
          refine lv_aload_n hx hb dX0_takeCares_37 rfl (lv_at hl 1 rfl) ?_
          refine va_get (v := .ref (ad 44)) (C := RX2) (T := TX2) (N := 3) hx hb hts in2 hown hK.1 hP 43 nb_a43 rfl 0 (by decide) w_5 (fun _ h9 => h9) rfl dX0_takeCares_38 ?_
          refine lv_iload_n hx hb dX0_takeCares_41 rfl (lv_at hl 2 rfl) ?_
          refine va_iald hx hb hK.1 hP 44 0 nb_a44 rfl c_3 dX0_takeCares_42 ?_
          obtain ⟨c_6, h⟩ := nb_c h
          refine nb_iast hx hb had hK hP hS nb_a2 c_6 (nb_t2 _ _) dX0_takeCares_43 (fun H locs hP hS => ?_)
          obtain ⟨M_7, e_7, h⟩ := nb_nE h
          rw [e_7] at hP
          refine lv_iinc (v := x2 + 1) (lv' := [(2, .int (x2 + 1)), (0, .ref (ad 1)), (1, .ref (ad 43))]) hx hb dX0_takeCares_44 hl (k := 2) rfl (congrArg (HAdd.hAdd x2) (by decide)) (by decide) rfl (fun ls hl => ?_)
          refine lv_goto (tgt := 2) hx hb dX0_takeCares_47 (by decide) ?_
          exact ih _ _ h _ _ hP hS _ (lv_sub hl [1, 2, 0] rfl)
set_option maxHeartbeats 4000000 in
set_option maxRecDepth 100000 in
theorem k_X0_takeCares_1_43 {r : Int32} {M' : nb_M} (had : nb_AD ad b0) (M N : nb_M) (h : f_X0_takeCares_1_43 M = some (r, M')) : nb_C l D ad ca b0 yX0_takeCares wsX0_takeCares 1 [.ref (ad 1), .ref (ad 43)] M N (some (.int r)) M' N := by
  refine nb_of (cc := cX0_takeCares) (maxL := 3) (ret := (some .int)) (own := RX0) (by decide +kernel) rfl rfl (Nat.le_of_ble_eq_true rfl) ?_
  intro p e s m args below meth c ls X hP hS hl
  have hl : lv_has ls 3 [(0, .ref (ad 1)), (1, .ref (ad 43))] := hl
  obtain ⟨hx, hb, hml, hown, hts, hr, hlk, hK, hZ⟩ := id X
  unfold f_X0_takeCares_1_43 at h
  refine lv_iconst (v := (0 : Int32)) hx hb dX0_takeCares_0 (by decide) ?_
  refine lv_istore_n (lv' := [(2, .int (0 : Int32)), (0, .ref (ad 1)), (1, .ref (ad 43))]) hx hb dX0_takeCares_1 rfl hl (by decide) rfl (fun ls hl => ?_)
  exact w_X0_takeCares_1_43_2 had X nb_F _ _ h _ _ hP hS _ (lv_sub hl [1, 2, 0] rfl)
set_option maxHeartbeats 4000000 in
set_option maxRecDepth 100000 in
theorem w_X0_takeCares_1_45_2 {N : nb_M} {r : Int32} {M' : nb_M} (had : nb_AD ad b0) (X : nb_X p s m args meth c cX0_takeCares 3 RX0 (some .int) wsX0_takeCares D ca b0) : ∀ (n : Nat) (M : nb_M) (x2 : Int32), f_X0_takeCares_1_45_2 n M x2 = some (r, M') → ∀ (H : Heap) (locs : List Loc), va_P D vwCl (nb_w ad ca M N) H → va_S (fun q => b0 ≤ q) s.heap H locs → ∀ ls : Array Slot, lv_has ls 3 [(0, .ref (ad 1)), (1, .ref (ad 45)), (2, .int x2)] → W p l e (nb_R 1) s m args below meth c H locs 0 0 (nb_Q below args s D ad ca b0 (some (.int r)) M' N) (F0 m 2 ls []) := by
  obtain ⟨hx, hb, hml, hown, hts, hr, hlk, hK, hZ⟩ := id X
  obtain ⟨_, hN1, hN2, hN3, hN4, hN5, hN6⟩ := id hK
  have w_1 := hts (.fieldLink RX0 144 "NineBreakages$Sheet" "size" "I") (by decide +kernel)
  have in2 : ∀ w ∈ u_ws RX2 TX2 3, w ∈ wsX0_takeCares := fun w q => List.mem_cons_of_mem _ (List.mem_append_left _ (List.mem_append_right _ q))
  have w_3 := hts (.fieldLink RX0 53 "NineBreakages$House" "people" "I") (by decide +kernel)
  have in0 : ∀ w ∈ u_ws RX0 TX0 16, w ∈ wsX0_takeCares := fun w q => List.mem_cons_of_mem _ (List.mem_append_right _ q)
  have w_5 := hts (.fieldLink RX0 149 "NineBreakages$Sheet" "numbers" "[I") (by decide +kernel)
  have w_6 := hts (.initialized RX6) (by decide +kernel)
  have w_7 := hts (.static yX6_within) (by decide +kernel)
  have w_8 := hts (.fieldLink RX0 15 "NineBreakages$House" "care" "[I") (by decide +kernel)
  intro n
  induction n with
  | zero =>
    intro M x2 h
    rw [f_X0_takeCares_1_45_2] at h
    cases h
  | succ n ih =>
    intro M x2 h H locs hP hS ls hl
    rw [f_X0_takeCares_1_45_2] at h
    refine lv_iload_n hx hb dX0_takeCares_2 rfl (lv_at hl 2 rfl) ?_
    refine lv_aload_n hx hb dX0_takeCares_3 rfl (lv_at hl 1 rfl) ?_
    refine va_get (v := .int (M.1 45 2)) (C := RX2) (T := TX2) (N := 3) hx hb hts in2 hown hK.1 hP 45 nb_a45 rfl 2 (by decide) w_1 (fun _ h9 => h9) rfl dX0_takeCares_4 ?_
    refine lv_icmp_ge (tgt := 50) hx hb dX0_takeCares_7 (by decide) (fun c_1 => ?_) (fun c_1 => ?_)
    · have h := nb_t c_1 h
      refine lv_iload_n hx hb dX0_takeCares_50 rfl (lv_at hl 2 rfl) ?_
      obtain ⟨rfl, rfl⟩ := nb_e2 h
      exact nb_iret hx hb hr hlk hP hS dX0_takeCares_51
    · have h := nb_f c_1 h
      refine lv_iload_n hx hb dX0_takeCares_10 rfl (lv_at hl 2 rfl) ?_
      refine lv_aload_n hx hb dX0_takeCares_11 rfl (lv_at hl 0 rfl) ?_
      refine va_get (v := .int (M.1 1 2)) (C := RX0) (T := TX0) (N := 16) hx hb hts in0 hown hK.1 hP 1 nb_a1 rfl 2 (by decide) w_3 (fun _ h9 => h9) rfl dX0_takeCares_12 ?_
      refine lv_icmp_ge (tgt := 50) hx hb dX0_takeCares_15 (by decide) (fun c_2 => ?_) (fun c_2 => ?_)
      · have h := nb_t c_2 h
        refine lv_iload_n hx hb dX0_takeCares_50 rfl (lv_at hl 2 rfl) ?_
        obtain ⟨rfl, rfl⟩ := nb_e2 h
        exact nb_iret hx hb hr hlk hP hS dX0_takeCares_51
      · have h := nb_f c_2 h
        refine lv_aload_n hx hb dX0_takeCares_18 rfl (lv_at hl 1 rfl) ?_
        refine va_get (v := .ref (ad 46)) (C := RX2) (T := TX2) (N := 3) hx hb hts in2 hown hK.1 hP 45 nb_a45 rfl 0 (by decide) w_5 (fun _ h9 => h9) rfl dX0_takeCares_19 ?_
        refine lv_iload_n hx hb dX0_takeCares_22 rfl (lv_at hl 2 rfl) ?_
        obtain ⟨c_3, h⟩ := nb_c h
        refine va_iald hx hb hK.1 hP 46 0 nb_a46 rfl c_3 dX0_takeCares_23 ?_
        refine lv_bipush (v := (9 : Int32)) hx hb dX0_takeCares_24 (by decide) ?_
        refine nb_callN (n := 2) (As := [.int (M.1 46 x2.toNatClampNeg), .int (9 : Int32)]) (rest := []) hx hb hml hown hts hK hZ hP hS (k_X6_within had M N (M.1 46 x2.toNatClampNeg) (9 : Int32)) gX0_takeCares_X6_within_n152 rfl hN4 w_6 w_7 (by decide +kernel) (nb_rm (Nat.le_of_ble_eq_true rfl) (Nat.le_of_ble_eq_true rfl)) rfl hl.1 rfl (Nat.le_of_ble_eq_true rfl) dX0_takeCares_26 (fun H locs hP hS => ?_)
        refine W.eq (g2 := F0 m 29 ls [.int (f_X6_within (M.1 46 x2.toNatClampNeg) (9 : Int32))]) rfl ?_
        refine lv_if_eq (tgt := 50) hx hb dX0_takeCares_29 (by decide) (fun c_5 => ?_) (fun c_5 => ?_)
        · have h := nb_t c_5 h
          refine lv_iload_n hx hb dX0_takeCares_50 rfl (lv_at hl 2 rfl) ?_
          obtain ⟨rfl, rfl⟩ := nb_e2 h
          exact nb_iret hx hb hr hlk hP hS dX0_takeCares_51
        · have h := nb_f c_5 h
          refine lv_aload_n hx hb dX0_takeCares_32 rfl (lv_at hl 0 rfl) ?_
          refine va_get (v := .ref (ad 2)) (C := RX0) (T := TX0) (N := 16) hx hb hts in0 hown hK.1 hP 1 nb_a1 rfl 3 (by decide) w_8 (fun _ h9 => h9) rfl dX0_takeCares_33 ?_
          refine lv_iload_n hx hb dX0_takeCares_36 rfl (lv_at hl 2 rfl) ?_
          refine lv_aload_n hx hb dX0_takeCares_37 rfl (lv_at hl 1 rfl) ?_
          refine va_get (v := .ref (ad 46)) (C := RX2) (T := TX2) (N := 3) hx hb hts in2 hown hK.1 hP 45 nb_a45 rfl 0 (by decide) w_5 (fun _ h9 => h9) rfl dX0_takeCares_38 ?_
          refine lv_iload_n hx hb dX0_takeCares_41 rfl (lv_at hl 2 rfl) ?_
          refine va_iald hx hb hK.1 hP 46 0 nb_a46 rfl c_3 dX0_takeCares_42 ?_
          obtain ⟨c_6, h⟩ := nb_c h
          refine nb_iast hx hb had hK hP hS nb_a2 c_6 (nb_t2 _ _) dX0_takeCares_43 (fun H locs hP hS => ?_)
          obtain ⟨M_7, e_7, h⟩ := nb_nE h
          rw [e_7] at hP
          refine lv_iinc (v := x2 + 1) (lv' := [(2, .int (x2 + 1)), (0, .ref (ad 1)), (1, .ref (ad 45))]) hx hb dX0_takeCares_44 hl (k := 2) rfl (congrArg (HAdd.hAdd x2) (by decide)) (by decide) rfl (fun ls hl => ?_)
          refine lv_goto (tgt := 2) hx hb dX0_takeCares_47 (by decide) ?_
          exact ih _ _ h _ _ hP hS _ (lv_sub hl [1, 2, 0] rfl)
set_option maxHeartbeats 4000000 in
set_option maxRecDepth 100000 in
theorem k_X0_takeCares_1_45 {r : Int32} {M' : nb_M} (had : nb_AD ad b0) (M N : nb_M) (h : f_X0_takeCares_1_45 M = some (r, M')) : nb_C l D ad ca b0 yX0_takeCares wsX0_takeCares 1 [.ref (ad 1), .ref (ad 45)] M N (some (.int r)) M' N := by
  refine nb_of (cc := cX0_takeCares) (maxL := 3) (ret := (some .int)) (own := RX0) (by decide +kernel) rfl rfl (Nat.le_of_ble_eq_true rfl) ?_
  intro p e s m args below meth c ls X hP hS hl
  have hl : lv_has ls 3 [(0, .ref (ad 1)), (1, .ref (ad 45))] := hl
  obtain ⟨hx, hb, hml, hown, hts, hr, hlk, hK, hZ⟩ := id X
  unfold f_X0_takeCares_1_45 at h
  refine lv_iconst (v := (0 : Int32)) hx hb dX0_takeCares_0 (by decide) ?_
  refine lv_istore_n (lv' := [(2, .int (0 : Int32)), (0, .ref (ad 1)), (1, .ref (ad 45))]) hx hb dX0_takeCares_1 rfl hl (by decide) rfl (fun ls hl => ?_)
  exact w_X0_takeCares_1_45_2 had X nb_F _ _ h _ _ hP hS _ (lv_sub hl [1, 2, 0] rfl)
set_option maxHeartbeats 4000000 in
set_option maxRecDepth 100000 in
theorem w_X0_takeCares_1_47_2 {N : nb_M} {r : Int32} {M' : nb_M} (had : nb_AD ad b0) (X : nb_X p s m args meth c cX0_takeCares 3 RX0 (some .int) wsX0_takeCares D ca b0) : ∀ (n : Nat) (M : nb_M) (x2 : Int32), f_X0_takeCares_1_47_2 n M x2 = some (r, M') → ∀ (H : Heap) (locs : List Loc), va_P D vwCl (nb_w ad ca M N) H → va_S (fun q => b0 ≤ q) s.heap H locs → ∀ ls : Array Slot, lv_has ls 3 [(0, .ref (ad 1)), (1, .ref (ad 47)), (2, .int x2)] → W p l e (nb_R 1) s m args below meth c H locs 0 0 (nb_Q below args s D ad ca b0 (some (.int r)) M' N) (F0 m 2 ls []) := by
  obtain ⟨hx, hb, hml, hown, hts, hr, hlk, hK, hZ⟩ := id X
  obtain ⟨_, hN1, hN2, hN3, hN4, hN5, hN6⟩ := id hK
  have w_1 := hts (.fieldLink RX0 144 "NineBreakages$Sheet" "size" "I") (by decide +kernel)
  have in2 : ∀ w ∈ u_ws RX2 TX2 3, w ∈ wsX0_takeCares := fun w q => List.mem_cons_of_mem _ (List.mem_append_left _ (List.mem_append_right _ q))
  have w_3 := hts (.fieldLink RX0 53 "NineBreakages$House" "people" "I") (by decide +kernel)
  have in0 : ∀ w ∈ u_ws RX0 TX0 16, w ∈ wsX0_takeCares := fun w q => List.mem_cons_of_mem _ (List.mem_append_right _ q)
  have w_5 := hts (.fieldLink RX0 149 "NineBreakages$Sheet" "numbers" "[I") (by decide +kernel)
  have w_6 := hts (.initialized RX6) (by decide +kernel)
  have w_7 := hts (.static yX6_within) (by decide +kernel)
  have w_8 := hts (.fieldLink RX0 15 "NineBreakages$House" "care" "[I") (by decide +kernel)
  intro n
  induction n with
  | zero =>
    intro M x2 h
    rw [f_X0_takeCares_1_47_2] at h
    cases h
  | succ n ih =>
    intro M x2 h H locs hP hS ls hl
    rw [f_X0_takeCares_1_47_2] at h
    refine lv_iload_n hx hb dX0_takeCares_2 rfl (lv_at hl 2 rfl) ?_
    refine lv_aload_n hx hb dX0_takeCares_3 rfl (lv_at hl 1 rfl) ?_
    refine va_get (v := .int (M.1 47 2)) (C := RX2) (T := TX2) (N := 3) hx hb hts in2 hown hK.1 hP 47 nb_a47 rfl 2 (by decide) w_1 (fun _ h9 => h9) rfl dX0_takeCares_4 ?_
    refine lv_icmp_ge (tgt := 50) hx hb dX0_takeCares_7 (by decide) (fun c_1 => ?_) (fun c_1 => ?_)
    · have h := nb_t c_1 h
      refine lv_iload_n hx hb dX0_takeCares_50 rfl (lv_at hl 2 rfl) ?_
      obtain ⟨rfl, rfl⟩ := nb_e2 h
      exact nb_iret hx hb hr hlk hP hS dX0_takeCares_51
    · have h := nb_f c_1 h
      refine lv_iload_n hx hb dX0_takeCares_10 rfl (lv_at hl 2 rfl) ?_
      refine lv_aload_n hx hb dX0_takeCares_11 rfl (lv_at hl 0 rfl) ?_
      refine va_get (v := .int (M.1 1 2)) (C := RX0) (T := TX0) (N := 16) hx hb hts in0 hown hK.1 hP 1 nb_a1 rfl 2 (by decide) w_3 (fun _ h9 => h9) rfl dX0_takeCares_12 ?_
      refine lv_icmp_ge (tgt := 50) hx hb dX0_takeCares_15 (by decide) (fun c_2 => ?_) (fun c_2 => ?_)
      · have h := nb_t c_2 h
        refine lv_iload_n hx hb dX0_takeCares_50 rfl (lv_at hl 2 rfl) ?_
        obtain ⟨rfl, rfl⟩ := nb_e2 h
        exact nb_iret hx hb hr hlk hP hS dX0_takeCares_51
      · have h := nb_f c_2 h
        refine lv_aload_n hx hb dX0_takeCares_18 rfl (lv_at hl 1 rfl) ?_
        refine va_get (v := .ref (ad 48)) (C := RX2) (T := TX2) (N := 3) hx hb hts in2 hown hK.1 hP 47 nb_a47 rfl 0 (by decide) w_5 (fun _ h9 => h9) rfl dX0_takeCares_19 ?_
        refine lv_iload_n hx hb dX0_takeCares_22 rfl (lv_at hl 2 rfl) ?_
        obtain ⟨c_3, h⟩ := nb_c h
        refine va_iald hx hb hK.1 hP 48 0 nb_a48 rfl c_3 dX0_takeCares_23 ?_
        refine lv_bipush (v := (9 : Int32)) hx hb dX0_takeCares_24 (by decide) ?_
        refine nb_callN (n := 2) (As := [.int (M.1 48 x2.toNatClampNeg), .int (9 : Int32)]) (rest := []) hx hb hml hown hts hK hZ hP hS (k_X6_within had M N (M.1 48 x2.toNatClampNeg) (9 : Int32)) gX0_takeCares_X6_within_n152 rfl hN4 w_6 w_7 (by decide +kernel) (nb_rm (Nat.le_of_ble_eq_true rfl) (Nat.le_of_ble_eq_true rfl)) rfl hl.1 rfl (Nat.le_of_ble_eq_true rfl) dX0_takeCares_26 (fun H locs hP hS => ?_)
        refine W.eq (g2 := F0 m 29 ls [.int (f_X6_within (M.1 48 x2.toNatClampNeg) (9 : Int32))]) rfl ?_
        refine lv_if_eq (tgt := 50) hx hb dX0_takeCares_29 (by decide) (fun c_5 => ?_) (fun c_5 => ?_)
        · have h := nb_t c_5 h
          refine lv_iload_n hx hb dX0_takeCares_50 rfl (lv_at hl 2 rfl) ?_
          obtain ⟨rfl, rfl⟩ := nb_e2 h
          exact nb_iret hx hb hr hlk hP hS dX0_takeCares_51
        · have h := nb_f c_5 h
          refine lv_aload_n hx hb dX0_takeCares_32 rfl (lv_at hl 0 rfl) ?_
          refine va_get (v := .ref (ad 2)) (C := RX0) (T := TX0) (N := 16) hx hb hts in0 hown hK.1 hP 1 nb_a1 rfl 3 (by decide) w_8 (fun _ h9 => h9) rfl dX0_takeCares_33 ?_
          refine lv_iload_n hx hb dX0_takeCares_36 rfl (lv_at hl 2 rfl) ?_
          refine lv_aload_n hx hb dX0_takeCares_37 rfl (lv_at hl 1 rfl) ?_
          refine va_get (v := .ref (ad 48)) (C := RX2) (T := TX2) (N := 3) hx hb hts in2 hown hK.1 hP 47 nb_a47 rfl 0 (by decide) w_5 (fun _ h9 => h9) rfl dX0_takeCares_38 ?_
          refine lv_iload_n hx hb dX0_takeCares_41 rfl (lv_at hl 2 rfl) ?_
          refine va_iald hx hb hK.1 hP 48 0 nb_a48 rfl c_3 dX0_takeCares_42 ?_
          obtain ⟨c_6, h⟩ := nb_c h
          refine nb_iast hx hb had hK hP hS nb_a2 c_6 (nb_t2 _ _) dX0_takeCares_43 (fun H locs hP hS => ?_)
          obtain ⟨M_7, e_7, h⟩ := nb_nE h
          rw [e_7] at hP
          refine lv_iinc (v := x2 + 1) (lv' := [(2, .int (x2 + 1)), (0, .ref (ad 1)), (1, .ref (ad 47))]) hx hb dX0_takeCares_44 hl (k := 2) rfl (congrArg (HAdd.hAdd x2) (by decide)) (by decide) rfl (fun ls hl => ?_)
          refine lv_goto (tgt := 2) hx hb dX0_takeCares_47 (by decide) ?_
          exact ih _ _ h _ _ hP hS _ (lv_sub hl [1, 2, 0] rfl)
set_option maxHeartbeats 4000000 in
set_option maxRecDepth 100000 in
theorem k_X0_takeCares_1_47 {r : Int32} {M' : nb_M} (had : nb_AD ad b0) (M N : nb_M) (h : f_X0_takeCares_1_47 M = some (r, M')) : nb_C l D ad ca b0 yX0_takeCares wsX0_takeCares 1 [.ref (ad 1), .ref (ad 47)] M N (some (.int r)) M' N := by
  refine nb_of (cc := cX0_takeCares) (maxL := 3) (ret := (some .int)) (own := RX0) (by decide +kernel) rfl rfl (Nat.le_of_ble_eq_true rfl) ?_
  intro p e s m args below meth c ls X hP hS hl
  have hl : lv_has ls 3 [(0, .ref (ad 1)), (1, .ref (ad 47))] := hl
  obtain ⟨hx, hb, hml, hown, hts, hr, hlk, hK, hZ⟩ := id X
  unfold f_X0_takeCares_1_47 at h
  refine lv_iconst (v := (0 : Int32)) hx hb dX0_takeCares_0 (by decide) ?_
  refine lv_istore_n (lv' := [(2, .int (0 : Int32)), (0, .ref (ad 1)), (1, .ref (ad 47))]) hx hb dX0_takeCares_1 rfl hl (by decide) rfl (fun ls hl => ?_)
  exact w_X0_takeCares_1_47_2 had X nb_F _ _ h _ _ hP hS _ (lv_sub hl [1, 2, 0] rfl)
set_option maxHeartbeats 4000000 in
set_option maxRecDepth 100000 in
theorem w_X0_takeCares_1_49_2 {N : nb_M} {r : Int32} {M' : nb_M} (had : nb_AD ad b0) (X : nb_X p s m args meth c cX0_takeCares 3 RX0 (some .int) wsX0_takeCares D ca b0) : ∀ (n : Nat) (M : nb_M) (x2 : Int32), f_X0_takeCares_1_49_2 n M x2 = some (r, M') → ∀ (H : Heap) (locs : List Loc), va_P D vwCl (nb_w ad ca M N) H → va_S (fun q => b0 ≤ q) s.heap H locs → ∀ ls : Array Slot, lv_has ls 3 [(0, .ref (ad 1)), (1, .ref (ad 49)), (2, .int x2)] → W p l e (nb_R 1) s m args below meth c H locs 0 0 (nb_Q below args s D ad ca b0 (some (.int r)) M' N) (F0 m 2 ls []) := by
  obtain ⟨hx, hb, hml, hown, hts, hr, hlk, hK, hZ⟩ := id X
  obtain ⟨_, hN1, hN2, hN3, hN4, hN5, hN6⟩ := id hK
  have w_1 := hts (.fieldLink RX0 144 "NineBreakages$Sheet" "size" "I") (by decide +kernel)
  have in2 : ∀ w ∈ u_ws RX2 TX2 3, w ∈ wsX0_takeCares := fun w q => List.mem_cons_of_mem _ (List.mem_append_left _ (List.mem_append_right _ q))
  have w_3 := hts (.fieldLink RX0 53 "NineBreakages$House" "people" "I") (by decide +kernel)
  have in0 : ∀ w ∈ u_ws RX0 TX0 16, w ∈ wsX0_takeCares := fun w q => List.mem_cons_of_mem _ (List.mem_append_right _ q)
  have w_5 := hts (.fieldLink RX0 149 "NineBreakages$Sheet" "numbers" "[I") (by decide +kernel)
  have w_6 := hts (.initialized RX6) (by decide +kernel)
  have w_7 := hts (.static yX6_within) (by decide +kernel)
  have w_8 := hts (.fieldLink RX0 15 "NineBreakages$House" "care" "[I") (by decide +kernel)
  intro n
  induction n with
  | zero =>
    intro M x2 h
    rw [f_X0_takeCares_1_49_2] at h
    cases h
  | succ n ih =>
    intro M x2 h H locs hP hS ls hl
    rw [f_X0_takeCares_1_49_2] at h
    refine lv_iload_n hx hb dX0_takeCares_2 rfl (lv_at hl 2 rfl) ?_
    refine lv_aload_n hx hb dX0_takeCares_3 rfl (lv_at hl 1 rfl) ?_
    refine va_get (v := .int (M.1 49 2)) (C := RX2) (T := TX2) (N := 3) hx hb hts in2 hown hK.1 hP 49 nb_a49 rfl 2 (by decide) w_1 (fun _ h9 => h9) rfl dX0_takeCares_4 ?_
    refine lv_icmp_ge (tgt := 50) hx hb dX0_takeCares_7 (by decide) (fun c_1 => ?_) (fun c_1 => ?_)
    · have h := nb_t c_1 h
      refine lv_iload_n hx hb dX0_takeCares_50 rfl (lv_at hl 2 rfl) ?_
      obtain ⟨rfl, rfl⟩ := nb_e2 h
      exact nb_iret hx hb hr hlk hP hS dX0_takeCares_51
    · have h := nb_f c_1 h
      refine lv_iload_n hx hb dX0_takeCares_10 rfl (lv_at hl 2 rfl) ?_
      refine lv_aload_n hx hb dX0_takeCares_11 rfl (lv_at hl 0 rfl) ?_
      refine va_get (v := .int (M.1 1 2)) (C := RX0) (T := TX0) (N := 16) hx hb hts in0 hown hK.1 hP 1 nb_a1 rfl 2 (by decide) w_3 (fun _ h9 => h9) rfl dX0_takeCares_12 ?_
      refine lv_icmp_ge (tgt := 50) hx hb dX0_takeCares_15 (by decide) (fun c_2 => ?_) (fun c_2 => ?_)
      · have h := nb_t c_2 h
        refine lv_iload_n hx hb dX0_takeCares_50 rfl (lv_at hl 2 rfl) ?_
        obtain ⟨rfl, rfl⟩ := nb_e2 h
        exact nb_iret hx hb hr hlk hP hS dX0_takeCares_51
      · have h := nb_f c_2 h
        refine lv_aload_n hx hb dX0_takeCares_18 rfl (lv_at hl 1 rfl) ?_
        refine va_get (v := .ref (ad 50)) (C := RX2) (T := TX2) (N := 3) hx hb hts in2 hown hK.1 hP 49 nb_a49 rfl 0 (by decide) w_5 (fun _ h9 => h9) rfl dX0_takeCares_19 ?_
        refine lv_iload_n hx hb dX0_takeCares_22 rfl (lv_at hl 2 rfl) ?_
        obtain ⟨c_3, h⟩ := nb_c h
        refine va_iald hx hb hK.1 hP 50 0 nb_a50 rfl c_3 dX0_takeCares_23 ?_
        refine lv_bipush (v := (9 : Int32)) hx hb dX0_takeCares_24 (by decide) ?_
        refine nb_callN (n := 2) (As := [.int (M.1 50 x2.toNatClampNeg), .int (9 : Int32)]) (rest := []) hx hb hml hown hts hK hZ hP hS (k_X6_within had M N (M.1 50 x2.toNatClampNeg) (9 : Int32)) gX0_takeCares_X6_within_n152 rfl hN4 w_6 w_7 (by decide +kernel) (nb_rm (Nat.le_of_ble_eq_true rfl) (Nat.le_of_ble_eq_true rfl)) rfl hl.1 rfl (Nat.le_of_ble_eq_true rfl) dX0_takeCares_26 (fun H locs hP hS => ?_)
        refine W.eq (g2 := F0 m 29 ls [.int (f_X6_within (M.1 50 x2.toNatClampNeg) (9 : Int32))]) rfl ?_
        refine lv_if_eq (tgt := 50) hx hb dX0_takeCares_29 (by decide) (fun c_5 => ?_) (fun c_5 => ?_)
        · have h := nb_t c_5 h
          refine lv_iload_n hx hb dX0_takeCares_50 rfl (lv_at hl 2 rfl) ?_
          obtain ⟨rfl, rfl⟩ := nb_e2 h
          exact nb_iret hx hb hr hlk hP hS dX0_takeCares_51
        · have h := nb_f c_5 h
          refine lv_aload_n hx hb dX0_takeCares_32 rfl (lv_at hl 0 rfl) ?_
          refine va_get (v := .ref (ad 2)) (C := RX0) (T := TX0) (N := 16) hx hb hts in0 hown hK.1 hP 1 nb_a1 rfl 3 (by decide) w_8 (fun _ h9 => h9) rfl dX0_takeCares_33 ?_
          refine lv_iload_n hx hb dX0_takeCares_36 rfl (lv_at hl 2 rfl) ?_
          refine lv_aload_n hx hb dX0_takeCares_37 rfl (lv_at hl 1 rfl) ?_
          refine va_get (v := .ref (ad 50)) (C := RX2) (T := TX2) (N := 3) hx hb hts in2 hown hK.1 hP 49 nb_a49 rfl 0 (by decide) w_5 (fun _ h9 => h9) rfl dX0_takeCares_38 ?_
          refine lv_iload_n hx hb dX0_takeCares_41 rfl (lv_at hl 2 rfl) ?_
          refine va_iald hx hb hK.1 hP 50 0 nb_a50 rfl c_3 dX0_takeCares_42 ?_
          obtain ⟨c_6, h⟩ := nb_c h
          refine nb_iast hx hb had hK hP hS nb_a2 c_6 (nb_t2 _ _) dX0_takeCares_43 (fun H locs hP hS => ?_)
          obtain ⟨M_7, e_7, h⟩ := nb_nE h
          rw [e_7] at hP
          refine lv_iinc (v := x2 + 1) (lv' := [(2, .int (x2 + 1)), (0, .ref (ad 1)), (1, .ref (ad 49))]) hx hb dX0_takeCares_44 hl (k := 2) rfl (congrArg (HAdd.hAdd x2) (by decide)) (by decide) rfl (fun ls hl => ?_)
          refine lv_goto (tgt := 2) hx hb dX0_takeCares_47 (by decide) ?_
          exact ih _ _ h _ _ hP hS _ (lv_sub hl [1, 2, 0] rfl)
set_option maxHeartbeats 4000000 in
set_option maxRecDepth 100000 in
theorem k_X0_takeCares_1_49 {r : Int32} {M' : nb_M} (had : nb_AD ad b0) (M N : nb_M) (h : f_X0_takeCares_1_49 M = some (r, M')) : nb_C l D ad ca b0 yX0_takeCares wsX0_takeCares 1 [.ref (ad 1), .ref (ad 49)] M N (some (.int r)) M' N := by
  refine nb_of (cc := cX0_takeCares) (maxL := 3) (ret := (some .int)) (own := RX0) (by decide +kernel) rfl rfl (Nat.le_of_ble_eq_true rfl) ?_
  intro p e s m args below meth c ls X hP hS hl
  have hl : lv_has ls 3 [(0, .ref (ad 1)), (1, .ref (ad 49))] := hl
  obtain ⟨hx, hb, hml, hown, hts, hr, hlk, hK, hZ⟩ := id X
  unfold f_X0_takeCares_1_49 at h
  refine lv_iconst (v := (0 : Int32)) hx hb dX0_takeCares_0 (by decide) ?_
  refine lv_istore_n (lv' := [(2, .int (0 : Int32)), (0, .ref (ad 1)), (1, .ref (ad 49))]) hx hb dX0_takeCares_1 rfl hl (by decide) rfl (fun ls hl => ?_)
  exact w_X0_takeCares_1_49_2 had X nb_F _ _ h _ _ hP hS _ (lv_sub hl [1, 2, 0] rfl)
set_option maxHeartbeats 4000000 in
set_option maxRecDepth 100000 in
theorem k_X6_cares {r : Int32} {M' : nb_M} (had : nb_AD ad b0) (M N : nb_M) (p0 : Int32) (h : f_X6_cares M p0 = some (r, M')) : nb_C l D ad ca b0 yX6_cares wsX6_cares 2 [.ref (ad 0), .int p0] M N (some (.int r)) M' N := by
  refine nb_of (cc := cX6_cares) (maxL := 2) (ret := (some .int)) (own := RX6) (by decide +kernel) rfl rfl (Nat.le_of_ble_eq_true rfl) ?_
  intro p e s m args below meth c ls X hP hS hl
  have hl : lv_has ls 2 [(0, .ref (ad 0)), (1, .int p0)] := hl
  obtain ⟨hx, hb, hml, hown, hts, hr, hlk, hK, hZ⟩ := id X
  have w_1 := hts (.fieldLink RX6 46 "NineBreakages" "sheets" "[LNineBreakages$Sheet;") (by decide +kernel)
  have in6 : ∀ w ∈ u_ws RX6 TX6 8, w ∈ wsX6_cares := fun w q => List.mem_cons_of_mem _ (List.mem_append_left _ (List.mem_append_left _ (List.mem_append_right _ q)))
  have w_3 := hts (.fieldLink RX6 12 "NineBreakages" "now" "LNineBreakages$House;") (by decide +kernel)
  unfold f_X6_cares at h
  refine lv_iload_n hx hb dX6_cares_0 rfl (lv_at hl 1 rfl) ?_
  refine nb_callS (n := 1) (As := [.int p0]) (rest := []) hx hb hml hown hts hK hZ hP hS (k_X6_isSheet had M N p0) gX6_cares_X6_isSheet rfl (by decide +kernel) (nb_rm (Nat.le_of_ble_eq_true rfl) (Nat.le_of_ble_eq_true rfl)) rfl hl.1 rfl (Nat.le_of_ble_eq_true rfl) dX6_cares_1 (fun H locs hP hS => ?_)
  refine W.eq (g2 := F0 m 4 ls [.int (f_X6_isSheet p0)]) rfl ?_
  refine lv_if_ne (tgt := 13) hx hb dX6_cares_4 (by decide) (fun c_2 => ?_) (fun c_2 => ?_)
  · have h := nb_f c_2 h
    refine lv_aload_n hx hb dX6_cares_13 rfl (lv_at hl 0 rfl) ?_
    refine va_get (v := .ref (ad 42)) (C := RX6) (T := TX6) (N := 8) hx hb hts in6 hown hK.1 hP 0 nb_a0 rfl 5 (by decide) w_1 (fun _ h9 => h9) rfl dX6_cares_14 ?_
    refine lv_iload_n hx hb dX6_cares_17 rfl (lv_at hl 1 rfl) ?_
    by_cases c_3 : p0 = 0
    · have h := nb_t c_3 h
      refine nb_ald (t0 := 3) (E := RX2) (v := (0 : Int32)) hx hb hK hP nb_a42 rfl c_3 (nb_lit rfl) rfl dX6_cares_18 ?_
      refine nb_callV (n := 0) (As := []) (rest := []) hx hb hml hown hts hK hZ hP hS (k_X2_isMissing_43 had M N) gX6_cares_X2_isMissing rfl (by decide +kernel) (nb_rm (Nat.le_of_ble_eq_true rfl) (Nat.le_of_ble_eq_true rfl)) nb_a43 rfl rfl rfl hl.1 rfl (Nat.le_of_ble_eq_true rfl) dX6_cares_19 (fun H locs hP hS => ?_)
      refine W.eq (g2 := F0 m 22 ls [.int (f_X2_isMissing_43 M)]) rfl ?_
      refine lv_if_eq (tgt := 31) hx hb dX6_cares_22 (by decide) (fun c_5 => ?_) (fun c_5 => ?_)
      · have h := nb_t c_5 h
        refine lv_aload_n hx hb dX6_cares_31 rfl (lv_at hl 0 rfl) ?_
        refine va_get (v := .ref (ad 1)) (C := RX6) (T := TX6) (N := 8) hx hb hts in6 hown hK.1 hP 0 nb_a0 rfl 0 (by decide) w_3 (fun _ h9 => h9) rfl dX6_cares_32 ?_
        refine lv_aload_n hx hb dX6_cares_35 rfl (lv_at hl 0 rfl) ?_
        refine va_get (v := .ref (ad 42)) (C := RX6) (T := TX6) (N := 8) hx hb hts in6 hown hK.1 hP 0 nb_a0 rfl 5 (by decide) w_1 (fun _ h9 => h9) rfl dX6_cares_36 ?_
        refine lv_iload_n hx hb dX6_cares_39 rfl (lv_at hl 1 rfl) ?_
        refine nb_ald (t0 := 3) (E := RX2) (v := (0 : Int32)) hx hb hK hP nb_a42 rfl c_3 (nb_lit rfl) rfl dX6_cares_40 ?_
        obtain ⟨r_6, M_6, e_6, h⟩ := nb_pE h
        refine nb_callV (n := 1) (As := [.ref (ad 43)]) (rest := []) hx hb hml hown hts hK hZ hP hS (k_X0_takeCares_1_43 had M N e_6) gX6_cares_X0_takeCares rfl (by decide +kernel) (nb_rm (Nat.le_of_ble_eq_true rfl) (Nat.le_of_ble_eq_true rfl)) nb_a1 rfl rfl rfl hl.1 rfl (Nat.le_of_ble_eq_true rfl) dX6_cares_41 (fun H locs hP hS => ?_)
        refine W.eq (g2 := F0 m 44 ls [.int r_6]) rfl ?_
        obtain ⟨rfl, rfl⟩ := nb_e2 h
        exact nb_iret hx hb hr hlk hP hS dX6_cares_44
      · have h := nb_f c_5 h
        refine lv_aload_n hx hb dX6_cares_25 rfl (lv_at hl 0 rfl) ?_
        refine lv_iconst (v := (2 : Int32)) hx hb dX6_cares_26 (by decide) ?_
        obtain ⟨r_7, M_7, e_7, h⟩ := nb_pE h
        refine nb_callV (n := 1) (As := [.int (2 : Int32)]) (rest := []) hx hb hml hown hts hK hZ hP hS (k_X6_fail had M N (2 : Int32) e_7) gX6_cares_X6_fail rfl (by decide +kernel) (nb_rm (Nat.le_of_ble_eq_true rfl) (Nat.le_of_ble_eq_true rfl)) nb_a0 rfl rfl rfl hl.1 rfl (Nat.le_of_ble_eq_true rfl) dX6_cares_27 (fun H locs hP hS => ?_)
        refine W.eq (g2 := F0 m 30 ls [.int r_7]) rfl ?_
        obtain ⟨rfl, rfl⟩ := nb_e2 h
        exact nb_iret hx hb hr hlk hP hS dX6_cares_30
    · have h := nb_f c_3 h
      by_cases c_8 : p0 = 1
      · have h := nb_t c_8 h
        refine nb_ald (t0 := 3) (E := RX2) (v := (1 : Int32)) hx hb hK hP nb_a42 rfl c_8 (nb_lit rfl) rfl dX6_cares_18 ?_
        refine nb_callV (n := 0) (As := []) (rest := []) hx hb hml hown hts hK hZ hP hS (k_X2_isMissing_45 had M N) gX6_cares_X2_isMissing rfl (by decide +kernel) (nb_rm (Nat.le_of_ble_eq_true rfl) (Nat.le_of_ble_eq_true rfl)) nb_a45 rfl rfl rfl hl.1 rfl (Nat.le_of_ble_eq_true rfl) dX6_cares_19 (fun H locs hP hS => ?_)
        refine W.eq (g2 := F0 m 22 ls [.int (f_X2_isMissing_45 M)]) rfl ?_
        refine lv_if_eq (tgt := 31) hx hb dX6_cares_22 (by decide) (fun c_10 => ?_) (fun c_10 => ?_)
        · have h := nb_t c_10 h
          refine lv_aload_n hx hb dX6_cares_31 rfl (lv_at hl 0 rfl) ?_
          refine va_get (v := .ref (ad 1)) (C := RX6) (T := TX6) (N := 8) hx hb hts in6 hown hK.1 hP 0 nb_a0 rfl 0 (by decide) w_3 (fun _ h9 => h9) rfl dX6_cares_32 ?_
          refine lv_aload_n hx hb dX6_cares_35 rfl (lv_at hl 0 rfl) ?_
          refine va_get (v := .ref (ad 42)) (C := RX6) (T := TX6) (N := 8) hx hb hts in6 hown hK.1 hP 0 nb_a0 rfl 5 (by decide) w_1 (fun _ h9 => h9) rfl dX6_cares_36 ?_
          refine lv_iload_n hx hb dX6_cares_39 rfl (lv_at hl 1 rfl) ?_
          refine nb_ald (t0 := 3) (E := RX2) (v := (1 : Int32)) hx hb hK hP nb_a42 rfl c_8 (nb_lit rfl) rfl dX6_cares_40 ?_
          obtain ⟨r_11, M_11, e_11, h⟩ := nb_pE h
          refine nb_callV (n := 1) (As := [.ref (ad 45)]) (rest := []) hx hb hml hown hts hK hZ hP hS (k_X0_takeCares_1_45 had M N e_11) gX6_cares_X0_takeCares rfl (by decide +kernel) (nb_rm (Nat.le_of_ble_eq_true rfl) (Nat.le_of_ble_eq_true rfl)) nb_a1 rfl rfl rfl hl.1 rfl (Nat.le_of_ble_eq_true rfl) dX6_cares_41 (fun H locs hP hS => ?_)
          refine W.eq (g2 := F0 m 44 ls [.int r_11]) rfl ?_
          obtain ⟨rfl, rfl⟩ := nb_e2 h
          exact nb_iret hx hb hr hlk hP hS dX6_cares_44
        · have h := nb_f c_10 h
          refine lv_aload_n hx hb dX6_cares_25 rfl (lv_at hl 0 rfl) ?_
          refine lv_iconst (v := (2 : Int32)) hx hb dX6_cares_26 (by decide) ?_
          obtain ⟨r_12, M_12, e_12, h⟩ := nb_pE h
          refine nb_callV (n := 1) (As := [.int (2 : Int32)]) (rest := []) hx hb hml hown hts hK hZ hP hS (k_X6_fail had M N (2 : Int32) e_12) gX6_cares_X6_fail rfl (by decide +kernel) (nb_rm (Nat.le_of_ble_eq_true rfl) (Nat.le_of_ble_eq_true rfl)) nb_a0 rfl rfl rfl hl.1 rfl (Nat.le_of_ble_eq_true rfl) dX6_cares_27 (fun H locs hP hS => ?_)
          refine W.eq (g2 := F0 m 30 ls [.int r_12]) rfl ?_
          obtain ⟨rfl, rfl⟩ := nb_e2 h
          exact nb_iret hx hb hr hlk hP hS dX6_cares_30
      · have h := nb_f c_8 h
        by_cases c_13 : p0 = 2
        · have h := nb_t c_13 h
          refine nb_ald (t0 := 3) (E := RX2) (v := (2 : Int32)) hx hb hK hP nb_a42 rfl c_13 (nb_lit rfl) rfl dX6_cares_18 ?_
          refine nb_callV (n := 0) (As := []) (rest := []) hx hb hml hown hts hK hZ hP hS (k_X2_isMissing_47 had M N) gX6_cares_X2_isMissing rfl (by decide +kernel) (nb_rm (Nat.le_of_ble_eq_true rfl) (Nat.le_of_ble_eq_true rfl)) nb_a47 rfl rfl rfl hl.1 rfl (Nat.le_of_ble_eq_true rfl) dX6_cares_19 (fun H locs hP hS => ?_)
          refine W.eq (g2 := F0 m 22 ls [.int (f_X2_isMissing_47 M)]) rfl ?_
          refine lv_if_eq (tgt := 31) hx hb dX6_cares_22 (by decide) (fun c_15 => ?_) (fun c_15 => ?_)
          · have h := nb_t c_15 h
            refine lv_aload_n hx hb dX6_cares_31 rfl (lv_at hl 0 rfl) ?_
            refine va_get (v := .ref (ad 1)) (C := RX6) (T := TX6) (N := 8) hx hb hts in6 hown hK.1 hP 0 nb_a0 rfl 0 (by decide) w_3 (fun _ h9 => h9) rfl dX6_cares_32 ?_
            refine lv_aload_n hx hb dX6_cares_35 rfl (lv_at hl 0 rfl) ?_
            refine va_get (v := .ref (ad 42)) (C := RX6) (T := TX6) (N := 8) hx hb hts in6 hown hK.1 hP 0 nb_a0 rfl 5 (by decide) w_1 (fun _ h9 => h9) rfl dX6_cares_36 ?_
            refine lv_iload_n hx hb dX6_cares_39 rfl (lv_at hl 1 rfl) ?_
            refine nb_ald (t0 := 3) (E := RX2) (v := (2 : Int32)) hx hb hK hP nb_a42 rfl c_13 (nb_lit rfl) rfl dX6_cares_40 ?_
            obtain ⟨r_16, M_16, e_16, h⟩ := nb_pE h
            refine nb_callV (n := 1) (As := [.ref (ad 47)]) (rest := []) hx hb hml hown hts hK hZ hP hS (k_X0_takeCares_1_47 had M N e_16) gX6_cares_X0_takeCares rfl (by decide +kernel) (nb_rm (Nat.le_of_ble_eq_true rfl) (Nat.le_of_ble_eq_true rfl)) nb_a1 rfl rfl rfl hl.1 rfl (Nat.le_of_ble_eq_true rfl) dX6_cares_41 (fun H locs hP hS => ?_)
            refine W.eq (g2 := F0 m 44 ls [.int r_16]) rfl ?_
            obtain ⟨rfl, rfl⟩ := nb_e2 h
            exact nb_iret hx hb hr hlk hP hS dX6_cares_44
          · have h := nb_f c_15 h
            refine lv_aload_n hx hb dX6_cares_25 rfl (lv_at hl 0 rfl) ?_
            refine lv_iconst (v := (2 : Int32)) hx hb dX6_cares_26 (by decide) ?_
            obtain ⟨r_17, M_17, e_17, h⟩ := nb_pE h
            refine nb_callV (n := 1) (As := [.int (2 : Int32)]) (rest := []) hx hb hml hown hts hK hZ hP hS (k_X6_fail had M N (2 : Int32) e_17) gX6_cares_X6_fail rfl (by decide +kernel) (nb_rm (Nat.le_of_ble_eq_true rfl) (Nat.le_of_ble_eq_true rfl)) nb_a0 rfl rfl rfl hl.1 rfl (Nat.le_of_ble_eq_true rfl) dX6_cares_27 (fun H locs hP hS => ?_)
            refine W.eq (g2 := F0 m 30 ls [.int r_17]) rfl ?_
            obtain ⟨rfl, rfl⟩ := nb_e2 h
            exact nb_iret hx hb hr hlk hP hS dX6_cares_30
        · have h := nb_f c_13 h
          by_cases c_18 : p0 = 3
          · have h := nb_t c_18 h
            refine nb_ald (t0 := 3) (E := RX2) (v := (3 : Int32)) hx hb hK hP nb_a42 rfl c_18 (nb_lit rfl) rfl dX6_cares_18 ?_
            refine nb_callV (n := 0) (As := []) (rest := []) hx hb hml hown hts hK hZ hP hS (k_X2_isMissing_49 had M N) gX6_cares_X2_isMissing rfl (by decide +kernel) (nb_rm (Nat.le_of_ble_eq_true rfl) (Nat.le_of_ble_eq_true rfl)) nb_a49 rfl rfl rfl hl.1 rfl (Nat.le_of_ble_eq_true rfl) dX6_cares_19 (fun H locs hP hS => ?_)
            refine W.eq (g2 := F0 m 22 ls [.int (f_X2_isMissing_49 M)]) rfl ?_
            refine lv_if_eq (tgt := 31) hx hb dX6_cares_22 (by decide) (fun c_20 => ?_) (fun c_20 => ?_)
            · have h := nb_t c_20 h
              refine lv_aload_n hx hb dX6_cares_31 rfl (lv_at hl 0 rfl) ?_
              refine va_get (v := .ref (ad 1)) (C := RX6) (T := TX6) (N := 8) hx hb hts in6 hown hK.1 hP 0 nb_a0 rfl 0 (by decide) w_3 (fun _ h9 => h9) rfl dX6_cares_32 ?_
              refine lv_aload_n hx hb dX6_cares_35 rfl (lv_at hl 0 rfl) ?_
              refine va_get (v := .ref (ad 42)) (C := RX6) (T := TX6) (N := 8) hx hb hts in6 hown hK.1 hP 0 nb_a0 rfl 5 (by decide) w_1 (fun _ h9 => h9) rfl dX6_cares_36 ?_
              refine lv_iload_n hx hb dX6_cares_39 rfl (lv_at hl 1 rfl) ?_
              refine nb_ald (t0 := 3) (E := RX2) (v := (3 : Int32)) hx hb hK hP nb_a42 rfl c_18 (nb_lit rfl) rfl dX6_cares_40 ?_
              obtain ⟨r_21, M_21, e_21, h⟩ := nb_pE h
              refine nb_callV (n := 1) (As := [.ref (ad 49)]) (rest := []) hx hb hml hown hts hK hZ hP hS (k_X0_takeCares_1_49 had M N e_21) gX6_cares_X0_takeCares rfl (by decide +kernel) (nb_rm (Nat.le_of_ble_eq_true rfl) (Nat.le_of_ble_eq_true rfl)) nb_a1 rfl rfl rfl hl.1 rfl (Nat.le_of_ble_eq_true rfl) dX6_cares_41 (fun H locs hP hS => ?_)
              refine W.eq (g2 := F0 m 44 ls [.int r_21]) rfl ?_
              obtain ⟨rfl, rfl⟩ := nb_e2 h
              exact nb_iret hx hb hr hlk hP hS dX6_cares_44
            · have h := nb_f c_20 h
              refine lv_aload_n hx hb dX6_cares_25 rfl (lv_at hl 0 rfl) ?_
              refine lv_iconst (v := (2 : Int32)) hx hb dX6_cares_26 (by decide) ?_
              obtain ⟨r_22, M_22, e_22, h⟩ := nb_pE h
              refine nb_callV (n := 1) (As := [.int (2 : Int32)]) (rest := []) hx hb hml hown hts hK hZ hP hS (k_X6_fail had M N (2 : Int32) e_22) gX6_cares_X6_fail rfl (by decide +kernel) (nb_rm (Nat.le_of_ble_eq_true rfl) (Nat.le_of_ble_eq_true rfl)) nb_a0 rfl rfl rfl hl.1 rfl (Nat.le_of_ble_eq_true rfl) dX6_cares_27 (fun H locs hP hS => ?_)
              refine W.eq (g2 := F0 m 30 ls [.int r_22]) rfl ?_
              obtain ⟨rfl, rfl⟩ := nb_e2 h
              exact nb_iret hx hb hr hlk hP hS dX6_cares_30
          · have h := nb_f c_18 h
            cases h
  · have h := nb_t c_2 h
    refine lv_aload_n hx hb dX6_cares_7 rfl (lv_at hl 0 rfl) ?_
    refine lv_iconst (v := (1 : Int32)) hx hb dX6_cares_8 (by decide) ?_
    obtain ⟨r_23, M_23, e_23, h⟩ := nb_pE h
    refine nb_callV (n := 1) (As := [.int (1 : Int32)]) (rest := []) hx hb hml hown hts hK hZ hP hS (k_X6_fail had M N (1 : Int32) e_23) gX6_cares_X6_fail rfl (by decide +kernel) (nb_rm (Nat.le_of_ble_eq_true rfl) (Nat.le_of_ble_eq_true rfl)) nb_a0 rfl rfl rfl hl.1 rfl (Nat.le_of_ble_eq_true rfl) dX6_cares_9 (fun H locs hP hS => ?_)
    refine W.eq (g2 := F0 m 12 ls [.int r_23]) rfl ?_
    obtain ⟨rfl, rfl⟩ := nb_e2 h
    exact nb_iret hx hb hr hlk hP hS dX6_cares_12
set_option maxHeartbeats 4000000 in
set_option maxRecDepth 100000 in
theorem w_X0_rightStates_1_43_2 {N : nb_M} {r : Int32} (had : nb_AD ad b0) (X : nb_X p s m args meth c cX0_rightStates 3 RX0 (some .int) wsX0_rightStates D ca b0) : ∀ (n : Nat) (M : nb_M) (x2 : Int32), f_X0_rightStates_1_43_2 n M x2 = some r → ∀ (H : Heap) (locs : List Loc), va_P D vwCl (nb_w ad ca M N) H → va_S (fun q => b0 ≤ q) s.heap H locs → ∀ ls : Array Slot, lv_has ls 3 [(0, .ref (ad 1)), (1, .ref (ad 43)), (2, .int x2)] → W p l e (nb_R 0) s m args below meth c H locs 0 0 (nb_Q below args s D ad ca b0 (some (.int r)) M N) (F0 m 2 ls []) := by
  obtain ⟨hx, hb, hml, hown, hts, hr, hlk, hK, hZ⟩ := id X
  have w_1 := hts (.fieldLink RX0 144 "NineBreakages$Sheet" "size" "I") (by decide +kernel)
  have in2 : ∀ w ∈ u_ws RX2 TX2 3, w ∈ wsX0_rightStates := fun w q => List.mem_cons_of_mem _ (List.mem_append_left _ (List.mem_append_right _ q))
  have w_3 := hts (.fieldLink RX0 56 "NineBreakages$House" "pieces" "I") (by decide +kernel)
  have in0 : ∀ w ∈ u_ws RX0 TX0 16, w ∈ wsX0_rightStates := fun w q => List.mem_cons_of_mem _ (List.mem_append_right _ q)
  have w_5 := hts (.fieldLink RX0 149 "NineBreakages$Sheet" "numbers" "[I") (by decide +kernel)
  have w_6 := hts (.fieldLink RX0 34 "NineBreakages$House" "state" "[I") (by decide +kernel)
  intro n
  induction n with
  | zero =>
    intro M x2 h
    rw [f_X0_rightStates_1_43_2] at h
    cases h
  | succ n ih =>
    intro M x2 h H locs hP hS ls hl
    rw [f_X0_rightStates_1_43_2] at h
    refine lv_iload_n hx hb dX0_rightStates_2 rfl (lv_at hl 2 rfl) ?_
    refine lv_aload_n hx hb dX0_rightStates_3 rfl (lv_at hl 1 rfl) ?_
    refine va_get (v := .int (M.1 43 2)) (C := RX2) (T := TX2) (N := 3) hx hb hts in2 hown hK.1 hP 43 nb_a43 rfl 2 (by decide) w_1 (fun _ h9 => h9) rfl dX0_rightStates_4 ?_
    refine lv_icmp_ge (tgt := 39) hx hb dX0_rightStates_7 (by decide) (fun c_1 => ?_) (fun c_1 => ?_)
    · have h := nb_t c_1 h
      refine lv_iload_n hx hb dX0_rightStates_39 rfl (lv_at hl 2 rfl) ?_
      obtain rfl := nb_e1 h
      exact nb_iret hx hb hr hlk hP hS dX0_rightStates_40
    · have h := nb_f c_1 h
      refine lv_iload_n hx hb dX0_rightStates_10 rfl (lv_at hl 2 rfl) ?_
      refine lv_aload_n hx hb dX0_rightStates_11 rfl (lv_at hl 0 rfl) ?_
      refine va_get (v := .int (M.1 1 6)) (C := RX0) (T := TX0) (N := 16) hx hb hts in0 hown hK.1 hP 1 nb_a1 rfl 6 (by decide) w_3 (fun _ h9 => h9) rfl dX0_rightStates_12 ?_
      refine lv_icmp_ge (tgt := 39) hx hb dX0_rightStates_15 (by decide) (fun c_2 => ?_) (fun c_2 => ?_)
      · have h := nb_t c_2 h
        refine lv_iload_n hx hb dX0_rightStates_39 rfl (lv_at hl 2 rfl) ?_
        obtain rfl := nb_e1 h
        exact nb_iret hx hb hr hlk hP hS dX0_rightStates_40
      · have h := nb_f c_2 h
        refine lv_aload_n hx hb dX0_rightStates_18 rfl (lv_at hl 1 rfl) ?_
        refine va_get (v := .ref (ad 44)) (C := RX2) (T := TX2) (N := 3) hx hb hts in2 hown hK.1 hP 43 nb_a43 rfl 0 (by decide) w_5 (fun _ h9 => h9) rfl dX0_rightStates_19 ?_
        refine lv_iload_n hx hb dX0_rightStates_22 rfl (lv_at hl 2 rfl) ?_
        obtain ⟨c_3, h⟩ := nb_c h
        refine va_iald hx hb hK.1 hP 44 0 nb_a44 rfl c_3 dX0_rightStates_23 ?_
        refine lv_aload_n hx hb dX0_rightStates_24 rfl (lv_at hl 0 rfl) ?_
        refine va_get (v := .ref (ad 8)) (C := RX0) (T := TX0) (N := 16) hx hb hts in0 hown hK.1 hP 1 nb_a1 rfl 10 (by decide) w_6 (fun _ h9 => h9) rfl dX0_rightStates_25 ?_
        refine lv_iload_n hx hb dX0_rightStates_28 rfl (lv_at hl 2 rfl) ?_
        obtain ⟨c_4, h⟩ := nb_c h
        refine va_iald hx hb hK.1 hP 8 0 nb_a8 rfl c_4 dX0_rightStates_29 ?_
        refine lv_icmp_ne (tgt := 39) hx hb dX0_rightStates_30 (by decide) (fun c_5 => ?_) (fun c_5 => ?_)
        · have h := nb_f c_5 h
          refine lv_iload_n hx hb dX0_rightStates_39 rfl (lv_at hl 2 rfl) ?_
          obtain rfl := nb_e1 h
          exact nb_iret hx hb hr hlk hP hS dX0_rightStates_40
        · have h := nb_t c_5 h
          refine lv_iinc (v := x2 + 1) (lv' := [(2, .int (x2 + 1)), (0, .ref (ad 1)), (1, .ref (ad 43))]) hx hb dX0_rightStates_33 hl (k := 2) rfl (congrArg (HAdd.hAdd x2) (by decide)) (by decide) rfl (fun ls hl => ?_)
          refine lv_goto (tgt := 2) hx hb dX0_rightStates_36 (by decide) ?_
          exact ih _ _ h _ _ hP hS _ (lv_sub hl [1, 2, 0] rfl)
set_option maxHeartbeats 4000000 in
set_option maxRecDepth 100000 in
theorem k_X0_rightStates_1_43 {r : Int32} (had : nb_AD ad b0) (M N : nb_M) (h : f_X0_rightStates_1_43 M = some r) : nb_C l D ad ca b0 yX0_rightStates wsX0_rightStates 0 [.ref (ad 1), .ref (ad 43)] M N (some (.int r)) M N := by
  refine nb_of (cc := cX0_rightStates) (maxL := 3) (ret := (some .int)) (own := RX0) (by decide +kernel) rfl rfl (Nat.le_of_ble_eq_true rfl) ?_
  intro p e s m args below meth c ls X hP hS hl
  have hl : lv_has ls 3 [(0, .ref (ad 1)), (1, .ref (ad 43))] := hl
  obtain ⟨hx, hb, hml, hown, hts, hr, hlk, hK, hZ⟩ := id X
  unfold f_X0_rightStates_1_43 at h
  refine lv_iconst (v := (0 : Int32)) hx hb dX0_rightStates_0 (by decide) ?_
  refine lv_istore_n (lv' := [(2, .int (0 : Int32)), (0, .ref (ad 1)), (1, .ref (ad 43))]) hx hb dX0_rightStates_1 rfl hl (by decide) rfl (fun ls hl => ?_)
  exact w_X0_rightStates_1_43_2 had X nb_F _ _ h _ _ hP hS _ (lv_sub hl [1, 2, 0] rfl)
set_option maxHeartbeats 4000000 in
set_option maxRecDepth 100000 in
theorem w_X0_rightStates_1_45_2 {N : nb_M} {r : Int32} (had : nb_AD ad b0) (X : nb_X p s m args meth c cX0_rightStates 3 RX0 (some .int) wsX0_rightStates D ca b0) : ∀ (n : Nat) (M : nb_M) (x2 : Int32), f_X0_rightStates_1_45_2 n M x2 = some r → ∀ (H : Heap) (locs : List Loc), va_P D vwCl (nb_w ad ca M N) H → va_S (fun q => b0 ≤ q) s.heap H locs → ∀ ls : Array Slot, lv_has ls 3 [(0, .ref (ad 1)), (1, .ref (ad 45)), (2, .int x2)] → W p l e (nb_R 0) s m args below meth c H locs 0 0 (nb_Q below args s D ad ca b0 (some (.int r)) M N) (F0 m 2 ls []) := by
  obtain ⟨hx, hb, hml, hown, hts, hr, hlk, hK, hZ⟩ := id X
  have w_1 := hts (.fieldLink RX0 144 "NineBreakages$Sheet" "size" "I") (by decide +kernel)
  have in2 : ∀ w ∈ u_ws RX2 TX2 3, w ∈ wsX0_rightStates := fun w q => List.mem_cons_of_mem _ (List.mem_append_left _ (List.mem_append_right _ q))
  have w_3 := hts (.fieldLink RX0 56 "NineBreakages$House" "pieces" "I") (by decide +kernel)
  have in0 : ∀ w ∈ u_ws RX0 TX0 16, w ∈ wsX0_rightStates := fun w q => List.mem_cons_of_mem _ (List.mem_append_right _ q)
  have w_5 := hts (.fieldLink RX0 149 "NineBreakages$Sheet" "numbers" "[I") (by decide +kernel)
  have w_6 := hts (.fieldLink RX0 34 "NineBreakages$House" "state" "[I") (by decide +kernel)
  intro n
  induction n with
  | zero =>
    intro M x2 h
    rw [f_X0_rightStates_1_45_2] at h
    cases h
  | succ n ih =>
    intro M x2 h H locs hP hS ls hl
    rw [f_X0_rightStates_1_45_2] at h
    refine lv_iload_n hx hb dX0_rightStates_2 rfl (lv_at hl 2 rfl) ?_
    refine lv_aload_n hx hb dX0_rightStates_3 rfl (lv_at hl 1 rfl) ?_
    refine va_get (v := .int (M.1 45 2)) (C := RX2) (T := TX2) (N := 3) hx hb hts in2 hown hK.1 hP 45 nb_a45 rfl 2 (by decide) w_1 (fun _ h9 => h9) rfl dX0_rightStates_4 ?_
    refine lv_icmp_ge (tgt := 39) hx hb dX0_rightStates_7 (by decide) (fun c_1 => ?_) (fun c_1 => ?_)
    · have h := nb_t c_1 h
      refine lv_iload_n hx hb dX0_rightStates_39 rfl (lv_at hl 2 rfl) ?_
      obtain rfl := nb_e1 h
      exact nb_iret hx hb hr hlk hP hS dX0_rightStates_40
    · have h := nb_f c_1 h
      refine lv_iload_n hx hb dX0_rightStates_10 rfl (lv_at hl 2 rfl) ?_
      refine lv_aload_n hx hb dX0_rightStates_11 rfl (lv_at hl 0 rfl) ?_
      refine va_get (v := .int (M.1 1 6)) (C := RX0) (T := TX0) (N := 16) hx hb hts in0 hown hK.1 hP 1 nb_a1 rfl 6 (by decide) w_3 (fun _ h9 => h9) rfl dX0_rightStates_12 ?_
      refine lv_icmp_ge (tgt := 39) hx hb dX0_rightStates_15 (by decide) (fun c_2 => ?_) (fun c_2 => ?_)
      · have h := nb_t c_2 h
        refine lv_iload_n hx hb dX0_rightStates_39 rfl (lv_at hl 2 rfl) ?_
        obtain rfl := nb_e1 h
        exact nb_iret hx hb hr hlk hP hS dX0_rightStates_40
      · have h := nb_f c_2 h
        refine lv_aload_n hx hb dX0_rightStates_18 rfl (lv_at hl 1 rfl) ?_
        refine va_get (v := .ref (ad 46)) (C := RX2) (T := TX2) (N := 3) hx hb hts in2 hown hK.1 hP 45 nb_a45 rfl 0 (by decide) w_5 (fun _ h9 => h9) rfl dX0_rightStates_19 ?_
        refine lv_iload_n hx hb dX0_rightStates_22 rfl (lv_at hl 2 rfl) ?_
        obtain ⟨c_3, h⟩ := nb_c h
        refine va_iald hx hb hK.1 hP 46 0 nb_a46 rfl c_3 dX0_rightStates_23 ?_
        refine lv_aload_n hx hb dX0_rightStates_24 rfl (lv_at hl 0 rfl) ?_
        refine va_get (v := .ref (ad 8)) (C := RX0) (T := TX0) (N := 16) hx hb hts in0 hown hK.1 hP 1 nb_a1 rfl 10 (by decide) w_6 (fun _ h9 => h9) rfl dX0_rightStates_25 ?_
        refine lv_iload_n hx hb dX0_rightStates_28 rfl (lv_at hl 2 rfl) ?_
        obtain ⟨c_4, h⟩ := nb_c h
        refine va_iald hx hb hK.1 hP 8 0 nb_a8 rfl c_4 dX0_rightStates_29 ?_
        refine lv_icmp_ne (tgt := 39) hx hb dX0_rightStates_30 (by decide) (fun c_5 => ?_) (fun c_5 => ?_)
        · have h := nb_f c_5 h
          refine lv_iload_n hx hb dX0_rightStates_39 rfl (lv_at hl 2 rfl) ?_
          obtain rfl := nb_e1 h
          exact nb_iret hx hb hr hlk hP hS dX0_rightStates_40
        · have h := nb_t c_5 h
          refine lv_iinc (v := x2 + 1) (lv' := [(2, .int (x2 + 1)), (0, .ref (ad 1)), (1, .ref (ad 45))]) hx hb dX0_rightStates_33 hl (k := 2) rfl (congrArg (HAdd.hAdd x2) (by decide)) (by decide) rfl (fun ls hl => ?_)
          refine lv_goto (tgt := 2) hx hb dX0_rightStates_36 (by decide) ?_
          exact ih _ _ h _ _ hP hS _ (lv_sub hl [1, 2, 0] rfl)
set_option maxHeartbeats 4000000 in
set_option maxRecDepth 100000 in
theorem k_X0_rightStates_1_45 {r : Int32} (had : nb_AD ad b0) (M N : nb_M) (h : f_X0_rightStates_1_45 M = some r) : nb_C l D ad ca b0 yX0_rightStates wsX0_rightStates 0 [.ref (ad 1), .ref (ad 45)] M N (some (.int r)) M N := by
  refine nb_of (cc := cX0_rightStates) (maxL := 3) (ret := (some .int)) (own := RX0) (by decide +kernel) rfl rfl (Nat.le_of_ble_eq_true rfl) ?_
  intro p e s m args below meth c ls X hP hS hl
  have hl : lv_has ls 3 [(0, .ref (ad 1)), (1, .ref (ad 45))] := hl
  obtain ⟨hx, hb, hml, hown, hts, hr, hlk, hK, hZ⟩ := id X
  unfold f_X0_rightStates_1_45 at h
  refine lv_iconst (v := (0 : Int32)) hx hb dX0_rightStates_0 (by decide) ?_
  refine lv_istore_n (lv' := [(2, .int (0 : Int32)), (0, .ref (ad 1)), (1, .ref (ad 45))]) hx hb dX0_rightStates_1 rfl hl (by decide) rfl (fun ls hl => ?_)
  exact w_X0_rightStates_1_45_2 had X nb_F _ _ h _ _ hP hS _ (lv_sub hl [1, 2, 0] rfl)
set_option maxHeartbeats 4000000 in
set_option maxRecDepth 100000 in
theorem w_X0_rightStates_1_47_2 {N : nb_M} {r : Int32} (had : nb_AD ad b0) (X : nb_X p s m args meth c cX0_rightStates 3 RX0 (some .int) wsX0_rightStates D ca b0) : ∀ (n : Nat) (M : nb_M) (x2 : Int32), f_X0_rightStates_1_47_2 n M x2 = some r → ∀ (H : Heap) (locs : List Loc), va_P D vwCl (nb_w ad ca M N) H → va_S (fun q => b0 ≤ q) s.heap H locs → ∀ ls : Array Slot, lv_has ls 3 [(0, .ref (ad 1)), (1, .ref (ad 47)), (2, .int x2)] → W p l e (nb_R 0) s m args below meth c H locs 0 0 (nb_Q below args s D ad ca b0 (some (.int r)) M N) (F0 m 2 ls []) := by
  obtain ⟨hx, hb, hml, hown, hts, hr, hlk, hK, hZ⟩ := id X
  have w_1 := hts (.fieldLink RX0 144 "NineBreakages$Sheet" "size" "I") (by decide +kernel)
  have in2 : ∀ w ∈ u_ws RX2 TX2 3, w ∈ wsX0_rightStates := fun w q => List.mem_cons_of_mem _ (List.mem_append_left _ (List.mem_append_right _ q))
  have w_3 := hts (.fieldLink RX0 56 "NineBreakages$House" "pieces" "I") (by decide +kernel)
  have in0 : ∀ w ∈ u_ws RX0 TX0 16, w ∈ wsX0_rightStates := fun w q => List.mem_cons_of_mem _ (List.mem_append_right _ q)
  have w_5 := hts (.fieldLink RX0 149 "NineBreakages$Sheet" "numbers" "[I") (by decide +kernel)
  have w_6 := hts (.fieldLink RX0 34 "NineBreakages$House" "state" "[I") (by decide +kernel)
  intro n
  induction n with
  | zero =>
    intro M x2 h
    rw [f_X0_rightStates_1_47_2] at h
    cases h
  | succ n ih =>
    intro M x2 h H locs hP hS ls hl
    rw [f_X0_rightStates_1_47_2] at h
    refine lv_iload_n hx hb dX0_rightStates_2 rfl (lv_at hl 2 rfl) ?_
    refine lv_aload_n hx hb dX0_rightStates_3 rfl (lv_at hl 1 rfl) ?_
    refine va_get (v := .int (M.1 47 2)) (C := RX2) (T := TX2) (N := 3) hx hb hts in2 hown hK.1 hP 47 nb_a47 rfl 2 (by decide) w_1 (fun _ h9 => h9) rfl dX0_rightStates_4 ?_
    refine lv_icmp_ge (tgt := 39) hx hb dX0_rightStates_7 (by decide) (fun c_1 => ?_) (fun c_1 => ?_)
    · have h := nb_t c_1 h
      refine lv_iload_n hx hb dX0_rightStates_39 rfl (lv_at hl 2 rfl) ?_
      obtain rfl := nb_e1 h
      exact nb_iret hx hb hr hlk hP hS dX0_rightStates_40
    · have h := nb_f c_1 h
      refine lv_iload_n hx hb dX0_rightStates_10 rfl (lv_at hl 2 rfl) ?_
      refine lv_aload_n hx hb dX0_rightStates_11 rfl (lv_at hl 0 rfl) ?_
      refine va_get (v := .int (M.1 1 6)) (C := RX0) (T := TX0) (N := 16) hx hb hts in0 hown hK.1 hP 1 nb_a1 rfl 6 (by decide) w_3 (fun _ h9 => h9) rfl dX0_rightStates_12 ?_
      refine lv_icmp_ge (tgt := 39) hx hb dX0_rightStates_15 (by decide) (fun c_2 => ?_) (fun c_2 => ?_)
      · have h := nb_t c_2 h
        refine lv_iload_n hx hb dX0_rightStates_39 rfl (lv_at hl 2 rfl) ?_
        obtain rfl := nb_e1 h
        exact nb_iret hx hb hr hlk hP hS dX0_rightStates_40
      · have h := nb_f c_2 h
        refine lv_aload_n hx hb dX0_rightStates_18 rfl (lv_at hl 1 rfl) ?_
        refine va_get (v := .ref (ad 48)) (C := RX2) (T := TX2) (N := 3) hx hb hts in2 hown hK.1 hP 47 nb_a47 rfl 0 (by decide) w_5 (fun _ h9 => h9) rfl dX0_rightStates_19 ?_
        refine lv_iload_n hx hb dX0_rightStates_22 rfl (lv_at hl 2 rfl) ?_
        obtain ⟨c_3, h⟩ := nb_c h
        refine va_iald hx hb hK.1 hP 48 0 nb_a48 rfl c_3 dX0_rightStates_23 ?_
        refine lv_aload_n hx hb dX0_rightStates_24 rfl (lv_at hl 0 rfl) ?_
        refine va_get (v := .ref (ad 8)) (C := RX0) (T := TX0) (N := 16) hx hb hts in0 hown hK.1 hP 1 nb_a1 rfl 10 (by decide) w_6 (fun _ h9 => h9) rfl dX0_rightStates_25 ?_
        refine lv_iload_n hx hb dX0_rightStates_28 rfl (lv_at hl 2 rfl) ?_
        obtain ⟨c_4, h⟩ := nb_c h
        refine va_iald hx hb hK.1 hP 8 0 nb_a8 rfl c_4 dX0_rightStates_29 ?_
        refine lv_icmp_ne (tgt := 39) hx hb dX0_rightStates_30 (by decide) (fun c_5 => ?_) (fun c_5 => ?_)
        · have h := nb_f c_5 h
          refine lv_iload_n hx hb dX0_rightStates_39 rfl (lv_at hl 2 rfl) ?_
          obtain rfl := nb_e1 h
          exact nb_iret hx hb hr hlk hP hS dX0_rightStates_40
        · have h := nb_t c_5 h
          refine lv_iinc (v := x2 + 1) (lv' := [(2, .int (x2 + 1)), (0, .ref (ad 1)), (1, .ref (ad 47))]) hx hb dX0_rightStates_33 hl (k := 2) rfl (congrArg (HAdd.hAdd x2) (by decide)) (by decide) rfl (fun ls hl => ?_)
          refine lv_goto (tgt := 2) hx hb dX0_rightStates_36 (by decide) ?_
          exact ih _ _ h _ _ hP hS _ (lv_sub hl [1, 2, 0] rfl)
set_option maxHeartbeats 4000000 in
set_option maxRecDepth 100000 in
theorem k_X0_rightStates_1_47 {r : Int32} (had : nb_AD ad b0) (M N : nb_M) (h : f_X0_rightStates_1_47 M = some r) : nb_C l D ad ca b0 yX0_rightStates wsX0_rightStates 0 [.ref (ad 1), .ref (ad 47)] M N (some (.int r)) M N := by
  refine nb_of (cc := cX0_rightStates) (maxL := 3) (ret := (some .int)) (own := RX0) (by decide +kernel) rfl rfl (Nat.le_of_ble_eq_true rfl) ?_
  intro p e s m args below meth c ls X hP hS hl
  have hl : lv_has ls 3 [(0, .ref (ad 1)), (1, .ref (ad 47))] := hl
  obtain ⟨hx, hb, hml, hown, hts, hr, hlk, hK, hZ⟩ := id X
  unfold f_X0_rightStates_1_47 at h
  refine lv_iconst (v := (0 : Int32)) hx hb dX0_rightStates_0 (by decide) ?_
  refine lv_istore_n (lv' := [(2, .int (0 : Int32)), (0, .ref (ad 1)), (1, .ref (ad 47))]) hx hb dX0_rightStates_1 rfl hl (by decide) rfl (fun ls hl => ?_)
  exact w_X0_rightStates_1_47_2 had X nb_F _ _ h _ _ hP hS _ (lv_sub hl [1, 2, 0] rfl)
set_option maxHeartbeats 4000000 in
set_option maxRecDepth 100000 in
theorem w_X0_rightStates_1_49_2 {N : nb_M} {r : Int32} (had : nb_AD ad b0) (X : nb_X p s m args meth c cX0_rightStates 3 RX0 (some .int) wsX0_rightStates D ca b0) : ∀ (n : Nat) (M : nb_M) (x2 : Int32), f_X0_rightStates_1_49_2 n M x2 = some r → ∀ (H : Heap) (locs : List Loc), va_P D vwCl (nb_w ad ca M N) H → va_S (fun q => b0 ≤ q) s.heap H locs → ∀ ls : Array Slot, lv_has ls 3 [(0, .ref (ad 1)), (1, .ref (ad 49)), (2, .int x2)] → W p l e (nb_R 0) s m args below meth c H locs 0 0 (nb_Q below args s D ad ca b0 (some (.int r)) M N) (F0 m 2 ls []) := by
  obtain ⟨hx, hb, hml, hown, hts, hr, hlk, hK, hZ⟩ := id X
  have w_1 := hts (.fieldLink RX0 144 "NineBreakages$Sheet" "size" "I") (by decide +kernel)
  have in2 : ∀ w ∈ u_ws RX2 TX2 3, w ∈ wsX0_rightStates := fun w q => List.mem_cons_of_mem _ (List.mem_append_left _ (List.mem_append_right _ q))
  have w_3 := hts (.fieldLink RX0 56 "NineBreakages$House" "pieces" "I") (by decide +kernel)
  have in0 : ∀ w ∈ u_ws RX0 TX0 16, w ∈ wsX0_rightStates := fun w q => List.mem_cons_of_mem _ (List.mem_append_right _ q)
  have w_5 := hts (.fieldLink RX0 149 "NineBreakages$Sheet" "numbers" "[I") (by decide +kernel)
  have w_6 := hts (.fieldLink RX0 34 "NineBreakages$House" "state" "[I") (by decide +kernel)
  intro n
  induction n with
  | zero =>
    intro M x2 h
    rw [f_X0_rightStates_1_49_2] at h
    cases h
  | succ n ih =>
    intro M x2 h H locs hP hS ls hl
    rw [f_X0_rightStates_1_49_2] at h
    refine lv_iload_n hx hb dX0_rightStates_2 rfl (lv_at hl 2 rfl) ?_
    refine lv_aload_n hx hb dX0_rightStates_3 rfl (lv_at hl 1 rfl) ?_
    refine va_get (v := .int (M.1 49 2)) (C := RX2) (T := TX2) (N := 3) hx hb hts in2 hown hK.1 hP 49 nb_a49 rfl 2 (by decide) w_1 (fun _ h9 => h9) rfl dX0_rightStates_4 ?_
    refine lv_icmp_ge (tgt := 39) hx hb dX0_rightStates_7 (by decide) (fun c_1 => ?_) (fun c_1 => ?_)
    · have h := nb_t c_1 h
      refine lv_iload_n hx hb dX0_rightStates_39 rfl (lv_at hl 2 rfl) ?_
      obtain rfl := nb_e1 h
      exact nb_iret hx hb hr hlk hP hS dX0_rightStates_40
    · have h := nb_f c_1 h
      refine lv_iload_n hx hb dX0_rightStates_10 rfl (lv_at hl 2 rfl) ?_
      refine lv_aload_n hx hb dX0_rightStates_11 rfl (lv_at hl 0 rfl) ?_
      refine va_get (v := .int (M.1 1 6)) (C := RX0) (T := TX0) (N := 16) hx hb hts in0 hown hK.1 hP 1 nb_a1 rfl 6 (by decide) w_3 (fun _ h9 => h9) rfl dX0_rightStates_12 ?_
      refine lv_icmp_ge (tgt := 39) hx hb dX0_rightStates_15 (by decide) (fun c_2 => ?_) (fun c_2 => ?_)
      · have h := nb_t c_2 h
        refine lv_iload_n hx hb dX0_rightStates_39 rfl (lv_at hl 2 rfl) ?_
        obtain rfl := nb_e1 h
        exact nb_iret hx hb hr hlk hP hS dX0_rightStates_40
      · have h := nb_f c_2 h
        refine lv_aload_n hx hb dX0_rightStates_18 rfl (lv_at hl 1 rfl) ?_
        refine va_get (v := .ref (ad 50)) (C := RX2) (T := TX2) (N := 3) hx hb hts in2 hown hK.1 hP 49 nb_a49 rfl 0 (by decide) w_5 (fun _ h9 => h9) rfl dX0_rightStates_19 ?_
        refine lv_iload_n hx hb dX0_rightStates_22 rfl (lv_at hl 2 rfl) ?_
        obtain ⟨c_3, h⟩ := nb_c h
        refine va_iald hx hb hK.1 hP 50 0 nb_a50 rfl c_3 dX0_rightStates_23 ?_
        refine lv_aload_n hx hb dX0_rightStates_24 rfl (lv_at hl 0 rfl) ?_
        refine va_get (v := .ref (ad 8)) (C := RX0) (T := TX0) (N := 16) hx hb hts in0 hown hK.1 hP 1 nb_a1 rfl 10 (by decide) w_6 (fun _ h9 => h9) rfl dX0_rightStates_25 ?_
        refine lv_iload_n hx hb dX0_rightStates_28 rfl (lv_at hl 2 rfl) ?_
        obtain ⟨c_4, h⟩ := nb_c h
        refine va_iald hx hb hK.1 hP 8 0 nb_a8 rfl c_4 dX0_rightStates_29 ?_
        refine lv_icmp_ne (tgt := 39) hx hb dX0_rightStates_30 (by decide) (fun c_5 => ?_) (fun c_5 => ?_)
        · have h := nb_f c_5 h
          refine lv_iload_n hx hb dX0_rightStates_39 rfl (lv_at hl 2 rfl) ?_
          obtain rfl := nb_e1 h
          exact nb_iret hx hb hr hlk hP hS dX0_rightStates_40
        · have h := nb_t c_5 h
          refine lv_iinc (v := x2 + 1) (lv' := [(2, .int (x2 + 1)), (0, .ref (ad 1)), (1, .ref (ad 49))]) hx hb dX0_rightStates_33 hl (k := 2) rfl (congrArg (HAdd.hAdd x2) (by decide)) (by decide) rfl (fun ls hl => ?_)
          refine lv_goto (tgt := 2) hx hb dX0_rightStates_36 (by decide) ?_
          exact ih _ _ h _ _ hP hS _ (lv_sub hl [1, 2, 0] rfl)
set_option maxHeartbeats 4000000 in
set_option maxRecDepth 100000 in
theorem k_X0_rightStates_1_49 {r : Int32} (had : nb_AD ad b0) (M N : nb_M) (h : f_X0_rightStates_1_49 M = some r) : nb_C l D ad ca b0 yX0_rightStates wsX0_rightStates 0 [.ref (ad 1), .ref (ad 49)] M N (some (.int r)) M N := by
  refine nb_of (cc := cX0_rightStates) (maxL := 3) (ret := (some .int)) (own := RX0) (by decide +kernel) rfl rfl (Nat.le_of_ble_eq_true rfl) ?_
  intro p e s m args below meth c ls X hP hS hl
  have hl : lv_has ls 3 [(0, .ref (ad 1)), (1, .ref (ad 49))] := hl
  obtain ⟨hx, hb, hml, hown, hts, hr, hlk, hK, hZ⟩ := id X
  unfold f_X0_rightStates_1_49 at h
  refine lv_iconst (v := (0 : Int32)) hx hb dX0_rightStates_0 (by decide) ?_
  refine lv_istore_n (lv' := [(2, .int (0 : Int32)), (0, .ref (ad 1)), (1, .ref (ad 49))]) hx hb dX0_rightStates_1 rfl hl (by decide) rfl (fun ls hl => ?_)
  exact w_X0_rightStates_1_49_2 had X nb_F _ _ h _ _ hP hS _ (lv_sub hl [1, 2, 0] rfl)
set_option maxHeartbeats 4000000 in
set_option maxRecDepth 100000 in
theorem k_X6_judge {r : Int32} {M' : nb_M} (had : nb_AD ad b0) (M N : nb_M) (p0 : Int32) (h : f_X6_judge M p0 = some (r, M')) : nb_C l D ad ca b0 yX6_judge wsX6_judge 2 [.ref (ad 0), .int p0] M N (some (.int r)) M' N := by
  refine nb_of (cc := cX6_judge) (maxL := 2) (ret := (some .int)) (own := RX6) (by decide +kernel) rfl rfl (Nat.le_of_ble_eq_true rfl) ?_
  intro p e s m args below meth c ls X hP hS hl
  have hl : lv_has ls 2 [(0, .ref (ad 0)), (1, .int p0)] := hl
  obtain ⟨hx, hb, hml, hown, hts, hr, hlk, hK, hZ⟩ := id X
  have w_1 := hts (.fieldLink RX6 46 "NineBreakages" "sheets" "[LNineBreakages$Sheet;") (by decide +kernel)
  have in6 : ∀ w ∈ u_ws RX6 TX6 8, w ∈ wsX6_judge := fun w q => List.mem_cons_of_mem _ (List.mem_append_left _ (List.mem_append_left _ (List.mem_append_right _ q)))
  have w_3 := hts (.fieldLink RX6 12 "NineBreakages" "now" "LNineBreakages$House;") (by decide +kernel)
  unfold f_X6_judge at h
  refine lv_iload_n hx hb dX6_judge_0 rfl (lv_at hl 1 rfl) ?_
  refine nb_callS (n := 1) (As := [.int p0]) (rest := []) hx hb hml hown hts hK hZ hP hS (k_X6_isSheet had M N p0) gX6_judge_X6_isSheet rfl (by decide +kernel) (nb_rm (Nat.le_of_ble_eq_true rfl) (Nat.le_of_ble_eq_true rfl)) rfl hl.1 rfl (Nat.le_of_ble_eq_true rfl) dX6_judge_1 (fun H locs hP hS => ?_)
  refine W.eq (g2 := F0 m 4 ls [.int (f_X6_isSheet p0)]) rfl ?_
  refine lv_if_ne (tgt := 13) hx hb dX6_judge_4 (by decide) (fun c_2 => ?_) (fun c_2 => ?_)
  · have h := nb_f c_2 h
    refine lv_aload_n hx hb dX6_judge_13 rfl (lv_at hl 0 rfl) ?_
    refine va_get (v := .ref (ad 42)) (C := RX6) (T := TX6) (N := 8) hx hb hts in6 hown hK.1 hP 0 nb_a0 rfl 5 (by decide) w_1 (fun _ h9 => h9) rfl dX6_judge_14 ?_
    refine lv_iload_n hx hb dX6_judge_17 rfl (lv_at hl 1 rfl) ?_
    by_cases c_3 : p0 = 0
    · have h := nb_t c_3 h
      refine nb_ald (t0 := 3) (E := RX2) (v := (0 : Int32)) hx hb hK hP nb_a42 rfl c_3 (nb_lit rfl) rfl dX6_judge_18 ?_
      refine nb_callV (n := 0) (As := []) (rest := []) hx hb hml hown hts hK hZ hP hS (k_X2_isMissing_43 had M N) gX6_judge_X2_isMissing rfl (by decide +kernel) (nb_rm (Nat.le_of_ble_eq_true rfl) (Nat.le_of_ble_eq_true rfl)) nb_a43 rfl rfl rfl hl.1 rfl (Nat.le_of_ble_eq_true rfl) dX6_judge_19 (fun H locs hP hS => ?_)
      refine W.eq (g2 := F0 m 22 ls [.int (f_X2_isMissing_43 M)]) rfl ?_
      refine lv_if_eq (tgt := 31) hx hb dX6_judge_22 (by decide) (fun c_5 => ?_) (fun c_5 => ?_)
      · have h := nb_t c_5 h
        refine lv_aload_n hx hb dX6_judge_31 rfl (lv_at hl 0 rfl) ?_
        refine va_get (v := .ref (ad 1)) (C := RX6) (T := TX6) (N := 8) hx hb hts in6 hown hK.1 hP 0 nb_a0 rfl 0 (by decide) w_3 (fun _ h9 => h9) rfl dX6_judge_32 ?_
        refine lv_aload_n hx hb dX6_judge_35 rfl (lv_at hl 0 rfl) ?_
        refine va_get (v := .ref (ad 42)) (C := RX6) (T := TX6) (N := 8) hx hb hts in6 hown hK.1 hP 0 nb_a0 rfl 5 (by decide) w_1 (fun _ h9 => h9) rfl dX6_judge_36 ?_
        refine lv_iload_n hx hb dX6_judge_39 rfl (lv_at hl 1 rfl) ?_
        refine nb_ald (t0 := 3) (E := RX2) (v := (0 : Int32)) hx hb hK hP nb_a42 rfl c_3 (nb_lit rfl) rfl dX6_judge_40 ?_
        obtain ⟨r_6, e_6, h⟩ := nb_oE h
        refine nb_callV (n := 1) (As := [.ref (ad 43)]) (rest := []) hx hb hml hown hts hK hZ hP hS (k_X0_rightStates_1_43 had M N e_6) gX6_judge_X0_rightStates rfl (by decide +kernel) (nb_rm (Nat.le_of_ble_eq_true rfl) (Nat.le_of_ble_eq_true rfl)) nb_a1 rfl rfl rfl hl.1 rfl (Nat.le_of_ble_eq_true rfl) dX6_judge_41 (fun H locs hP hS => ?_)
        refine W.eq (g2 := F0 m 44 ls [.int r_6]) rfl ?_
        obtain ⟨rfl, rfl⟩ := nb_e2 h
        exact nb_iret hx hb hr hlk hP hS dX6_judge_44
      · have h := nb_f c_5 h
        refine lv_aload_n hx hb dX6_judge_25 rfl (lv_at hl 0 rfl) ?_
        refine lv_iconst (v := (2 : Int32)) hx hb dX6_judge_26 (by decide) ?_
        obtain ⟨r_7, M_7, e_7, h⟩ := nb_pE h
        refine nb_callV (n := 1) (As := [.int (2 : Int32)]) (rest := []) hx hb hml hown hts hK hZ hP hS (k_X6_fail had M N (2 : Int32) e_7) gX6_judge_X6_fail rfl (by decide +kernel) (nb_rm (Nat.le_of_ble_eq_true rfl) (Nat.le_of_ble_eq_true rfl)) nb_a0 rfl rfl rfl hl.1 rfl (Nat.le_of_ble_eq_true rfl) dX6_judge_27 (fun H locs hP hS => ?_)
        refine W.eq (g2 := F0 m 30 ls [.int r_7]) rfl ?_
        obtain ⟨rfl, rfl⟩ := nb_e2 h
        exact nb_iret hx hb hr hlk hP hS dX6_judge_30
    · have h := nb_f c_3 h
      by_cases c_8 : p0 = 1
      · have h := nb_t c_8 h
        refine nb_ald (t0 := 3) (E := RX2) (v := (1 : Int32)) hx hb hK hP nb_a42 rfl c_8 (nb_lit rfl) rfl dX6_judge_18 ?_
        refine nb_callV (n := 0) (As := []) (rest := []) hx hb hml hown hts hK hZ hP hS (k_X2_isMissing_45 had M N) gX6_judge_X2_isMissing rfl (by decide +kernel) (nb_rm (Nat.le_of_ble_eq_true rfl) (Nat.le_of_ble_eq_true rfl)) nb_a45 rfl rfl rfl hl.1 rfl (Nat.le_of_ble_eq_true rfl) dX6_judge_19 (fun H locs hP hS => ?_)
        refine W.eq (g2 := F0 m 22 ls [.int (f_X2_isMissing_45 M)]) rfl ?_
        refine lv_if_eq (tgt := 31) hx hb dX6_judge_22 (by decide) (fun c_10 => ?_) (fun c_10 => ?_)
        · have h := nb_t c_10 h
          refine lv_aload_n hx hb dX6_judge_31 rfl (lv_at hl 0 rfl) ?_
          refine va_get (v := .ref (ad 1)) (C := RX6) (T := TX6) (N := 8) hx hb hts in6 hown hK.1 hP 0 nb_a0 rfl 0 (by decide) w_3 (fun _ h9 => h9) rfl dX6_judge_32 ?_
          refine lv_aload_n hx hb dX6_judge_35 rfl (lv_at hl 0 rfl) ?_
          refine va_get (v := .ref (ad 42)) (C := RX6) (T := TX6) (N := 8) hx hb hts in6 hown hK.1 hP 0 nb_a0 rfl 5 (by decide) w_1 (fun _ h9 => h9) rfl dX6_judge_36 ?_
          refine lv_iload_n hx hb dX6_judge_39 rfl (lv_at hl 1 rfl) ?_
          refine nb_ald (t0 := 3) (E := RX2) (v := (1 : Int32)) hx hb hK hP nb_a42 rfl c_8 (nb_lit rfl) rfl dX6_judge_40 ?_
          obtain ⟨r_11, e_11, h⟩ := nb_oE h
          refine nb_callV (n := 1) (As := [.ref (ad 45)]) (rest := []) hx hb hml hown hts hK hZ hP hS (k_X0_rightStates_1_45 had M N e_11) gX6_judge_X0_rightStates rfl (by decide +kernel) (nb_rm (Nat.le_of_ble_eq_true rfl) (Nat.le_of_ble_eq_true rfl)) nb_a1 rfl rfl rfl hl.1 rfl (Nat.le_of_ble_eq_true rfl) dX6_judge_41 (fun H locs hP hS => ?_)
          refine W.eq (g2 := F0 m 44 ls [.int r_11]) rfl ?_
          obtain ⟨rfl, rfl⟩ := nb_e2 h
          exact nb_iret hx hb hr hlk hP hS dX6_judge_44
        · have h := nb_f c_10 h
          refine lv_aload_n hx hb dX6_judge_25 rfl (lv_at hl 0 rfl) ?_
          refine lv_iconst (v := (2 : Int32)) hx hb dX6_judge_26 (by decide) ?_
          obtain ⟨r_12, M_12, e_12, h⟩ := nb_pE h
          refine nb_callV (n := 1) (As := [.int (2 : Int32)]) (rest := []) hx hb hml hown hts hK hZ hP hS (k_X6_fail had M N (2 : Int32) e_12) gX6_judge_X6_fail rfl (by decide +kernel) (nb_rm (Nat.le_of_ble_eq_true rfl) (Nat.le_of_ble_eq_true rfl)) nb_a0 rfl rfl rfl hl.1 rfl (Nat.le_of_ble_eq_true rfl) dX6_judge_27 (fun H locs hP hS => ?_)
          refine W.eq (g2 := F0 m 30 ls [.int r_12]) rfl ?_
          obtain ⟨rfl, rfl⟩ := nb_e2 h
          exact nb_iret hx hb hr hlk hP hS dX6_judge_30
      · have h := nb_f c_8 h
        by_cases c_13 : p0 = 2
        · have h := nb_t c_13 h
          refine nb_ald (t0 := 3) (E := RX2) (v := (2 : Int32)) hx hb hK hP nb_a42 rfl c_13 (nb_lit rfl) rfl dX6_judge_18 ?_
          refine nb_callV (n := 0) (As := []) (rest := []) hx hb hml hown hts hK hZ hP hS (k_X2_isMissing_47 had M N) gX6_judge_X2_isMissing rfl (by decide +kernel) (nb_rm (Nat.le_of_ble_eq_true rfl) (Nat.le_of_ble_eq_true rfl)) nb_a47 rfl rfl rfl hl.1 rfl (Nat.le_of_ble_eq_true rfl) dX6_judge_19 (fun H locs hP hS => ?_)
          refine W.eq (g2 := F0 m 22 ls [.int (f_X2_isMissing_47 M)]) rfl ?_
          refine lv_if_eq (tgt := 31) hx hb dX6_judge_22 (by decide) (fun c_15 => ?_) (fun c_15 => ?_)
          · have h := nb_t c_15 h
            refine lv_aload_n hx hb dX6_judge_31 rfl (lv_at hl 0 rfl) ?_
            refine va_get (v := .ref (ad 1)) (C := RX6) (T := TX6) (N := 8) hx hb hts in6 hown hK.1 hP 0 nb_a0 rfl 0 (by decide) w_3 (fun _ h9 => h9) rfl dX6_judge_32 ?_
            refine lv_aload_n hx hb dX6_judge_35 rfl (lv_at hl 0 rfl) ?_
            refine va_get (v := .ref (ad 42)) (C := RX6) (T := TX6) (N := 8) hx hb hts in6 hown hK.1 hP 0 nb_a0 rfl 5 (by decide) w_1 (fun _ h9 => h9) rfl dX6_judge_36 ?_
            refine lv_iload_n hx hb dX6_judge_39 rfl (lv_at hl 1 rfl) ?_
            refine nb_ald (t0 := 3) (E := RX2) (v := (2 : Int32)) hx hb hK hP nb_a42 rfl c_13 (nb_lit rfl) rfl dX6_judge_40 ?_
            obtain ⟨r_16, e_16, h⟩ := nb_oE h
            refine nb_callV (n := 1) (As := [.ref (ad 47)]) (rest := []) hx hb hml hown hts hK hZ hP hS (k_X0_rightStates_1_47 had M N e_16) gX6_judge_X0_rightStates rfl (by decide +kernel) (nb_rm (Nat.le_of_ble_eq_true rfl) (Nat.le_of_ble_eq_true rfl)) nb_a1 rfl rfl rfl hl.1 rfl (Nat.le_of_ble_eq_true rfl) dX6_judge_41 (fun H locs hP hS => ?_)
            refine W.eq (g2 := F0 m 44 ls [.int r_16]) rfl ?_
            obtain ⟨rfl, rfl⟩ := nb_e2 h
            exact nb_iret hx hb hr hlk hP hS dX6_judge_44
          · have h := nb_f c_15 h
            refine lv_aload_n hx hb dX6_judge_25 rfl (lv_at hl 0 rfl) ?_
            refine lv_iconst (v := (2 : Int32)) hx hb dX6_judge_26 (by decide) ?_
            obtain ⟨r_17, M_17, e_17, h⟩ := nb_pE h
            refine nb_callV (n := 1) (As := [.int (2 : Int32)]) (rest := []) hx hb hml hown hts hK hZ hP hS (k_X6_fail had M N (2 : Int32) e_17) gX6_judge_X6_fail rfl (by decide +kernel) (nb_rm (Nat.le_of_ble_eq_true rfl) (Nat.le_of_ble_eq_true rfl)) nb_a0 rfl rfl rfl hl.1 rfl (Nat.le_of_ble_eq_true rfl) dX6_judge_27 (fun H locs hP hS => ?_)
            refine W.eq (g2 := F0 m 30 ls [.int r_17]) rfl ?_
            obtain ⟨rfl, rfl⟩ := nb_e2 h
            exact nb_iret hx hb hr hlk hP hS dX6_judge_30
        · have h := nb_f c_13 h
          by_cases c_18 : p0 = 3
          · have h := nb_t c_18 h
            refine nb_ald (t0 := 3) (E := RX2) (v := (3 : Int32)) hx hb hK hP nb_a42 rfl c_18 (nb_lit rfl) rfl dX6_judge_18 ?_
            refine nb_callV (n := 0) (As := []) (rest := []) hx hb hml hown hts hK hZ hP hS (k_X2_isMissing_49 had M N) gX6_judge_X2_isMissing rfl (by decide +kernel) (nb_rm (Nat.le_of_ble_eq_true rfl) (Nat.le_of_ble_eq_true rfl)) nb_a49 rfl rfl rfl hl.1 rfl (Nat.le_of_ble_eq_true rfl) dX6_judge_19 (fun H locs hP hS => ?_)
            refine W.eq (g2 := F0 m 22 ls [.int (f_X2_isMissing_49 M)]) rfl ?_
            refine lv_if_eq (tgt := 31) hx hb dX6_judge_22 (by decide) (fun c_20 => ?_) (fun c_20 => ?_)
            · have h := nb_t c_20 h
              refine lv_aload_n hx hb dX6_judge_31 rfl (lv_at hl 0 rfl) ?_
              refine va_get (v := .ref (ad 1)) (C := RX6) (T := TX6) (N := 8) hx hb hts in6 hown hK.1 hP 0 nb_a0 rfl 0 (by decide) w_3 (fun _ h9 => h9) rfl dX6_judge_32 ?_
              refine lv_aload_n hx hb dX6_judge_35 rfl (lv_at hl 0 rfl) ?_
              refine va_get (v := .ref (ad 42)) (C := RX6) (T := TX6) (N := 8) hx hb hts in6 hown hK.1 hP 0 nb_a0 rfl 5 (by decide) w_1 (fun _ h9 => h9) rfl dX6_judge_36 ?_
              refine lv_iload_n hx hb dX6_judge_39 rfl (lv_at hl 1 rfl) ?_
              refine nb_ald (t0 := 3) (E := RX2) (v := (3 : Int32)) hx hb hK hP nb_a42 rfl c_18 (nb_lit rfl) rfl dX6_judge_40 ?_
              obtain ⟨r_21, e_21, h⟩ := nb_oE h
              refine nb_callV (n := 1) (As := [.ref (ad 49)]) (rest := []) hx hb hml hown hts hK hZ hP hS (k_X0_rightStates_1_49 had M N e_21) gX6_judge_X0_rightStates rfl (by decide +kernel) (nb_rm (Nat.le_of_ble_eq_true rfl) (Nat.le_of_ble_eq_true rfl)) nb_a1 rfl rfl rfl hl.1 rfl (Nat.le_of_ble_eq_true rfl) dX6_judge_41 (fun H locs hP hS => ?_)
              refine W.eq (g2 := F0 m 44 ls [.int r_21]) rfl ?_
              obtain ⟨rfl, rfl⟩ := nb_e2 h
              exact nb_iret hx hb hr hlk hP hS dX6_judge_44
            · have h := nb_f c_20 h
              refine lv_aload_n hx hb dX6_judge_25 rfl (lv_at hl 0 rfl) ?_
              refine lv_iconst (v := (2 : Int32)) hx hb dX6_judge_26 (by decide) ?_
              obtain ⟨r_22, M_22, e_22, h⟩ := nb_pE h
              refine nb_callV (n := 1) (As := [.int (2 : Int32)]) (rest := []) hx hb hml hown hts hK hZ hP hS (k_X6_fail had M N (2 : Int32) e_22) gX6_judge_X6_fail rfl (by decide +kernel) (nb_rm (Nat.le_of_ble_eq_true rfl) (Nat.le_of_ble_eq_true rfl)) nb_a0 rfl rfl rfl hl.1 rfl (Nat.le_of_ble_eq_true rfl) dX6_judge_27 (fun H locs hP hS => ?_)
              refine W.eq (g2 := F0 m 30 ls [.int r_22]) rfl ?_
              obtain ⟨rfl, rfl⟩ := nb_e2 h
              exact nb_iret hx hb hr hlk hP hS dX6_judge_30
          · have h := nb_f c_18 h
            cases h
  · have h := nb_t c_2 h
    refine lv_aload_n hx hb dX6_judge_7 rfl (lv_at hl 0 rfl) ?_
    refine lv_iconst (v := (1 : Int32)) hx hb dX6_judge_8 (by decide) ?_
    obtain ⟨r_23, M_23, e_23, h⟩ := nb_pE h
    refine nb_callV (n := 1) (As := [.int (1 : Int32)]) (rest := []) hx hb hml hown hts hK hZ hP hS (k_X6_fail had M N (1 : Int32) e_23) gX6_judge_X6_fail rfl (by decide +kernel) (nb_rm (Nat.le_of_ble_eq_true rfl) (Nat.le_of_ble_eq_true rfl)) nb_a0 rfl rfl rfl hl.1 rfl (Nat.le_of_ble_eq_true rfl) dX6_judge_9 (fun H locs hP hS => ?_)
    refine W.eq (g2 := F0 m 12 ls [.int r_23]) rfl ?_
    obtain ⟨rfl, rfl⟩ := nb_e2 h
    exact nb_iret hx hb hr hlk hP hS dX6_judge_12
set_option maxHeartbeats 4000000 in
set_option maxRecDepth 100000 in
theorem k_X3_hold_29_13 {M' : nb_M} (had : nb_AD ad b0) (M N : nb_M) (p0 : Int32) (h : f_X3_hold_29_13 M p0 = some (M')) : nb_C l D ad ca b0 yX3_hold wsX3_hold 1 [.ref (ad 29), .ref (ad 13), .int p0] M N none M' N := by
  refine nb_of (cc := cX3_hold) (maxL := 3) (ret := none) (own := RX3) (by decide +kernel) rfl rfl (Nat.le_of_ble_eq_true rfl) ?_
  intro p e s m args below meth c ls X hP hS hl
  have hl : lv_has ls 3 [(0, .ref (ad 29)), (1, .ref (ad 13)), (2, .int p0)] := hl
  obtain ⟨hx, hb, hml, hown, hts, hr, hlk, hK, hZ⟩ := id X
  have w_1 := hts (.fieldLink RX3 9 "NineBreakages$Text" "steps" "[I") (by decide +kernel)
  have in3 : ∀ w ∈ u_ws RX3 TX3 3, w ∈ wsX3_hold := fun w q => List.mem_cons_of_mem _ (List.mem_append_right _ q)
  have w_3 := hts (.methodLink RX3 22 arraycopyName) (by decide +kernel)
  have w_4 := hts (.native arraycopyName) (by decide +kernel)
  have w_5 := hts (.static arraycopyName) (by decide +kernel)
  have w_6 := hts (.initialized "java/lang/System") (by decide +kernel)
  have w_7 := hts (.fieldLink RX3 18 "NineBreakages$Text" "stepped" "I") (by decide +kernel)
  unfold f_X3_hold_29_13 at h
  refine lv_aload_n hx hb dX3_hold_0 rfl (lv_at hl 1 rfl) ?_
  refine lv_iconst (v := (0 : Int32)) hx hb dX3_hold_1 (by decide) ?_
  refine lv_aload_n hx hb dX3_hold_2 rfl (lv_at hl 0 rfl) ?_
  refine va_get (v := .ref (ad 30)) (C := RX3) (T := TX3) (N := 3) hx hb hts in3 hown hK.1 hP 29 nb_a29 rfl 0 (by decide) w_1 (fun _ h9 => h9) rfl dX3_hold_3 ?_
  refine lv_iconst (v := (0 : Int32)) hx hb dX3_hold_6 (by decide) ?_
  refine lv_iload_n hx hb dX3_hold_7 rfl (lv_at hl 2 rfl) ?_
  obtain ⟨c_1, h⟩ := nb_c h
  refine nb_copy hx hb hml hl.1 had hown w_3 w_4 w_5 w_6 hK hP hS nb_a13 nb_a30 (Nat.le_of_ble_eq_true rfl) (Nat.le_of_ble_eq_true rfl) c_1 (nb_s30 _) dX3_hold_8 (fun H locs hP hS => ?_)
  obtain ⟨M_1, e_1, h⟩ := nb_nE h
  rw [e_1] at hP
  refine lv_aload_n hx hb dX3_hold_11 rfl (lv_at hl 0 rfl) ?_
  refine lv_iload_n hx hb dX3_hold_12 rfl (lv_at hl 2 rfl) ?_
  refine nb_put (C := RX3) (T := TX3) (NN := 3) hx hb had hts in3 tyX3 tyX3_ok nmX3 hown hK hP hS nb_a29 rfl 1 (by decide) w_7 rfl (ty := .int) (by decide +kernel) rfl rfl (Nat.le_of_ble_eq_true rfl) (nb_p29_1 _) dX3_hold_13 (fun H locs hP hS => ?_)
  obtain ⟨M_2, e_2, h⟩ := nb_nE h
  rw [e_2] at hP
  obtain rfl := nb_e1 h
  exact nb_vret hx hb hr hlk hP hS dX3_hold_16
set_option maxHeartbeats 4000000 in
set_option maxRecDepth 100000 in
theorem k_X3_hold_32_16 {M' : nb_M} (had : nb_AD ad b0) (M N : nb_M) (p0 : Int32) (h : f_X3_hold_32_16 M p0 = some (M')) : nb_C l D ad ca b0 yX3_hold wsX3_hold 1 [.ref (ad 32), .ref (ad 16), .int p0] M N none M' N := by
  refine nb_of (cc := cX3_hold) (maxL := 3) (ret := none) (own := RX3) (by decide +kernel) rfl rfl (Nat.le_of_ble_eq_true rfl) ?_
  intro p e s m args below meth c ls X hP hS hl
  have hl : lv_has ls 3 [(0, .ref (ad 32)), (1, .ref (ad 16)), (2, .int p0)] := hl
  obtain ⟨hx, hb, hml, hown, hts, hr, hlk, hK, hZ⟩ := id X
  have w_1 := hts (.fieldLink RX3 9 "NineBreakages$Text" "steps" "[I") (by decide +kernel)
  have in3 : ∀ w ∈ u_ws RX3 TX3 3, w ∈ wsX3_hold := fun w q => List.mem_cons_of_mem _ (List.mem_append_right _ q)
  have w_3 := hts (.methodLink RX3 22 arraycopyName) (by decide +kernel)
  have w_4 := hts (.native arraycopyName) (by decide +kernel)
  have w_5 := hts (.static arraycopyName) (by decide +kernel)
  have w_6 := hts (.initialized "java/lang/System") (by decide +kernel)
  have w_7 := hts (.fieldLink RX3 18 "NineBreakages$Text" "stepped" "I") (by decide +kernel)
  unfold f_X3_hold_32_16 at h
  refine lv_aload_n hx hb dX3_hold_0 rfl (lv_at hl 1 rfl) ?_
  refine lv_iconst (v := (0 : Int32)) hx hb dX3_hold_1 (by decide) ?_
  refine lv_aload_n hx hb dX3_hold_2 rfl (lv_at hl 0 rfl) ?_
  refine va_get (v := .ref (ad 33)) (C := RX3) (T := TX3) (N := 3) hx hb hts in3 hown hK.1 hP 32 nb_a32 rfl 0 (by decide) w_1 (fun _ h9 => h9) rfl dX3_hold_3 ?_
  refine lv_iconst (v := (0 : Int32)) hx hb dX3_hold_6 (by decide) ?_
  refine lv_iload_n hx hb dX3_hold_7 rfl (lv_at hl 2 rfl) ?_
  obtain ⟨c_1, h⟩ := nb_c h
  refine nb_copy hx hb hml hl.1 had hown w_3 w_4 w_5 w_6 hK hP hS nb_a16 nb_a33 (Nat.le_of_ble_eq_true rfl) (Nat.le_of_ble_eq_true rfl) c_1 (nb_s33 _) dX3_hold_8 (fun H locs hP hS => ?_)
  obtain ⟨M_1, e_1, h⟩ := nb_nE h
  rw [e_1] at hP
  refine lv_aload_n hx hb dX3_hold_11 rfl (lv_at hl 0 rfl) ?_
  refine lv_iload_n hx hb dX3_hold_12 rfl (lv_at hl 2 rfl) ?_
  refine nb_put (C := RX3) (T := TX3) (NN := 3) hx hb had hts in3 tyX3 tyX3_ok nmX3 hown hK hP hS nb_a32 rfl 1 (by decide) w_7 rfl (ty := .int) (by decide +kernel) rfl rfl (Nat.le_of_ble_eq_true rfl) (nb_p32_1 _) dX3_hold_13 (fun H locs hP hS => ?_)
  obtain ⟨M_2, e_2, h⟩ := nb_nE h
  rw [e_2] at hP
  obtain rfl := nb_e1 h
  exact nb_vret hx hb hr hlk hP hS dX3_hold_16
set_option maxHeartbeats 4000000 in
set_option maxRecDepth 100000 in
theorem w_X0_copyFrom_18_1_182 {N : nb_M} {M' : nb_M} (had : nb_AD ad b0) (X : nb_X p s m args meth c cX0_copyFrom 3 RX0 none wsX0_copyFrom D ca b0) : ∀ (n : Nat) (M : nb_M) (x2 : Int32), f_X0_copyFrom_18_1_182 n M x2 = some (M') → ∀ (H : Heap) (locs : List Loc), va_P D vwCl (nb_w ad ca M N) H → va_S (fun q => b0 ≤ q) s.heap H locs → ∀ ls : Array Slot, lv_has ls 3 [(0, .ref (ad 18)), (1, .ref (ad 1)), (2, .int x2)] → W p l e (nb_R 2) s m args below meth c H locs 0 0 (nb_Q below args s D ad ca b0 none M' N) (F0 m 182 ls []) := by
  obtain ⟨hx, hb, hml, hown, hts, hr, hlk, hK, hZ⟩ := id X
  have w_1 := hts (.fieldLink RX0 45 "NineBreakages$House" "texts" "[LNineBreakages$Text;") (by decide +kernel)
  have in0 : ∀ w ∈ u_ws RX0 TX0 16, w ∈ wsX0_copyFrom := fun w q => List.mem_cons_of_mem _ (List.mem_append_left _ (List.mem_append_right _ q))
  have w_3 := hts (.fieldLink RX0 71 "NineBreakages$Text" "steps" "[I") (by decide +kernel)
  have in3 : ∀ w ∈ u_ws RX3 TX3 3, w ∈ wsX0_copyFrom := fun w q => List.mem_cons_of_mem _ (List.mem_append_right _ q)
  have w_5 := hts (.fieldLink RX0 74 "NineBreakages$Text" "stepped" "I") (by decide +kernel)
  intro n
  induction n with
  | zero =>
    intro M x2 h
    rw [f_X0_copyFrom_18_1_182] at h
    cases h
  | succ n ih =>
    intro M x2 h H locs hP hS ls hl
    rw [f_X0_copyFrom_18_1_182] at h
    refine lv_iload_n hx hb dX0_copyFrom_182 rfl (lv_at hl 2 rfl) ?_
    refine lv_iconst (v := (2 : Int32)) hx hb dX0_copyFrom_183 (by decide) ?_
    refine lv_icmp_ge (tgt := 220) hx hb dX0_copyFrom_184 (by decide) (fun c_16 => ?_) (fun c_16 => ?_)
    · have h := nb_t c_16 h
      obtain rfl := nb_e1 h
      exact nb_vret hx hb hr hlk hP hS dX0_copyFrom_220
    · have h := nb_f c_16 h
      refine lv_aload_n hx hb dX0_copyFrom_187 rfl (lv_at hl 0 rfl) ?_
      refine va_get (v := .ref (ad 26)) (C := RX0) (T := TX0) (N := 16) hx hb hts in0 hown hK.1 hP 18 nb_a18 rfl 11 (by decide) w_1 (fun _ h9 => h9) rfl dX0_copyFrom_188 ?_
      refine lv_iload_n hx hb dX0_copyFrom_191 rfl (lv_at hl 2 rfl) ?_
      by_cases c_17 : x2 = 0
      · have h := nb_t c_17 h
        refine nb_ald (t0 := 2) (E := RX3) (v := (0 : Int32)) hx hb hK hP nb_a26 rfl c_17 (nb_lit rfl) rfl dX0_copyFrom_192 ?_
        refine lv_aload_n hx hb dX0_copyFrom_193 rfl (lv_at hl 1 rfl) ?_
        refine va_get (v := .ref (ad 9)) (C := RX0) (T := TX0) (N := 16) hx hb hts in0 hown hK.1 hP 1 nb_a1 rfl 11 (by decide) w_1 (fun _ h9 => h9) rfl dX0_copyFrom_194 ?_
        refine lv_iload_n hx hb dX0_copyFrom_197 rfl (lv_at hl 2 rfl) ?_
        refine nb_ald (t0 := 2) (E := RX3) (v := (0 : Int32)) hx hb hK hP nb_a9 rfl c_17 (nb_lit rfl) rfl dX0_copyFrom_198 ?_
        refine va_get (v := .ref (ad 13)) (C := RX3) (T := TX3) (N := 3) hx hb hts in3 hown hK.1 hP 12 nb_a12 rfl 0 (by decide) w_3 (fun _ h9 => h9) rfl dX0_copyFrom_199 ?_
        refine lv_aload_n hx hb dX0_copyFrom_202 rfl (lv_at hl 1 rfl) ?_
        refine va_get (v := .ref (ad 9)) (C := RX0) (T := TX0) (N := 16) hx hb hts in0 hown hK.1 hP 1 nb_a1 rfl 11 (by decide) w_1 (fun _ h9 => h9) rfl dX0_copyFrom_203 ?_
        refine lv_iload_n hx hb dX0_copyFrom_206 rfl (lv_at hl 2 rfl) ?_
        refine nb_ald (t0 := 2) (E := RX3) (v := (0 : Int32)) hx hb hK hP nb_a9 rfl c_17 (nb_lit rfl) rfl dX0_copyFrom_207 ?_
        refine va_get (v := .int (M.1 12 1)) (C := RX3) (T := TX3) (N := 3) hx hb hts in3 hown hK.1 hP 12 nb_a12 rfl 1 (by decide) w_5 (fun _ h9 => h9) rfl dX0_copyFrom_208 ?_
        obtain ⟨M_18, e_18, h⟩ := nb_oE h
        refine nb_callV (n := 2) (As := [.ref (ad 13), .int (M.1 12 1)]) (rest := []) hx hb hml hown hts hK hZ hP hS (k_X3_hold_29_13 had M N (M.1 12 1) e_18) gX0_copyFrom_X3_hold rfl (by decide +kernel) (nb_rm (Nat.le_of_ble_eq_true rfl) (Nat.le_of_ble_eq_true rfl)) nb_a29 rfl rfl rfl hl.1 rfl (Nat.le_of_ble_eq_true rfl) dX0_copyFrom_211 (fun H locs hP hS => ?_)
        refine W.eq (g2 := F0 m 214 ls []) rfl ?_
        refine lv_iinc (v := x2 + 1) (lv' := [(2, .int (x2 + 1)), (0, .ref (ad 18)), (1, .ref (ad 1))]) hx hb dX0_copyFrom_214 hl (k := 2) rfl (congrArg (HAdd.hAdd x2) (by decide)) (by decide) rfl (fun ls hl => ?_)
        refine lv_goto (tgt := 182) hx hb dX0_copyFrom_217 (by decide) ?_
        exact ih _ _ h _ _ hP hS _ (lv_sub hl [1, 2, 0] rfl)
      · have h := nb_f c_17 h
        by_cases c_19 : x2 = 1
        · have h := nb_t c_19 h
          refine nb_ald (t0 := 2) (E := RX3) (v := (1 : Int32)) hx hb hK hP nb_a26 rfl c_19 (nb_lit rfl) rfl dX0_copyFrom_192 ?_
          refine lv_aload_n hx hb dX0_copyFrom_193 rfl (lv_at hl 1 rfl) ?_
          refine va_get (v := .ref (ad 9)) (C := RX0) (T := TX0) (N := 16) hx hb hts in0 hown hK.1 hP 1 nb_a1 rfl 11 (by decide) w_1 (fun _ h9 => h9) rfl dX0_copyFrom_194 ?_
          refine lv_iload_n hx hb dX0_copyFrom_197 rfl (lv_at hl 2 rfl) ?_
          refine nb_ald (t0 := 2) (E := RX3) (v := (1 : Int32)) hx hb hK hP nb_a9 rfl c_19 (nb_lit rfl) rfl dX0_copyFrom_198 ?_
          refine va_get (v := .ref (ad 16)) (C := RX3) (T := TX3) (N := 3) hx hb hts in3 hown hK.1 hP 15 nb_a15 rfl 0 (by decide) w_3 (fun _ h9 => h9) rfl dX0_copyFrom_199 ?_
          refine lv_aload_n hx hb dX0_copyFrom_202 rfl (lv_at hl 1 rfl) ?_
          refine va_get (v := .ref (ad 9)) (C := RX0) (T := TX0) (N := 16) hx hb hts in0 hown hK.1 hP 1 nb_a1 rfl 11 (by decide) w_1 (fun _ h9 => h9) rfl dX0_copyFrom_203 ?_
          refine lv_iload_n hx hb dX0_copyFrom_206 rfl (lv_at hl 2 rfl) ?_
          refine nb_ald (t0 := 2) (E := RX3) (v := (1 : Int32)) hx hb hK hP nb_a9 rfl c_19 (nb_lit rfl) rfl dX0_copyFrom_207 ?_
          refine va_get (v := .int (M.1 15 1)) (C := RX3) (T := TX3) (N := 3) hx hb hts in3 hown hK.1 hP 15 nb_a15 rfl 1 (by decide) w_5 (fun _ h9 => h9) rfl dX0_copyFrom_208 ?_
          obtain ⟨M_20, e_20, h⟩ := nb_oE h
          refine nb_callV (n := 2) (As := [.ref (ad 16), .int (M.1 15 1)]) (rest := []) hx hb hml hown hts hK hZ hP hS (k_X3_hold_32_16 had M N (M.1 15 1) e_20) gX0_copyFrom_X3_hold rfl (by decide +kernel) (nb_rm (Nat.le_of_ble_eq_true rfl) (Nat.le_of_ble_eq_true rfl)) nb_a32 rfl rfl rfl hl.1 rfl (Nat.le_of_ble_eq_true rfl) dX0_copyFrom_211 (fun H locs hP hS => ?_)
          refine W.eq (g2 := F0 m 214 ls []) rfl ?_
          refine lv_iinc (v := x2 + 1) (lv' := [(2, .int (x2 + 1)), (0, .ref (ad 18)), (1, .ref (ad 1))]) hx hb dX0_copyFrom_214 hl (k := 2) rfl (congrArg (HAdd.hAdd x2) (by decide)) (by decide) rfl (fun ls hl => ?_)
          refine lv_goto (tgt := 182) hx hb dX0_copyFrom_217 (by decide) ?_
          exact ih _ _ h _ _ hP hS _ (lv_sub hl [1, 2, 0] rfl)
        · have h := nb_f c_19 h
          cases h
end GEN
