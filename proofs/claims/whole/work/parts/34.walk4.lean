section GEN
variable {p : Program} {l : Launch} {e : Env} {s : State} {m : MethodId} {args : Array Value} {below : List Frame} {meth : Method} {c : Code} {D : va_G} {ad : Nat → Nat} {ca : Nat → ClassId} {b0 : Nat}
set_option maxHeartbeats 4000000 in
set_option maxRecDepth 100000 in
theorem k_X0_copyFrom_18_1 {M' : nb_M} (had : nb_AD ad b0) (M N : nb_M) (h : f_X0_copyFrom_18_1 M = some (M')) : nb_C l D ad ca b0 yX0_copyFrom wsX0_copyFrom 2 [.ref (ad 18), .ref (ad 1)] M N none M' N := by
  refine nb_of (cc := cX0_copyFrom) (maxL := 3) (ret := none) (own := RX0) (by decide +kernel) rfl rfl (Nat.le_of_ble_eq_true rfl) ?_
  intro p e s m args below meth c ls X hP hS hl
  have hl : lv_has ls 3 [(0, .ref (ad 18)), (1, .ref (ad 1))] := hl
  obtain ⟨hx, hb, hml, hown, hts, hr, hlk, hK, hZ⟩ := id X
  have w_1 := hts (.fieldLink RX0 50 "NineBreakages$House" "day" "I") (by decide +kernel)
  have in0 : ∀ w ∈ u_ws RX0 TX0 16, w ∈ wsX0_copyFrom := fun w q => List.mem_cons_of_mem _ (List.mem_append_left _ (List.mem_append_right _ q))
  have w_3 := hts (.fieldLink RX0 9 "NineBreakages$House" "z" "I") (by decide +kernel)
  have w_4 := hts (.fieldLink RX0 53 "NineBreakages$House" "people" "I") (by decide +kernel)
  have w_5 := hts (.fieldLink RX0 56 "NineBreakages$House" "pieces" "I") (by decide +kernel)
  have w_6 := hts (.fieldLink RX0 59 "NineBreakages$House" "taped" "I") (by decide +kernel)
  have w_7 := hts (.fieldLink RX0 62 "NineBreakages$House" "waits" "I") (by decide +kernel)
  have w_8 := hts (.fieldLink RX0 15 "NineBreakages$House" "care" "[I") (by decide +kernel)
  have w_9 := hts (.methodLink RX0 65 arraycopyName) (by decide +kernel)
  have w_10 := hts (.native arraycopyName) (by decide +kernel)
  have w_11 := hts (.static arraycopyName) (by decide +kernel)
  have w_12 := hts (.initialized "java/lang/System") (by decide +kernel)
  have w_13 := hts (.fieldLink RX0 19 "NineBreakages$House" "due" "[I") (by decide +kernel)
  have w_14 := hts (.fieldLink RX0 22 "NineBreakages$House" "had" "[I") (by decide +kernel)
  have w_15 := hts (.fieldLink RX0 25 "NineBreakages$House" "kind" "[I") (by decide +kernel)
  have w_16 := hts (.fieldLink RX0 28 "NineBreakages$House" "number" "[I") (by decide +kernel)
  have w_17 := hts (.fieldLink RX0 31 "NineBreakages$House" "owner" "[I") (by decide +kernel)
  have w_18 := hts (.fieldLink RX0 34 "NineBreakages$House" "state" "[I") (by decide +kernel)
  have w_19 := hts (.fieldLink RX0 37 "NineBreakages$House" "tape" "[I") (by decide +kernel)
  have w_20 := hts (.fieldLink RX0 40 "NineBreakages$House" "waiting" "[I") (by decide +kernel)
  unfold f_X0_copyFrom_18_1 at h
  refine lv_aload_n hx hb dX0_copyFrom_0 rfl (lv_at hl 0 rfl) ?_
  refine lv_aload_n hx hb dX0_copyFrom_1 rfl (lv_at hl 1 rfl) ?_
  refine va_get (v := .int (M.1 1 0)) (C := RX0) (T := TX0) (N := 16) hx hb hts in0 hown hK.1 hP 1 nb_a1 rfl 0 (by decide) w_1 (fun _ h9 => h9) rfl dX0_copyFrom_2 ?_
  refine nb_put (C := RX0) (T := TX0) (NN := 16) hx hb had hts in0 tyX0 tyX0_ok nmX0 hown hK hP hS nb_a18 rfl 0 (by decide) w_1 rfl (ty := .int) (by decide +kernel) rfl rfl (Nat.le_of_ble_eq_true rfl) (nb_p18_0 _) dX0_copyFrom_5 (fun H locs hP hS => ?_)
  obtain ⟨M_1, e_1, h⟩ := nb_nE h
  rw [e_1] at hP
  refine lv_aload_n hx hb dX0_copyFrom_8 rfl (lv_at hl 0 rfl) ?_
  refine lv_aload_n hx hb dX0_copyFrom_9 rfl (lv_at hl 1 rfl) ?_
  refine va_get (v := .int (M_1.1 1 1)) (C := RX0) (T := TX0) (N := 16) hx hb hts in0 hown hK.1 hP 1 nb_a1 rfl 1 (by decide) w_3 (fun _ h9 => h9) rfl dX0_copyFrom_10 ?_
  refine nb_put (C := RX0) (T := TX0) (NN := 16) hx hb had hts in0 tyX0 tyX0_ok nmX0 hown hK hP hS nb_a18 rfl 1 (by decide) w_3 rfl (ty := .int) (by decide +kernel) rfl rfl (Nat.le_of_ble_eq_true rfl) (nb_p18_1 _) dX0_copyFrom_13 (fun H locs hP hS => ?_)
  obtain ⟨M_2, e_2, h⟩ := nb_nE h
  rw [e_2] at hP
  refine lv_aload_n hx hb dX0_copyFrom_16 rfl (lv_at hl 0 rfl) ?_
  refine lv_aload_n hx hb dX0_copyFrom_17 rfl (lv_at hl 1 rfl) ?_
  refine va_get (v := .int (M_2.1 1 2)) (C := RX0) (T := TX0) (N := 16) hx hb hts in0 hown hK.1 hP 1 nb_a1 rfl 2 (by decide) w_4 (fun _ h9 => h9) rfl dX0_copyFrom_18 ?_
  refine nb_put (C := RX0) (T := TX0) (NN := 16) hx hb had hts in0 tyX0 tyX0_ok nmX0 hown hK hP hS nb_a18 rfl 2 (by decide) w_4 rfl (ty := .int) (by decide +kernel) rfl rfl (Nat.le_of_ble_eq_true rfl) (nb_p18_2 _) dX0_copyFrom_21 (fun H locs hP hS => ?_)
  obtain ⟨M_3, e_3, h⟩ := nb_nE h
  rw [e_3] at hP
  refine lv_aload_n hx hb dX0_copyFrom_24 rfl (lv_at hl 0 rfl) ?_
  refine lv_aload_n hx hb dX0_copyFrom_25 rfl (lv_at hl 1 rfl) ?_
  refine va_get (v := .int (M_3.1 1 6)) (C := RX0) (T := TX0) (N := 16) hx hb hts in0 hown hK.1 hP 1 nb_a1 rfl 6 (by decide) w_5 (fun _ h9 => h9) rfl dX0_copyFrom_26 ?_
  refine nb_put (C := RX0) (T := TX0) (NN := 16) hx hb had hts in0 tyX0 tyX0_ok nmX0 hown hK hP hS nb_a18 rfl 6 (by decide) w_5 rfl (ty := .int) (by decide +kernel) rfl rfl (Nat.le_of_ble_eq_true rfl) (nb_p18_6 _) dX0_copyFrom_29 (fun H locs hP hS => ?_)
  obtain ⟨M_4, e_4, h⟩ := nb_nE h
  rw [e_4] at hP
  refine lv_aload_n hx hb dX0_copyFrom_32 rfl (lv_at hl 0 rfl) ?_
  refine lv_aload_n hx hb dX0_copyFrom_33 rfl (lv_at hl 1 rfl) ?_
  refine va_get (v := .int (M_4.1 1 13)) (C := RX0) (T := TX0) (N := 16) hx hb hts in0 hown hK.1 hP 1 nb_a1 rfl 13 (by decide) w_6 (fun _ h9 => h9) rfl dX0_copyFrom_34 ?_
  refine nb_put (C := RX0) (T := TX0) (NN := 16) hx hb had hts in0 tyX0 tyX0_ok nmX0 hown hK hP hS nb_a18 rfl 13 (by decide) w_6 rfl (ty := .int) (by decide +kernel) rfl rfl (Nat.le_of_ble_eq_true rfl) (nb_p18_13 _) dX0_copyFrom_37 (fun H locs hP hS => ?_)
  obtain ⟨M_5, e_5, h⟩ := nb_nE h
  rw [e_5] at hP
  refine lv_aload_n hx hb dX0_copyFrom_40 rfl (lv_at hl 0 rfl) ?_
  refine lv_aload_n hx hb dX0_copyFrom_41 rfl (lv_at hl 1 rfl) ?_
  refine va_get (v := .int (M_5.1 1 15)) (C := RX0) (T := TX0) (N := 16) hx hb hts in0 hown hK.1 hP 1 nb_a1 rfl 15 (by decide) w_7 (fun _ h9 => h9) rfl dX0_copyFrom_42 ?_
  refine nb_put (C := RX0) (T := TX0) (NN := 16) hx hb had hts in0 tyX0 tyX0_ok nmX0 hown hK hP hS nb_a18 rfl 15 (by decide) w_7 rfl (ty := .int) (by decide +kernel) rfl rfl (Nat.le_of_ble_eq_true rfl) (nb_p18_15 _) dX0_copyFrom_45 (fun H locs hP hS => ?_)
  obtain ⟨M_6, e_6, h⟩ := nb_nE h
  rw [e_6] at hP
  refine lv_aload_n hx hb dX0_copyFrom_48 rfl (lv_at hl 1 rfl) ?_
  refine va_get (v := .ref (ad 2)) (C := RX0) (T := TX0) (N := 16) hx hb hts in0 hown hK.1 hP 1 nb_a1 rfl 3 (by decide) w_8 (fun _ h9 => h9) rfl dX0_copyFrom_49 ?_
  refine lv_iconst (v := (0 : Int32)) hx hb dX0_copyFrom_52 (by decide) ?_
  refine lv_aload_n hx hb dX0_copyFrom_53 rfl (lv_at hl 0 rfl) ?_
  refine va_get (v := .ref (ad 19)) (C := RX0) (T := TX0) (N := 16) hx hb hts in0 hown hK.1 hP 18 nb_a18 rfl 3 (by decide) w_8 (fun _ h9 => h9) rfl dX0_copyFrom_54 ?_
  refine lv_iconst (v := (0 : Int32)) hx hb dX0_copyFrom_57 (by decide) ?_
  refine lv_iconst (v := (5 : Int32)) hx hb dX0_copyFrom_58 (by decide) ?_
  refine nb_copy hx hb hml hl.1 had hown w_9 w_10 w_11 w_12 hK hP hS nb_a2 nb_a19 (Nat.le_of_ble_eq_true rfl) (Nat.le_of_ble_eq_true rfl) (by decide) (nb_s19 _) dX0_copyFrom_59 (fun H locs hP hS => ?_)
  obtain ⟨M_7, e_7, h⟩ := nb_nE h
  rw [e_7] at hP
  refine lv_aload_n hx hb dX0_copyFrom_62 rfl (lv_at hl 1 rfl) ?_
  refine va_get (v := .ref (ad 3)) (C := RX0) (T := TX0) (N := 16) hx hb hts in0 hown hK.1 hP 1 nb_a1 rfl 4 (by decide) w_13 (fun _ h9 => h9) rfl dX0_copyFrom_63 ?_
  refine lv_iconst (v := (0 : Int32)) hx hb dX0_copyFrom_66 (by decide) ?_
  refine lv_aload_n hx hb dX0_copyFrom_67 rfl (lv_at hl 0 rfl) ?_
  refine va_get (v := .ref (ad 20)) (C := RX0) (T := TX0) (N := 16) hx hb hts in0 hown hK.1 hP 18 nb_a18 rfl 4 (by decide) w_13 (fun _ h9 => h9) rfl dX0_copyFrom_68 ?_
  refine lv_iconst (v := (0 : Int32)) hx hb dX0_copyFrom_71 (by decide) ?_
  refine lv_iconst (v := (5 : Int32)) hx hb dX0_copyFrom_72 (by decide) ?_
  refine nb_copy hx hb hml hl.1 had hown w_9 w_10 w_11 w_12 hK hP hS nb_a3 nb_a20 (Nat.le_of_ble_eq_true rfl) (Nat.le_of_ble_eq_true rfl) (by decide) (nb_s20 _) dX0_copyFrom_73 (fun H locs hP hS => ?_)
  obtain ⟨M_8, e_8, h⟩ := nb_nE h
  rw [e_8] at hP
  refine lv_aload_n hx hb dX0_copyFrom_76 rfl (lv_at hl 1 rfl) ?_
  refine va_get (v := .ref (ad 4)) (C := RX0) (T := TX0) (N := 16) hx hb hts in0 hown hK.1 hP 1 nb_a1 rfl 5 (by decide) w_14 (fun _ h9 => h9) rfl dX0_copyFrom_77 ?_
  refine lv_iconst (v := (0 : Int32)) hx hb dX0_copyFrom_80 (by decide) ?_
  refine lv_aload_n hx hb dX0_copyFrom_81 rfl (lv_at hl 0 rfl) ?_
  refine va_get (v := .ref (ad 21)) (C := RX0) (T := TX0) (N := 16) hx hb hts in0 hown hK.1 hP 18 nb_a18 rfl 5 (by decide) w_14 (fun _ h9 => h9) rfl dX0_copyFrom_82 ?_
  refine lv_iconst (v := (0 : Int32)) hx hb dX0_copyFrom_85 (by decide) ?_
  refine lv_iconst (v := (5 : Int32)) hx hb dX0_copyFrom_86 (by decide) ?_
  refine nb_copy hx hb hml hl.1 had hown w_9 w_10 w_11 w_12 hK hP hS nb_a4 nb_a21 (Nat.le_of_ble_eq_true rfl) (Nat.le_of_ble_eq_true rfl) (by decide) (nb_s21 _) dX0_copyFrom_87 (fun H locs hP hS => ?_)
  obtain ⟨M_9, e_9, h⟩ := nb_nE h
  rw [e_9] at hP
  refine lv_aload_n hx hb dX0_copyFrom_90 rfl (lv_at hl 1 rfl) ?_
  refine va_get (v := .ref (ad 5)) (C := RX0) (T := TX0) (N := 16) hx hb hts in0 hown hK.1 hP 1 nb_a1 rfl 7 (by decide) w_15 (fun _ h9 => h9) rfl dX0_copyFrom_91 ?_
  refine lv_iconst (v := (0 : Int32)) hx hb dX0_copyFrom_94 (by decide) ?_
  refine lv_aload_n hx hb dX0_copyFrom_95 rfl (lv_at hl 0 rfl) ?_
  refine va_get (v := .ref (ad 22)) (C := RX0) (T := TX0) (N := 16) hx hb hts in0 hown hK.1 hP 18 nb_a18 rfl 7 (by decide) w_15 (fun _ h9 => h9) rfl dX0_copyFrom_96 ?_
  refine lv_iconst (v := (0 : Int32)) hx hb dX0_copyFrom_99 (by decide) ?_
  refine lv_bipush (v := (9 : Int32)) hx hb dX0_copyFrom_100 (by decide) ?_
  refine nb_copy hx hb hml hl.1 had hown w_9 w_10 w_11 w_12 hK hP hS nb_a5 nb_a22 (Nat.le_of_ble_eq_true rfl) (Nat.le_of_ble_eq_true rfl) (by decide) (nb_s22 _) dX0_copyFrom_102 (fun H locs hP hS => ?_)
  obtain ⟨M_10, e_10, h⟩ := nb_nE h
  rw [e_10] at hP
  refine lv_aload_n hx hb dX0_copyFrom_105 rfl (lv_at hl 1 rfl) ?_
  refine va_get (v := .ref (ad 6)) (C := RX0) (T := TX0) (N := 16) hx hb hts in0 hown hK.1 hP 1 nb_a1 rfl 8 (by decide) w_16 (fun _ h9 => h9) rfl dX0_copyFrom_106 ?_
  refine lv_iconst (v := (0 : Int32)) hx hb dX0_copyFrom_109 (by decide) ?_
  refine lv_aload_n hx hb dX0_copyFrom_110 rfl (lv_at hl 0 rfl) ?_
  refine va_get (v := .ref (ad 23)) (C := RX0) (T := TX0) (N := 16) hx hb hts in0 hown hK.1 hP 18 nb_a18 rfl 8 (by decide) w_16 (fun _ h9 => h9) rfl dX0_copyFrom_111 ?_
  refine lv_iconst (v := (0 : Int32)) hx hb dX0_copyFrom_114 (by decide) ?_
  refine lv_bipush (v := (9 : Int32)) hx hb dX0_copyFrom_115 (by decide) ?_
  refine nb_copy hx hb hml hl.1 had hown w_9 w_10 w_11 w_12 hK hP hS nb_a6 nb_a23 (Nat.le_of_ble_eq_true rfl) (Nat.le_of_ble_eq_true rfl) (by decide) (nb_s23 _) dX0_copyFrom_117 (fun H locs hP hS => ?_)
  obtain ⟨M_11, e_11, h⟩ := nb_nE h
  rw [e_11] at hP
  refine lv_aload_n hx hb dX0_copyFrom_120 rfl (lv_at hl 1 rfl) ?_
  refine va_get (v := .ref (ad 7)) (C := RX0) (T := TX0) (N := 16) hx hb hts in0 hown hK.1 hP 1 nb_a1 rfl 9 (by decide) w_17 (fun _ h9 => h9) rfl dX0_copyFrom_121 ?_
  refine lv_iconst (v := (0 : Int32)) hx hb dX0_copyFrom_124 (by decide) ?_
  refine lv_aload_n hx hb dX0_copyFrom_125 rfl (lv_at hl 0 rfl) ?_
  refine va_get (v := .ref (ad 24)) (C := RX0) (T := TX0) (N := 16) hx hb hts in0 hown hK.1 hP 18 nb_a18 rfl 9 (by decide) w_17 (fun _ h9 => h9) rfl dX0_copyFrom_126 ?_
  refine lv_iconst (v := (0 : Int32)) hx hb dX0_copyFrom_129 (by decide) ?_
  refine lv_bipush (v := (9 : Int32)) hx hb dX0_copyFrom_130 (by decide) ?_
  refine nb_copy hx hb hml hl.1 had hown w_9 w_10 w_11 w_12 hK hP hS nb_a7 nb_a24 (Nat.le_of_ble_eq_true rfl) (Nat.le_of_ble_eq_true rfl) (by decide) (nb_s24 _) dX0_copyFrom_132 (fun H locs hP hS => ?_)
  obtain ⟨M_12, e_12, h⟩ := nb_nE h
  rw [e_12] at hP
  refine lv_aload_n hx hb dX0_copyFrom_135 rfl (lv_at hl 1 rfl) ?_
  refine va_get (v := .ref (ad 8)) (C := RX0) (T := TX0) (N := 16) hx hb hts in0 hown hK.1 hP 1 nb_a1 rfl 10 (by decide) w_18 (fun _ h9 => h9) rfl dX0_copyFrom_136 ?_
  refine lv_iconst (v := (0 : Int32)) hx hb dX0_copyFrom_139 (by decide) ?_
  refine lv_aload_n hx hb dX0_copyFrom_140 rfl (lv_at hl 0 rfl) ?_
  refine va_get (v := .ref (ad 25)) (C := RX0) (T := TX0) (N := 16) hx hb hts in0 hown hK.1 hP 18 nb_a18 rfl 10 (by decide) w_18 (fun _ h9 => h9) rfl dX0_copyFrom_141 ?_
  refine lv_iconst (v := (0 : Int32)) hx hb dX0_copyFrom_144 (by decide) ?_
  refine lv_bipush (v := (9 : Int32)) hx hb dX0_copyFrom_145 (by decide) ?_
  refine nb_copy hx hb hml hl.1 had hown w_9 w_10 w_11 w_12 hK hP hS nb_a8 nb_a25 (Nat.le_of_ble_eq_true rfl) (Nat.le_of_ble_eq_true rfl) (by decide) (nb_s25 _) dX0_copyFrom_147 (fun H locs hP hS => ?_)
  obtain ⟨M_13, e_13, h⟩ := nb_nE h
  rw [e_13] at hP
  refine lv_aload_n hx hb dX0_copyFrom_150 rfl (lv_at hl 1 rfl) ?_
  refine va_get (v := .ref (ad 10)) (C := RX0) (T := TX0) (N := 16) hx hb hts in0 hown hK.1 hP 1 nb_a1 rfl 12 (by decide) w_19 (fun _ h9 => h9) rfl dX0_copyFrom_151 ?_
  refine lv_iconst (v := (0 : Int32)) hx hb dX0_copyFrom_154 (by decide) ?_
  refine lv_aload_n hx hb dX0_copyFrom_155 rfl (lv_at hl 0 rfl) ?_
  refine va_get (v := .ref (ad 27)) (C := RX0) (T := TX0) (N := 16) hx hb hts in0 hown hK.1 hP 18 nb_a18 rfl 12 (by decide) w_19 (fun _ h9 => h9) rfl dX0_copyFrom_156 ?_
  refine lv_iconst (v := (0 : Int32)) hx hb dX0_copyFrom_159 (by decide) ?_
  refine lv_bipush (v := (60 : Int32)) hx hb dX0_copyFrom_160 (by decide) ?_
  refine nb_copy hx hb hml hl.1 had hown w_9 w_10 w_11 w_12 hK hP hS nb_a10 nb_a27 (Nat.le_of_ble_eq_true rfl) (Nat.le_of_ble_eq_true rfl) (by decide) (nb_s27 _) dX0_copyFrom_162 (fun H locs hP hS => ?_)
  obtain ⟨M_14, e_14, h⟩ := nb_nE h
  rw [e_14] at hP
  refine lv_aload_n hx hb dX0_copyFrom_165 rfl (lv_at hl 1 rfl) ?_
  refine va_get (v := .ref (ad 11)) (C := RX0) (T := TX0) (N := 16) hx hb hts in0 hown hK.1 hP 1 nb_a1 rfl 14 (by decide) w_20 (fun _ h9 => h9) rfl dX0_copyFrom_166 ?_
  refine lv_iconst (v := (0 : Int32)) hx hb dX0_copyFrom_169 (by decide) ?_
  refine lv_aload_n hx hb dX0_copyFrom_170 rfl (lv_at hl 0 rfl) ?_
  refine va_get (v := .ref (ad 28)) (C := RX0) (T := TX0) (N := 16) hx hb hts in0 hown hK.1 hP 18 nb_a18 rfl 14 (by decide) w_20 (fun _ h9 => h9) rfl dX0_copyFrom_171 ?_
  refine lv_iconst (v := (0 : Int32)) hx hb dX0_copyFrom_174 (by decide) ?_
  refine lv_bipush (v := (24 : Int32)) hx hb dX0_copyFrom_175 (by decide) ?_
  refine nb_copy hx hb hml hl.1 had hown w_9 w_10 w_11 w_12 hK hP hS nb_a11 nb_a28 (Nat.le_of_ble_eq_true rfl) (Nat.le_of_ble_eq_true rfl) (by decide) (nb_s28 _) dX0_copyFrom_177 (fun H locs hP hS => ?_)
  obtain ⟨M_15, e_15, h⟩ := nb_nE h
  rw [e_15] at hP
  refine lv_iconst (v := (0 : Int32)) hx hb dX0_copyFrom_180 (by decide) ?_
  refine lv_istore_n (lv' := [(2, .int (0 : Int32)), (0, .ref (ad 18)), (1, .ref (ad 1))]) hx hb dX0_copyFrom_181 rfl hl (by decide) rfl (fun ls hl => ?_)
  exact w_X0_copyFrom_18_1_182 had X nb_F _ _ h _ _ hP hS _ (lv_sub hl [1, 2, 0] rfl)
set_option maxHeartbeats 4000000 in
set_option maxRecDepth 100000 in
theorem k_X6_image {r : Int32} {M' : nb_M} (had : nb_AD ad b0) (M N : nb_M) (h : f_X6_image M = some (r, M')) : nb_C l D ad ca b0 yX6_image wsX6_image 3 [.ref (ad 0)] M N (some (.int r)) M' N := by
  refine nb_of (cc := cX6_image) (maxL := 1) (ret := (some .int)) (own := RX6) (by decide +kernel) rfl rfl (Nat.le_of_ble_eq_true rfl) ?_
  intro p e s m args below meth c ls X hP hS hl
  have hl : lv_has ls 1 [(0, .ref (ad 0))] := hl
  obtain ⟨hx, hb, hml, hown, hts, hr, hlk, hK, hZ⟩ := id X
  have w_1 := hts (.fieldLink RX6 16 "NineBreakages" "kept" "LNineBreakages$House;") (by decide +kernel)
  have in6 : ∀ w ∈ u_ws RX6 TX6 8, w ∈ wsX6_image := fun w q => List.mem_cons_of_mem _ (List.mem_append_left _ (List.mem_append_left _ (List.mem_append_right _ q)))
  have w_3 := hts (.fieldLink RX6 12 "NineBreakages" "now" "LNineBreakages$House;") (by decide +kernel)
  have w_4 := hts (.fieldLink RX6 283 "NineBreakages" "images" "I") (by decide +kernel)
  unfold f_X6_image at h
  refine lv_aload_n hx hb dX6_image_0 rfl (lv_at hl 0 rfl) ?_
  refine va_get (v := .ref (ad 18)) (C := RX6) (T := TX6) (N := 8) hx hb hts in6 hown hK.1 hP 0 nb_a0 rfl 1 (by decide) w_1 (fun _ h9 => h9) rfl dX6_image_1 ?_
  refine lv_aload_n hx hb dX6_image_4 rfl (lv_at hl 0 rfl) ?_
  refine va_get (v := .ref (ad 1)) (C := RX6) (T := TX6) (N := 8) hx hb hts in6 hown hK.1 hP 0 nb_a0 rfl 0 (by decide) w_3 (fun _ h9 => h9) rfl dX6_image_5 ?_
  obtain ⟨M_1, e_1, h⟩ := nb_oE h
  refine nb_callV (n := 1) (As := [.ref (ad 1)]) (rest := []) hx hb hml hown hts hK hZ hP hS (k_X0_copyFrom_18_1 had M N e_1) gX6_image_X0_copyFrom rfl (by decide +kernel) (nb_rm (Nat.le_of_ble_eq_true rfl) (Nat.le_of_ble_eq_true rfl)) nb_a18 rfl rfl rfl hl.1 rfl (Nat.le_of_ble_eq_true rfl) dX6_image_8 (fun H locs hP hS => ?_)
  refine W.eq (g2 := F0 m 11 ls []) rfl ?_
  refine lv_aload_n hx hb dX6_image_11 rfl (lv_at hl 0 rfl) ?_
  refine lv_dup hx hb dX6_image_12 rfl ?_
  refine va_get (v := .int (M_1.1 0 7)) (C := RX6) (T := TX6) (N := 8) hx hb hts in6 hown hK.1 hP 0 nb_a0 rfl 7 (by decide) w_4 (fun _ h9 => h9) rfl dX6_image_13 ?_
  refine lv_iconst (v := (1 : Int32)) hx hb dX6_image_16 (by decide) ?_
  refine lv_iadd hx hb dX6_image_17 ?_
  refine nb_put (C := RX6) (T := TX6) (NN := 8) hx hb had hts in6 tyX6 tyX6_ok nmX6 hown hK hP hS nb_a0 rfl 7 (by decide) w_4 rfl (ty := .int) (by decide +kernel) rfl rfl (Nat.le_of_ble_eq_true rfl) (nb_p0_7 _) dX6_image_18 (fun H locs hP hS => ?_)
  obtain ⟨M_2, e_2, h⟩ := nb_nE h
  rw [e_2] at hP
  refine lv_aload_n hx hb dX6_image_21 rfl (lv_at hl 0 rfl) ?_
  refine va_get (v := .int (M_2.1 0 7)) (C := RX6) (T := TX6) (N := 8) hx hb hts in6 hown hK.1 hP 0 nb_a0 rfl 7 (by decide) w_4 (fun _ h9 => h9) rfl dX6_image_22 ?_
  obtain ⟨rfl, rfl⟩ := nb_e2 h
  exact nb_iret hx hb hr hlk hP hS dX6_image_25
set_option maxHeartbeats 4000000 in
set_option maxRecDepth 100000 in
theorem k_X3_hold_12_30 {M' : nb_M} (had : nb_AD ad b0) (M N : nb_M) (p0 : Int32) (h : f_X3_hold_12_30 M p0 = some (M')) : nb_C l D ad ca b0 yX3_hold wsX3_hold 1 [.ref (ad 12), .ref (ad 30), .int p0] M N none M' N := by
  refine nb_of (cc := cX3_hold) (maxL := 3) (ret := none) (own := RX3) (by decide +kernel) rfl rfl (Nat.le_of_ble_eq_true rfl) ?_
  intro p e s m args below meth c ls X hP hS hl
  have hl : lv_has ls 3 [(0, .ref (ad 12)), (1, .ref (ad 30)), (2, .int p0)] := hl
  obtain ⟨hx, hb, hml, hown, hts, hr, hlk, hK, hZ⟩ := id X
  have w_1 := hts (.fieldLink RX3 9 "NineBreakages$Text" "steps" "[I") (by decide +kernel)
  have in3 : ∀ w ∈ u_ws RX3 TX3 3, w ∈ wsX3_hold := fun w q => List.mem_cons_of_mem _ (List.mem_append_right _ q)
  have w_3 := hts (.methodLink RX3 22 arraycopyName) (by decide +kernel)
  have w_4 := hts (.native arraycopyName) (by decide +kernel)
  have w_5 := hts (.static arraycopyName) (by decide +kernel)
  have w_6 := hts (.initialized "java/lang/System") (by decide +kernel)
  have w_7 := hts (.fieldLink RX3 18 "NineBreakages$Text" "stepped" "I") (by decide +kernel)
  unfold f_X3_hold_12_30 at h
  refine lv_aload_n hx hb dX3_hold_0 rfl (lv_at hl 1 rfl) ?_
  refine lv_iconst (v := (0 : Int32)) hx hb dX3_hold_1 (by decide) ?_
  refine lv_aload_n hx hb dX3_hold_2 rfl (lv_at hl 0 rfl) ?_
  refine va_get (v := .ref (ad 13)) (C := RX3) (T := TX3) (N := 3) hx hb hts in3 hown hK.1 hP 12 nb_a12 rfl 0 (by decide) w_1 (fun _ h9 => h9) rfl dX3_hold_3 ?_
  refine lv_iconst (v := (0 : Int32)) hx hb dX3_hold_6 (by decide) ?_
  refine lv_iload_n hx hb dX3_hold_7 rfl (lv_at hl 2 rfl) ?_
  obtain ⟨c_1, h⟩ := nb_c h
  refine nb_copy hx hb hml hl.1 had hown w_3 w_4 w_5 w_6 hK hP hS nb_a30 nb_a13 (Nat.le_of_ble_eq_true rfl) (Nat.le_of_ble_eq_true rfl) c_1 (nb_s13 _) dX3_hold_8 (fun H locs hP hS => ?_)
  obtain ⟨M_1, e_1, h⟩ := nb_nE h
  rw [e_1] at hP
  refine lv_aload_n hx hb dX3_hold_11 rfl (lv_at hl 0 rfl) ?_
  refine lv_iload_n hx hb dX3_hold_12 rfl (lv_at hl 2 rfl) ?_
  refine nb_put (C := RX3) (T := TX3) (NN := 3) hx hb had hts in3 tyX3 tyX3_ok nmX3 hown hK hP hS nb_a12 rfl 1 (by decide) w_7 rfl (ty := .int) (by decide +kernel) rfl rfl (Nat.le_of_ble_eq_true rfl) (nb_p12_1 _) dX3_hold_13 (fun H locs hP hS => ?_)
  obtain ⟨M_2, e_2, h⟩ := nb_nE h
  rw [e_2] at hP
  obtain rfl := nb_e1 h
  exact nb_vret hx hb hr hlk hP hS dX3_hold_16
set_option maxHeartbeats 4000000 in
set_option maxRecDepth 100000 in
theorem k_X3_hold_15_33 {M' : nb_M} (had : nb_AD ad b0) (M N : nb_M) (p0 : Int32) (h : f_X3_hold_15_33 M p0 = some (M')) : nb_C l D ad ca b0 yX3_hold wsX3_hold 1 [.ref (ad 15), .ref (ad 33), .int p0] M N none M' N := by
  refine nb_of (cc := cX3_hold) (maxL := 3) (ret := none) (own := RX3) (by decide +kernel) rfl rfl (Nat.le_of_ble_eq_true rfl) ?_
  intro p e s m args below meth c ls X hP hS hl
  have hl : lv_has ls 3 [(0, .ref (ad 15)), (1, .ref (ad 33)), (2, .int p0)] := hl
  obtain ⟨hx, hb, hml, hown, hts, hr, hlk, hK, hZ⟩ := id X
  have w_1 := hts (.fieldLink RX3 9 "NineBreakages$Text" "steps" "[I") (by decide +kernel)
  have in3 : ∀ w ∈ u_ws RX3 TX3 3, w ∈ wsX3_hold := fun w q => List.mem_cons_of_mem _ (List.mem_append_right _ q)
  have w_3 := hts (.methodLink RX3 22 arraycopyName) (by decide +kernel)
  have w_4 := hts (.native arraycopyName) (by decide +kernel)
  have w_5 := hts (.static arraycopyName) (by decide +kernel)
  have w_6 := hts (.initialized "java/lang/System") (by decide +kernel)
  have w_7 := hts (.fieldLink RX3 18 "NineBreakages$Text" "stepped" "I") (by decide +kernel)
  unfold f_X3_hold_15_33 at h
  refine lv_aload_n hx hb dX3_hold_0 rfl (lv_at hl 1 rfl) ?_
  refine lv_iconst (v := (0 : Int32)) hx hb dX3_hold_1 (by decide) ?_
  refine lv_aload_n hx hb dX3_hold_2 rfl (lv_at hl 0 rfl) ?_
  refine va_get (v := .ref (ad 16)) (C := RX3) (T := TX3) (N := 3) hx hb hts in3 hown hK.1 hP 15 nb_a15 rfl 0 (by decide) w_1 (fun _ h9 => h9) rfl dX3_hold_3 ?_
  refine lv_iconst (v := (0 : Int32)) hx hb dX3_hold_6 (by decide) ?_
  refine lv_iload_n hx hb dX3_hold_7 rfl (lv_at hl 2 rfl) ?_
  obtain ⟨c_1, h⟩ := nb_c h
  refine nb_copy hx hb hml hl.1 had hown w_3 w_4 w_5 w_6 hK hP hS nb_a33 nb_a16 (Nat.le_of_ble_eq_true rfl) (Nat.le_of_ble_eq_true rfl) c_1 (nb_s16 _) dX3_hold_8 (fun H locs hP hS => ?_)
  obtain ⟨M_1, e_1, h⟩ := nb_nE h
  rw [e_1] at hP
  refine lv_aload_n hx hb dX3_hold_11 rfl (lv_at hl 0 rfl) ?_
  refine lv_iload_n hx hb dX3_hold_12 rfl (lv_at hl 2 rfl) ?_
  refine nb_put (C := RX3) (T := TX3) (NN := 3) hx hb had hts in3 tyX3 tyX3_ok nmX3 hown hK hP hS nb_a15 rfl 1 (by decide) w_7 rfl (ty := .int) (by decide +kernel) rfl rfl (Nat.le_of_ble_eq_true rfl) (nb_p15_1 _) dX3_hold_13 (fun H locs hP hS => ?_)
  obtain ⟨M_2, e_2, h⟩ := nb_nE h
  rw [e_2] at hP
  obtain rfl := nb_e1 h
  exact nb_vret hx hb hr hlk hP hS dX3_hold_16
set_option maxHeartbeats 4000000 in
set_option maxRecDepth 100000 in
theorem w_X0_copyFrom_1_18_182 {N : nb_M} {M' : nb_M} (had : nb_AD ad b0) (X : nb_X p s m args meth c cX0_copyFrom 3 RX0 none wsX0_copyFrom D ca b0) : ∀ (n : Nat) (M : nb_M) (x2 : Int32), f_X0_copyFrom_1_18_182 n M x2 = some (M') → ∀ (H : Heap) (locs : List Loc), va_P D vwCl (nb_w ad ca M N) H → va_S (fun q => b0 ≤ q) s.heap H locs → ∀ ls : Array Slot, lv_has ls 3 [(0, .ref (ad 1)), (1, .ref (ad 18)), (2, .int x2)] → W p l e (nb_R 2) s m args below meth c H locs 0 0 (nb_Q below args s D ad ca b0 none M' N) (F0 m 182 ls []) := by
  obtain ⟨hx, hb, hml, hown, hts, hr, hlk, hK, hZ⟩ := id X
  have w_1 := hts (.fieldLink RX0 45 "NineBreakages$House" "texts" "[LNineBreakages$Text;") (by decide +kernel)
  have in0 : ∀ w ∈ u_ws RX0 TX0 16, w ∈ wsX0_copyFrom := fun w q => List.mem_cons_of_mem _ (List.mem_append_left _ (List.mem_append_right _ q))
  have w_3 := hts (.fieldLink RX0 71 "NineBreakages$Text" "steps" "[I") (by decide +kernel)
  have in3 : ∀ w ∈ u_ws RX3 TX3 3, w ∈ wsX0_copyFrom := fun w q => List.mem_cons_of_mem _ (List.mem_append_right _ q)
  have w_5 := hts (.fieldLink RX0 74 "NineBreakages$Text" "stepped" "I") (by decide +kernel)
  intro n
  induction n with
  | zero =>
    intro M x2 h
    rw [f_X0_copyFrom_1_18_182] at h
    cases h
  | succ n ih =>
    intro M x2 h H locs hP hS ls hl
    rw [f_X0_copyFrom_1_18_182] at h
    refine lv_iload_n hx hb dX0_copyFrom_182 rfl (lv_at hl 2 rfl) ?_
    refine lv_iconst (v := (2 : Int32)) hx hb dX0_copyFrom_183 (by decide) ?_
    refine lv_icmp_ge (tgt := 220) hx hb dX0_copyFrom_184 (by decide) (fun c_16 => ?_) (fun c_16 => ?_)
    · have h := nb_t c_16 h
      obtain rfl := nb_e1 h
      exact nb_vret hx hb hr hlk hP hS dX0_copyFrom_220
    · have h := nb_f c_16 h
      refine lv_aload_n hx hb dX0_copyFrom_187 rfl (lv_at hl 0 rfl) ?_
      refine va_get (v := .ref (ad 9)) (C := RX0) (T := TX0) (N := 16) hx hb hts in0 hown hK.1 hP 1 nb_a1 rfl 11 (by decide) w_1 (fun _ h9 => h9) rfl dX0_copyFrom_188 ?_
      refine lv_iload_n hx hb dX0_copyFrom_191 rfl (lv_at hl 2 rfl) ?_
      by_cases c_17 : x2 = 0
      · have h := nb_t c_17 h
        refine nb_ald (t0 := 2) (E := RX3) (v := (0 : Int32)) hx hb hK hP nb_a9 rfl c_17 (nb_lit rfl) rfl dX0_copyFrom_192 ?_
        refine lv_aload_n hx hb dX0_copyFrom_193 rfl (lv_at hl 1 rfl) ?_
        refine va_get (v := .ref (ad 26)) (C := RX0) (T := TX0) (N := 16) hx hb hts in0 hown hK.1 hP 18 nb_a18 rfl 11 (by decide) w_1 (fun _ h9 => h9) rfl dX0_copyFrom_194 ?_
        refine lv_iload_n hx hb dX0_copyFrom_197 rfl (lv_at hl 2 rfl) ?_
        refine nb_ald (t0 := 2) (E := RX3) (v := (0 : Int32)) hx hb hK hP nb_a26 rfl c_17 (nb_lit rfl) rfl dX0_copyFrom_198 ?_
        refine va_get (v := .ref (ad 30)) (C := RX3) (T := TX3) (N := 3) hx hb hts in3 hown hK.1 hP 29 nb_a29 rfl 0 (by decide) w_3 (fun _ h9 => h9) rfl dX0_copyFrom_199 ?_
        refine lv_aload_n hx hb dX0_copyFrom_202 rfl (lv_at hl 1 rfl) ?_
        refine va_get (v := .ref (ad 26)) (C := RX0) (T := TX0) (N := 16) hx hb hts in0 hown hK.1 hP 18 nb_a18 rfl 11 (by decide) w_1 (fun _ h9 => h9) rfl dX0_copyFrom_203 ?_
        refine lv_iload_n hx hb dX0_copyFrom_206 rfl (lv_at hl 2 rfl) ?_
        refine nb_ald (t0 := 2) (E := RX3) (v := (0 : Int32)) hx hb hK hP nb_a26 rfl c_17 (nb_lit rfl) rfl dX0_copyFrom_207 ?_
        refine va_get (v := .int (M.1 29 1)) (C := RX3) (T := TX3) (N := 3) hx hb hts in3 hown hK.1 hP 29 nb_a29 rfl 1 (by decide) w_5 (fun _ h9 => h9) rfl dX0_copyFrom_208 ?_
        obtain ⟨M_18, e_18, h⟩ := nb_oE h
        refine nb_callV (n := 2) (As := [.ref (ad 30), .int (M.1 29 1)]) (rest := []) hx hb hml hown hts hK hZ hP hS (k_X3_hold_12_30 had M N (M.1 29 1) e_18) gX0_copyFrom_X3_hold rfl (by decide +kernel) (nb_rm (Nat.le_of_ble_eq_true rfl) (Nat.le_of_ble_eq_true rfl)) nb_a12 rfl rfl rfl hl.1 rfl (Nat.le_of_ble_eq_true rfl) dX0_copyFrom_211 (fun H locs hP hS => ?_)
        refine W.eq (g2 := F0 m 214 ls []) rfl ?_
        refine lv_iinc (v := x2 + 1) (lv' := [(2, .int (x2 + 1)), (0, .ref (ad 1)), (1, .ref (ad 18))]) hx hb dX0_copyFrom_214 hl (k := 2) rfl (congrArg (HAdd.hAdd x2) (by decide)) (by decide) rfl (fun ls hl => ?_)
        refine lv_goto (tgt := 182) hx hb dX0_copyFrom_217 (by decide) ?_
        exact ih _ _ h _ _ hP hS _ (lv_sub hl [1, 2, 0] rfl)
      · have h := nb_f c_17 h
        by_cases c_19 : x2 = 1
        · have h := nb_t c_19 h
          refine nb_ald (t0 := 2) (E := RX3) (v := (1 : Int32)) hx hb hK hP nb_a9 rfl c_19 (nb_lit rfl) rfl dX0_copyFrom_192 ?_
          refine lv_aload_n hx hb dX0_copyFrom_193 rfl (lv_at hl 1 rfl) ?_
          refine va_get (v := .ref (ad 26)) (C := RX0) (T := TX0) (N := 16) hx hb hts in0 hown hK.1 hP 18 nb_a18 rfl 11 (by decide) w_1 (fun _ h9 => h9) rfl dX0_copyFrom_194 ?_
          refine lv_iload_n hx hb dX0_copyFrom_197 rfl (lv_at hl 2 rfl) ?_
          refine nb_ald (t0 := 2) (E := RX3) (v := (1 : Int32)) hx hb hK hP nb_a26 rfl c_19 (nb_lit rfl) rfl dX0_copyFrom_198 ?_
          refine va_get (v := .ref (ad 33)) (C := RX3) (T := TX3) (N := 3) hx hb hts in3 hown hK.1 hP 32 nb_a32 rfl 0 (by decide) w_3 (fun _ h9 => h9) rfl dX0_copyFrom_199 ?_
          refine lv_aload_n hx hb dX0_copyFrom_202 rfl (lv_at hl 1 rfl) ?_
          refine va_get (v := .ref (ad 26)) (C := RX0) (T := TX0) (N := 16) hx hb hts in0 hown hK.1 hP 18 nb_a18 rfl 11 (by decide) w_1 (fun _ h9 => h9) rfl dX0_copyFrom_203 ?_
          refine lv_iload_n hx hb dX0_copyFrom_206 rfl (lv_at hl 2 rfl) ?_
          refine nb_ald (t0 := 2) (E := RX3) (v := (1 : Int32)) hx hb hK hP nb_a26 rfl c_19 (nb_lit rfl) rfl dX0_copyFrom_207 ?_
          refine va_get (v := .int (M.1 32 1)) (C := RX3) (T := TX3) (N := 3) hx hb hts in3 hown hK.1 hP 32 nb_a32 rfl 1 (by decide) w_5 (fun _ h9 => h9) rfl dX0_copyFrom_208 ?_
          obtain ⟨M_20, e_20, h⟩ := nb_oE h
          refine nb_callV (n := 2) (As := [.ref (ad 33), .int (M.1 32 1)]) (rest := []) hx hb hml hown hts hK hZ hP hS (k_X3_hold_15_33 had M N (M.1 32 1) e_20) gX0_copyFrom_X3_hold rfl (by decide +kernel) (nb_rm (Nat.le_of_ble_eq_true rfl) (Nat.le_of_ble_eq_true rfl)) nb_a15 rfl rfl rfl hl.1 rfl (Nat.le_of_ble_eq_true rfl) dX0_copyFrom_211 (fun H locs hP hS => ?_)
          refine W.eq (g2 := F0 m 214 ls []) rfl ?_
          refine lv_iinc (v := x2 + 1) (lv' := [(2, .int (x2 + 1)), (0, .ref (ad 1)), (1, .ref (ad 18))]) hx hb dX0_copyFrom_214 hl (k := 2) rfl (congrArg (HAdd.hAdd x2) (by decide)) (by decide) rfl (fun ls hl => ?_)
          refine lv_goto (tgt := 182) hx hb dX0_copyFrom_217 (by decide) ?_
          exact ih _ _ h _ _ hP hS _ (lv_sub hl [1, 2, 0] rfl)
        · have h := nb_f c_19 h
          cases h
set_option maxHeartbeats 4000000 in
set_option maxRecDepth 100000 in
theorem k_X0_copyFrom_1_18 {M' : nb_M} (had : nb_AD ad b0) (M N : nb_M) (h : f_X0_copyFrom_1_18 M = some (M')) : nb_C l D ad ca b0 yX0_copyFrom wsX0_copyFrom 2 [.ref (ad 1), .ref (ad 18)] M N none M' N := by
  refine nb_of (cc := cX0_copyFrom) (maxL := 3) (ret := none) (own := RX0) (by decide +kernel) rfl rfl (Nat.le_of_ble_eq_true rfl) ?_
  intro p e s m args below meth c ls X hP hS hl
  have hl : lv_has ls 3 [(0, .ref (ad 1)), (1, .ref (ad 18))] := hl
  obtain ⟨hx, hb, hml, hown, hts, hr, hlk, hK, hZ⟩ := id X
  have w_1 := hts (.fieldLink RX0 50 "NineBreakages$House" "day" "I") (by decide +kernel)
  have in0 : ∀ w ∈ u_ws RX0 TX0 16, w ∈ wsX0_copyFrom := fun w q => List.mem_cons_of_mem _ (List.mem_append_left _ (List.mem_append_right _ q))
  have w_3 := hts (.fieldLink RX0 9 "NineBreakages$House" "z" "I") (by decide +kernel)
  have w_4 := hts (.fieldLink RX0 53 "NineBreakages$House" "people" "I") (by decide +kernel)
  have w_5 := hts (.fieldLink RX0 56 "NineBreakages$House" "pieces" "I") (by decide +kernel)
  have w_6 := hts (.fieldLink RX0 59 "NineBreakages$House" "taped" "I") (by decide +kernel)
  have w_7 := hts (.fieldLink RX0 62 "NineBreakages$House" "waits" "I") (by decide +kernel)
  have w_8 := hts (.fieldLink RX0 15 "NineBreakages$House" "care" "[I") (by decide +kernel)
  have w_9 := hts (.methodLink RX0 65 arraycopyName) (by decide +kernel)
  have w_10 := hts (.native arraycopyName) (by decide +kernel)
  have w_11 := hts (.static arraycopyName) (by decide +kernel)
  have w_12 := hts (.initialized "java/lang/System") (by decide +kernel)
  have w_13 := hts (.fieldLink RX0 19 "NineBreakages$House" "due" "[I") (by decide +kernel)
  have w_14 := hts (.fieldLink RX0 22 "NineBreakages$House" "had" "[I") (by decide +kernel)
  have w_15 := hts (.fieldLink RX0 25 "NineBreakages$House" "kind" "[I") (by decide +kernel)
  have w_16 := hts (.fieldLink RX0 28 "NineBreakages$House" "number" "[I") (by decide +kernel)
  have w_17 := hts (.fieldLink RX0 31 "NineBreakages$House" "owner" "[I") (by decide +kernel)
  have w_18 := hts (.fieldLink RX0 34 "NineBreakages$House" "state" "[I") (by decide +kernel)
  have w_19 := hts (.fieldLink RX0 37 "NineBreakages$House" "tape" "[I") (by decide +kernel)
  have w_20 := hts (.fieldLink RX0 40 "NineBreakages$House" "waiting" "[I") (by decide +kernel)
  unfold f_X0_copyFrom_1_18 at h
  refine lv_aload_n hx hb dX0_copyFrom_0 rfl (lv_at hl 0 rfl) ?_
  refine lv_aload_n hx hb dX0_copyFrom_1 rfl (lv_at hl 1 rfl) ?_
  refine va_get (v := .int (M.1 18 0)) (C := RX0) (T := TX0) (N := 16) hx hb hts in0 hown hK.1 hP 18 nb_a18 rfl 0 (by decide) w_1 (fun _ h9 => h9) rfl dX0_copyFrom_2 ?_
  refine nb_put (C := RX0) (T := TX0) (NN := 16) hx hb had hts in0 tyX0 tyX0_ok nmX0 hown hK hP hS nb_a1 rfl 0 (by decide) w_1 rfl (ty := .int) (by decide +kernel) rfl rfl (Nat.le_of_ble_eq_true rfl) (nb_p1_0 _) dX0_copyFrom_5 (fun H locs hP hS => ?_)
  obtain ⟨M_1, e_1, h⟩ := nb_nE h
  rw [e_1] at hP
  refine lv_aload_n hx hb dX0_copyFrom_8 rfl (lv_at hl 0 rfl) ?_
  refine lv_aload_n hx hb dX0_copyFrom_9 rfl (lv_at hl 1 rfl) ?_
  refine va_get (v := .int (M_1.1 18 1)) (C := RX0) (T := TX0) (N := 16) hx hb hts in0 hown hK.1 hP 18 nb_a18 rfl 1 (by decide) w_3 (fun _ h9 => h9) rfl dX0_copyFrom_10 ?_
  refine nb_put (C := RX0) (T := TX0) (NN := 16) hx hb had hts in0 tyX0 tyX0_ok nmX0 hown hK hP hS nb_a1 rfl 1 (by decide) w_3 rfl (ty := .int) (by decide +kernel) rfl rfl (Nat.le_of_ble_eq_true rfl) (nb_p1_1 _) dX0_copyFrom_13 (fun H locs hP hS => ?_)
  obtain ⟨M_2, e_2, h⟩ := nb_nE h
  rw [e_2] at hP
  refine lv_aload_n hx hb dX0_copyFrom_16 rfl (lv_at hl 0 rfl) ?_
  refine lv_aload_n hx hb dX0_copyFrom_17 rfl (lv_at hl 1 rfl) ?_
  refine va_get (v := .int (M_2.1 18 2)) (C := RX0) (T := TX0) (N := 16) hx hb hts in0 hown hK.1 hP 18 nb_a18 rfl 2 (by decide) w_4 (fun _ h9 => h9) rfl dX0_copyFrom_18 ?_
  refine nb_put (C := RX0) (T := TX0) (NN := 16) hx hb had hts in0 tyX0 tyX0_ok nmX0 hown hK hP hS nb_a1 rfl 2 (by decide) w_4 rfl (ty := .int) (by decide +kernel) rfl rfl (Nat.le_of_ble_eq_true rfl) (nb_p1_2 _) dX0_copyFrom_21 (fun H locs hP hS => ?_)
  obtain ⟨M_3, e_3, h⟩ := nb_nE h
  rw [e_3] at hP
  refine lv_aload_n hx hb dX0_copyFrom_24 rfl (lv_at hl 0 rfl) ?_
  refine lv_aload_n hx hb dX0_copyFrom_25 rfl (lv_at hl 1 rfl) ?_
  refine va_get (v := .int (M_3.1 18 6)) (C := RX0) (T := TX0) (N := 16) hx hb hts in0 hown hK.1 hP 18 nb_a18 rfl 6 (by decide) w_5 (fun _ h9 => h9) rfl dX0_copyFrom_26 ?_
  refine nb_put (C := RX0) (T := TX0) (NN := 16) hx hb had hts in0 tyX0 tyX0_ok nmX0 hown hK hP hS nb_a1 rfl 6 (by decide) w_5 rfl (ty := .int) (by decide +kernel) rfl rfl (Nat.le_of_ble_eq_true rfl) (nb_p1_6 _) dX0_copyFrom_29 (fun H locs hP hS => ?_)
  obtain ⟨M_4, e_4, h⟩ := nb_nE h
  rw [e_4] at hP
  refine lv_aload_n hx hb dX0_copyFrom_32 rfl (lv_at hl 0 rfl) ?_
  refine lv_aload_n hx hb dX0_copyFrom_33 rfl (lv_at hl 1 rfl) ?_
  refine va_get (v := .int (M_4.1 18 13)) (C := RX0) (T := TX0) (N := 16) hx hb hts in0 hown hK.1 hP 18 nb_a18 rfl 13 (by decide) w_6 (fun _ h9 => h9) rfl dX0_copyFrom_34 ?_
  refine nb_put (C := RX0) (T := TX0) (NN := 16) hx hb had hts in0 tyX0 tyX0_ok nmX0 hown hK hP hS nb_a1 rfl 13 (by decide) w_6 rfl (ty := .int) (by decide +kernel) rfl rfl (Nat.le_of_ble_eq_true rfl) (nb_p1_13 _) dX0_copyFrom_37 (fun H locs hP hS => ?_)
  obtain ⟨M_5, e_5, h⟩ := nb_nE h
  rw [e_5] at hP
  refine lv_aload_n hx hb dX0_copyFrom_40 rfl (lv_at hl 0 rfl) ?_
  refine lv_aload_n hx hb dX0_copyFrom_41 rfl (lv_at hl 1 rfl) ?_
  refine va_get (v := .int (M_5.1 18 15)) (C := RX0) (T := TX0) (N := 16) hx hb hts in0 hown hK.1 hP 18 nb_a18 rfl 15 (by decide) w_7 (fun _ h9 => h9) rfl dX0_copyFrom_42 ?_
  refine nb_put (C := RX0) (T := TX0) (NN := 16) hx hb had hts in0 tyX0 tyX0_ok nmX0 hown hK hP hS nb_a1 rfl 15 (by decide) w_7 rfl (ty := .int) (by decide +kernel) rfl rfl (Nat.le_of_ble_eq_true rfl) (nb_p1_15 _) dX0_copyFrom_45 (fun H locs hP hS => ?_)
  obtain ⟨M_6, e_6, h⟩ := nb_nE h
  rw [e_6] at hP
  refine lv_aload_n hx hb dX0_copyFrom_48 rfl (lv_at hl 1 rfl) ?_
  refine va_get (v := .ref (ad 19)) (C := RX0) (T := TX0) (N := 16) hx hb hts in0 hown hK.1 hP 18 nb_a18 rfl 3 (by decide) w_8 (fun _ h9 => h9) rfl dX0_copyFrom_49 ?_
  refine lv_iconst (v := (0 : Int32)) hx hb dX0_copyFrom_52 (by decide) ?_
  refine lv_aload_n hx hb dX0_copyFrom_53 rfl (lv_at hl 0 rfl) ?_
  refine va_get (v := .ref (ad 2)) (C := RX0) (T := TX0) (N := 16) hx hb hts in0 hown hK.1 hP 1 nb_a1 rfl 3 (by decide) w_8 (fun _ h9 => h9) rfl dX0_copyFrom_54 ?_
  refine lv_iconst (v := (0 : Int32)) hx hb dX0_copyFrom_57 (by decide) ?_
  refine lv_iconst (v := (5 : Int32)) hx hb dX0_copyFrom_58 (by decide) ?_
  refine nb_copy hx hb hml hl.1 had hown w_9 w_10 w_11 w_12 hK hP hS nb_a19 nb_a2 (Nat.le_of_ble_eq_true rfl) (Nat.le_of_ble_eq_true rfl) (by decide) (nb_s2 _) dX0_copyFrom_59 (fun H locs hP hS => ?_)
  obtain ⟨M_7, e_7, h⟩ := nb_nE h
  rw [e_7] at hP
  refine lv_aload_n hx hb dX0_copyFrom_62 rfl (lv_at hl 1 rfl) ?_
  refine va_get (v := .ref (ad 20)) (C := RX0) (T := TX0) (N := 16) hx hb hts in0 hown hK.1 hP 18 nb_a18 rfl 4 (by decide) w_13 (fun _ h9 => h9) rfl dX0_copyFrom_63 ?_
  refine lv_iconst (v := (0 : Int32)) hx hb dX0_copyFrom_66 (by decide) ?_
  refine lv_aload_n hx hb dX0_copyFrom_67 rfl (lv_at hl 0 rfl) ?_
  refine va_get (v := .ref (ad 3)) (C := RX0) (T := TX0) (N := 16) hx hb hts in0 hown hK.1 hP 1 nb_a1 rfl 4 (by decide) w_13 (fun _ h9 => h9) rfl dX0_copyFrom_68 ?_
  refine lv_iconst (v := (0 : Int32)) hx hb dX0_copyFrom_71 (by decide) ?_
  refine lv_iconst (v := (5 : Int32)) hx hb dX0_copyFrom_72 (by decide) ?_
  refine nb_copy hx hb hml hl.1 had hown w_9 w_10 w_11 w_12 hK hP hS nb_a20 nb_a3 (Nat.le_of_ble_eq_true rfl) (Nat.le_of_ble_eq_true rfl) (by decide) (nb_s3 _) dX0_copyFrom_73 (fun H locs hP hS => ?_)
  obtain ⟨M_8, e_8, h⟩ := nb_nE h
  rw [e_8] at hP
  refine lv_aload_n hx hb dX0_copyFrom_76 rfl (lv_at hl 1 rfl) ?_
  refine va_get (v := .ref (ad 21)) (C := RX0) (T := TX0) (N := 16) hx hb hts in0 hown hK.1 hP 18 nb_a18 rfl 5 (by decide) w_14 (fun _ h9 => h9) rfl dX0_copyFrom_77 ?_
  refine lv_iconst (v := (0 : Int32)) hx hb dX0_copyFrom_80 (by decide) ?_
  refine lv_aload_n hx hb dX0_copyFrom_81 rfl (lv_at hl 0 rfl) ?_
  refine va_get (v := .ref (ad 4)) (C := RX0) (T := TX0) (N := 16) hx hb hts in0 hown hK.1 hP 1 nb_a1 rfl 5 (by decide) w_14 (fun _ h9 => h9) rfl dX0_copyFrom_82 ?_
  refine lv_iconst (v := (0 : Int32)) hx hb dX0_copyFrom_85 (by decide) ?_
  refine lv_iconst (v := (5 : Int32)) hx hb dX0_copyFrom_86 (by decide) ?_
  refine nb_copy hx hb hml hl.1 had hown w_9 w_10 w_11 w_12 hK hP hS nb_a21 nb_a4 (Nat.le_of_ble_eq_true rfl) (Nat.le_of_ble_eq_true rfl) (by decide) (nb_s4 _) dX0_copyFrom_87 (fun H locs hP hS => ?_)
  obtain ⟨M_9, e_9, h⟩ := nb_nE h
  rw [e_9] at hP
  refine lv_aload_n hx hb dX0_copyFrom_90 rfl (lv_at hl 1 rfl) ?_
  refine va_get (v := .ref (ad 22)) (C := RX0) (T := TX0) (N := 16) hx hb hts in0 hown hK.1 hP 18 nb_a18 rfl 7 (by decide) w_15 (fun _ h9 => h9) rfl dX0_copyFrom_91 ?_
  refine lv_iconst (v := (0 : Int32)) hx hb dX0_copyFrom_94 (by decide) ?_
  refine lv_aload_n hx hb dX0_copyFrom_95 rfl (lv_at hl 0 rfl) ?_
  refine va_get (v := .ref (ad 5)) (C := RX0) (T := TX0) (N := 16) hx hb hts in0 hown hK.1 hP 1 nb_a1 rfl 7 (by decide) w_15 (fun _ h9 => h9) rfl dX0_copyFrom_96 ?_
  refine lv_iconst (v := (0 : Int32)) hx hb dX0_copyFrom_99 (by decide) ?_
  refine lv_bipush (v := (9 : Int32)) hx hb dX0_copyFrom_100 (by decide) ?_
  refine nb_copy hx hb hml hl.1 had hown w_9 w_10 w_11 w_12 hK hP hS nb_a22 nb_a5 (Nat.le_of_ble_eq_true rfl) (Nat.le_of_ble_eq_true rfl) (by decide) (nb_s5 _) dX0_copyFrom_102 (fun H locs hP hS => ?_)
  obtain ⟨M_10, e_10, h⟩ := nb_nE h
  rw [e_10] at hP
  refine lv_aload_n hx hb dX0_copyFrom_105 rfl (lv_at hl 1 rfl) ?_
  refine va_get (v := .ref (ad 23)) (C := RX0) (T := TX0) (N := 16) hx hb hts in0 hown hK.1 hP 18 nb_a18 rfl 8 (by decide) w_16 (fun _ h9 => h9) rfl dX0_copyFrom_106 ?_
  refine lv_iconst (v := (0 : Int32)) hx hb dX0_copyFrom_109 (by decide) ?_
  refine lv_aload_n hx hb dX0_copyFrom_110 rfl (lv_at hl 0 rfl) ?_
  refine va_get (v := .ref (ad 6)) (C := RX0) (T := TX0) (N := 16) hx hb hts in0 hown hK.1 hP 1 nb_a1 rfl 8 (by decide) w_16 (fun _ h9 => h9) rfl dX0_copyFrom_111 ?_
  refine lv_iconst (v := (0 : Int32)) hx hb dX0_copyFrom_114 (by decide) ?_
  refine lv_bipush (v := (9 : Int32)) hx hb dX0_copyFrom_115 (by decide) ?_
  refine nb_copy hx hb hml hl.1 had hown w_9 w_10 w_11 w_12 hK hP hS nb_a23 nb_a6 (Nat.le_of_ble_eq_true rfl) (Nat.le_of_ble_eq_true rfl) (by decide) (nb_s6 _) dX0_copyFrom_117 (fun H locs hP hS => ?_)
  obtain ⟨M_11, e_11, h⟩ := nb_nE h
  rw [e_11] at hP
  refine lv_aload_n hx hb dX0_copyFrom_120 rfl (lv_at hl 1 rfl) ?_
  refine va_get (v := .ref (ad 24)) (C := RX0) (T := TX0) (N := 16) hx hb hts in0 hown hK.1 hP 18 nb_a18 rfl 9 (by decide) w_17 (fun _ h9 => h9) rfl dX0_copyFrom_121 ?_
  refine lv_iconst (v := (0 : Int32)) hx hb dX0_copyFrom_124 (by decide) ?_
  refine lv_aload_n hx hb dX0_copyFrom_125 rfl (lv_at hl 0 rfl) ?_
  refine va_get (v := .ref (ad 7)) (C := RX0) (T := TX0) (N := 16) hx hb hts in0 hown hK.1 hP 1 nb_a1 rfl 9 (by decide) w_17 (fun _ h9 => h9) rfl dX0_copyFrom_126 ?_
  refine lv_iconst (v := (0 : Int32)) hx hb dX0_copyFrom_129 (by decide) ?_
  refine lv_bipush (v := (9 : Int32)) hx hb dX0_copyFrom_130 (by decide) ?_
  refine nb_copy hx hb hml hl.1 had hown w_9 w_10 w_11 w_12 hK hP hS nb_a24 nb_a7 (Nat.le_of_ble_eq_true rfl) (Nat.le_of_ble_eq_true rfl) (by decide) (nb_s7 _) dX0_copyFrom_132 (fun H locs hP hS => ?_)
  obtain ⟨M_12, e_12, h⟩ := nb_nE h
  rw [e_12] at hP
  refine lv_aload_n hx hb dX0_copyFrom_135 rfl (lv_at hl 1 rfl) ?_
  refine va_get (v := .ref (ad 25)) (C := RX0) (T := TX0) (N := 16) hx hb hts in0 hown hK.1 hP 18 nb_a18 rfl 10 (by decide) w_18 (fun _ h9 => h9) rfl dX0_copyFrom_136 ?_
  refine lv_iconst (v := (0 : Int32)) hx hb dX0_copyFrom_139 (by decide) ?_
  refine lv_aload_n hx hb dX0_copyFrom_140 rfl (lv_at hl 0 rfl) ?_
  refine va_get (v := .ref (ad 8)) (C := RX0) (T := TX0) (N := 16) hx hb hts in0 hown hK.1 hP 1 nb_a1 rfl 10 (by decide) w_18 (fun _ h9 => h9) rfl dX0_copyFrom_141 ?_
  refine lv_iconst (v := (0 : Int32)) hx hb dX0_copyFrom_144 (by decide) ?_
  refine lv_bipush (v := (9 : Int32)) hx hb dX0_copyFrom_145 (by decide) ?_
  refine nb_copy hx hb hml hl.1 had hown w_9 w_10 w_11 w_12 hK hP hS nb_a25 nb_a8 (Nat.le_of_ble_eq_true rfl) (Nat.le_of_ble_eq_true rfl) (by decide) (nb_s8 _) dX0_copyFrom_147 (fun H locs hP hS => ?_)
  obtain ⟨M_13, e_13, h⟩ := nb_nE h
  rw [e_13] at hP
  refine lv_aload_n hx hb dX0_copyFrom_150 rfl (lv_at hl 1 rfl) ?_
  refine va_get (v := .ref (ad 27)) (C := RX0) (T := TX0) (N := 16) hx hb hts in0 hown hK.1 hP 18 nb_a18 rfl 12 (by decide) w_19 (fun _ h9 => h9) rfl dX0_copyFrom_151 ?_
  refine lv_iconst (v := (0 : Int32)) hx hb dX0_copyFrom_154 (by decide) ?_
  refine lv_aload_n hx hb dX0_copyFrom_155 rfl (lv_at hl 0 rfl) ?_
  refine va_get (v := .ref (ad 10)) (C := RX0) (T := TX0) (N := 16) hx hb hts in0 hown hK.1 hP 1 nb_a1 rfl 12 (by decide) w_19 (fun _ h9 => h9) rfl dX0_copyFrom_156 ?_
  refine lv_iconst (v := (0 : Int32)) hx hb dX0_copyFrom_159 (by decide) ?_
  refine lv_bipush (v := (60 : Int32)) hx hb dX0_copyFrom_160 (by decide) ?_
  refine nb_copy hx hb hml hl.1 had hown w_9 w_10 w_11 w_12 hK hP hS nb_a27 nb_a10 (Nat.le_of_ble_eq_true rfl) (Nat.le_of_ble_eq_true rfl) (by decide) (nb_s10 _) dX0_copyFrom_162 (fun H locs hP hS => ?_)
  obtain ⟨M_14, e_14, h⟩ := nb_nE h
  rw [e_14] at hP
  refine lv_aload_n hx hb dX0_copyFrom_165 rfl (lv_at hl 1 rfl) ?_
  refine va_get (v := .ref (ad 28)) (C := RX0) (T := TX0) (N := 16) hx hb hts in0 hown hK.1 hP 18 nb_a18 rfl 14 (by decide) w_20 (fun _ h9 => h9) rfl dX0_copyFrom_166 ?_
  refine lv_iconst (v := (0 : Int32)) hx hb dX0_copyFrom_169 (by decide) ?_
  refine lv_aload_n hx hb dX0_copyFrom_170 rfl (lv_at hl 0 rfl) ?_
  refine va_get (v := .ref (ad 11)) (C := RX0) (T := TX0) (N := 16) hx hb hts in0 hown hK.1 hP 1 nb_a1 rfl 14 (by decide) w_20 (fun _ h9 => h9) rfl dX0_copyFrom_171 ?_
  refine lv_iconst (v := (0 : Int32)) hx hb dX0_copyFrom_174 (by decide) ?_
  refine lv_bipush (v := (24 : Int32)) hx hb dX0_copyFrom_175 (by decide) ?_
  refine nb_copy hx hb hml hl.1 had hown w_9 w_10 w_11 w_12 hK hP hS nb_a28 nb_a11 (Nat.le_of_ble_eq_true rfl) (Nat.le_of_ble_eq_true rfl) (by decide) (nb_s11 _) dX0_copyFrom_177 (fun H locs hP hS => ?_)
  obtain ⟨M_15, e_15, h⟩ := nb_nE h
  rw [e_15] at hP
  refine lv_iconst (v := (0 : Int32)) hx hb dX0_copyFrom_180 (by decide) ?_
  refine lv_istore_n (lv' := [(2, .int (0 : Int32)), (0, .ref (ad 1)), (1, .ref (ad 18))]) hx hb dX0_copyFrom_181 rfl hl (by decide) rfl (fun ls hl => ?_)
  exact w_X0_copyFrom_1_18_182 had X nb_F _ _ h _ _ hP hS _ (lv_sub hl [1, 2, 0] rfl)
set_option maxHeartbeats 4000000 in
set_option maxRecDepth 100000 in
theorem k_X6_restore {r : Int32} {M' : nb_M} (had : nb_AD ad b0) (M N : nb_M) (h : f_X6_restore M = some (r, M')) : nb_C l D ad ca b0 yX6_restore wsX6_restore 3 [.ref (ad 0)] M N (some (.int r)) M' N := by
  refine nb_of (cc := cX6_restore) (maxL := 1) (ret := (some .int)) (own := RX6) (by decide +kernel) rfl rfl (Nat.le_of_ble_eq_true rfl) ?_
  intro p e s m args below meth c ls X hP hS hl
  have hl : lv_has ls 1 [(0, .ref (ad 0))] := hl
  obtain ⟨hx, hb, hml, hown, hts, hr, hlk, hK, hZ⟩ := id X
  have w_1 := hts (.fieldLink RX6 283 "NineBreakages" "images" "I") (by decide +kernel)
  have in6 : ∀ w ∈ u_ws RX6 TX6 8, w ∈ wsX6_restore := fun w q => List.mem_cons_of_mem _ (List.mem_append_left _ (List.mem_append_left _ (List.mem_append_right _ q)))
  have w_3 := hts (.fieldLink RX6 12 "NineBreakages" "now" "LNineBreakages$House;") (by decide +kernel)
  have w_4 := hts (.fieldLink RX6 16 "NineBreakages" "kept" "LNineBreakages$House;") (by decide +kernel)
  have w_5 := hts (.fieldLink RX6 111 "NineBreakages$House" "day" "I") (by decide +kernel)
  have in0 : ∀ w ∈ u_ws RX0 TX0 16, w ∈ wsX6_restore := fun w q => List.mem_cons_of_mem _ (List.mem_append_left _ (List.mem_append_right _ q))
  unfold f_X6_restore at h
  refine lv_aload_n hx hb dX6_restore_0 rfl (lv_at hl 0 rfl) ?_
  refine va_get (v := .int (M.1 0 7)) (C := RX6) (T := TX6) (N := 8) hx hb hts in6 hown hK.1 hP 0 nb_a0 rfl 7 (by decide) w_1 (fun _ h9 => h9) rfl dX6_restore_1 ?_
  refine lv_if_ne (tgt := 13) hx hb dX6_restore_4 (by decide) (fun c_1 => ?_) (fun c_1 => ?_)
  · have h := nb_f c_1 h
    refine lv_aload_n hx hb dX6_restore_13 rfl (lv_at hl 0 rfl) ?_
    refine va_get (v := .ref (ad 1)) (C := RX6) (T := TX6) (N := 8) hx hb hts in6 hown hK.1 hP 0 nb_a0 rfl 0 (by decide) w_3 (fun _ h9 => h9) rfl dX6_restore_14 ?_
    refine lv_aload_n hx hb dX6_restore_17 rfl (lv_at hl 0 rfl) ?_
    refine va_get (v := .ref (ad 18)) (C := RX6) (T := TX6) (N := 8) hx hb hts in6 hown hK.1 hP 0 nb_a0 rfl 1 (by decide) w_4 (fun _ h9 => h9) rfl dX6_restore_18 ?_
    obtain ⟨M_2, e_2, h⟩ := nb_oE h
    refine nb_callV (n := 1) (As := [.ref (ad 18)]) (rest := []) hx hb hml hown hts hK hZ hP hS (k_X0_copyFrom_1_18 had M N e_2) gX6_restore_X0_copyFrom rfl (by decide +kernel) (nb_rm (Nat.le_of_ble_eq_true rfl) (Nat.le_of_ble_eq_true rfl)) nb_a1 rfl rfl rfl hl.1 rfl (Nat.le_of_ble_eq_true rfl) dX6_restore_21 (fun H locs hP hS => ?_)
    refine W.eq (g2 := F0 m 24 ls []) rfl ?_
    refine lv_aload_n hx hb dX6_restore_24 rfl (lv_at hl 0 rfl) ?_
    refine va_get (v := .ref (ad 1)) (C := RX6) (T := TX6) (N := 8) hx hb hts in6 hown hK.1 hP 0 nb_a0 rfl 0 (by decide) w_3 (fun _ h9 => h9) rfl dX6_restore_25 ?_
    refine va_get (v := .int (M_2.1 1 0)) (C := RX0) (T := TX0) (N := 16) hx hb hts in0 hown hK.1 hP 1 nb_a1 rfl 0 (by decide) w_5 (fun _ h9 => h9) rfl dX6_restore_28 ?_
    obtain ⟨rfl, rfl⟩ := nb_e2 h
    exact nb_iret hx hb hr hlk hP hS dX6_restore_31
  · have h := nb_t c_1 h
    refine lv_aload_n hx hb dX6_restore_7 rfl (lv_at hl 0 rfl) ?_
    refine lv_iconst (v := (2 : Int32)) hx hb dX6_restore_8 (by decide) ?_
    obtain ⟨r_3, M_3, e_3, h⟩ := nb_pE h
    refine nb_callV (n := 1) (As := [.int (2 : Int32)]) (rest := []) hx hb hml hown hts hK hZ hP hS (k_X6_fail had M N (2 : Int32) e_3) gX6_restore_X6_fail rfl (by decide +kernel) (nb_rm (Nat.le_of_ble_eq_true rfl) (Nat.le_of_ble_eq_true rfl)) nb_a0 rfl rfl rfl hl.1 rfl (Nat.le_of_ble_eq_true rfl) dX6_restore_9 (fun H locs hP hS => ?_)
    refine W.eq (g2 := F0 m 12 ls [.int r_3]) rfl ?_
    obtain ⟨rfl, rfl⟩ := nb_e2 h
    exact nb_iret hx hb hr hlk hP hS dX6_restore_12
set_option maxHeartbeats 4000000 in
set_option maxRecDepth 100000 in
theorem k_X6_tell {r : Int32} {M' : nb_M} (had : nb_AD ad b0) (M N : nb_M) (p0 : Int32) (h : f_X6_tell M p0 = some (r, M')) : nb_C l D ad ca b0 yX6_tell wsX6_tell 1 [.ref (ad 0), .int p0] M N (some (.int r)) M' N := by
  refine nb_of (cc := cX6_tell) (maxL := 2) (ret := (some .int)) (own := RX6) (by decide +kernel) rfl rfl (Nat.le_of_ble_eq_true rfl) ?_
  intro p e s m args below meth c ls X hP hS hl
  have hl : lv_has ls 2 [(0, .ref (ad 0)), (1, .int p0)] := hl
  obtain ⟨hx, hb, hml, hown, hts, hr, hlk, hK, hZ⟩ := id X
  have w_1 := hts (.fieldLink RX6 12 "NineBreakages" "now" "LNineBreakages$House;") (by decide +kernel)
  have in6 : ∀ w ∈ u_ws RX6 TX6 8, w ∈ wsX6_tell := fun w q => List.mem_cons_of_mem _ (List.mem_append_left _ (List.mem_append_right _ q))
  have w_3 := hts (.fieldLink RX6 286 "NineBreakages$House" "waits" "I") (by decide +kernel)
  have in0 : ∀ w ∈ u_ws RX0 TX0 16, w ∈ wsX6_tell := fun w q => List.mem_cons_of_mem _ (List.mem_append_right _ q)
  have w_5 := hts (.fieldLink RX6 289 "NineBreakages$House" "waiting" "[I") (by decide +kernel)
  unfold f_X6_tell at h
  refine lv_aload_n hx hb dX6_tell_0 rfl (lv_at hl 0 rfl) ?_
  refine va_get (v := .ref (ad 1)) (C := RX6) (T := TX6) (N := 8) hx hb hts in6 hown hK.1 hP 0 nb_a0 rfl 0 (by decide) w_1 (fun _ h9 => h9) rfl dX6_tell_1 ?_
  refine va_get (v := .int (M.1 1 15)) (C := RX0) (T := TX0) (N := 16) hx hb hts in0 hown hK.1 hP 1 nb_a1 rfl 15 (by decide) w_3 (fun _ h9 => h9) rfl dX6_tell_4 ?_
  refine lv_bipush (v := (24 : Int32)) hx hb dX6_tell_7 (by decide) ?_
  refine lv_icmp_lt (tgt := 18) hx hb dX6_tell_9 (by decide) (fun c_1 => ?_) (fun c_1 => ?_)
  · have h := nb_t c_1 h
    refine lv_aload_n hx hb dX6_tell_18 rfl (lv_at hl 0 rfl) ?_
    refine va_get (v := .ref (ad 1)) (C := RX6) (T := TX6) (N := 8) hx hb hts in6 hown hK.1 hP 0 nb_a0 rfl 0 (by decide) w_1 (fun _ h9 => h9) rfl dX6_tell_19 ?_
    refine va_get (v := .ref (ad 11)) (C := RX0) (T := TX0) (N := 16) hx hb hts in0 hown hK.1 hP 1 nb_a1 rfl 14 (by decide) w_5 (fun _ h9 => h9) rfl dX6_tell_22 ?_
    refine lv_aload_n hx hb dX6_tell_25 rfl (lv_at hl 0 rfl) ?_
    refine va_get (v := .ref (ad 1)) (C := RX6) (T := TX6) (N := 8) hx hb hts in6 hown hK.1 hP 0 nb_a0 rfl 0 (by decide) w_1 (fun _ h9 => h9) rfl dX6_tell_26 ?_
    refine va_get (v := .int (M.1 1 15)) (C := RX0) (T := TX0) (N := 16) hx hb hts in0 hown hK.1 hP 1 nb_a1 rfl 15 (by decide) w_3 (fun _ h9 => h9) rfl dX6_tell_29 ?_
    refine lv_iload_n hx hb dX6_tell_32 rfl (lv_at hl 1 rfl) ?_
    obtain ⟨c_2, h⟩ := nb_c h
    refine nb_iast hx hb had hK hP hS nb_a11 c_2 (nb_t11 _ _) dX6_tell_33 (fun H locs hP hS => ?_)
    obtain ⟨M_3, e_3, h⟩ := nb_nE h
    rw [e_3] at hP
    refine lv_aload_n hx hb dX6_tell_34 rfl (lv_at hl 0 rfl) ?_
    refine va_get (v := .ref (ad 1)) (C := RX6) (T := TX6) (N := 8) hx hb hts in6 hown hK.1 hP 0 nb_a0 rfl 0 (by decide) w_1 (fun _ h9 => h9) rfl dX6_tell_35 ?_
    refine lv_dup hx hb dX6_tell_38 rfl ?_
    refine va_get (v := .int (M_3.1 1 15)) (C := RX0) (T := TX0) (N := 16) hx hb hts in0 hown hK.1 hP 1 nb_a1 rfl 15 (by decide) w_3 (fun _ h9 => h9) rfl dX6_tell_39 ?_
    refine lv_iconst (v := (1 : Int32)) hx hb dX6_tell_42 (by decide) ?_
    refine lv_iadd hx hb dX6_tell_43 ?_
    refine nb_put (C := RX0) (T := TX0) (NN := 16) hx hb had hts in0 tyX0 tyX0_ok nmX0 hown hK hP hS nb_a1 rfl 15 (by decide) w_3 rfl (ty := .int) (by decide +kernel) rfl rfl (Nat.le_of_ble_eq_true rfl) (nb_p1_15 _) dX6_tell_44 (fun H locs hP hS => ?_)
    obtain ⟨M_4, e_4, h⟩ := nb_nE h
    rw [e_4] at hP
    refine lv_aload_n hx hb dX6_tell_47 rfl (lv_at hl 0 rfl) ?_
    refine va_get (v := .ref (ad 1)) (C := RX6) (T := TX6) (N := 8) hx hb hts in6 hown hK.1 hP 0 nb_a0 rfl 0 (by decide) w_1 (fun _ h9 => h9) rfl dX6_tell_48 ?_
    refine va_get (v := .int (M_4.1 1 15)) (C := RX0) (T := TX0) (N := 16) hx hb hts in0 hown hK.1 hP 1 nb_a1 rfl 15 (by decide) w_3 (fun _ h9 => h9) rfl dX6_tell_51 ?_
    obtain ⟨rfl, rfl⟩ := nb_e2 h
    exact nb_iret hx hb hr hlk hP hS dX6_tell_54
  · have h := nb_f c_1 h
    refine lv_aload_n hx hb dX6_tell_12 rfl (lv_at hl 0 rfl) ?_
    refine lv_iconst (v := (4 : Int32)) hx hb dX6_tell_13 (by decide) ?_
    obtain ⟨r_5, M_5, e_5, h⟩ := nb_pE h
    refine nb_callV (n := 1) (As := [.int (4 : Int32)]) (rest := []) hx hb hml hown hts hK hZ hP hS (k_X6_fail had M N (4 : Int32) e_5) gX6_tell_X6_fail rfl (by decide +kernel) (nb_rm (Nat.le_of_ble_eq_true rfl) (Nat.le_of_ble_eq_true rfl)) nb_a0 rfl rfl rfl hl.1 rfl (Nat.le_of_ble_eq_true rfl) dX6_tell_14 (fun H locs hP hS => ?_)
    refine W.eq (g2 := F0 m 17 ls [.int r_5]) rfl ?_
    obtain ⟨rfl, rfl⟩ := nb_e2 h
    exact nb_iret hx hb hr hlk hP hS dX6_tell_17
set_option maxHeartbeats 4000000 in
set_option maxRecDepth 100000 in
theorem w_X0_firstWrongHad_2 {N : nb_M} {r : Int32} (had : nb_AD ad b0) (X : nb_X p s m args meth c cX0_firstWrongHad 2 RX0 (some .int) wsX0_firstWrongHad D ca b0) : ∀ (n : Nat) (M : nb_M) (x1 : Int32), f_X0_firstWrongHad_2 n M x1 = some r → ∀ (H : Heap) (locs : List Loc), va_P D vwCl (nb_w ad ca M N) H → va_S (fun q => b0 ≤ q) s.heap H locs → ∀ ls : Array Slot, lv_has ls 2 [(0, .ref (ad 1)), (1, .int x1)] → W p l e (nb_R 0) s m args below meth c H locs 0 0 (nb_Q below args s D ad ca b0 (some (.int r)) M N) (F0 m 2 ls []) := by
  obtain ⟨hx, hb, hml, hown, hts, hr, hlk, hK, hZ⟩ := id X
  have w_1 := hts (.fieldLink RX0 62 "NineBreakages$House" "waits" "I") (by decide +kernel)
  have in0 : ∀ w ∈ u_ws RX0 TX0 16, w ∈ wsX0_firstWrongHad := fun w q => List.mem_cons_of_mem _ (List.mem_append_right _ q)
  have w_3 := hts (.fieldLink RX0 53 "NineBreakages$House" "people" "I") (by decide +kernel)
  have w_4 := hts (.fieldLink RX0 40 "NineBreakages$House" "waiting" "[I") (by decide +kernel)
  have w_5 := hts (.fieldLink RX0 22 "NineBreakages$House" "had" "[I") (by decide +kernel)
  intro n
  induction n with
  | zero =>
    intro M x1 h
    rw [f_X0_firstWrongHad_2] at h
    cases h
  | succ n ih =>
    intro M x1 h H locs hP hS ls hl
    rw [f_X0_firstWrongHad_2] at h
    refine lv_iload_n hx hb dX0_firstWrongHad_2 rfl (lv_at hl 1 rfl) ?_
    refine lv_aload_n hx hb dX0_firstWrongHad_3 rfl (lv_at hl 0 rfl) ?_
    refine va_get (v := .int (M.1 1 15)) (C := RX0) (T := TX0) (N := 16) hx hb hts in0 hown hK.1 hP 1 nb_a1 rfl 15 (by decide) w_1 (fun _ h9 => h9) rfl dX0_firstWrongHad_4 ?_
    refine lv_icmp_ge (tgt := 41) hx hb dX0_firstWrongHad_7 (by decide) (fun c_1 => ?_) (fun c_1 => ?_)
    · have h := nb_t c_1 h
      refine lv_iconst (v := (-1 : Int32)) hx hb dX0_firstWrongHad_41 (by decide) ?_
      obtain rfl := nb_e1 h
      exact nb_iret hx hb hr hlk hP hS dX0_firstWrongHad_42
    · have h := nb_f c_1 h
      refine lv_iload_n hx hb dX0_firstWrongHad_10 rfl (lv_at hl 1 rfl) ?_
      refine lv_aload_n hx hb dX0_firstWrongHad_11 rfl (lv_at hl 0 rfl) ?_
      refine va_get (v := .int (M.1 1 2)) (C := RX0) (T := TX0) (N := 16) hx hb hts in0 hown hK.1 hP 1 nb_a1 rfl 2 (by decide) w_3 (fun _ h9 => h9) rfl dX0_firstWrongHad_12 ?_
      refine lv_icmp_ge (tgt := 33) hx hb dX0_firstWrongHad_15 (by decide) (fun c_2 => ?_) (fun c_2 => ?_)
      · have h := nb_t c_2 h
        refine lv_iload_n hx hb dX0_firstWrongHad_33 rfl (lv_at hl 1 rfl) ?_
        obtain rfl := nb_e1 h
        exact nb_iret hx hb hr hlk hP hS dX0_firstWrongHad_34
      · have h := nb_f c_2 h
        refine lv_aload_n hx hb dX0_firstWrongHad_18 rfl (lv_at hl 0 rfl) ?_
        refine va_get (v := .ref (ad 11)) (C := RX0) (T := TX0) (N := 16) hx hb hts in0 hown hK.1 hP 1 nb_a1 rfl 14 (by decide) w_4 (fun _ h9 => h9) rfl dX0_firstWrongHad_19 ?_
        refine lv_iload_n hx hb dX0_firstWrongHad_22 rfl (lv_at hl 1 rfl) ?_
        obtain ⟨c_3, h⟩ := nb_c h
        refine va_iald hx hb hK.1 hP 11 0 nb_a11 rfl c_3 dX0_firstWrongHad_23 ?_
        refine lv_aload_n hx hb dX0_firstWrongHad_24 rfl (lv_at hl 0 rfl) ?_
        refine va_get (v := .ref (ad 4)) (C := RX0) (T := TX0) (N := 16) hx hb hts in0 hown hK.1 hP 1 nb_a1 rfl 5 (by decide) w_5 (fun _ h9 => h9) rfl dX0_firstWrongHad_25 ?_
        refine lv_iload_n hx hb dX0_firstWrongHad_28 rfl (lv_at hl 1 rfl) ?_
        obtain ⟨c_4, h⟩ := nb_c h
        refine va_iald hx hb hK.1 hP 4 0 nb_a4 rfl c_4 dX0_firstWrongHad_29 ?_
        refine lv_icmp_eq (tgt := 35) hx hb dX0_firstWrongHad_30 (by decide) (fun c_5 => ?_) (fun c_5 => ?_)
        · have h := nb_t c_5 h
          refine lv_iinc (v := x1 + 1) (lv' := [(1, .int (x1 + 1)), (0, .ref (ad 1))]) hx hb dX0_firstWrongHad_35 hl (k := 1) rfl (congrArg (HAdd.hAdd x1) (by decide)) (by decide) rfl (fun ls hl => ?_)
          refine lv_goto (tgt := 2) hx hb dX0_firstWrongHad_38 (by decide) ?_
          exact ih _ _ h _ _ hP hS _ (lv_sub hl [1, 0] rfl)
        · have h := nb_f c_5 h
          refine lv_iload_n hx hb dX0_firstWrongHad_33 rfl (lv_at hl 1 rfl) ?_
          obtain rfl := nb_e1 h
          exact nb_iret hx hb hr hlk hP hS dX0_firstWrongHad_34
set_option maxHeartbeats 4000000 in
set_option maxRecDepth 100000 in
theorem k_X0_firstWrongHad {r : Int32} (had : nb_AD ad b0) (M N : nb_M) (h : f_X0_firstWrongHad M = some r) : nb_C l D ad ca b0 yX0_firstWrongHad wsX0_firstWrongHad 0 [.ref (ad 1)] M N (some (.int r)) M N := by
  refine nb_of (cc := cX0_firstWrongHad) (maxL := 2) (ret := (some .int)) (own := RX0) (by decide +kernel) rfl rfl (Nat.le_of_ble_eq_true rfl) ?_
  intro p e s m args below meth c ls X hP hS hl
  have hl : lv_has ls 2 [(0, .ref (ad 1))] := hl
  obtain ⟨hx, hb, hml, hown, hts, hr, hlk, hK, hZ⟩ := id X
  unfold f_X0_firstWrongHad at h
  refine lv_iconst (v := (0 : Int32)) hx hb dX0_firstWrongHad_0 (by decide) ?_
  refine lv_istore_n (lv' := [(1, .int (0 : Int32)), (0, .ref (ad 1))]) hx hb dX0_firstWrongHad_1 rfl hl (by decide) rfl (fun ls hl => ?_)
  exact w_X0_firstWrongHad_2 had X nb_F _ _ h _ _ hP hS _ (lv_sub hl [1, 0] rfl)
set_option maxHeartbeats 4000000 in
set_option maxRecDepth 100000 in
theorem k_X6_check {r : Int32} {M' : nb_M} (had : nb_AD ad b0) (M N : nb_M) (h : f_X6_check M = some (r, M')) : nb_C l D ad ca b0 yX6_check wsX6_check 1 [.ref (ad 0)] M N (some (.int r)) M' N := by
  refine nb_of (cc := cX6_check) (maxL := 2) (ret := (some .int)) (own := RX6) (by decide +kernel) rfl rfl (Nat.le_of_ble_eq_true rfl) ?_
  intro p e s m args below meth c ls X hP hS hl
  have hl : lv_has ls 2 [(0, .ref (ad 0))] := hl
  obtain ⟨hx, hb, hml, hown, hts, hr, hlk, hK, hZ⟩ := id X
  have w_1 := hts (.fieldLink RX6 12 "NineBreakages" "now" "LNineBreakages$House;") (by decide +kernel)
  have in6 : ∀ w ∈ u_ws RX6 TX6 8, w ∈ wsX6_check := fun w q => List.mem_cons_of_mem _ (List.mem_append_left _ (List.mem_append_right _ q))
  have w_3 := hts (.fieldLink RX6 286 "NineBreakages$House" "waits" "I") (by decide +kernel)
  have in0 : ∀ w ∈ u_ws RX0 TX0 16, w ∈ wsX6_check := fun w q => List.mem_cons_of_mem _ (List.mem_append_right _ q)
  unfold f_X6_check at h
  refine lv_aload_n hx hb dX6_check_0 rfl (lv_at hl 0 rfl) ?_
  refine va_get (v := .ref (ad 1)) (C := RX6) (T := TX6) (N := 8) hx hb hts in6 hown hK.1 hP 0 nb_a0 rfl 0 (by decide) w_1 (fun _ h9 => h9) rfl dX6_check_1 ?_
  obtain ⟨r_1, e_1, h⟩ := nb_oE h
  refine nb_callV (n := 0) (As := []) (rest := []) hx hb hml hown hts hK hZ hP hS (k_X0_firstWrongHad had M N e_1) gX6_check_X0_firstWrongHad rfl (by decide +kernel) (nb_rm (Nat.le_of_ble_eq_true rfl) (Nat.le_of_ble_eq_true rfl)) nb_a1 rfl rfl rfl hl.1 rfl (Nat.le_of_ble_eq_true rfl) dX6_check_4 (fun H locs hP hS => ?_)
  refine W.eq (g2 := F0 m 7 ls [.int r_1]) rfl ?_
  refine lv_istore_n (lv' := [(1, .int r_1), (0, .ref (ad 0))]) hx hb dX6_check_7 rfl hl (by decide) rfl (fun ls hl => ?_)
  refine lv_aload_n hx hb dX6_check_8 rfl (lv_at hl 1 rfl) ?_
  refine va_get (v := .ref (ad 1)) (C := RX6) (T := TX6) (N := 8) hx hb hts in6 hown hK.1 hP 0 nb_a0 rfl 0 (by decide) w_1 (fun _ h9 => h9) rfl dX6_check_9 ?_
  refine lv_iconst (v := (0 : Int32)) hx hb dX6_check_12 (by decide) ?_
  refine nb_put (C := RX0) (T := TX0) (NN := 16) hx hb had hts in0 tyX0 tyX0_ok nmX0 hown hK hP hS nb_a1 rfl 15 (by decide) w_3 rfl (ty := .int) (by decide +kernel) rfl rfl (Nat.le_of_ble_eq_true rfl) (nb_p1_15 _) dX6_check_13 (fun H locs hP hS => ?_)
  obtain ⟨M_2, e_2, h⟩ := nb_nE h
  rw [e_2] at hP
  refine lv_iload_n hx hb dX6_check_16 rfl (lv_at hl 0 rfl) ?_
  refine lv_iconst (v := (1 : Int32)) hx hb dX6_check_17 (by decide) ?_
  refine lv_iadd hx hb dX6_check_18 ?_
  obtain ⟨rfl, rfl⟩ := nb_e2 h
  exact nb_iret hx hb hr hlk hP hS dX6_check_19
set_option maxHeartbeats 4000000 in
set_option maxRecDepth 100000 in
theorem k_X6_count {r : Int32} {M' : nb_M} (had : nb_AD ad b0) (M N : nb_M) (p0 : Int32) (h : f_X6_count M p0 = some (r, M')) : nb_C l D ad ca b0 yX6_count wsX6_count 2 [.ref (ad 0), .int p0] M N (some (.int r)) M' N := by
  refine nb_of (cc := cX6_count) (maxL := 2) (ret := (some .int)) (own := RX6) (by decide +kernel) rfl rfl (Nat.le_of_ble_eq_true rfl) ?_
  intro p e s m args below meth c ls X hP hS hl
  have hl : lv_has ls 2 [(0, .ref (ad 0)), (1, .int p0)] := hl
  obtain ⟨hx, hb, hml, hown, hts, hr, hlk, hK, hZ⟩ := id X
  have w_1 := hts (.fieldLink RX6 12 "NineBreakages" "now" "LNineBreakages$House;") (by decide +kernel)
  have in6 : ∀ w ∈ u_ws RX6 TX6 8, w ∈ wsX6_count := fun w q => List.mem_cons_of_mem _ (List.mem_append_left _ (List.mem_append_left _ (List.mem_append_right _ q)))
  have w_3 := hts (.fieldLink RX6 90 "NineBreakages$House" "pieces" "I") (by decide +kernel)
  have in0 : ∀ w ∈ u_ws RX0 TX0 16, w ∈ wsX6_count := fun w q => List.mem_cons_of_mem _ (List.mem_append_left _ (List.mem_append_right _ q))
  have w_5 := hts (.fieldLink RX6 59 "NineBreakages$House" "people" "I") (by decide +kernel)
  have w_6 := hts (.fieldLink RX6 111 "NineBreakages$House" "day" "I") (by decide +kernel)
  have w_7 := hts (.fieldLink RX6 130 "NineBreakages$House" "taped" "I") (by decide +kernel)
  have w_8 := hts (.fieldLink RX6 286 "NineBreakages$House" "waits" "I") (by decide +kernel)
  have w_9 := hts (.fieldLink RX6 36 "NineBreakages" "voices" "LNineBreakages$Voices;") (by decide +kernel)
  have w_10 := hts (.fieldLink RX6 239 "NineBreakages$Voices" "traced" "I") (by decide +kernel)
  have in5 : ∀ w ∈ u_ws RX5 TX5 6, w ∈ wsX6_count := fun w q => List.mem_cons_of_mem _ (List.mem_append_right _ q)
  have w_12 := hts (.fieldLink RX6 178 "NineBreakages$House" "z" "I") (by decide +kernel)
  unfold f_X6_count at h
  refine lv_iload_n hx hb dX6_count_0 rfl (lv_at hl 1 rfl) ?_
  refine nb_tsw [(0, 48), (1, 56), (2, 64), (3, 72), (4, 80), (5, 88), (6, 96), (7, 104)] 112 hx hb dX6_count_1 (by decide +kernel) ?_
  refine nb_split (fun c_1 => ?_) (fun c_1 => ?_)
  · have h := nb_t c_1 h
    refine lv_aload_n hx hb dX6_count_48 rfl (lv_at hl 0 rfl) ?_
    refine va_get (v := .ref (ad 1)) (C := RX6) (T := TX6) (N := 8) hx hb hts in6 hown hK.1 hP 0 nb_a0 rfl 0 (by decide) w_1 (fun _ h9 => h9) rfl dX6_count_49 ?_
    refine va_get (v := .int (M.1 1 6)) (C := RX0) (T := TX0) (N := 16) hx hb hts in0 hown hK.1 hP 1 nb_a1 rfl 6 (by decide) w_3 (fun _ h9 => h9) rfl dX6_count_52 ?_
    obtain ⟨rfl, rfl⟩ := nb_e2 h
    exact nb_iret hx hb hr hlk hP hS dX6_count_55
  · have h := nb_f c_1 h
    refine nb_split (fun c_2 => ?_) (fun c_2 => ?_)
    · have h := nb_t c_2 h
      refine lv_aload_n hx hb dX6_count_56 rfl (lv_at hl 0 rfl) ?_
      refine va_get (v := .ref (ad 1)) (C := RX6) (T := TX6) (N := 8) hx hb hts in6 hown hK.1 hP 0 nb_a0 rfl 0 (by decide) w_1 (fun _ h9 => h9) rfl dX6_count_57 ?_
      refine va_get (v := .int (M.1 1 2)) (C := RX0) (T := TX0) (N := 16) hx hb hts in0 hown hK.1 hP 1 nb_a1 rfl 2 (by decide) w_5 (fun _ h9 => h9) rfl dX6_count_60 ?_
      obtain ⟨rfl, rfl⟩ := nb_e2 h
      exact nb_iret hx hb hr hlk hP hS dX6_count_63
    · have h := nb_f c_2 h
      refine nb_split (fun c_3 => ?_) (fun c_3 => ?_)
      · have h := nb_t c_3 h
        refine lv_aload_n hx hb dX6_count_64 rfl (lv_at hl 0 rfl) ?_
        refine va_get (v := .ref (ad 1)) (C := RX6) (T := TX6) (N := 8) hx hb hts in6 hown hK.1 hP 0 nb_a0 rfl 0 (by decide) w_1 (fun _ h9 => h9) rfl dX6_count_65 ?_
        refine va_get (v := .int (M.1 1 0)) (C := RX0) (T := TX0) (N := 16) hx hb hts in0 hown hK.1 hP 1 nb_a1 rfl 0 (by decide) w_6 (fun _ h9 => h9) rfl dX6_count_68 ?_
        obtain ⟨rfl, rfl⟩ := nb_e2 h
        exact nb_iret hx hb hr hlk hP hS dX6_count_71
      · have h := nb_f c_3 h
        refine nb_split (fun c_4 => ?_) (fun c_4 => ?_)
        · have h := nb_t c_4 h
          refine lv_aload_n hx hb dX6_count_72 rfl (lv_at hl 0 rfl) ?_
          refine va_get (v := .ref (ad 1)) (C := RX6) (T := TX6) (N := 8) hx hb hts in6 hown hK.1 hP 0 nb_a0 rfl 0 (by decide) w_1 (fun _ h9 => h9) rfl dX6_count_73 ?_
          obtain ⟨r_5, e_5, h⟩ := nb_oE h
          refine nb_callV (n := 0) (As := []) (rest := []) hx hb hml hown hts hK hZ hP hS (k_X0_shards had M N e_5) gX6_count_X0_shards rfl (by decide +kernel) (nb_rm (Nat.le_of_ble_eq_true rfl) (Nat.le_of_ble_eq_true rfl)) nb_a1 rfl rfl rfl hl.1 rfl (Nat.le_of_ble_eq_true rfl) dX6_count_76 (fun H locs hP hS => ?_)
          refine W.eq (g2 := F0 m 79 ls [.int r_5]) rfl ?_
          obtain ⟨rfl, rfl⟩ := nb_e2 h
          exact nb_iret hx hb hr hlk hP hS dX6_count_79
        · have h := nb_f c_4 h
          refine nb_split (fun c_6 => ?_) (fun c_6 => ?_)
          · have h := nb_t c_6 h
            refine lv_aload_n hx hb dX6_count_80 rfl (lv_at hl 0 rfl) ?_
            refine va_get (v := .ref (ad 1)) (C := RX6) (T := TX6) (N := 8) hx hb hts in6 hown hK.1 hP 0 nb_a0 rfl 0 (by decide) w_1 (fun _ h9 => h9) rfl dX6_count_81 ?_
            refine va_get (v := .int (M.1 1 13)) (C := RX0) (T := TX0) (N := 16) hx hb hts in0 hown hK.1 hP 1 nb_a1 rfl 13 (by decide) w_7 (fun _ h9 => h9) rfl dX6_count_84 ?_
            obtain ⟨rfl, rfl⟩ := nb_e2 h
            exact nb_iret hx hb hr hlk hP hS dX6_count_87
          · have h := nb_f c_6 h
            refine nb_split (fun c_7 => ?_) (fun c_7 => ?_)
            · have h := nb_t c_7 h
              refine lv_aload_n hx hb dX6_count_88 rfl (lv_at hl 0 rfl) ?_
              refine va_get (v := .ref (ad 1)) (C := RX6) (T := TX6) (N := 8) hx hb hts in6 hown hK.1 hP 0 nb_a0 rfl 0 (by decide) w_1 (fun _ h9 => h9) rfl dX6_count_89 ?_
              refine va_get (v := .int (M.1 1 15)) (C := RX0) (T := TX0) (N := 16) hx hb hts in0 hown hK.1 hP 1 nb_a1 rfl 15 (by decide) w_8 (fun _ h9 => h9) rfl dX6_count_92 ?_
              obtain ⟨rfl, rfl⟩ := nb_e2 h
              exact nb_iret hx hb hr hlk hP hS dX6_count_95
            · have h := nb_f c_7 h
              refine nb_split (fun c_8 => ?_) (fun c_8 => ?_)
              · have h := nb_t c_8 h
                refine lv_aload_n hx hb dX6_count_96 rfl (lv_at hl 0 rfl) ?_
                refine va_get (v := .ref (ad 40)) (C := RX6) (T := TX6) (N := 8) hx hb hts in6 hown hK.1 hP 0 nb_a0 rfl 4 (by decide) w_9 (fun _ h9 => h9) rfl dX6_count_97 ?_
                refine va_get (v := .int (M.1 40 1)) (C := RX5) (T := TX5) (N := 6) hx hb hts in5 hown hK.1 hP 40 nb_a40 rfl 1 (by decide) w_10 (fun _ h9 => h9) rfl dX6_count_100 ?_
                obtain ⟨rfl, rfl⟩ := nb_e2 h
                exact nb_iret hx hb hr hlk hP hS dX6_count_103
              · have h := nb_f c_8 h
                refine nb_split (fun c_9 => ?_) (fun c_9 => ?_)
                · have h := nb_t c_9 h
                  refine lv_aload_n hx hb dX6_count_104 rfl (lv_at hl 0 rfl) ?_
                  refine va_get (v := .ref (ad 1)) (C := RX6) (T := TX6) (N := 8) hx hb hts in6 hown hK.1 hP 0 nb_a0 rfl 0 (by decide) w_1 (fun _ h9 => h9) rfl dX6_count_105 ?_
                  refine va_get (v := .int (M.1 1 1)) (C := RX0) (T := TX0) (N := 16) hx hb hts in0 hown hK.1 hP 1 nb_a1 rfl 1 (by decide) w_12 (fun _ h9 => h9) rfl dX6_count_108 ?_
                  obtain ⟨rfl, rfl⟩ := nb_e2 h
                  exact nb_iret hx hb hr hlk hP hS dX6_count_111
                · have h := nb_f c_9 h
                  refine W.eq (g2 := F0 m 112 ls []) rfl ?_
                  refine lv_aload_n hx hb dX6_count_112 rfl (lv_at hl 0 rfl) ?_
                  refine lv_iconst (v := (1 : Int32)) hx hb dX6_count_113 (by decide) ?_
                  obtain ⟨r_10, M_10, e_10, h⟩ := nb_pE h
                  refine nb_callV (n := 1) (As := [.int (1 : Int32)]) (rest := []) hx hb hml hown hts hK hZ hP hS (k_X6_fail had M N (1 : Int32) e_10) gX6_count_X6_fail rfl (by decide +kernel) (nb_rm (Nat.le_of_ble_eq_true rfl) (Nat.le_of_ble_eq_true rfl)) nb_a0 rfl rfl rfl hl.1 rfl (Nat.le_of_ble_eq_true rfl) dX6_count_114 (fun H locs hP hS => ?_)
                  refine W.eq (g2 := F0 m 117 ls [.int r_10]) rfl ?_
                  obtain ⟨rfl, rfl⟩ := nb_e2 h
                  exact nb_iret hx hb hr hlk hP hS dX6_count_117
set_option maxHeartbeats 4000000 in
set_option maxRecDepth 100000 in
theorem k_X6_told {r : Int32} {M' : nb_M} (had : nb_AD ad b0) (M N : nb_M) (p0 : Int32) (h : f_X6_told M p0 = some (r, M')) : nb_C l D ad ca b0 yX6_told wsX6_told 1 [.ref (ad 0), .int p0] M N (some (.int r)) M' N := by
  refine nb_of (cc := cX6_told) (maxL := 2) (ret := (some .int)) (own := RX6) (by decide +kernel) rfl rfl (Nat.le_of_ble_eq_true rfl) ?_
  intro p e s m args below meth c ls X hP hS hl
  have hl : lv_has ls 2 [(0, .ref (ad 0)), (1, .int p0)] := hl
  obtain ⟨hx, hb, hml, hown, hts, hr, hlk, hK, hZ⟩ := id X
  have w_1 := hts (.fieldLink RX6 40 "NineBreakages" "errors" "[I") (by decide +kernel)
  have in6 : ∀ w ∈ u_ws RX6 TX6 8, w ∈ wsX6_told := fun w q => List.mem_cons_of_mem _ (List.mem_append_right _ q)
  unfold f_X6_told at h
  refine lv_iload_n hx hb dX6_told_0 rfl (lv_at hl 1 rfl) ?_
  refine lv_iconst (v := (1 : Int32)) hx hb dX6_told_1 (by decide) ?_
  refine lv_icmp_lt (tgt := 11) hx hb dX6_told_2 (by decide) (fun c_1 => ?_) (fun c_1 => ?_)
  · have h := nb_t c_1 h
    refine lv_aload_n hx hb dX6_told_11 rfl (lv_at hl 0 rfl) ?_
    refine lv_iconst (v := (1 : Int32)) hx hb dX6_told_12 (by decide) ?_
    obtain ⟨r_2, M_2, e_2, h⟩ := nb_pE h
    refine nb_callV (n := 1) (As := [.int (1 : Int32)]) (rest := []) hx hb hml hown hts hK hZ hP hS (k_X6_fail had M N (1 : Int32) e_2) gX6_told_X6_fail rfl (by decide +kernel) (nb_rm (Nat.le_of_ble_eq_true rfl) (Nat.le_of_ble_eq_true rfl)) nb_a0 rfl rfl rfl hl.1 rfl (Nat.le_of_ble_eq_true rfl) dX6_told_13 (fun H locs hP hS => ?_)
    refine W.eq (g2 := F0 m 16 ls [.int r_2]) rfl ?_
    obtain ⟨rfl, rfl⟩ := nb_e2 h
    exact nb_iret hx hb hr hlk hP hS dX6_told_16
  · have h := nb_f c_1 h
    refine lv_iload_n hx hb dX6_told_5 rfl (lv_at hl 1 rfl) ?_
    refine lv_bipush (v := (6 : Int32)) hx hb dX6_told_6 (by decide) ?_
    refine lv_icmp_le (tgt := 17) hx hb dX6_told_8 (by decide) (fun c_3 => ?_) (fun c_3 => ?_)
    · have h := nb_t c_3 h
      refine lv_aload_n hx hb dX6_told_17 rfl (lv_at hl 0 rfl) ?_
      refine va_get (v := .ref (ad 51)) (C := RX6) (T := TX6) (N := 8) hx hb hts in6 hown hK.1 hP 0 nb_a0 rfl 6 (by decide) w_1 (fun _ h9 => h9) rfl dX6_told_18 ?_
      refine lv_iload_n hx hb dX6_told_21 rfl (lv_at hl 1 rfl) ?_
      obtain ⟨c_4, h⟩ := nb_c h
      refine va_iald hx hb hK.1 hP 51 0 nb_a51 rfl c_4 dX6_told_22 ?_
      obtain ⟨rfl, rfl⟩ := nb_e2 h
      exact nb_iret hx hb hr hlk hP hS dX6_told_23
    · have h := nb_f c_3 h
      refine lv_aload_n hx hb dX6_told_11 rfl (lv_at hl 0 rfl) ?_
      refine lv_iconst (v := (1 : Int32)) hx hb dX6_told_12 (by decide) ?_
      obtain ⟨r_5, M_5, e_5, h⟩ := nb_pE h
      refine nb_callV (n := 1) (As := [.int (1 : Int32)]) (rest := []) hx hb hml hown hts hK hZ hP hS (k_X6_fail had M N (1 : Int32) e_5) gX6_told_X6_fail rfl (by decide +kernel) (nb_rm (Nat.le_of_ble_eq_true rfl) (Nat.le_of_ble_eq_true rfl)) nb_a0 rfl rfl rfl hl.1 rfl (Nat.le_of_ble_eq_true rfl) dX6_told_13 (fun H locs hP hS => ?_)
      refine W.eq (g2 := F0 m 16 ls [.int r_5]) rfl ?_
      obtain ⟨rfl, rfl⟩ := nb_e2 h
      exact nb_iret hx hb hr hlk hP hS dX6_told_16
set_option maxHeartbeats 4000000 in
set_option maxRecDepth 100000 in
theorem k_X7_in (had : nb_AD ad b0) (M N : nb_M) (p0 : Int32) (p1 : Int32) (p2 : Int32) : nb_C l D ad ca b0 yX7_in wsX7_in 0 [.int p0, .int p1, .int p2] N M (some (.int (f_X7_in p0 p1 p2))) N M := by
  obtain ⟨r, h⟩ : ∃ r, f_X7_in p0 p1 p2 = r := ⟨_, rfl⟩
  rw [h]
  refine nb_of (cc := cX7_in) (maxL := 3) (ret := (some .boolean)) (own := RX7) (by decide +kernel) rfl rfl (Nat.le_of_ble_eq_true rfl) ?_
  intro p e s m args below meth c ls X hP hS hl
  have hl : lv_has ls 3 [(0, .int p0), (1, .int p1), (2, .int p2)] := hl
  obtain ⟨hx, hb, hml, hown, hts, hr, hlk, hK, hZ⟩ := id X
  unfold f_X7_in at h
  refine lv_iload_n hx hb dX7_in_0 rfl (lv_at hl 0 rfl) ?_
  refine lv_iload_n hx hb dX7_in_1 rfl (lv_at hl 1 rfl) ?_
  refine lv_icmp_lt (tgt := 14) hx hb dX7_in_2 (by decide) (fun c_1 => ?_) (fun c_1 => ?_)
  · have h := nb_t c_1 h
    refine lv_iconst (v := (0 : Int32)) hx hb dX7_in_14 (by decide) ?_
    obtain rfl := nb_e3 h
    exact nb_zret (by decide) hx hb hr hlk hP hS dX7_in_15
  · have h := nb_f c_1 h
    refine lv_iload_n hx hb dX7_in_5 rfl (lv_at hl 0 rfl) ?_
    refine lv_iload_n hx hb dX7_in_6 rfl (lv_at hl 2 rfl) ?_
    refine lv_icmp_gt (tgt := 14) hx hb dX7_in_7 (by decide) (fun c_2 => ?_) (fun c_2 => ?_)
    · have h := nb_t c_2 h
      refine lv_iconst (v := (0 : Int32)) hx hb dX7_in_14 (by decide) ?_
      obtain rfl := nb_e3 h
      exact nb_zret (by decide) hx hb hr hlk hP hS dX7_in_15
    · have h := nb_f c_2 h
      refine lv_iconst (v := (1 : Int32)) hx hb dX7_in_10 (by decide) ?_
      refine lv_goto (tgt := 15) hx hb dX7_in_11 (by decide) ?_
      obtain rfl := nb_e3 h
      exact nb_zret (by decide) hx hb hr hlk hP hS dX7_in_15
set_option maxHeartbeats 4000000 in
set_option maxRecDepth 100000 in
theorem k_X7_error {r : Int32} {M' : nb_M} (had : nb_AD ad b0) (M N : nb_M) (p0 : Int32) (h : f_X7_error M p0 = some (r, M')) : nb_C l D ad ca b0 yX7_error wsX7_error 0 [.ref (ad 52), .int p0] N M (some (.int r)) N M' := by
  refine nb_of (cc := cX7_error) (maxL := 2) (ret := (some .int)) (own := RX7) (by decide +kernel) rfl rfl (Nat.le_of_ble_eq_true rfl) ?_
  intro p e s m args below meth c ls X hP hS hl
  have hl : lv_has ls 2 [(0, .ref (ad 52)), (1, .int p0)] := hl
  obtain ⟨hx, hb, hml, hown, hts, hr, hlk, hK, hZ⟩ := id X
  have w_1 := hts (.fieldLink RX7 16 "NineBreakagesModel" "errors" "[I") (by decide +kernel)
  have in7 : ∀ w ∈ u_ws RX7 TX7 21, w ∈ wsX7_error := fun w q => List.mem_cons_of_mem _ (List.mem_append_right _ q)
  have w_3 := hts (.constant RX7 47 (-1000000000)) (by decide +kernel)
  unfold f_X7_error at h
  refine lv_aload_n hx hb dX7_error_0 rfl (lv_at hl 0 rfl) ?_
  refine va_get (v := .ref (ad 55)) (C := RX7) (T := TX7) (N := 21) hx hb hts in7 hown hK.1 hP 52 nb_a52 rfl 3 (by decide) w_1 (fun _ h9 => h9) rfl dX7_error_1 ?_
  refine lv_ldc (v := (-1000000000 : Int32)) hx hb hown w_3 dX7_error_4 ?_
  refine lv_iload_n hx hb dX7_error_6 rfl (lv_at hl 1 rfl) ?_
  refine lv_isub hx hb dX7_error_7 ?_
  refine lv_dup2_11 hx hb dX7_error_8 rfl rfl ?_
  obtain ⟨c_1, h⟩ := nb_c h
  refine va_iald hx hb hK.1 hP 55 0 nb_a55 rfl c_1 dX7_error_9 ?_
  refine lv_iconst (v := (1 : Int32)) hx hb dX7_error_10 (by decide) ?_
  refine lv_iadd hx hb dX7_error_11 ?_
  refine nb_iast hx hb had hK hP hS nb_a55 c_1 (nb_t55 _ _) dX7_error_12 (fun H locs hP hS => ?_)
  obtain ⟨M_2, e_2, h⟩ := nb_nE h
  rw [e_2] at hP
  refine lv_iload_n hx hb dX7_error_13 rfl (lv_at hl 1 rfl) ?_
  obtain ⟨rfl, rfl⟩ := nb_e2 h
  exact nb_iret hx hb hr hlk hP hS dX7_error_14
set_option maxHeartbeats 4000000 in
set_option maxRecDepth 100000 in
theorem k_X7_person {r : Int32} {M' : nb_M} (had : nb_AD ad b0) (M N : nb_M) (p0 : Int32) (p1 : Int32) (h : f_X7_person M p0 p1 = some (r, M')) : nb_C l D ad ca b0 yX7_person wsX7_person 1 [.ref (ad 52), .int p0, .int p1] N M (some (.int r)) N M' := by
  refine nb_of (cc := cX7_person) (maxL := 4) (ret := (some .int)) (own := RX7) (by decide +kernel) rfl rfl (Nat.le_of_ble_eq_true rfl) ?_
  intro p e s m args below meth c ls X hP hS hl
  have hl : lv_has ls 4 [(0, .ref (ad 52)), (1, .int p0), (2, .int p1)] := hl
  obtain ⟨hx, hb, hml, hown, hts, hr, hlk, hK, hZ⟩ := id X
  have w_1 := hts (.constant RX7 77 (-1000000001)) (by decide +kernel)
  have w_2 := hts (.fieldLink RX7 9 "NineBreakagesModel" "row" "[I") (by decide +kernel)
  have in7 : ∀ w ∈ u_ws RX7 TX7 21, w ∈ wsX7_person := fun w q => List.mem_cons_of_mem _ (List.mem_append_right _ q)
  have w_4 := hts (.constant RX7 82 (-1000000004)) (by decide +kernel)
  unfold f_X7_person at h
  refine lv_iload_n hx hb dX7_person_0 rfl (lv_at hl 1 rfl) ?_
  refine lv_iconst (v := (0 : Int32)) hx hb dX7_person_1 (by decide) ?_
  refine lv_bipush (v := (9 : Int32)) hx hb dX7_person_2 (by decide) ?_
  refine nb_callS (n := 3) (As := [.int p0, .int (0 : Int32), .int (9 : Int32)]) (rest := []) hx hb hml hown hts hK hZ hP hS (k_X7_in had M N p0 (0 : Int32) (9 : Int32)) gX7_person_X7_in rfl (by decide +kernel) (nb_rm (Nat.le_of_ble_eq_true rfl) (Nat.le_of_ble_eq_true rfl)) rfl hl.1 rfl (Nat.le_of_ble_eq_true rfl) dX7_person_4 (fun H locs hP hS => ?_)
  refine W.eq (g2 := F0 m 7 ls [.int (f_X7_in p0 (0 : Int32) (9 : Int32))]) rfl ?_
  refine lv_if_eq (tgt := 20) hx hb dX7_person_7 (by decide) (fun c_2 => ?_) (fun c_2 => ?_)
  · have h := nb_t c_2 h
    refine lv_aload_n hx hb dX7_person_20 rfl (lv_at hl 0 rfl) ?_
    refine lv_ldc (v := (-1000000001 : Int32)) hx hb hown w_1 dX7_person_21 ?_
    obtain ⟨r_3, M_3, e_3, h⟩ := nb_pE h
    refine nb_callV (n := 1) (As := [.int (-1000000001 : Int32)]) (rest := []) hx hb hml hown hts hK hZ hP hS (k_X7_error had M N (-1000000001 : Int32) e_3) gX7_person_X7_error rfl (by decide +kernel) (nb_rm (Nat.le_of_ble_eq_true rfl) (Nat.le_of_ble_eq_true rfl)) nb_a52 rfl rfl rfl hl.1 rfl (Nat.le_of_ble_eq_true rfl) dX7_person_23 (fun H locs hP hS => ?_)
    refine W.eq (g2 := F0 m 26 ls [.int r_3]) rfl ?_
    obtain ⟨rfl, rfl⟩ := nb_e2 h
    exact nb_iret hx hb hr hlk hP hS dX7_person_26
  · have h := nb_f c_2 h
    refine lv_iload_n hx hb dX7_person_10 rfl (lv_at hl 2 rfl) ?_
    refine lv_iconst (v := (0 : Int32)) hx hb dX7_person_11 (by decide) ?_
    refine lv_bipush (v := (9 : Int32)) hx hb dX7_person_12 (by decide) ?_
    refine nb_callS (n := 3) (As := [.int p1, .int (0 : Int32), .int (9 : Int32)]) (rest := []) hx hb hml hown hts hK hZ hP hS (k_X7_in had M N p1 (0 : Int32) (9 : Int32)) gX7_person_X7_in rfl (by decide +kernel) (nb_rm (Nat.le_of_ble_eq_true rfl) (Nat.le_of_ble_eq_true rfl)) rfl hl.1 rfl (Nat.le_of_ble_eq_true rfl) dX7_person_14 (fun H locs hP hS => ?_)
    refine W.eq (g2 := F0 m 17 ls [.int (f_X7_in p1 (0 : Int32) (9 : Int32))]) rfl ?_
    refine lv_if_ne (tgt := 27) hx hb dX7_person_17 (by decide) (fun c_5 => ?_) (fun c_5 => ?_)
    · have h := nb_f c_5 h
      refine lv_aload_n hx hb dX7_person_27 rfl (lv_at hl 0 rfl) ?_
      refine va_get (v := .ref (ad 53)) (C := RX7) (T := TX7) (N := 21) hx hb hts in7 hown hK.1 hP 52 nb_a52 rfl 0 (by decide) w_2 (fun _ h9 => h9) rfl dX7_person_28 ?_
      refine lv_iconst (v := (3 : Int32)) hx hb dX7_person_31 (by decide) ?_
      refine va_iald hx hb hK.1 hP 53 0 nb_a53 rfl (nb_lit rfl) dX7_person_32 ?_
      refine lv_topi (fun v_6 e_6 => ?_)
      have h := nb_nA e_6 h
      refine lv_istore_n (lv' := [(3, .int v_6), (0, .ref (ad 52)), (1, .int p0), (2, .int p1)]) hx hb dX7_person_33 rfl hl (by decide) rfl (fun ls hl => ?_)
      refine lv_iload_n hx hb dX7_person_34 rfl (lv_at hl 0 rfl) ?_
      refine lv_iconst (v := (5 : Int32)) hx hb dX7_person_35 (by decide) ?_
      refine lv_icmp_ne (tgt := 46) hx hb dX7_person_36 (by decide) (fun c_7 => ?_) (fun c_7 => ?_)
      · have h := nb_f c_7 h
        refine lv_aload_n hx hb dX7_person_46 rfl (lv_at hl 1 rfl) ?_
        refine va_get (v := .ref (ad 53)) (C := RX7) (T := TX7) (N := 21) hx hb hts in7 hown hK.1 hP 52 nb_a52 rfl 0 (by decide) w_2 (fun _ h9 => h9) rfl dX7_person_47 ?_
        refine lv_iconst (v := (3 : Int32)) hx hb dX7_person_50 (by decide) ?_
        refine lv_dup2_11 hx hb dX7_person_51 rfl rfl ?_
        refine va_iald hx hb hK.1 hP 53 0 nb_a53 rfl (nb_lit rfl) dX7_person_52 ?_
        refine lv_iconst (v := (1 : Int32)) hx hb dX7_person_53 (by decide) ?_
        refine lv_iadd hx hb dX7_person_54 ?_
        refine nb_iast hx hb had hK hP hS nb_a53 (nb_lit rfl) (nb_t53 _ _) dX7_person_55 (fun H locs hP hS => ?_)
        obtain ⟨M_8, e_8, h⟩ := nb_nE h
        rw [e_8] at hP
        refine lv_aload_n hx hb dX7_person_56 rfl (lv_at hl 1 rfl) ?_
        refine va_get (v := .ref (ad 53)) (C := RX7) (T := TX7) (N := 21) hx hb hts in7 hown hK.1 hP 52 nb_a52 rfl 0 (by decide) w_2 (fun _ h9 => h9) rfl dX7_person_57 ?_
        refine lv_bipush (v := (6 : Int32)) hx hb dX7_person_60 (by decide) ?_
        refine lv_iconst (v := (3 : Int32)) hx hb dX7_person_62 (by decide) ?_
        refine lv_iload_n hx hb dX7_person_63 rfl (lv_at hl 0 rfl) ?_
        refine lv_imul hx hb dX7_person_64 ?_
        refine lv_iadd hx hb dX7_person_65 ?_
        refine lv_iload_n hx hb dX7_person_66 rfl (lv_at hl 2 rfl) ?_
        obtain ⟨c_9, h⟩ := nb_c h
        refine nb_iast hx hb had hK hP hS nb_a53 c_9 (nb_t53 _ _) dX7_person_67 (fun H locs hP hS => ?_)
        obtain ⟨M_10, e_10, h⟩ := nb_nE h
        rw [e_10] at hP
        refine lv_aload_n hx hb dX7_person_68 rfl (lv_at hl 1 rfl) ?_
        refine va_get (v := .ref (ad 53)) (C := RX7) (T := TX7) (N := 21) hx hb hts in7 hown hK.1 hP 52 nb_a52 rfl 0 (by decide) w_2 (fun _ h9 => h9) rfl dX7_person_69 ?_
        refine lv_bipush (v := (6 : Int32)) hx hb dX7_person_72 (by decide) ?_
        refine lv_iconst (v := (3 : Int32)) hx hb dX7_person_74 (by decide) ?_
        refine lv_iload_n hx hb dX7_person_75 rfl (lv_at hl 0 rfl) ?_
        refine lv_imul hx hb dX7_person_76 ?_
        refine lv_iadd hx hb dX7_person_77 ?_
        refine lv_iconst (v := (1 : Int32)) hx hb dX7_person_78 (by decide) ?_
        refine lv_iadd hx hb dX7_person_79 ?_
        refine lv_iload_n hx hb dX7_person_80 rfl (lv_at hl 3 rfl) ?_
        obtain ⟨c_11, h⟩ := nb_c h
        refine nb_iast hx hb had hK hP hS nb_a53 c_11 (nb_t53 _ _) dX7_person_81 (fun H locs hP hS => ?_)
        obtain ⟨M_12, e_12, h⟩ := nb_nE h
        rw [e_12] at hP
        refine lv_aload_n hx hb dX7_person_82 rfl (lv_at hl 1 rfl) ?_
        refine va_get (v := .ref (ad 53)) (C := RX7) (T := TX7) (N := 21) hx hb hts in7 hown hK.1 hP 52 nb_a52 rfl 0 (by decide) w_2 (fun _ h9 => h9) rfl dX7_person_83 ?_
        refine lv_bipush (v := (6 : Int32)) hx hb dX7_person_86 (by decide) ?_
        refine lv_iconst (v := (3 : Int32)) hx hb dX7_person_88 (by decide) ?_
        refine lv_iload_n hx hb dX7_person_89 rfl (lv_at hl 0 rfl) ?_
        refine lv_imul hx hb dX7_person_90 ?_
        refine lv_iadd hx hb dX7_person_91 ?_
        refine lv_iconst (v := (2 : Int32)) hx hb dX7_person_92 (by decide) ?_
        refine lv_iadd hx hb dX7_person_93 ?_
        refine lv_iconst (v := (0 : Int32)) hx hb dX7_person_94 (by decide) ?_
        obtain ⟨c_13, h⟩ := nb_c h
        refine nb_iast hx hb had hK hP hS nb_a53 c_13 (nb_t53 _ _) dX7_person_95 (fun H locs hP hS => ?_)
        obtain ⟨M_14, e_14, h⟩ := nb_nE h
        rw [e_14] at hP
        refine lv_iload_n hx hb dX7_person_96 rfl (lv_at hl 0 rfl) ?_
        obtain ⟨rfl, rfl⟩ := nb_e2 h
        exact nb_iret hx hb hr hlk hP hS dX7_person_97
      · have h := nb_t c_7 h
        refine lv_aload_n hx hb dX7_person_39 rfl (lv_at hl 1 rfl) ?_
        refine lv_ldc (v := (-1000000004 : Int32)) hx hb hown w_4 dX7_person_40 ?_
        obtain ⟨r_15, M_15, e_15, h⟩ := nb_pE h
        refine nb_callV (n := 1) (As := [.int (-1000000004 : Int32)]) (rest := []) hx hb hml hown hts hK hZ hP hS (k_X7_error had M N (-1000000004 : Int32) e_15) gX7_person_X7_error rfl (by decide +kernel) (nb_rm (Nat.le_of_ble_eq_true rfl) (Nat.le_of_ble_eq_true rfl)) nb_a52 rfl rfl rfl hl.1 rfl (Nat.le_of_ble_eq_true rfl) dX7_person_42 (fun H locs hP hS => ?_)
        refine W.eq (g2 := F0 m 45 ls [.int r_15]) rfl ?_
        obtain ⟨rfl, rfl⟩ := nb_e2 h
        exact nb_iret hx hb hr hlk hP hS dX7_person_45
    · have h := nb_t c_5 h
      refine lv_aload_n hx hb dX7_person_20 rfl (lv_at hl 0 rfl) ?_
      refine lv_ldc (v := (-1000000001 : Int32)) hx hb hown w_1 dX7_person_21 ?_
      obtain ⟨r_16, M_16, e_16, h⟩ := nb_pE h
      refine nb_callV (n := 1) (As := [.int (-1000000001 : Int32)]) (rest := []) hx hb hml hown hts hK hZ hP hS (k_X7_error had M N (-1000000001 : Int32) e_16) gX7_person_X7_error rfl (by decide +kernel) (nb_rm (Nat.le_of_ble_eq_true rfl) (Nat.le_of_ble_eq_true rfl)) nb_a52 rfl rfl rfl hl.1 rfl (Nat.le_of_ble_eq_true rfl) dX7_person_23 (fun H locs hP hS => ?_)
      refine W.eq (g2 := F0 m 26 ls [.int r_16]) rfl ?_
      obtain ⟨rfl, rfl⟩ := nb_e2 h
      exact nb_iret hx hb hr hlk hP hS dX7_person_26
set_option maxHeartbeats 4000000 in
set_option maxRecDepth 100000 in
theorem k_X7_isPerson (had : nb_AD ad b0) (M N : nb_M) (p0 : Int32) : nb_C l D ad ca b0 yX7_isPerson wsX7_isPerson 1 [.ref (ad 52), .int p0] N M (some (.int (f_X7_isPerson M p0))) N M := by
  obtain ⟨r, h⟩ : ∃ r, f_X7_isPerson M p0 = r := ⟨_, rfl⟩
  rw [h]
  refine nb_of (cc := cX7_isPerson) (maxL := 2) (ret := (some .boolean)) (own := RX7) (by decide +kernel) rfl rfl (Nat.le_of_ble_eq_true rfl) ?_
  intro p e s m args below meth c ls X hP hS hl
  have hl : lv_has ls 2 [(0, .ref (ad 52)), (1, .int p0)] := hl
  obtain ⟨hx, hb, hml, hown, hts, hr, hlk, hK, hZ⟩ := id X
  have w_1 := hts (.fieldLink RX7 9 "NineBreakagesModel" "row" "[I") (by decide +kernel)
  have in7 : ∀ w ∈ u_ws RX7 TX7 21, w ∈ wsX7_isPerson := fun w q => List.mem_cons_of_mem _ (List.mem_append_right _ q)
  unfold f_X7_isPerson at h
  refine lv_iload_n hx hb dX7_isPerson_0 rfl (lv_at hl 1 rfl) ?_
  refine lv_iconst (v := (0 : Int32)) hx hb dX7_isPerson_1 (by decide) ?_
  refine lv_aload_n hx hb dX7_isPerson_2 rfl (lv_at hl 0 rfl) ?_
  refine va_get (v := .ref (ad 53)) (C := RX7) (T := TX7) (N := 21) hx hb hts in7 hown hK.1 hP 52 nb_a52 rfl 0 (by decide) w_1 (fun _ h9 => h9) rfl dX7_isPerson_3 ?_
  refine lv_iconst (v := (3 : Int32)) hx hb dX7_isPerson_6 (by decide) ?_
  refine va_iald hx hb hK.1 hP 53 0 nb_a53 rfl (nb_lit rfl) dX7_isPerson_7 ?_
  refine lv_iconst (v := (1 : Int32)) hx hb dX7_isPerson_8 (by decide) ?_
  refine lv_isub hx hb dX7_isPerson_9 ?_
  refine nb_callS (n := 3) (As := [.int p0, .int (0 : Int32), .int ((M.1 1 (3 : Int32).toNatClampNeg) - (1 : Int32))]) (rest := []) hx hb hml hown hts hK hZ hP hS (k_X7_in had M N p0 (0 : Int32) ((M.1 1 (3 : Int32).toNatClampNeg) - (1 : Int32))) gX7_isPerson_X7_in rfl (by decide +kernel) (nb_rm (Nat.le_of_ble_eq_true rfl) (Nat.le_of_ble_eq_true rfl)) rfl hl.1 rfl (Nat.le_of_ble_eq_true rfl) dX7_isPerson_10 (fun H locs hP hS => ?_)
  refine W.eq (g2 := F0 m 13 ls [.int (f_X7_in p0 (0 : Int32) ((M.1 1 (3 : Int32).toNatClampNeg) - (1 : Int32)))]) rfl ?_
  obtain rfl := nb_e3 h
  exact nb_zret (z_X7_in p0 (0 : Int32) ((M.1 1 (3 : Int32).toNatClampNeg) - (1 : Int32))) hx hb hr hlk hP hS dX7_isPerson_13
set_option maxHeartbeats 4000000 in
set_option maxRecDepth 100000 in
theorem k_X7_about {r : Int32} (had : nb_AD ad b0) (M N : nb_M) (p0 : Int32) (p1 : Int32) (h : f_X7_about M p0 p1 = some r) : nb_C l D ad ca b0 yX7_about wsX7_about 0 [.ref (ad 52), .int p0, .int p1] N M (some (.int r)) N M := by
  refine nb_of (cc := cX7_about) (maxL := 3) (ret := (some .int)) (own := RX7) (by decide +kernel) rfl rfl (Nat.le_of_ble_eq_true rfl) ?_
  intro p e s m args below meth c ls X hP hS hl
  have hl : lv_has ls 3 [(0, .ref (ad 52)), (1, .int p0), (2, .int p1)] := hl
  obtain ⟨hx, hb, hml, hown, hts, hr, hlk, hK, hZ⟩ := id X
  have w_1 := hts (.fieldLink RX7 9 "NineBreakagesModel" "row" "[I") (by decide +kernel)
  have in7 : ∀ w ∈ u_ws RX7 TX7 21, w ∈ wsX7_about := fun w q => List.mem_cons_of_mem _ (List.mem_append_right _ q)
  unfold f_X7_about at h
  refine lv_aload_n hx hb dX7_about_0 rfl (lv_at hl 0 rfl) ?_
  refine va_get (v := .ref (ad 53)) (C := RX7) (T := TX7) (N := 21) hx hb hts in7 hown hK.1 hP 52 nb_a52 rfl 0 (by decide) w_1 (fun _ h9 => h9) rfl dX7_about_1 ?_
  refine lv_bipush (v := (6 : Int32)) hx hb dX7_about_4 (by decide) ?_
  refine lv_iconst (v := (3 : Int32)) hx hb dX7_about_6 (by decide) ?_
  refine lv_iload_n hx hb dX7_about_7 rfl (lv_at hl 1 rfl) ?_
  refine lv_imul hx hb dX7_about_8 ?_
  refine lv_iadd hx hb dX7_about_9 ?_
  refine lv_iload_n hx hb dX7_about_10 rfl (lv_at hl 2 rfl) ?_
  refine lv_iadd hx hb dX7_about_11 ?_
  obtain ⟨c_1, h⟩ := nb_c h
  refine va_iald hx hb hK.1 hP 53 0 nb_a53 rfl c_1 dX7_about_12 ?_
  obtain rfl := nb_e1 h
  exact nb_iret hx hb hr hlk hP hS dX7_about_13
set_option maxHeartbeats 4000000 in
set_option maxRecDepth 100000 in
theorem k_X7_isThrough {r : Int32} (had : nb_AD ad b0) (M N : nb_M) (p0 : Int32) (h : f_X7_isThrough M p0 = some r) : nb_C l D ad ca b0 yX7_isThrough wsX7_isThrough 1 [.ref (ad 52), .int p0] N M (some (.int r)) N M := by
  refine nb_of (cc := cX7_isThrough) (maxL := 2) (ret := (some .boolean)) (own := RX7) (by decide +kernel) rfl rfl (Nat.le_of_ble_eq_true rfl) ?_
  intro p e s m args below meth c ls X hP hS hl
  have hl : lv_has ls 2 [(0, .ref (ad 52)), (1, .int p0)] := hl
  obtain ⟨hx, hb, hml, hown, hts, hr, hlk, hK, hZ⟩ := id X
  unfold f_X7_isThrough at h
  refine lv_aload_n hx hb dX7_isThrough_0 rfl (lv_at hl 0 rfl) ?_
  refine lv_iload_n hx hb dX7_isThrough_1 rfl (lv_at hl 1 rfl) ?_
  refine lv_iconst (v := (2 : Int32)) hx hb dX7_isThrough_2 (by decide) ?_
  obtain ⟨r_1, e_1, h⟩ := nb_oE h
  refine nb_callV (n := 2) (As := [.int p0, .int (2 : Int32)]) (rest := []) hx hb hml hown hts hK hZ hP hS (k_X7_about had M N p0 (2 : Int32) e_1) gX7_isThrough_X7_about rfl (by decide +kernel) (nb_rm (Nat.le_of_ble_eq_true rfl) (Nat.le_of_ble_eq_true rfl)) nb_a52 rfl rfl rfl hl.1 rfl (Nat.le_of_ble_eq_true rfl) dX7_isThrough_3 (fun H locs hP hS => ?_)
  refine W.eq (g2 := F0 m 6 ls [.int r_1]) rfl ?_
  refine lv_aload_n hx hb dX7_isThrough_6 rfl (lv_at hl 0 rfl) ?_
  refine lv_iload_n hx hb dX7_isThrough_7 rfl (lv_at hl 1 rfl) ?_
  refine lv_iconst (v := (1 : Int32)) hx hb dX7_isThrough_8 (by decide) ?_
  obtain ⟨r_2, e_2, h⟩ := nb_oE h
  refine nb_callV (n := 2) (As := [.int p0, .int (1 : Int32)]) (rest := [.int r_1]) hx hb hml hown hts hK hZ hP hS (k_X7_about had M N p0 (1 : Int32) e_2) gX7_isThrough_X7_about rfl (by decide +kernel) (nb_rm (Nat.le_of_ble_eq_true rfl) (Nat.le_of_ble_eq_true rfl)) nb_a52 rfl rfl rfl hl.1 rfl (Nat.le_of_ble_eq_true rfl) dX7_isThrough_9 (fun H locs hP hS => ?_)
  refine W.eq (g2 := F0 m 12 ls [.int r_2, .int r_1]) rfl ?_
  refine lv_icmp_lt (tgt := 19) hx hb dX7_isThrough_12 (by decide) (fun c_3 => ?_) (fun c_3 => ?_)
  · have h := nb_t c_3 h
    refine lv_iconst (v := (0 : Int32)) hx hb dX7_isThrough_19 (by decide) ?_
    obtain rfl := nb_e1 h
    exact nb_zret (by decide) hx hb hr hlk hP hS dX7_isThrough_20
  · have h := nb_f c_3 h
    refine lv_iconst (v := (1 : Int32)) hx hb dX7_isThrough_15 (by decide) ?_
    refine lv_goto (tgt := 20) hx hb dX7_isThrough_16 (by decide) ?_
    obtain rfl := nb_e1 h
    exact nb_zret (by decide) hx hb hr hlk hP hS dX7_isThrough_20
set_option maxHeartbeats 4000000 in
set_option maxRecDepth 100000 in
theorem k_X7_dueOf {r : Int32} (had : nb_AD ad b0) (M N : nb_M) (p0 : Int32) (h : f_X7_dueOf M p0 = some r) : nb_C l D ad ca b0 yX7_dueOf wsX7_dueOf 1 [.ref (ad 52), .int p0] N M (some (.int r)) N M := by
  refine nb_of (cc := cX7_dueOf) (maxL := 3) (ret := (some .int)) (own := RX7) (by decide +kernel) rfl rfl (Nat.le_of_ble_eq_true rfl) ?_
  intro p e s m args below meth c ls X hP hS hl
  have hl : lv_has ls 3 [(0, .ref (ad 52)), (1, .int p0)] := hl
  obtain ⟨hx, hb, hml, hown, hts, hr, hlk, hK, hZ⟩ := id X
  unfold f_X7_dueOf at h
  refine lv_aload_n hx hb dX7_dueOf_0 rfl (lv_at hl 0 rfl) ?_
  refine lv_iload_n hx hb dX7_dueOf_1 rfl (lv_at hl 1 rfl) ?_
  refine lv_iconst (v := (1 : Int32)) hx hb dX7_dueOf_2 (by decide) ?_
  obtain ⟨r_1, e_1, h⟩ := nb_oE h
  refine nb_callV (n := 2) (As := [.int p0, .int (1 : Int32)]) (rest := []) hx hb hml hown hts hK hZ hP hS (k_X7_about had M N p0 (1 : Int32) e_1) gX7_dueOf_X7_about rfl (by decide +kernel) (nb_rm (Nat.le_of_ble_eq_true rfl) (Nat.le_of_ble_eq_true rfl)) nb_a52 rfl rfl rfl hl.1 rfl (Nat.le_of_ble_eq_true rfl) dX7_dueOf_3 (fun H locs hP hS => ?_)
  refine W.eq (g2 := F0 m 6 ls [.int r_1]) rfl ?_
  refine lv_aload_n hx hb dX7_dueOf_6 rfl (lv_at hl 0 rfl) ?_
  refine lv_iload_n hx hb dX7_dueOf_7 rfl (lv_at hl 1 rfl) ?_
  refine lv_iconst (v := (2 : Int32)) hx hb dX7_dueOf_8 (by decide) ?_
  obtain ⟨r_2, e_2, h⟩ := nb_oE h
  refine nb_callV (n := 2) (As := [.int p0, .int (2 : Int32)]) (rest := [.int r_1]) hx hb hml hown hts hK hZ hP hS (k_X7_about had M N p0 (2 : Int32) e_2) gX7_dueOf_X7_about rfl (by decide +kernel) (nb_rm (Nat.le_of_ble_eq_true rfl) (Nat.le_of_ble_eq_true rfl)) nb_a52 rfl rfl rfl hl.1 rfl (Nat.le_of_ble_eq_true rfl) dX7_dueOf_9 (fun H locs hP hS => ?_)
  refine W.eq (g2 := F0 m 12 ls [.int r_2, .int r_1]) rfl ?_
  refine lv_isub hx hb dX7_dueOf_12 ?_
  refine lv_topi (fun v_3 e_3 => ?_)
  have h := nb_nA e_3 h
  refine lv_istore_n (lv' := [(2, .int v_3), (0, .ref (ad 52)), (1, .int p0)]) hx hb dX7_dueOf_13 rfl hl (by decide) rfl (fun ls hl => ?_)
  refine lv_iload_n hx hb dX7_dueOf_14 rfl (lv_at hl 0 rfl) ?_
  refine lv_if_ge (tgt := 22) hx hb dX7_dueOf_15 (by decide) (fun c_4 => ?_) (fun c_4 => ?_)
  · have h := nb_t c_4 h
    refine lv_iload_n hx hb dX7_dueOf_22 rfl (lv_at hl 0 rfl) ?_
    obtain rfl := nb_e1 h
    exact nb_iret hx hb hr hlk hP hS dX7_dueOf_23
  · have h := nb_f c_4 h
    refine lv_iconst (v := (0 : Int32)) hx hb dX7_dueOf_18 (by decide) ?_
    refine lv_goto (tgt := 23) hx hb dX7_dueOf_19 (by decide) ?_
    obtain rfl := nb_e1 h
    exact nb_iret hx hb hr hlk hP hS dX7_dueOf_23
set_option maxHeartbeats 4000000 in
set_option maxRecDepth 100000 in
theorem k_X7_of {r : Int32} (had : nb_AD ad b0) (M N : nb_M) (p0 : Int32) (p1 : Int32) (h : f_X7_of M p0 p1 = some r) : nb_C l D ad ca b0 yX7_of wsX7_of 0 [.ref (ad 52), .int p0, .int p1] N M (some (.int r)) N M := by
  refine nb_of (cc := cX7_of) (maxL := 3) (ret := (some .int)) (own := RX7) (by decide +kernel) rfl rfl (Nat.le_of_ble_eq_true rfl) ?_
  intro p e s m args below meth c ls X hP hS hl
  have hl : lv_has ls 3 [(0, .ref (ad 52)), (1, .int p0), (2, .int p1)] := hl
  obtain ⟨hx, hb, hml, hown, hts, hr, hlk, hK, hZ⟩ := id X
  have w_1 := hts (.fieldLink RX7 9 "NineBreakagesModel" "row" "[I") (by decide +kernel)
  have in7 : ∀ w ∈ u_ws RX7 TX7 21, w ∈ wsX7_of := fun w q => List.mem_cons_of_mem _ (List.mem_append_right _ q)
  unfold f_X7_of at h
  refine lv_aload_n hx hb dX7_of_0 rfl (lv_at hl 0 rfl) ?_
  refine va_get (v := .ref (ad 53)) (C := RX7) (T := TX7) (N := 21) hx hb hts in7 hown hK.1 hP 52 nb_a52 rfl 0 (by decide) w_1 (fun _ h9 => h9) rfl dX7_of_1 ?_
  refine lv_bipush (v := (21 : Int32)) hx hb dX7_of_4 (by decide) ?_
  refine lv_iconst (v := (4 : Int32)) hx hb dX7_of_6 (by decide) ?_
  refine lv_iload_n hx hb dX7_of_7 rfl (lv_at hl 1 rfl) ?_
  refine lv_imul hx hb dX7_of_8 ?_
  refine lv_iadd hx hb dX7_of_9 ?_
  refine lv_iload_n hx hb dX7_of_10 rfl (lv_at hl 2 rfl) ?_
  refine lv_iadd hx hb dX7_of_11 ?_
  obtain ⟨c_1, h⟩ := nb_c h
  refine va_iald hx hb hK.1 hP 53 0 nb_a53 rfl c_1 dX7_of_12 ?_
  obtain rfl := nb_e1 h
  exact nb_iret hx hb hr hlk hP hS dX7_of_13
set_option maxHeartbeats 4000000 in
set_option maxRecDepth 100000 in
theorem w_X7_shards_4 {N : nb_M} {r : Int32} (had : nb_AD ad b0) (X : nb_X p s m args meth c cX7_shards 3 RX7 (some .int) wsX7_shards D ca b0) : ∀ (n : Nat) (M : nb_M) (x1 : Int32) (x2 : Int32), f_X7_shards_4 n M x1 x2 = some r → ∀ (H : Heap) (locs : List Loc), va_P D vwCl (nb_w ad ca N M) H → va_S (fun q => b0 ≤ q) s.heap H locs → ∀ ls : Array Slot, lv_has ls 3 [(0, .ref (ad 52)), (1, .int x1), (2, .int x2)] → W p l e (nb_R 1) s m args below meth c H locs 0 0 (nb_Q below args s D ad ca b0 (some (.int r)) N M) (F0 m 4 ls []) := by
  obtain ⟨hx, hb, hml, hown, hts, hr, hlk, hK, hZ⟩ := id X
  have w_1 := hts (.fieldLink RX7 9 "NineBreakagesModel" "row" "[I") (by decide +kernel)
  have in7 : ∀ w ∈ u_ws RX7 TX7 21, w ∈ wsX7_shards := fun w q => List.mem_cons_of_mem _ (List.mem_append_right _ q)
  intro n
  induction n with
  | zero =>
    intro M x1 x2 h
    rw [f_X7_shards_4] at h
    cases h
  | succ n ih =>
    intro M x1 x2 h H locs hP hS ls hl
    rw [f_X7_shards_4] at h
    refine lv_iload_n hx hb dX7_shards_4 rfl (lv_at hl 2 rfl) ?_
    refine lv_aload_n hx hb dX7_shards_5 rfl (lv_at hl 0 rfl) ?_
    refine va_get (v := .ref (ad 53)) (C := RX7) (T := TX7) (N := 21) hx hb hts in7 hown hK.1 hP 52 nb_a52 rfl 0 (by decide) w_1 (fun _ h9 => h9) rfl dX7_shards_6 ?_
    refine lv_iconst (v := (2 : Int32)) hx hb dX7_shards_9 (by decide) ?_
    refine va_iald hx hb hK.1 hP 53 0 nb_a53 rfl (nb_lit rfl) dX7_shards_10 ?_
    refine lv_icmp_ge (tgt := 38) hx hb dX7_shards_11 (by decide) (fun c_1 => ?_) (fun c_1 => ?_)
    · have h := nb_t c_1 h
      refine lv_iload_n hx hb dX7_shards_38 rfl (lv_at hl 1 rfl) ?_
      obtain rfl := nb_e1 h
      exact nb_iret hx hb hr hlk hP hS dX7_shards_39
    · have h := nb_f c_1 h
      refine lv_iload_n hx hb dX7_shards_14 rfl (lv_at hl 1 rfl) ?_
      refine lv_aload_n hx hb dX7_shards_15 rfl (lv_at hl 0 rfl) ?_
      refine lv_iload_n hx hb dX7_shards_16 rfl (lv_at hl 2 rfl) ?_
      refine lv_iconst (v := (3 : Int32)) hx hb dX7_shards_17 (by decide) ?_
      obtain ⟨r_2, e_2, h⟩ := nb_oE h
      refine nb_callV (n := 2) (As := [.int x2, .int (3 : Int32)]) (rest := [.int x1]) hx hb hml hown hts hK hZ hP hS (k_X7_of had M N x2 (3 : Int32) e_2) gX7_shards_X7_of rfl (by decide +kernel) (nb_rm (Nat.le_of_ble_eq_true rfl) (Nat.le_of_ble_eq_true rfl)) nb_a52 rfl rfl rfl hl.1 rfl (Nat.le_of_ble_eq_true rfl) dX7_shards_18 (fun H locs hP hS => ?_)
      refine W.eq (g2 := F0 m 21 ls [.int r_2, .int x1]) rfl ?_
      refine lv_iconst (v := (1 : Int32)) hx hb dX7_shards_21 (by decide) ?_
      refine lv_icmp_ne (tgt := 29) hx hb dX7_shards_22 (by decide) (fun c_3 => ?_) (fun c_3 => ?_)
      · have h := nb_f c_3 h
        refine lv_iconst (v := (0 : Int32)) hx hb dX7_shards_29 (by decide) ?_
        refine lv_iadd hx hb dX7_shards_30 ?_
        refine lv_topi (fun v_4 e_4 => ?_)
        have h := nb_nA e_4 h
        refine lv_istore_n (lv' := [(1, .int v_4), (0, .ref (ad 52)), (2, .int x2)]) hx hb dX7_shards_31 rfl hl (by decide) rfl (fun ls hl => ?_)
        refine lv_iinc (v := x2 + 1) (lv' := [(2, .int (x2 + 1)), (1, .int v_4), (0, .ref (ad 52))]) hx hb dX7_shards_32 hl (k := 2) rfl (congrArg (HAdd.hAdd x2) (by decide)) (by decide) rfl (fun ls hl => ?_)
        refine lv_goto (tgt := 4) hx hb dX7_shards_35 (by decide) ?_
        exact ih _ _ _ h _ _ hP hS _ (lv_sub hl [2, 1, 0] rfl)
      · have h := nb_t c_3 h
        refine lv_iconst (v := (1 : Int32)) hx hb dX7_shards_25 (by decide) ?_
        refine lv_goto (tgt := 30) hx hb dX7_shards_26 (by decide) ?_
        refine lv_iadd hx hb dX7_shards_30 ?_
        refine lv_topi (fun v_5 e_5 => ?_)
        have h := nb_nA e_5 h
        refine lv_istore_n (lv' := [(1, .int v_5), (0, .ref (ad 52)), (2, .int x2)]) hx hb dX7_shards_31 rfl hl (by decide) rfl (fun ls hl => ?_)
        refine lv_iinc (v := x2 + 1) (lv' := [(2, .int (x2 + 1)), (1, .int v_5), (0, .ref (ad 52))]) hx hb dX7_shards_32 hl (k := 2) rfl (congrArg (HAdd.hAdd x2) (by decide)) (by decide) rfl (fun ls hl => ?_)
        refine lv_goto (tgt := 4) hx hb dX7_shards_35 (by decide) ?_
        exact ih _ _ _ h _ _ hP hS _ (lv_sub hl [2, 1, 0] rfl)
set_option maxHeartbeats 4000000 in
set_option maxRecDepth 100000 in
theorem k_X7_shards {r : Int32} (had : nb_AD ad b0) (M N : nb_M) (h : f_X7_shards M = some r) : nb_C l D ad ca b0 yX7_shards wsX7_shards 1 [.ref (ad 52)] N M (some (.int r)) N M := by
  refine nb_of (cc := cX7_shards) (maxL := 3) (ret := (some .int)) (own := RX7) (by decide +kernel) rfl rfl (Nat.le_of_ble_eq_true rfl) ?_
  intro p e s m args below meth c ls X hP hS hl
  have hl : lv_has ls 3 [(0, .ref (ad 52))] := hl
  obtain ⟨hx, hb, hml, hown, hts, hr, hlk, hK, hZ⟩ := id X
  unfold f_X7_shards at h
  refine lv_iconst (v := (0 : Int32)) hx hb dX7_shards_0 (by decide) ?_
  refine lv_istore_n (lv' := [(1, .int (0 : Int32)), (0, .ref (ad 52))]) hx hb dX7_shards_1 rfl hl (by decide) rfl (fun ls hl => ?_)
  refine lv_iconst (v := (0 : Int32)) hx hb dX7_shards_2 (by decide) ?_
  refine lv_istore_n (lv' := [(2, .int (0 : Int32)), (1, .int (0 : Int32)), (0, .ref (ad 52))]) hx hb dX7_shards_3 rfl hl (by decide) rfl (fun ls hl => ?_)
  exact w_X7_shards_4 had X nb_F _ _ _ h _ _ hP hS _ (lv_sub hl [2, 1, 0] rfl)
set_option maxHeartbeats 4000000 in
set_option maxRecDepth 100000 in
theorem k_X7_held (had : nb_AD ad b0) (M N : nb_M) (p0 : Int32) (p1 : Int32) (p2 : Int32) : nb_C l D ad ca b0 yX7_held wsX7_held 0 [.int p0, .int p1, .int p2] N M (some (.int (f_X7_held p0 p1 p2))) N M := by
  obtain ⟨r, h⟩ : ∃ r, f_X7_held p0 p1 p2 = r := ⟨_, rfl⟩
  rw [h]
  refine nb_of (cc := cX7_held) (maxL := 3) (ret := (some .int)) (own := RX7) (by decide +kernel) rfl rfl (Nat.le_of_ble_eq_true rfl) ?_
  intro p e s m args below meth c ls X hP hS hl
  have hl : lv_has ls 3 [(0, .int p0), (1, .int p1), (2, .int p2)] := hl
  obtain ⟨hx, hb, hml, hown, hts, hr, hlk, hK, hZ⟩ := id X
  unfold f_X7_held at h
  refine lv_iload_n hx hb dX7_held_0 rfl (lv_at hl 0 rfl) ?_
  refine lv_iload_n hx hb dX7_held_1 rfl (lv_at hl 1 rfl) ?_
  refine lv_icmp_ge (tgt := 9) hx hb dX7_held_2 (by decide) (fun c_1 => ?_) (fun c_1 => ?_)
  · have h := nb_t c_1 h
    refine lv_iload_n hx hb dX7_held_9 rfl (lv_at hl 0 rfl) ?_
    refine lv_iload_n hx hb dX7_held_10 rfl (lv_at hl 2 rfl) ?_
    refine lv_icmp_le (tgt := 18) hx hb dX7_held_11 (by decide) (fun c_2 => ?_) (fun c_2 => ?_)
    · have h := nb_t c_2 h
      refine lv_iload_n hx hb dX7_held_18 rfl (lv_at hl 0 rfl) ?_
      obtain rfl := nb_e3 h
      exact nb_iret hx hb hr hlk hP hS dX7_held_19
    · have h := nb_f c_2 h
      refine lv_iload_n hx hb dX7_held_14 rfl (lv_at hl 2 rfl) ?_
      refine lv_goto (tgt := 19) hx hb dX7_held_15 (by decide) ?_
      obtain rfl := nb_e3 h
      exact nb_iret hx hb hr hlk hP hS dX7_held_19
  · have h := nb_f c_1 h
    refine lv_iload_n hx hb dX7_held_5 rfl (lv_at hl 1 rfl) ?_
    refine lv_goto (tgt := 19) hx hb dX7_held_6 (by decide) ?_
    obtain rfl := nb_e3 h
    exact nb_iret hx hb hr hlk hP hS dX7_held_19
set_option maxHeartbeats 4000000 in
set_option maxRecDepth 100000 in
theorem k_X7_twoOf {r : Int32} (had : nb_AD ad b0) (M N : nb_M) (p0 : Int32) (p1 : Int32) (p2 : Int32) (h : f_X7_twoOf p0 p1 p2 = some r) : nb_C l D ad ca b0 yX7_twoOf wsX7_twoOf 0 [.int p0, .int p1, .int p2] N M (some (.int r)) N M := by
  refine nb_of (cc := cX7_twoOf) (maxL := 3) (ret := (some .int)) (own := RX7) (by decide +kernel) rfl rfl (Nat.le_of_ble_eq_true rfl) ?_
  intro p e s m args below meth c ls X hP hS hl
  have hl : lv_has ls 3 [(0, .int p0), (1, .int p1), (2, .int p2)] := hl
  obtain ⟨hx, hb, hml, hown, hts, hr, hlk, hK, hZ⟩ := id X
  unfold f_X7_twoOf at h
  refine lv_iload_n hx hb dX7_twoOf_0 rfl (lv_at hl 0 rfl) ?_
  refine nb_tsw [(37, 144), (38, 189), (42, 128), (43, 120), (45, 124), (47, 132), (60, 156), (61, 167), (62, 178)] 203 hx hb dX7_twoOf_1 (by decide +kernel) ?_
  refine nb_split (fun c_1 => ?_) (fun c_1 => ?_)
  · have h := nb_t c_1 h
    refine lv_iload_n hx hb dX7_twoOf_144 rfl (lv_at hl 2 rfl) ?_
    refine lv_if_ne (tgt := 152) hx hb dX7_twoOf_145 (by decide) (fun c_2 => ?_) (fun c_2 => ?_)
    · have h := nb_f c_2 h
      refine lv_iload_n hx hb dX7_twoOf_152 rfl (lv_at hl 1 rfl) ?_
      refine lv_iload_n hx hb dX7_twoOf_153 rfl (lv_at hl 2 rfl) ?_
      obtain ⟨c_3, h⟩ := nb_c h
      refine lv_irem hx hb dX7_twoOf_154 c_3 ?_
      obtain rfl := nb_e1 h
      exact nb_iret hx hb hr hlk hP hS dX7_twoOf_155
    · have h := nb_t c_2 h
      refine lv_iconst (v := (0 : Int32)) hx hb dX7_twoOf_148 (by decide) ?_
      refine lv_goto (tgt := 155) hx hb dX7_twoOf_149 (by decide) ?_
      obtain rfl := nb_e1 h
      exact nb_iret hx hb hr hlk hP hS dX7_twoOf_155
  · have h := nb_f c_1 h
    refine nb_split (fun c_4 => ?_) (fun c_4 => ?_)
    · have h := nb_t c_4 h
      refine lv_iload_n hx hb dX7_twoOf_189 rfl (lv_at hl 1 rfl) ?_
      refine lv_if_eq (tgt := 201) hx hb dX7_twoOf_190 (by decide) (fun c_5 => ?_) (fun c_5 => ?_)
      · have h := nb_t c_5 h
        refine lv_iconst (v := (0 : Int32)) hx hb dX7_twoOf_201 (by decide) ?_
        obtain rfl := nb_e1 h
        exact nb_iret hx hb hr hlk hP hS dX7_twoOf_202
      · have h := nb_f c_5 h
        refine lv_iload_n hx hb dX7_twoOf_193 rfl (lv_at hl 2 rfl) ?_
        refine lv_if_eq (tgt := 201) hx hb dX7_twoOf_194 (by decide) (fun c_6 => ?_) (fun c_6 => ?_)
        · have h := nb_t c_6 h
          refine lv_iconst (v := (0 : Int32)) hx hb dX7_twoOf_201 (by decide) ?_
          obtain rfl := nb_e1 h
          exact nb_iret hx hb hr hlk hP hS dX7_twoOf_202
        · have h := nb_f c_6 h
          refine lv_iconst (v := (1 : Int32)) hx hb dX7_twoOf_197 (by decide) ?_
          refine lv_goto (tgt := 202) hx hb dX7_twoOf_198 (by decide) ?_
          obtain rfl := nb_e1 h
          exact nb_iret hx hb hr hlk hP hS dX7_twoOf_202
    · have h := nb_f c_4 h
      refine nb_split (fun c_7 => ?_) (fun c_7 => ?_)
      · have h := nb_t c_7 h
        refine lv_iload_n hx hb dX7_twoOf_128 rfl (lv_at hl 1 rfl) ?_
        refine lv_iload_n hx hb dX7_twoOf_129 rfl (lv_at hl 2 rfl) ?_
        refine lv_imul hx hb dX7_twoOf_130 ?_
        obtain rfl := nb_e1 h
        exact nb_iret hx hb hr hlk hP hS dX7_twoOf_131
      · have h := nb_f c_7 h
        refine nb_split (fun c_8 => ?_) (fun c_8 => ?_)
        · have h := nb_t c_8 h
          refine lv_iload_n hx hb dX7_twoOf_120 rfl (lv_at hl 1 rfl) ?_
          refine lv_iload_n hx hb dX7_twoOf_121 rfl (lv_at hl 2 rfl) ?_
          refine lv_iadd hx hb dX7_twoOf_122 ?_
          obtain rfl := nb_e1 h
          exact nb_iret hx hb hr hlk hP hS dX7_twoOf_123
        · have h := nb_f c_8 h
          refine nb_split (fun c_9 => ?_) (fun c_9 => ?_)
          · have h := nb_t c_9 h
            refine lv_iload_n hx hb dX7_twoOf_124 rfl (lv_at hl 1 rfl) ?_
            refine lv_iload_n hx hb dX7_twoOf_125 rfl (lv_at hl 2 rfl) ?_
            refine lv_isub hx hb dX7_twoOf_126 ?_
            obtain rfl := nb_e1 h
            exact nb_iret hx hb hr hlk hP hS dX7_twoOf_127
          · have h := nb_f c_9 h
            refine nb_split (fun c_10 => ?_) (fun c_10 => ?_)
            · have h := nb_t c_10 h
              refine lv_iload_n hx hb dX7_twoOf_132 rfl (lv_at hl 2 rfl) ?_
              refine lv_if_ne (tgt := 140) hx hb dX7_twoOf_133 (by decide) (fun c_11 => ?_) (fun c_11 => ?_)
              · have h := nb_f c_11 h
                refine lv_iload_n hx hb dX7_twoOf_140 rfl (lv_at hl 1 rfl) ?_
                refine lv_iload_n hx hb dX7_twoOf_141 rfl (lv_at hl 2 rfl) ?_
                obtain ⟨c_12, h⟩ := nb_c h
                refine lv_idiv hx hb dX7_twoOf_142 c_12 ?_
                obtain rfl := nb_e1 h
                exact nb_iret hx hb hr hlk hP hS dX7_twoOf_143
              · have h := nb_t c_11 h
                refine lv_iconst (v := (0 : Int32)) hx hb dX7_twoOf_136 (by decide) ?_
                refine lv_goto (tgt := 143) hx hb dX7_twoOf_137 (by decide) ?_
                obtain rfl := nb_e1 h
                exact nb_iret hx hb hr hlk hP hS dX7_twoOf_143
            · have h := nb_f c_10 h
              refine nb_split (fun c_13 => ?_) (fun c_13 => ?_)
              · have h := nb_t c_13 h
                refine lv_iload_n hx hb dX7_twoOf_156 rfl (lv_at hl 1 rfl) ?_
                refine lv_iload_n hx hb dX7_twoOf_157 rfl (lv_at hl 2 rfl) ?_
                refine lv_icmp_ge (tgt := 165) hx hb dX7_twoOf_158 (by decide) (fun c_14 => ?_) (fun c_14 => ?_)
                · have h := nb_t c_14 h
                  refine lv_iconst (v := (0 : Int32)) hx hb dX7_twoOf_165 (by decide) ?_
                  obtain rfl := nb_e1 h
                  exact nb_iret hx hb hr hlk hP hS dX7_twoOf_166
                · have h := nb_f c_14 h
                  refine lv_iconst (v := (1 : Int32)) hx hb dX7_twoOf_161 (by decide) ?_
                  refine lv_goto (tgt := 166) hx hb dX7_twoOf_162 (by decide) ?_
                  obtain rfl := nb_e1 h
                  exact nb_iret hx hb hr hlk hP hS dX7_twoOf_166
              · have h := nb_f c_13 h
                refine nb_split (fun c_15 => ?_) (fun c_15 => ?_)
                · have h := nb_t c_15 h
                  refine lv_iload_n hx hb dX7_twoOf_167 rfl (lv_at hl 1 rfl) ?_
                  refine lv_iload_n hx hb dX7_twoOf_168 rfl (lv_at hl 2 rfl) ?_
                  refine lv_icmp_ne (tgt := 176) hx hb dX7_twoOf_169 (by decide) (fun c_16 => ?_) (fun c_16 => ?_)
                  · have h := nb_f c_16 h
                    refine lv_iconst (v := (0 : Int32)) hx hb dX7_twoOf_176 (by decide) ?_
                    obtain rfl := nb_e1 h
                    exact nb_iret hx hb hr hlk hP hS dX7_twoOf_177
                  · have h := nb_t c_16 h
                    refine lv_iconst (v := (1 : Int32)) hx hb dX7_twoOf_172 (by decide) ?_
                    refine lv_goto (tgt := 177) hx hb dX7_twoOf_173 (by decide) ?_
                    obtain rfl := nb_e1 h
                    exact nb_iret hx hb hr hlk hP hS dX7_twoOf_177
                · have h := nb_f c_15 h
                  refine nb_split (fun c_17 => ?_) (fun c_17 => ?_)
                  · have h := nb_t c_17 h
                    refine lv_iload_n hx hb dX7_twoOf_178 rfl (lv_at hl 1 rfl) ?_
                    refine lv_iload_n hx hb dX7_twoOf_179 rfl (lv_at hl 2 rfl) ?_
                    refine lv_icmp_le (tgt := 187) hx hb dX7_twoOf_180 (by decide) (fun c_18 => ?_) (fun c_18 => ?_)
                    · have h := nb_t c_18 h
                      refine lv_iconst (v := (0 : Int32)) hx hb dX7_twoOf_187 (by decide) ?_
                      obtain rfl := nb_e1 h
                      exact nb_iret hx hb hr hlk hP hS dX7_twoOf_188
                    · have h := nb_f c_18 h
                      refine lv_iconst (v := (1 : Int32)) hx hb dX7_twoOf_183 (by decide) ?_
                      refine lv_goto (tgt := 188) hx hb dX7_twoOf_184 (by decide) ?_
                      obtain rfl := nb_e1 h
                      exact nb_iret hx hb hr hlk hP hS dX7_twoOf_188
                  · have h := nb_f c_17 h
                    refine W.eq (g2 := F0 m 203 ls []) rfl ?_
                    refine lv_iload_n hx hb dX7_twoOf_203 rfl (lv_at hl 1 rfl) ?_
                    refine lv_if_ne (tgt := 211) hx hb dX7_twoOf_204 (by decide) (fun c_19 => ?_) (fun c_19 => ?_)
                    · have h := nb_f c_19 h
                      refine lv_iconst (v := (1 : Int32)) hx hb dX7_twoOf_211 (by decide) ?_
                      refine lv_goto (tgt := 216) hx hb dX7_twoOf_212 (by decide) ?_
                      obtain rfl := nb_e1 h
                      exact nb_iret hx hb hr hlk hP hS dX7_twoOf_216
                    · have h := nb_t c_19 h
                      refine lv_iload_n hx hb dX7_twoOf_207 rfl (lv_at hl 2 rfl) ?_
                      refine lv_if_eq (tgt := 215) hx hb dX7_twoOf_208 (by decide) (fun c_20 => ?_) (fun c_20 => ?_)
                      · have h := nb_t c_20 h
                        refine lv_iconst (v := (0 : Int32)) hx hb dX7_twoOf_215 (by decide) ?_
                        obtain rfl := nb_e1 h
                        exact nb_iret hx hb hr hlk hP hS dX7_twoOf_216
                      · have h := nb_f c_20 h
                        refine lv_iconst (v := (1 : Int32)) hx hb dX7_twoOf_211 (by decide) ?_
                        refine lv_goto (tgt := 216) hx hb dX7_twoOf_212 (by decide) ?_
                        obtain rfl := nb_e1 h
                        exact nb_iret hx hb hr hlk hP hS dX7_twoOf_216
set_option maxHeartbeats 4000000 in
set_option maxRecDepth 100000 in
theorem w_X7_works_4 {N : nb_M} {r : Int32} {M' : nb_M} (had : nb_AD ad b0) (X : nb_X p s m args meth c cX7_works 5 RX7 (some .int) wsX7_works D ca b0) : ∀ (n : Nat) (M : nb_M) (x1 : Int32) (x2 : Int32) (x3 : Int32), f_X7_works_4 n M x1 x2 x3 = some (r, M') → ∀ (H : Heap) (locs : List Loc), va_P D vwCl (nb_w ad ca N M) H → va_S (fun q => b0 ≤ q) s.heap H locs → ∀ ls : Array Slot, lv_has ls 5 [(0, .ref (ad 52)), (1, .int x1), (2, .int x2), (3, .int x3)] → W p l e (nb_R 1) s m args below meth c H locs 0 0 (nb_Q below args s D ad ca b0 (some (.int r)) N M') (F0 m 4 ls []) := by
  obtain ⟨hx, hb, hml, hown, hts, hr, hlk, hK, hZ⟩ := id X
  have w_1 := hts (.fieldLink RX7 9 "NineBreakagesModel" "row" "[I") (by decide +kernel)
  have in7 : ∀ w ∈ u_ws RX7 TX7 21, w ∈ wsX7_works := fun w q => List.mem_cons_of_mem _ (List.mem_append_right _ q)
  have w_3 := hts (.fieldLink RX7 37 "NineBreakagesModel" "pile" "[I") (by decide +kernel)
  have w_4 := hts (.fieldLink RX7 34 "NineBreakagesModel" "facts" "[I") (by decide +kernel)
  intro n
  induction n with
  | zero =>
    intro M x1 x2 x3 h
    rw [f_X7_works_4] at h
    cases h
  | succ n ih =>
    intro M x1 x2 x3 h H locs hP hS ls hl
    rw [f_X7_works_4] at h
    refine lv_iload_n hx hb dX7_works_4 rfl (lv_at hl 3 rfl) ?_
    refine lv_aload_n hx hb dX7_works_5 rfl (lv_at hl 0 rfl) ?_
    refine va_get (v := .ref (ad 53)) (C := RX7) (T := TX7) (N := 21) hx hb hts in7 hown hK.1 hP 52 nb_a52 rfl 0 (by decide) w_1 (fun _ h9 => h9) rfl dX7_works_6 ?_
    refine lv_iload_n hx hb dX7_works_9 rfl (lv_at hl 1 rfl) ?_
    obtain ⟨c_1, h⟩ := nb_c h
    refine va_iald hx hb hK.1 hP 53 0 nb_a53 rfl c_1 dX7_works_10 ?_
    refine lv_icmp_ge (tgt := 155) hx hb dX7_works_11 (by decide) (fun c_2 => ?_) (fun c_2 => ?_)
    · have h := nb_t c_2 h
      refine lv_aload_n hx hb dX7_works_155 rfl (lv_at hl 0 rfl) ?_
      refine va_get (v := .ref (ad 62)) (C := RX7) (T := TX7) (N := 21) hx hb hts in7 hown hK.1 hP 52 nb_a52 rfl 10 (by decide) w_3 (fun _ h9 => h9) rfl dX7_works_156 ?_
      refine lv_iconst (v := (0 : Int32)) hx hb dX7_works_159 (by decide) ?_
      refine va_iald hx hb hK.1 hP 62 0 nb_a62 rfl (nb_lit rfl) dX7_works_160 ?_
      obtain ⟨rfl, rfl⟩ := nb_e2 h
      exact nb_iret hx hb hr hlk hP hS dX7_works_161
    · have h := nb_f c_2 h
      refine lv_aload_n hx hb dX7_works_14 rfl (lv_at hl 0 rfl) ?_
      refine va_get (v := .ref (ad 53)) (C := RX7) (T := TX7) (N := 21) hx hb hts in7 hown hK.1 hP 52 nb_a52 rfl 0 (by decide) w_1 (fun _ h9 => h9) rfl dX7_works_15 ?_
      refine lv_iload_n hx hb dX7_works_18 rfl (lv_at hl 1 rfl) ?_
      refine lv_iconst (v := (1 : Int32)) hx hb dX7_works_19 (by decide) ?_
      refine lv_iadd hx hb dX7_works_20 ?_
      refine lv_iload_n hx hb dX7_works_21 rfl (lv_at hl 3 rfl) ?_
      refine lv_iadd hx hb dX7_works_22 ?_
      obtain ⟨c_3, h⟩ := nb_c h
      refine va_iald hx hb hK.1 hP 53 0 nb_a53 rfl c_3 dX7_works_23 ?_
      refine lv_topi (fun v_4 e_4 => ?_)
      have h := nb_nA e_4 h
      refine lv_istore (lv' := [(4, .int v_4), (0, .ref (ad 52)), (1, .int x1), (2, .int x2), (3, .int x3)]) hx hb dX7_works_24 hl (by decide) rfl (fun ls hl => ?_)
      refine lv_iload hx hb dX7_works_26 (lv_at hl 0 rfl) ?_
      refine lv_iconst (v := (1 : Int32)) hx hb dX7_works_28 (by decide) ?_
      refine lv_icmp_eq (tgt := 38) hx hb dX7_works_29 (by decide) (fun c_5 => ?_) (fun c_5 => ?_)
      · have h := nb_t c_5 h
        refine lv_aload_n hx hb dX7_works_38 rfl (lv_at hl 1 rfl) ?_
        refine va_get (v := .ref (ad 62)) (C := RX7) (T := TX7) (N := 21) hx hb hts in7 hown hK.1 hP 52 nb_a52 rfl 10 (by decide) w_3 (fun _ h9 => h9) rfl dX7_works_39 ?_
        refine lv_iload_n hx hb dX7_works_42 rfl (lv_at hl 3 rfl) ?_
        refine lv_iload hx hb dX7_works_43 (lv_at hl 0 rfl) ?_
        refine lv_iconst (v := (1 : Int32)) hx hb dX7_works_45 (by decide) ?_
        refine lv_icmp_ne (tgt := 63) hx hb dX7_works_46 (by decide) (fun c_6 => absurd c_5 c_6) (fun _ => ?_)
        refine lv_aload_n hx hb dX7_works_49 rfl (lv_at hl 1 rfl) ?_
        refine va_get (v := .ref (ad 53)) (C := RX7) (T := TX7) (N := 21) hx hb hts in7 hown hK.1 hP 52 nb_a52 rfl 0 (by decide) w_1 (fun _ h9 => h9) rfl dX7_works_50 ?_
        refine lv_iload_n hx hb dX7_works_53 rfl (lv_at hl 2 rfl) ?_
        refine lv_bipush (v := (61 : Int32)) hx hb dX7_works_54 (by decide) ?_
        refine lv_iadd hx hb dX7_works_56 ?_
        refine lv_iload_n hx hb dX7_works_57 rfl (lv_at hl 4 rfl) ?_
        refine lv_iadd hx hb dX7_works_58 ?_
        obtain ⟨c_7, h⟩ := nb_c h
        refine va_iald hx hb hK.1 hP 53 0 nb_a53 rfl c_7 dX7_works_59 ?_
        refine lv_goto (tgt := 79) hx hb dX7_works_60 (by decide) ?_
        obtain ⟨c_8, h⟩ := nb_c h
        refine nb_iast hx hb had hK hP hS nb_a62 c_8 (nb_t62 _ _) dX7_works_79 (fun H locs hP hS => ?_)
        obtain ⟨M_9, e_9, h⟩ := nb_nE h
        rw [e_9] at hP
        refine lv_iinc (v := x2 + 1) (lv' := [(2, .int (x2 + 1)), (4, .int v_4), (0, .ref (ad 52)), (1, .int x1), (3, .int x3)]) hx hb dX7_works_80 hl (k := 3) rfl (congrArg (HAdd.hAdd x2) (by decide)) (by decide) rfl (fun ls hl => ?_)
        refine lv_goto (tgt := 149) hx hb dX7_works_83 (by decide) ?_
        refine lv_iinc (v := x3 + 1) (lv' := [(3, .int (x3 + 1)), (2, .int (x2 + 1)), (4, .int v_4), (0, .ref (ad 52)), (1, .int x1)]) hx hb dX7_works_149 hl (k := 4) rfl (congrArg (HAdd.hAdd x3) (by decide)) (by decide) rfl (fun ls hl => ?_)
        refine lv_goto (tgt := 4) hx hb dX7_works_152 (by decide) ?_
        exact ih _ _ _ _ h _ _ hP hS _ (lv_sub hl [3, 4, 1, 0] rfl)
      · have h := nb_f c_5 h
        refine lv_iload hx hb dX7_works_32 (lv_at hl 0 rfl) ?_
        refine lv_iconst (v := (2 : Int32)) hx hb dX7_works_34 (by decide) ?_
        refine lv_icmp_ne (tgt := 86) hx hb dX7_works_35 (by decide) (fun c_10 => ?_) (fun c_10 => ?_)
        · have h := nb_f c_10 h
          refine lv_iload hx hb dX7_works_86 (lv_at hl 0 rfl) ?_
          refine lv_iconst (v := (3 : Int32)) hx hb dX7_works_88 (by decide) ?_
          refine lv_icmp_ne (tgt := 119) hx hb dX7_works_89 (by decide) (fun c_11 => ?_) (fun c_11 => ?_)
          · have h := nb_f c_11 h
            refine lv_iinc (v := x2 + (-1)) (lv' := [(2, .int (x2 + (-1))), (4, .int v_4), (0, .ref (ad 52)), (1, .int x1), (3, .int x3)]) hx hb dX7_works_119 hl (k := 3) rfl (congrArg (HAdd.hAdd x2) (by decide)) (by decide) rfl (fun ls hl => ?_)
            refine lv_aload_n hx hb dX7_works_122 rfl (lv_at hl 2 rfl) ?_
            refine va_get (v := .ref (ad 62)) (C := RX7) (T := TX7) (N := 21) hx hb hts in7 hown hK.1 hP 52 nb_a52 rfl 10 (by decide) w_3 (fun _ h9 => h9) rfl dX7_works_123 ?_
            refine lv_iload_n hx hb dX7_works_126 rfl (lv_at hl 0 rfl) ?_
            refine lv_iconst (v := (1 : Int32)) hx hb dX7_works_127 (by decide) ?_
            refine lv_isub hx hb dX7_works_128 ?_
            refine lv_iload hx hb dX7_works_129 (lv_at hl 1 rfl) ?_
            refine lv_aload_n hx hb dX7_works_131 rfl (lv_at hl 2 rfl) ?_
            refine va_get (v := .ref (ad 62)) (C := RX7) (T := TX7) (N := 21) hx hb hts in7 hown hK.1 hP 52 nb_a52 rfl 10 (by decide) w_3 (fun _ h9 => h9) rfl dX7_works_132 ?_
            refine lv_iload_n hx hb dX7_works_135 rfl (lv_at hl 0 rfl) ?_
            refine lv_iconst (v := (1 : Int32)) hx hb dX7_works_136 (by decide) ?_
            refine lv_isub hx hb dX7_works_137 ?_
            obtain ⟨c_12, h⟩ := nb_c h
            refine va_iald hx hb hK.1 hP 62 0 nb_a62 rfl c_12 dX7_works_138 ?_
            refine lv_aload_n hx hb dX7_works_139 rfl (lv_at hl 2 rfl) ?_
            refine va_get (v := .ref (ad 62)) (C := RX7) (T := TX7) (N := 21) hx hb hts in7 hown hK.1 hP 52 nb_a52 rfl 10 (by decide) w_3 (fun _ h9 => h9) rfl dX7_works_140 ?_
            refine lv_iload_n hx hb dX7_works_143 rfl (lv_at hl 0 rfl) ?_
            obtain ⟨c_13, h⟩ := nb_c h
            refine va_iald hx hb hK.1 hP 62 0 nb_a62 rfl c_13 dX7_works_144 ?_
            obtain ⟨r_14, e_14, h⟩ := nb_oE h
            refine nb_callS (n := 3) (As := [.int v_4, .int (M.1 10 ((x2 + (-1)) - (1 : Int32)).toNatClampNeg), .int (M.1 10 (x2 + (-1)).toNatClampNeg)]) (rest := [.int ((x2 + (-1)) - (1 : Int32)), .ref (ad 62)]) hx hb hml hown hts hK hZ hP hS (k_X7_twoOf had M N v_4 (M.1 10 ((x2 + (-1)) - (1 : Int32)).toNatClampNeg) (M.1 10 (x2 + (-1)).toNatClampNeg) e_14) gX7_works_X7_twoOf rfl (by decide +kernel) (nb_rm (Nat.le_of_ble_eq_true rfl) (Nat.le_of_ble_eq_true rfl)) rfl hl.1 rfl (Nat.le_of_ble_eq_true rfl) dX7_works_145 (fun H locs hP hS => ?_)
            refine W.eq (g2 := F0 m 148 ls [.int r_14, .int ((x2 + (-1)) - (1 : Int32)), .ref (ad 62)]) rfl ?_
            refine nb_iast hx hb had hK hP hS nb_a62 c_12 (nb_t62 _ _) dX7_works_148 (fun H locs hP hS => ?_)
            obtain ⟨M_15, e_15, h⟩ := nb_nE h
            rw [e_15] at hP
            refine lv_iinc (v := x3 + 1) (lv' := [(3, .int (x3 + 1)), (2, .int (x2 + (-1))), (4, .int v_4), (0, .ref (ad 52)), (1, .int x1)]) hx hb dX7_works_149 hl (k := 4) rfl (congrArg (HAdd.hAdd x3) (by decide)) (by decide) rfl (fun ls hl => ?_)
            refine lv_goto (tgt := 4) hx hb dX7_works_152 (by decide) ?_
            exact ih _ _ _ _ h _ _ hP hS _ (lv_sub hl [3, 4, 1, 0] rfl)
          · have h := nb_t c_11 h
            refine lv_aload_n hx hb dX7_works_92 rfl (lv_at hl 1 rfl) ?_
            refine va_get (v := .ref (ad 62)) (C := RX7) (T := TX7) (N := 21) hx hb hts in7 hown hK.1 hP 52 nb_a52 rfl 10 (by decide) w_3 (fun _ h9 => h9) rfl dX7_works_93 ?_
            refine lv_iload_n hx hb dX7_works_96 rfl (lv_at hl 3 rfl) ?_
            refine lv_iconst (v := (1 : Int32)) hx hb dX7_works_97 (by decide) ?_
            refine lv_isub hx hb dX7_works_98 ?_
            refine lv_aload_n hx hb dX7_works_99 rfl (lv_at hl 1 rfl) ?_
            refine va_get (v := .ref (ad 62)) (C := RX7) (T := TX7) (N := 21) hx hb hts in7 hown hK.1 hP 52 nb_a52 rfl 10 (by decide) w_3 (fun _ h9 => h9) rfl dX7_works_100 ?_
            refine lv_iload_n hx hb dX7_works_103 rfl (lv_at hl 3 rfl) ?_
            refine lv_iconst (v := (1 : Int32)) hx hb dX7_works_104 (by decide) ?_
            refine lv_isub hx hb dX7_works_105 ?_
            obtain ⟨c_16, h⟩ := nb_c h
            refine va_iald hx hb hK.1 hP 62 0 nb_a62 rfl c_16 dX7_works_106 ?_
            refine lv_if_ne (tgt := 114) hx hb dX7_works_107 (by decide) (fun c_17 => ?_) (fun c_17 => ?_)
            · have h := nb_f c_17 h
              refine lv_iconst (v := (0 : Int32)) hx hb dX7_works_114 (by decide) ?_
              refine nb_iast hx hb had hK hP hS nb_a62 c_16 (nb_t62 _ _) dX7_works_115 (fun H locs hP hS => ?_)
              obtain ⟨M_18, e_18, h⟩ := nb_nE h
              rw [e_18] at hP
              refine lv_goto (tgt := 149) hx hb dX7_works_116 (by decide) ?_
              refine lv_iinc (v := x3 + 1) (lv' := [(3, .int (x3 + 1)), (4, .int v_4), (0, .ref (ad 52)), (1, .int x1), (2, .int x2)]) hx hb dX7_works_149 hl (k := 4) rfl (congrArg (HAdd.hAdd x3) (by decide)) (by decide) rfl (fun ls hl => ?_)
              refine lv_goto (tgt := 4) hx hb dX7_works_152 (by decide) ?_
              exact ih _ _ _ _ h _ _ hP hS _ (lv_sub hl [2, 3, 4, 0] rfl)
            · have h := nb_t c_17 h
              refine lv_iconst (v := (1 : Int32)) hx hb dX7_works_110 (by decide) ?_
              refine lv_goto (tgt := 115) hx hb dX7_works_111 (by decide) ?_
              refine nb_iast hx hb had hK hP hS nb_a62 c_16 (nb_t62 _ _) dX7_works_115 (fun H locs hP hS => ?_)
              obtain ⟨M_19, e_19, h⟩ := nb_nE h
              rw [e_19] at hP
              refine lv_goto (tgt := 149) hx hb dX7_works_116 (by decide) ?_
              refine lv_iinc (v := x3 + 1) (lv' := [(3, .int (x3 + 1)), (4, .int v_4), (0, .ref (ad 52)), (1, .int x1), (2, .int x2)]) hx hb dX7_works_149 hl (k := 4) rfl (congrArg (HAdd.hAdd x3) (by decide)) (by decide) rfl (fun ls hl => ?_)
              refine lv_goto (tgt := 4) hx hb dX7_works_152 (by decide) ?_
              exact ih _ _ _ _ h _ _ hP hS _ (lv_sub hl [2, 3, 4, 0] rfl)
        · have h := nb_t c_10 h
          refine lv_aload_n hx hb dX7_works_38 rfl (lv_at hl 1 rfl) ?_
          refine va_get (v := .ref (ad 62)) (C := RX7) (T := TX7) (N := 21) hx hb hts in7 hown hK.1 hP 52 nb_a52 rfl 10 (by decide) w_3 (fun _ h9 => h9) rfl dX7_works_39 ?_
          refine lv_iload_n hx hb dX7_works_42 rfl (lv_at hl 3 rfl) ?_
          refine lv_iload hx hb dX7_works_43 (lv_at hl 0 rfl) ?_
          refine lv_iconst (v := (1 : Int32)) hx hb dX7_works_45 (by decide) ?_
          refine lv_icmp_ne (tgt := 63) hx hb dX7_works_46 (by decide) (fun _ => ?_) (fun c_20 => absurd c_20 (by rw [c_10]; decide))
          refine lv_aload_n hx hb dX7_works_63 rfl (lv_at hl 1 rfl) ?_
          refine va_get (v := .ref (ad 61)) (C := RX7) (T := TX7) (N := 21) hx hb hts in7 hown hK.1 hP 52 nb_a52 rfl 9 (by decide) w_4 (fun _ h9 => h9) rfl dX7_works_64 ?_
          refine lv_aload_n hx hb dX7_works_67 rfl (lv_at hl 1 rfl) ?_
          refine va_get (v := .ref (ad 53)) (C := RX7) (T := TX7) (N := 21) hx hb hts in7 hown hK.1 hP 52 nb_a52 rfl 0 (by decide) w_1 (fun _ h9 => h9) rfl dX7_works_68 ?_
          refine lv_iload_n hx hb dX7_works_71 rfl (lv_at hl 2 rfl) ?_
          refine lv_bipush (v := (61 : Int32)) hx hb dX7_works_72 (by decide) ?_
          refine lv_iadd hx hb dX7_works_74 ?_
          refine lv_iload_n hx hb dX7_works_75 rfl (lv_at hl 4 rfl) ?_
          refine lv_iadd hx hb dX7_works_76 ?_
          obtain ⟨c_21, h⟩ := nb_c h
          refine va_iald hx hb hK.1 hP 53 0 nb_a53 rfl c_21 dX7_works_77 ?_
          obtain ⟨c_22, h⟩ := nb_c h
          refine va_iald hx hb hK.1 hP 61 0 nb_a61 rfl c_22 dX7_works_78 ?_
          obtain ⟨c_23, h⟩ := nb_c h
          refine nb_iast hx hb had hK hP hS nb_a62 c_23 (nb_t62 _ _) dX7_works_79 (fun H locs hP hS => ?_)
          obtain ⟨M_24, e_24, h⟩ := nb_nE h
          rw [e_24] at hP
          refine lv_iinc (v := x2 + 1) (lv' := [(2, .int (x2 + 1)), (4, .int v_4), (0, .ref (ad 52)), (1, .int x1), (3, .int x3)]) hx hb dX7_works_80 hl (k := 3) rfl (congrArg (HAdd.hAdd x2) (by decide)) (by decide) rfl (fun ls hl => ?_)
          refine lv_goto (tgt := 149) hx hb dX7_works_83 (by decide) ?_
          refine lv_iinc (v := x3 + 1) (lv' := [(3, .int (x3 + 1)), (2, .int (x2 + 1)), (4, .int v_4), (0, .ref (ad 52)), (1, .int x1)]) hx hb dX7_works_149 hl (k := 4) rfl (congrArg (HAdd.hAdd x3) (by decide)) (by decide) rfl (fun ls hl => ?_)
          refine lv_goto (tgt := 4) hx hb dX7_works_152 (by decide) ?_
          exact ih _ _ _ _ h _ _ hP hS _ (lv_sub hl [3, 4, 1, 0] rfl)
set_option maxHeartbeats 4000000 in
set_option maxRecDepth 100000 in
theorem k_X7_works {r : Int32} {M' : nb_M} (had : nb_AD ad b0) (M N : nb_M) (p0 : Int32) (h : f_X7_works M p0 = some (r, M')) : nb_C l D ad ca b0 yX7_works wsX7_works 1 [.ref (ad 52), .int p0] N M (some (.int r)) N M' := by
  refine nb_of (cc := cX7_works) (maxL := 5) (ret := (some .int)) (own := RX7) (by decide +kernel) rfl rfl (Nat.le_of_ble_eq_true rfl) ?_
  intro p e s m args below meth c ls X hP hS hl
  have hl : lv_has ls 5 [(0, .ref (ad 52)), (1, .int p0)] := hl
  obtain ⟨hx, hb, hml, hown, hts, hr, hlk, hK, hZ⟩ := id X
  unfold f_X7_works at h
  refine lv_iconst (v := (0 : Int32)) hx hb dX7_works_0 (by decide) ?_
  refine lv_istore_n (lv' := [(2, .int (0 : Int32)), (0, .ref (ad 52)), (1, .int p0)]) hx hb dX7_works_1 rfl hl (by decide) rfl (fun ls hl => ?_)
  refine lv_iconst (v := (0 : Int32)) hx hb dX7_works_2 (by decide) ?_
  refine lv_istore_n (lv' := [(3, .int (0 : Int32)), (2, .int (0 : Int32)), (0, .ref (ad 52)), (1, .int p0)]) hx hb dX7_works_3 rfl hl (by decide) rfl (fun ls hl => ?_)
  exact w_X7_works_4 had X nb_F _ _ _ _ h _ _ hP hS _ (lv_sub hl [2, 3, 1, 0] rfl)
set_option maxHeartbeats 4000000 in
set_option maxRecDepth 100000 in
theorem k_X7_gives {r : Int32} {M' : nb_M} (had : nb_AD ad b0) (M N : nb_M) (p0 : Int32) (p1 : Int32) (p2 : Int32) (p3 : Int32) (h : f_X7_gives M p0 p1 p2 p3 = some (r, M')) : nb_C l D ad ca b0 yX7_gives wsX7_gives 2 [.ref (ad 52), .int p0, .int p1, .int p2, .int p3] N M (some (.int r)) N M' := by
  refine nb_of (cc := cX7_gives) (maxL := 7) (ret := (some .int)) (own := RX7) (by decide +kernel) rfl rfl (Nat.le_of_ble_eq_true rfl) ?_
  intro p e s m args below meth c ls X hP hS hl
  have hl : lv_has ls 7 [(0, .ref (ad 52)), (1, .int p0), (2, .int p1), (3, .int p2), (4, .int p3)] := hl
  obtain ⟨hx, hb, hml, hown, hts, hr, hlk, hK, hZ⟩ := id X
  have w_1 := hts (.fieldLink RX7 34 "NineBreakagesModel" "facts" "[I") (by decide +kernel)
  have in7 : ∀ w ∈ u_ws RX7 TX7 21, w ∈ wsX7_gives := fun w q => List.mem_cons_of_mem _ (List.mem_append_right _ q)
  have w_3 := hts (.fieldLink RX7 9 "NineBreakagesModel" "row" "[I") (by decide +kernel)
  unfold f_X7_gives at h
  refine lv_sipush (v := (141 : Int32)) hx hb dX7_gives_0 (by decide) ?_
  refine lv_bipush (v := (121 : Int32)) hx hb dX7_gives_3 (by decide) ?_
  refine lv_iload_n hx hb dX7_gives_5 rfl (lv_at hl 1 rfl) ?_
  refine lv_imul hx hb dX7_gives_6 ?_
  refine lv_iadd hx hb dX7_gives_7 ?_
  refine lv_topi (fun v_1 e_1 => ?_)
  have h := nb_nA e_1 h
  refine lv_istore (lv' := [(5, .int v_1), (0, .ref (ad 52)), (1, .int p0), (2, .int p1), (3, .int p2), (4, .int p3)]) hx hb dX7_gives_8 hl (by decide) rfl (fun ls hl => ?_)
  refine lv_aload_n hx hb dX7_gives_10 rfl (lv_at hl 1 rfl) ?_
  refine va_get (v := .ref (ad 61)) (C := RX7) (T := TX7) (N := 21) hx hb hts in7 hown hK.1 hP 52 nb_a52 rfl 9 (by decide) w_1 (fun _ h9 => h9) rfl dX7_gives_11 ?_
  refine lv_iconst (v := (0 : Int32)) hx hb dX7_gives_14 (by decide) ?_
  refine lv_iload_n hx hb dX7_gives_15 rfl (lv_at hl 3 rfl) ?_
  refine nb_iast hx hb had hK hP hS nb_a61 (nb_lit rfl) (nb_t61 _ _) dX7_gives_16 (fun H locs hP hS => ?_)
  obtain ⟨M_2, e_2, h⟩ := nb_nE h
  rw [e_2] at hP
  refine lv_aload_n hx hb dX7_gives_17 rfl (lv_at hl 1 rfl) ?_
  refine va_get (v := .ref (ad 61)) (C := RX7) (T := TX7) (N := 21) hx hb hts in7 hown hK.1 hP 52 nb_a52 rfl 9 (by decide) w_1 (fun _ h9 => h9) rfl dX7_gives_18 ?_
  refine lv_iconst (v := (1 : Int32)) hx hb dX7_gives_21 (by decide) ?_
  refine lv_iload_n hx hb dX7_gives_22 rfl (lv_at hl 4 rfl) ?_
  refine nb_iast hx hb had hK hP hS nb_a61 (nb_lit rfl) (nb_t61 _ _) dX7_gives_23 (fun H locs hP hS => ?_)
  obtain ⟨M_3, e_3, h⟩ := nb_nE h
  rw [e_3] at hP
  refine lv_aload_n hx hb dX7_gives_24 rfl (lv_at hl 1 rfl) ?_
  refine va_get (v := .ref (ad 61)) (C := RX7) (T := TX7) (N := 21) hx hb hts in7 hown hK.1 hP 52 nb_a52 rfl 9 (by decide) w_1 (fun _ h9 => h9) rfl dX7_gives_25 ?_
  refine lv_iconst (v := (2 : Int32)) hx hb dX7_gives_28 (by decide) ?_
  refine lv_iload hx hb dX7_gives_29 (lv_at hl 5 rfl) ?_
  refine nb_iast hx hb had hK hP hS nb_a61 (nb_lit rfl) (nb_t61 _ _) dX7_gives_31 (fun H locs hP hS => ?_)
  obtain ⟨M_4, e_4, h⟩ := nb_nE h
  rw [e_4] at hP
  refine lv_aload_n hx hb dX7_gives_32 rfl (lv_at hl 1 rfl) ?_
  refine va_get (v := .ref (ad 53)) (C := RX7) (T := TX7) (N := 21) hx hb hts in7 hown hK.1 hP 52 nb_a52 rfl 0 (by decide) w_3 (fun _ h9 => h9) rfl dX7_gives_33 ?_
  refine lv_iload hx hb dX7_gives_36 (lv_at hl 0 rfl) ?_
  obtain ⟨c_5, h⟩ := nb_c h
  refine va_iald hx hb hK.1 hP 53 0 nb_a53 rfl c_5 dX7_gives_38 ?_
  refine lv_if_le (tgt := 51) hx hb dX7_gives_39 (by decide) (fun c_6 => ?_) (fun c_6 => ?_)
  · have h := nb_t c_6 h
    refine lv_iload_n hx hb dX7_gives_51 rfl (lv_at hl 2 rfl) ?_
    refine lv_if_ne (tgt := 59) hx hb dX7_gives_52 (by decide) (fun c_7 => ?_) (fun c_7 => ?_)
    · have h := nb_f c_7 h
      refine lv_bipush (v := (10 : Int32)) hx hb dX7_gives_59 (by decide) ?_
      refine lv_iload_n hx hb dX7_gives_61 rfl (lv_at hl 3 rfl) ?_
      refine lv_imul hx hb dX7_gives_62 ?_
      refine lv_topi (fun v_8 e_8 => ?_)
      have h := nb_nA e_8 h
      refine lv_istore (lv' := [(6, .int v_8), (5, .int v_1), (0, .ref (ad 52)), (1, .int p0), (2, .int p1), (3, .int p2), (4, .int p3)]) hx hb dX7_gives_63 hl (by decide) rfl (fun ls hl => ?_)
      refine lv_iload_n hx hb dX7_gives_65 rfl (lv_at hl 3 rfl) ?_
      refine lv_if_ne (tgt := 80) hx hb dX7_gives_66 (by decide) (fun c_9 => ?_) (fun c_9 => ?_)
      · have h := nb_f c_9 h
        refine lv_iload hx hb dX7_gives_80 (lv_at hl 0 rfl) ?_
        refine lv_iconst (v := (0 : Int32)) hx hb dX7_gives_82 (by decide) ?_
        refine lv_sipush (v := (199 : Int32)) hx hb dX7_gives_83 (by decide) ?_
        refine nb_callS (n := 3) (As := [.int v_8, .int (0 : Int32), .int (199 : Int32)]) (rest := []) hx hb hml hown hts hK hZ hP hS (k_X7_held had M_4 N v_8 (0 : Int32) (199 : Int32)) gX7_gives_X7_held rfl (by decide +kernel) (nb_rm (Nat.le_of_ble_eq_true rfl) (Nat.le_of_ble_eq_true rfl)) rfl hl.1 rfl (Nat.le_of_ble_eq_true rfl) dX7_gives_86 (fun H locs hP hS => ?_)
        refine W.eq (g2 := F0 m 89 ls [.int (f_X7_held v_8 (0 : Int32) (199 : Int32))]) rfl ?_
        obtain ⟨rfl, rfl⟩ := nb_e2 h
        exact nb_iret hx hb hr hlk hP hS dX7_gives_89
      · have h := nb_t c_9 h
        refine lv_iload hx hb dX7_gives_69 (lv_at hl 0 rfl) ?_
        refine lv_iconst (v := (0 : Int32)) hx hb dX7_gives_71 (by decide) ?_
        refine lv_bipush (v := (16 : Int32)) hx hb dX7_gives_72 (by decide) ?_
        refine nb_callS (n := 3) (As := [.int v_8, .int (0 : Int32), .int (16 : Int32)]) (rest := []) hx hb hml hown hts hK hZ hP hS (k_X7_held had M_4 N v_8 (0 : Int32) (16 : Int32)) gX7_gives_X7_held rfl (by decide +kernel) (nb_rm (Nat.le_of_ble_eq_true rfl) (Nat.le_of_ble_eq_true rfl)) rfl hl.1 rfl (Nat.le_of_ble_eq_true rfl) dX7_gives_74 (fun H locs hP hS => ?_)
        refine W.eq (g2 := F0 m 77 ls [.int (f_X7_held v_8 (0 : Int32) (16 : Int32))]) rfl ?_
        refine lv_goto (tgt := 89) hx hb dX7_gives_77 (by decide) ?_
        obtain ⟨rfl, rfl⟩ := nb_e2 h
        exact nb_iret hx hb hr hlk hP hS dX7_gives_89
    · have h := nb_t c_7 h
      refine lv_iload_n hx hb dX7_gives_55 rfl (lv_at hl 3 rfl) ?_
      refine lv_goto (tgt := 63) hx hb dX7_gives_56 (by decide) ?_
      refine lv_istore (lv' := [(6, .int p1), (5, .int v_1), (0, .ref (ad 52)), (1, .int p0), (2, .int p1), (3, .int p2), (4, .int p3)]) hx hb dX7_gives_63 hl (by decide) rfl (fun ls hl => ?_)
      refine lv_iload_n hx hb dX7_gives_65 rfl (lv_at hl 3 rfl) ?_
      refine lv_if_ne (tgt := 80) hx hb dX7_gives_66 (by decide) (fun c_12 => absurd c_7 c_12) (fun _ => ?_)
      refine lv_iload hx hb dX7_gives_69 (lv_at hl 0 rfl) ?_
      refine lv_iconst (v := (0 : Int32)) hx hb dX7_gives_71 (by decide) ?_
      refine lv_bipush (v := (16 : Int32)) hx hb dX7_gives_72 (by decide) ?_
      refine nb_callS (n := 3) (As := [.int p1, .int (0 : Int32), .int (16 : Int32)]) (rest := []) hx hb hml hown hts hK hZ hP hS (k_X7_held had M_4 N p1 (0 : Int32) (16 : Int32)) gX7_gives_X7_held rfl (by decide +kernel) (nb_rm (Nat.le_of_ble_eq_true rfl) (Nat.le_of_ble_eq_true rfl)) rfl hl.1 rfl (Nat.le_of_ble_eq_true rfl) dX7_gives_74 (fun H locs hP hS => ?_)
      refine W.eq (g2 := F0 m 77 ls [.int (f_X7_held p1 (0 : Int32) (16 : Int32))]) rfl ?_
      refine lv_goto (tgt := 89) hx hb dX7_gives_77 (by decide) ?_
      obtain ⟨rfl, rfl⟩ := nb_e2 h
      exact nb_iret hx hb hr hlk hP hS dX7_gives_89
  · have h := nb_f c_6 h
    refine lv_aload_n hx hb dX7_gives_42 rfl (lv_at hl 1 rfl) ?_
    refine lv_iload hx hb dX7_gives_43 (lv_at hl 0 rfl) ?_
    obtain ⟨r_14, M_14, e_14, h⟩ := nb_pE h
    refine nb_callV (n := 1) (As := [.int v_1]) (rest := []) hx hb hml hown hts hK hZ hP hS (k_X7_works had M_4 N v_1 e_14) gX7_gives_X7_works rfl (by decide +kernel) (nb_rm (Nat.le_of_ble_eq_true rfl) (Nat.le_of_ble_eq_true rfl)) nb_a52 rfl rfl rfl hl.1 rfl (Nat.le_of_ble_eq_true rfl) dX7_gives_45 (fun H locs hP hS => ?_)
    refine W.eq (g2 := F0 m 48 ls [.int r_14]) rfl ?_
    refine lv_goto (tgt := 63) hx hb dX7_gives_48 (by decide) ?_
    refine lv_istore (lv' := [(6, .int r_14), (5, .int v_1), (0, .ref (ad 52)), (1, .int p0), (2, .int p1), (3, .int p2), (4, .int p3)]) hx hb dX7_gives_63 hl (by decide) rfl (fun ls hl => ?_)
    refine lv_iload_n hx hb dX7_gives_65 rfl (lv_at hl 3 rfl) ?_
    refine lv_if_ne (tgt := 80) hx hb dX7_gives_66 (by decide) (fun c_15 => ?_) (fun c_15 => ?_)
    · have h := nb_f c_15 h
      refine lv_iload hx hb dX7_gives_80 (lv_at hl 0 rfl) ?_
      refine lv_iconst (v := (0 : Int32)) hx hb dX7_gives_82 (by decide) ?_
      refine lv_sipush (v := (199 : Int32)) hx hb dX7_gives_83 (by decide) ?_
      refine nb_callS (n := 3) (As := [.int r_14, .int (0 : Int32), .int (199 : Int32)]) (rest := []) hx hb hml hown hts hK hZ hP hS (k_X7_held had M_14 N r_14 (0 : Int32) (199 : Int32)) gX7_gives_X7_held rfl (by decide +kernel) (nb_rm (Nat.le_of_ble_eq_true rfl) (Nat.le_of_ble_eq_true rfl)) rfl hl.1 rfl (Nat.le_of_ble_eq_true rfl) dX7_gives_86 (fun H locs hP hS => ?_)
      refine W.eq (g2 := F0 m 89 ls [.int (f_X7_held r_14 (0 : Int32) (199 : Int32))]) rfl ?_
      obtain ⟨rfl, rfl⟩ := nb_e2 h
      exact nb_iret hx hb hr hlk hP hS dX7_gives_89
    · have h := nb_t c_15 h
      refine lv_iload hx hb dX7_gives_69 (lv_at hl 0 rfl) ?_
      refine lv_iconst (v := (0 : Int32)) hx hb dX7_gives_71 (by decide) ?_
      refine lv_bipush (v := (16 : Int32)) hx hb dX7_gives_72 (by decide) ?_
      refine nb_callS (n := 3) (As := [.int r_14, .int (0 : Int32), .int (16 : Int32)]) (rest := []) hx hb hml hown hts hK hZ hP hS (k_X7_held had M_14 N r_14 (0 : Int32) (16 : Int32)) gX7_gives_X7_held rfl (by decide +kernel) (nb_rm (Nat.le_of_ble_eq_true rfl) (Nat.le_of_ble_eq_true rfl)) rfl hl.1 rfl (Nat.le_of_ble_eq_true rfl) dX7_gives_74 (fun H locs hP hS => ?_)
      refine W.eq (g2 := F0 m 77 ls [.int (f_X7_held r_14 (0 : Int32) (16 : Int32))]) rfl ?_
      refine lv_goto (tgt := 89) hx hb dX7_gives_77 (by decide) ?_
      obtain ⟨rfl, rfl⟩ := nb_e2 h
      exact nb_iret hx hb hr hlk hP hS dX7_gives_89
set_option maxHeartbeats 4000000 in
set_option maxRecDepth 100000 in
theorem k_X7_personIs {r : Int32} {M' : nb_M} (had : nb_AD ad b0) (M N : nb_M) (p0 : Int32) (p1 : Int32) (h : f_X7_personIs M p0 p1 = some (r, M')) : nb_C l D ad ca b0 yX7_personIs wsX7_personIs 3 [.ref (ad 52), .int p0, .int p1] N M (some (.int r)) N M' := by
  refine nb_of (cc := cX7_personIs) (maxL := 3) (ret := (some .int)) (own := RX7) (by decide +kernel) rfl rfl (Nat.le_of_ble_eq_true rfl) ?_
  intro p e s m args below meth c ls X hP hS hl
  have hl : lv_has ls 3 [(0, .ref (ad 52)), (1, .int p0), (2, .int p1)] := hl
  obtain ⟨hx, hb, hml, hown, hts, hr, hlk, hK, hZ⟩ := id X
  have w_1 := hts (.constant RX7 77 (-1000000001)) (by decide +kernel)
  unfold f_X7_personIs at h
  refine lv_aload_n hx hb dX7_personIs_0 rfl (lv_at hl 0 rfl) ?_
  refine lv_iload_n hx hb dX7_personIs_1 rfl (lv_at hl 1 rfl) ?_
  refine nb_callV (n := 1) (As := [.int p0]) (rest := []) hx hb hml hown hts hK hZ hP hS (k_X7_isPerson had M N p0) gX7_personIs_X7_isPerson rfl (by decide +kernel) (nb_rm (Nat.le_of_ble_eq_true rfl) (Nat.le_of_ble_eq_true rfl)) nb_a52 rfl rfl rfl hl.1 rfl (Nat.le_of_ble_eq_true rfl) dX7_personIs_2 (fun H locs hP hS => ?_)
  refine W.eq (g2 := F0 m 5 ls [.int (f_X7_isPerson M p0)]) rfl ?_
  refine lv_if_ne (tgt := 15) hx hb dX7_personIs_5 (by decide) (fun c_2 => ?_) (fun c_2 => ?_)
  · have h := nb_f c_2 h
    refine lv_iload_n hx hb dX7_personIs_15 rfl (lv_at hl 2 rfl) ?_
    refine nb_tsw [(0, 52), (1, 52), (2, 52), (3, 59), (4, 73)] 89 hx hb dX7_personIs_16 (by decide +kernel) ?_
    refine nb_split (fun c_3 => ?_) (fun c_3 => ?_)
    · have h := nb_t c_3 h
      refine lv_aload_n hx hb dX7_personIs_52 rfl (lv_at hl 0 rfl) ?_
      refine lv_iload_n hx hb dX7_personIs_53 rfl (lv_at hl 1 rfl) ?_
      refine lv_iload_n hx hb dX7_personIs_54 rfl (lv_at hl 2 rfl) ?_
      obtain ⟨r_4, e_4, h⟩ := nb_oE h
      refine nb_callV (n := 2) (As := [.int p0, .int p1]) (rest := []) hx hb hml hown hts hK hZ hP hS (k_X7_about had M N p0 p1 e_4) gX7_personIs_X7_about rfl (by decide +kernel) (nb_rm (Nat.le_of_ble_eq_true rfl) (Nat.le_of_ble_eq_true rfl)) nb_a52 rfl rfl rfl hl.1 rfl (Nat.le_of_ble_eq_true rfl) dX7_personIs_55 (fun H locs hP hS => ?_)
      refine W.eq (g2 := F0 m 58 ls [.int r_4]) rfl ?_
      obtain ⟨rfl, rfl⟩ := nb_e2 h
      exact nb_iret hx hb hr hlk hP hS dX7_personIs_58
    · have h := nb_f c_3 h
      refine nb_split (fun c_5 => ?_) (fun c_5 => ?_)
      · have h := nb_t c_5 h
        refine lv_aload_n hx hb dX7_personIs_52 rfl (lv_at hl 0 rfl) ?_
        refine lv_iload_n hx hb dX7_personIs_53 rfl (lv_at hl 1 rfl) ?_
        refine lv_iload_n hx hb dX7_personIs_54 rfl (lv_at hl 2 rfl) ?_
        obtain ⟨r_6, e_6, h⟩ := nb_oE h
        refine nb_callV (n := 2) (As := [.int p0, .int p1]) (rest := []) hx hb hml hown hts hK hZ hP hS (k_X7_about had M N p0 p1 e_6) gX7_personIs_X7_about rfl (by decide +kernel) (nb_rm (Nat.le_of_ble_eq_true rfl) (Nat.le_of_ble_eq_true rfl)) nb_a52 rfl rfl rfl hl.1 rfl (Nat.le_of_ble_eq_true rfl) dX7_personIs_55 (fun H locs hP hS => ?_)
        refine W.eq (g2 := F0 m 58 ls [.int r_6]) rfl ?_
        obtain ⟨rfl, rfl⟩ := nb_e2 h
        exact nb_iret hx hb hr hlk hP hS dX7_personIs_58
      · have h := nb_f c_5 h
        refine nb_split (fun c_7 => ?_) (fun c_7 => ?_)
        · have h := nb_t c_7 h
          refine lv_aload_n hx hb dX7_personIs_52 rfl (lv_at hl 0 rfl) ?_
          refine lv_iload_n hx hb dX7_personIs_53 rfl (lv_at hl 1 rfl) ?_
          refine lv_iload_n hx hb dX7_personIs_54 rfl (lv_at hl 2 rfl) ?_
          obtain ⟨r_8, e_8, h⟩ := nb_oE h
          refine nb_callV (n := 2) (As := [.int p0, .int p1]) (rest := []) hx hb hml hown hts hK hZ hP hS (k_X7_about had M N p0 p1 e_8) gX7_personIs_X7_about rfl (by decide +kernel) (nb_rm (Nat.le_of_ble_eq_true rfl) (Nat.le_of_ble_eq_true rfl)) nb_a52 rfl rfl rfl hl.1 rfl (Nat.le_of_ble_eq_true rfl) dX7_personIs_55 (fun H locs hP hS => ?_)
          refine W.eq (g2 := F0 m 58 ls [.int r_8]) rfl ?_
          obtain ⟨rfl, rfl⟩ := nb_e2 h
          exact nb_iret hx hb hr hlk hP hS dX7_personIs_58
        · have h := nb_f c_7 h
          refine nb_split (fun c_9 => ?_) (fun c_9 => ?_)
          · have h := nb_t c_9 h
            refine lv_aload_n hx hb dX7_personIs_59 rfl (lv_at hl 0 rfl) ?_
            refine lv_iload_n hx hb dX7_personIs_60 rfl (lv_at hl 1 rfl) ?_
            obtain ⟨r_10, e_10, h⟩ := nb_oE h
            refine nb_callV (n := 1) (As := [.int p0]) (rest := []) hx hb hml hown hts hK hZ hP hS (k_X7_isThrough had M N p0 e_10) gX7_personIs_X7_isThrough rfl (by decide +kernel) (nb_rm (Nat.le_of_ble_eq_true rfl) (Nat.le_of_ble_eq_true rfl)) nb_a52 rfl rfl rfl hl.1 rfl (Nat.le_of_ble_eq_true rfl) dX7_personIs_61 (fun H locs hP hS => ?_)
            refine W.eq (g2 := F0 m 64 ls [.int r_10]) rfl ?_
            refine lv_if_eq (tgt := 71) hx hb dX7_personIs_64 (by decide) (fun c_11 => ?_) (fun c_11 => ?_)
            · have h := nb_t c_11 h
              refine lv_iconst (v := (0 : Int32)) hx hb dX7_personIs_71 (by decide) ?_
              obtain ⟨rfl, rfl⟩ := nb_e2 h
              exact nb_iret hx hb hr hlk hP hS dX7_personIs_72
            · have h := nb_f c_11 h
              refine lv_iconst (v := (1 : Int32)) hx hb dX7_personIs_67 (by decide) ?_
              refine lv_goto (tgt := 72) hx hb dX7_personIs_68 (by decide) ?_
              obtain ⟨rfl, rfl⟩ := nb_e2 h
              exact nb_iret hx hb hr hlk hP hS dX7_personIs_72
          · have h := nb_f c_9 h
            refine nb_split (fun c_12 => ?_) (fun c_12 => ?_)
            · have h := nb_t c_12 h
              refine lv_aload_n hx hb dX7_personIs_73 rfl (lv_at hl 0 rfl) ?_
              refine lv_iconst (v := (1 : Int32)) hx hb dX7_personIs_74 (by decide) ?_
              refine lv_aload_n hx hb dX7_personIs_75 rfl (lv_at hl 0 rfl) ?_
              refine lv_iload_n hx hb dX7_personIs_76 rfl (lv_at hl 1 rfl) ?_
              obtain ⟨r_13, e_13, h⟩ := nb_oE h
              refine nb_callV (n := 1) (As := [.int p0]) (rest := [.int (1 : Int32), .ref (ad 52)]) hx hb hml hown hts hK hZ hP hS (k_X7_dueOf had M N p0 e_13) gX7_personIs_X7_dueOf rfl (by decide +kernel) (nb_rm (Nat.le_of_ble_eq_true rfl) (Nat.le_of_ble_eq_true rfl)) nb_a52 rfl rfl rfl hl.1 rfl (Nat.le_of_ble_eq_true rfl) dX7_personIs_77 (fun H locs hP hS => ?_)
              refine W.eq (g2 := F0 m 80 ls [.int r_13, .int (1 : Int32), .ref (ad 52)]) rfl ?_
              refine lv_aload_n hx hb dX7_personIs_80 rfl (lv_at hl 0 rfl) ?_
              obtain ⟨r_14, e_14, h⟩ := nb_oE h
              refine nb_callV (n := 0) (As := []) (rest := [.int r_13, .int (1 : Int32), .ref (ad 52)]) hx hb hml hown hts hK hZ hP hS (k_X7_shards had M N e_14) gX7_personIs_X7_shards rfl (by decide +kernel) (nb_rm (Nat.le_of_ble_eq_true rfl) (Nat.le_of_ble_eq_true rfl)) nb_a52 rfl rfl rfl hl.1 rfl (Nat.le_of_ble_eq_true rfl) dX7_personIs_81 (fun H locs hP hS => ?_)
              refine W.eq (g2 := F0 m 84 ls [.int r_14, .int r_13, .int (1 : Int32), .ref (ad 52)]) rfl ?_
              refine lv_iload_n hx hb dX7_personIs_84 rfl (lv_at hl 1 rfl) ?_
              obtain ⟨r_15, M_15, e_15, h⟩ := nb_pE h
              refine nb_callV (n := 4) (As := [.int (1 : Int32), .int r_13, .int r_14, .int p0]) (rest := []) hx hb hml hown hts hK hZ hP hS (k_X7_gives had M N (1 : Int32) r_13 r_14 p0 e_15) gX7_personIs_X7_gives rfl (by decide +kernel) (nb_rm (Nat.le_of_ble_eq_true rfl) (Nat.le_of_ble_eq_true rfl)) nb_a52 rfl rfl rfl hl.1 rfl (Nat.le_of_ble_eq_true rfl) dX7_personIs_85 (fun H locs hP hS => ?_)
              refine W.eq (g2 := F0 m 88 ls [.int r_15]) rfl ?_
              obtain ⟨rfl, rfl⟩ := nb_e2 h
              exact nb_iret hx hb hr hlk hP hS dX7_personIs_88
            · have h := nb_f c_12 h
              refine W.eq (g2 := F0 m 89 ls []) rfl ?_
              refine lv_aload_n hx hb dX7_personIs_89 rfl (lv_at hl 0 rfl) ?_
              refine lv_ldc (v := (-1000000001 : Int32)) hx hb hown w_1 dX7_personIs_90 ?_
              obtain ⟨r_16, M_16, e_16, h⟩ := nb_pE h
              refine nb_callV (n := 1) (As := [.int (-1000000001 : Int32)]) (rest := []) hx hb hml hown hts hK hZ hP hS (k_X7_error had M N (-1000000001 : Int32) e_16) gX7_personIs_X7_error rfl (by decide +kernel) (nb_rm (Nat.le_of_ble_eq_true rfl) (Nat.le_of_ble_eq_true rfl)) nb_a52 rfl rfl rfl hl.1 rfl (Nat.le_of_ble_eq_true rfl) dX7_personIs_92 (fun H locs hP hS => ?_)
              refine W.eq (g2 := F0 m 95 ls [.int r_16]) rfl ?_
              obtain ⟨rfl, rfl⟩ := nb_e2 h
              exact nb_iret hx hb hr hlk hP hS dX7_personIs_95
  · have h := nb_t c_2 h
    refine lv_aload_n hx hb dX7_personIs_8 rfl (lv_at hl 0 rfl) ?_
    refine lv_ldc (v := (-1000000001 : Int32)) hx hb hown w_1 dX7_personIs_9 ?_
    obtain ⟨r_17, M_17, e_17, h⟩ := nb_pE h
    refine nb_callV (n := 1) (As := [.int (-1000000001 : Int32)]) (rest := []) hx hb hml hown hts hK hZ hP hS (k_X7_error had M N (-1000000001 : Int32) e_17) gX7_personIs_X7_error rfl (by decide +kernel) (nb_rm (Nat.le_of_ble_eq_true rfl) (Nat.le_of_ble_eq_true rfl)) nb_a52 rfl rfl rfl hl.1 rfl (Nat.le_of_ble_eq_true rfl) dX7_personIs_11 (fun H locs hP hS => ?_)
    refine W.eq (g2 := F0 m 14 ls [.int r_17]) rfl ?_
    obtain ⟨rfl, rfl⟩ := nb_e2 h
    exact nb_iret hx hb hr hlk hP hS dX7_personIs_14
set_option maxHeartbeats 4000000 in
set_option maxRecDepth 100000 in
theorem k_X7_isKm (had : nb_AD ad b0) (M N : nb_M) (p0 : Int32) : nb_C l D ad ca b0 yX7_isKm wsX7_isKm 1 [.int p0] N M (some (.int (f_X7_isKm p0))) N M := by
  obtain ⟨r, h⟩ : ∃ r, f_X7_isKm p0 = r := ⟨_, rfl⟩
  rw [h]
  refine nb_of (cc := cX7_isKm) (maxL := 1) (ret := (some .boolean)) (own := RX7) (by decide +kernel) rfl rfl (Nat.le_of_ble_eq_true rfl) ?_
  intro p e s m args below meth c ls X hP hS hl
  have hl : lv_has ls 1 [(0, .int p0)] := hl
  obtain ⟨hx, hb, hml, hown, hts, hr, hlk, hK, hZ⟩ := id X
  unfold f_X7_isKm at h
  refine lv_iload_n hx hb dX7_isKm_0 rfl (lv_at hl 0 rfl) ?_
  refine lv_iconst (v := (0 : Int32)) hx hb dX7_isKm_1 (by decide) ?_
  refine lv_bipush (v := (69 : Int32)) hx hb dX7_isKm_2 (by decide) ?_
  refine nb_callS (n := 3) (As := [.int p0, .int (0 : Int32), .int (69 : Int32)]) (rest := []) hx hb hml hown hts hK hZ hP hS (k_X7_in had M N p0 (0 : Int32) (69 : Int32)) gX7_isKm_X7_in rfl (by decide +kernel) (nb_rm (Nat.le_of_ble_eq_true rfl) (Nat.le_of_ble_eq_true rfl)) rfl hl.1 rfl (Nat.le_of_ble_eq_true rfl) dX7_isKm_4 (fun H locs hP hS => ?_)
  refine W.eq (g2 := F0 m 7 ls [.int (f_X7_in p0 (0 : Int32) (69 : Int32))]) rfl ?_
  obtain rfl := nb_e3 h
  exact nb_zret (z_X7_in p0 (0 : Int32) (69 : Int32)) hx hb hr hlk hP hS dX7_isKm_7
set_option maxHeartbeats 4000000 in
set_option maxRecDepth 100000 in
theorem k_X7_lets {M' : nb_M} (had : nb_AD ad b0) (M N : nb_M) (p0 : Int32) (p1 : Int32) (p2 : Int32) (h : f_X7_lets M p0 p1 p2 = some (M')) : nb_C l D ad ca b0 yX7_lets wsX7_lets 0 [.ref (ad 52), .int p0, .int p1, .int p2] N M none N M' := by
  refine nb_of (cc := cX7_lets) (maxL := 4) (ret := none) (own := RX7) (by decide +kernel) rfl rfl (Nat.le_of_ble_eq_true rfl) ?_
  intro p e s m args below meth c ls X hP hS hl
  have hl : lv_has ls 4 [(0, .ref (ad 52)), (1, .int p0), (2, .int p1), (3, .int p2)] := hl
  obtain ⟨hx, hb, hml, hown, hts, hr, hlk, hK, hZ⟩ := id X
  have w_1 := hts (.fieldLink RX7 9 "NineBreakagesModel" "row" "[I") (by decide +kernel)
  have in7 : ∀ w ∈ u_ws RX7 TX7 21, w ∈ wsX7_lets := fun w q => List.mem_cons_of_mem _ (List.mem_append_right _ q)
  unfold f_X7_lets at h
  refine lv_aload_n hx hb dX7_lets_0 rfl (lv_at hl 0 rfl) ?_
  refine va_get (v := .ref (ad 53)) (C := RX7) (T := TX7) (N := 21) hx hb hts in7 hown hK.1 hP 52 nb_a52 rfl 0 (by decide) w_1 (fun _ h9 => h9) rfl dX7_lets_1 ?_
  refine lv_bipush (v := (21 : Int32)) hx hb dX7_lets_4 (by decide) ?_
  refine lv_iconst (v := (4 : Int32)) hx hb dX7_lets_6 (by decide) ?_
  refine lv_iload_n hx hb dX7_lets_7 rfl (lv_at hl 1 rfl) ?_
  refine lv_imul hx hb dX7_lets_8 ?_
  refine lv_iadd hx hb dX7_lets_9 ?_
  refine lv_iload_n hx hb dX7_lets_10 rfl (lv_at hl 2 rfl) ?_
  refine lv_iadd hx hb dX7_lets_11 ?_
  refine lv_iload_n hx hb dX7_lets_12 rfl (lv_at hl 3 rfl) ?_
  obtain ⟨c_1, h⟩ := nb_c h
  refine nb_iast hx hb had hK hP hS nb_a53 c_1 (nb_t53 _ _) dX7_lets_13 (fun H locs hP hS => ?_)
  obtain ⟨M_2, e_2, h⟩ := nb_nE h
  rw [e_2] at hP
  obtain rfl := nb_e1 h
  exact nb_vret hx hb hr hlk hP hS dX7_lets_14
set_option maxHeartbeats 4000000 in
set_option maxRecDepth 100000 in
theorem k_X7_piece {r : Int32} {M' : nb_M} (had : nb_AD ad b0) (M N : nb_M) (p0 : Int32) (p1 : Int32) (h : f_X7_piece M p0 p1 = some (r, M')) : nb_C l D ad ca b0 yX7_piece wsX7_piece 2 [.ref (ad 52), .int p0, .int p1] N M (some (.int r)) N M' := by
  refine nb_of (cc := cX7_piece) (maxL := 4) (ret := (some .int)) (own := RX7) (by decide +kernel) rfl rfl (Nat.le_of_ble_eq_true rfl) ?_
  intro p e s m args below meth c ls X hP hS hl
  have hl : lv_has ls 4 [(0, .ref (ad 52)), (1, .int p0), (2, .int p1)] := hl
  obtain ⟨hx, hb, hml, hown, hts, hr, hlk, hK, hZ⟩ := id X
  have w_1 := hts (.constant RX7 77 (-1000000001)) (by decide +kernel)
  have w_2 := hts (.fieldLink RX7 9 "NineBreakagesModel" "row" "[I") (by decide +kernel)
  have in7 : ∀ w ∈ u_ws RX7 TX7 21, w ∈ wsX7_piece := fun w q => List.mem_cons_of_mem _ (List.mem_append_right _ q)
  have w_4 := hts (.constant RX7 82 (-1000000004)) (by decide +kernel)
  unfold f_X7_piece at h
  refine lv_iload_n hx hb dX7_piece_0 rfl (lv_at hl 1 rfl) ?_
  refine nb_callS (n := 1) (As := [.int p0]) (rest := []) hx hb hml hown hts hK hZ hP hS (k_X7_isKm had M N p0) gX7_piece_X7_isKm rfl (by decide +kernel) (nb_rm (Nat.le_of_ble_eq_true rfl) (Nat.le_of_ble_eq_true rfl)) rfl hl.1 rfl (Nat.le_of_ble_eq_true rfl) dX7_piece_1 (fun H locs hP hS => ?_)
  refine W.eq (g2 := F0 m 4 ls [.int (f_X7_isKm p0)]) rfl ?_
  refine lv_if_eq (tgt := 15) hx hb dX7_piece_4 (by decide) (fun c_2 => ?_) (fun c_2 => ?_)
  · have h := nb_t c_2 h
    refine lv_aload_n hx hb dX7_piece_15 rfl (lv_at hl 0 rfl) ?_
    refine lv_ldc (v := (-1000000001 : Int32)) hx hb hown w_1 dX7_piece_16 ?_
    obtain ⟨r_3, M_3, e_3, h⟩ := nb_pE h
    refine nb_callV (n := 1) (As := [.int (-1000000001 : Int32)]) (rest := []) hx hb hml hown hts hK hZ hP hS (k_X7_error had M N (-1000000001 : Int32) e_3) gX7_piece_X7_error rfl (by decide +kernel) (nb_rm (Nat.le_of_ble_eq_true rfl) (Nat.le_of_ble_eq_true rfl)) nb_a52 rfl rfl rfl hl.1 rfl (Nat.le_of_ble_eq_true rfl) dX7_piece_18 (fun H locs hP hS => ?_)
    refine W.eq (g2 := F0 m 21 ls [.int r_3]) rfl ?_
    obtain ⟨rfl, rfl⟩ := nb_e2 h
    exact nb_iret hx hb hr hlk hP hS dX7_piece_21
  · have h := nb_f c_2 h
    refine lv_aload_n hx hb dX7_piece_7 rfl (lv_at hl 0 rfl) ?_
    refine lv_iload_n hx hb dX7_piece_8 rfl (lv_at hl 2 rfl) ?_
    refine nb_callV (n := 1) (As := [.int p1]) (rest := []) hx hb hml hown hts hK hZ hP hS (k_X7_isPerson had M N p1) gX7_piece_X7_isPerson rfl (by decide +kernel) (nb_rm (Nat.le_of_ble_eq_true rfl) (Nat.le_of_ble_eq_true rfl)) nb_a52 rfl rfl rfl hl.1 rfl (Nat.le_of_ble_eq_true rfl) dX7_piece_9 (fun H locs hP hS => ?_)
    refine W.eq (g2 := F0 m 12 ls [.int (f_X7_isPerson M p1)]) rfl ?_
    refine lv_if_ne (tgt := 22) hx hb dX7_piece_12 (by decide) (fun c_5 => ?_) (fun c_5 => ?_)
    · have h := nb_f c_5 h
      refine lv_aload_n hx hb dX7_piece_22 rfl (lv_at hl 0 rfl) ?_
      refine va_get (v := .ref (ad 53)) (C := RX7) (T := TX7) (N := 21) hx hb hts in7 hown hK.1 hP 52 nb_a52 rfl 0 (by decide) w_2 (fun _ h9 => h9) rfl dX7_piece_23 ?_
      refine lv_iconst (v := (2 : Int32)) hx hb dX7_piece_26 (by decide) ?_
      refine va_iald hx hb hK.1 hP 53 0 nb_a53 rfl (nb_lit rfl) dX7_piece_27 ?_
      refine lv_topi (fun v_6 e_6 => ?_)
      have h := nb_nA e_6 h
      refine lv_istore_n (lv' := [(3, .int v_6), (0, .ref (ad 52)), (1, .int p0), (2, .int p1)]) hx hb dX7_piece_28 rfl hl (by decide) rfl (fun ls hl => ?_)
      refine lv_iload_n hx hb dX7_piece_29 rfl (lv_at hl 0 rfl) ?_
      refine lv_bipush (v := (9 : Int32)) hx hb dX7_piece_30 (by decide) ?_
      refine lv_icmp_ne (tgt := 42) hx hb dX7_piece_32 (by decide) (fun c_7 => ?_) (fun c_7 => ?_)
      · have h := nb_f c_7 h
        refine lv_aload_n hx hb dX7_piece_42 rfl (lv_at hl 1 rfl) ?_
        refine va_get (v := .ref (ad 53)) (C := RX7) (T := TX7) (N := 21) hx hb hts in7 hown hK.1 hP 52 nb_a52 rfl 0 (by decide) w_2 (fun _ h9 => h9) rfl dX7_piece_43 ?_
        refine lv_iconst (v := (2 : Int32)) hx hb dX7_piece_46 (by decide) ?_
        refine lv_dup2_11 hx hb dX7_piece_47 rfl rfl ?_
        refine va_iald hx hb hK.1 hP 53 0 nb_a53 rfl (nb_lit rfl) dX7_piece_48 ?_
        refine lv_iconst (v := (1 : Int32)) hx hb dX7_piece_49 (by decide) ?_
        refine lv_iadd hx hb dX7_piece_50 ?_
        refine nb_iast hx hb had hK hP hS nb_a53 (nb_lit rfl) (nb_t53 _ _) dX7_piece_51 (fun H locs hP hS => ?_)
        obtain ⟨M_8, e_8, h⟩ := nb_nE h
        rw [e_8] at hP
        refine lv_aload_n hx hb dX7_piece_52 rfl (lv_at hl 1 rfl) ?_
        refine lv_iload_n hx hb dX7_piece_53 rfl (lv_at hl 0 rfl) ?_
        refine lv_iconst (v := (0 : Int32)) hx hb dX7_piece_54 (by decide) ?_
        refine lv_iload_n hx hb dX7_piece_55 rfl (lv_at hl 2 rfl) ?_
        refine lv_bipush (v := (10 : Int32)) hx hb dX7_piece_56 (by decide) ?_
        refine lv_idiv hx hb dX7_piece_58 (by decide) ?_
        obtain ⟨M_9, e_9, h⟩ := nb_oE h
        refine nb_callV (n := 3) (As := [.int v_6, .int (0 : Int32), .int (p0 / (10 : Int32))]) (rest := []) hx hb hml hown hts hK hZ hP hS (k_X7_lets had M_8 N v_6 (0 : Int32) (p0 / (10 : Int32)) e_9) gX7_piece_X7_lets rfl (by decide +kernel) (nb_rm (Nat.le_of_ble_eq_true rfl) (Nat.le_of_ble_eq_true rfl)) nb_a52 rfl rfl rfl hl.1 rfl (Nat.le_of_ble_eq_true rfl) dX7_piece_59 (fun H locs hP hS => ?_)
        refine W.eq (g2 := F0 m 62 ls []) rfl ?_
        refine lv_aload_n hx hb dX7_piece_62 rfl (lv_at hl 1 rfl) ?_
        refine lv_iload_n hx hb dX7_piece_63 rfl (lv_at hl 0 rfl) ?_
        refine lv_iconst (v := (1 : Int32)) hx hb dX7_piece_64 (by decide) ?_
        refine lv_iload_n hx hb dX7_piece_65 rfl (lv_at hl 2 rfl) ?_
        refine lv_bipush (v := (10 : Int32)) hx hb dX7_piece_66 (by decide) ?_
        refine lv_irem hx hb dX7_piece_68 (by decide) ?_
        obtain ⟨M_10, e_10, h⟩ := nb_oE h
        refine nb_callV (n := 3) (As := [.int v_6, .int (1 : Int32), .int (p0 - p0 / (10 : Int32) * (10 : Int32))]) (rest := []) hx hb hml hown hts hK hZ hP hS (k_X7_lets had M_9 N v_6 (1 : Int32) (p0 - p0 / (10 : Int32) * (10 : Int32)) e_10) gX7_piece_X7_lets rfl (by decide +kernel) (nb_rm (Nat.le_of_ble_eq_true rfl) (Nat.le_of_ble_eq_true rfl)) nb_a52 rfl rfl rfl hl.1 rfl (Nat.le_of_ble_eq_true rfl) dX7_piece_69 (fun H locs hP hS => ?_)
        refine W.eq (g2 := F0 m 72 ls []) rfl ?_
        refine lv_aload_n hx hb dX7_piece_72 rfl (lv_at hl 1 rfl) ?_
        refine lv_iload_n hx hb dX7_piece_73 rfl (lv_at hl 0 rfl) ?_
        refine lv_iconst (v := (2 : Int32)) hx hb dX7_piece_74 (by decide) ?_
        refine lv_iload_n hx hb dX7_piece_75 rfl (lv_at hl 3 rfl) ?_
        obtain ⟨M_11, e_11, h⟩ := nb_oE h
        refine nb_callV (n := 3) (As := [.int v_6, .int (2 : Int32), .int p1]) (rest := []) hx hb hml hown hts hK hZ hP hS (k_X7_lets had M_10 N v_6 (2 : Int32) p1 e_11) gX7_piece_X7_lets rfl (by decide +kernel) (nb_rm (Nat.le_of_ble_eq_true rfl) (Nat.le_of_ble_eq_true rfl)) nb_a52 rfl rfl rfl hl.1 rfl (Nat.le_of_ble_eq_true rfl) dX7_piece_76 (fun H locs hP hS => ?_)
        refine W.eq (g2 := F0 m 79 ls []) rfl ?_
        refine lv_aload_n hx hb dX7_piece_79 rfl (lv_at hl 1 rfl) ?_
        refine lv_iload_n hx hb dX7_piece_80 rfl (lv_at hl 0 rfl) ?_
        refine lv_iconst (v := (3 : Int32)) hx hb dX7_piece_81 (by decide) ?_
        refine lv_iconst (v := (0 : Int32)) hx hb dX7_piece_82 (by decide) ?_
        obtain ⟨M_12, e_12, h⟩ := nb_oE h
        refine nb_callV (n := 3) (As := [.int v_6, .int (3 : Int32), .int (0 : Int32)]) (rest := []) hx hb hml hown hts hK hZ hP hS (k_X7_lets had M_11 N v_6 (3 : Int32) (0 : Int32) e_12) gX7_piece_X7_lets rfl (by decide +kernel) (nb_rm (Nat.le_of_ble_eq_true rfl) (Nat.le_of_ble_eq_true rfl)) nb_a52 rfl rfl rfl hl.1 rfl (Nat.le_of_ble_eq_true rfl) dX7_piece_83 (fun H locs hP hS => ?_)
        refine W.eq (g2 := F0 m 86 ls []) rfl ?_
        refine lv_iload_n hx hb dX7_piece_86 rfl (lv_at hl 0 rfl) ?_
        obtain ⟨rfl, rfl⟩ := nb_e2 h
        exact nb_iret hx hb hr hlk hP hS dX7_piece_87
      · have h := nb_t c_7 h
        refine lv_aload_n hx hb dX7_piece_35 rfl (lv_at hl 1 rfl) ?_
        refine lv_ldc (v := (-1000000004 : Int32)) hx hb hown w_4 dX7_piece_36 ?_
        obtain ⟨r_13, M_13, e_13, h⟩ := nb_pE h
        refine nb_callV (n := 1) (As := [.int (-1000000004 : Int32)]) (rest := []) hx hb hml hown hts hK hZ hP hS (k_X7_error had M N (-1000000004 : Int32) e_13) gX7_piece_X7_error rfl (by decide +kernel) (nb_rm (Nat.le_of_ble_eq_true rfl) (Nat.le_of_ble_eq_true rfl)) nb_a52 rfl rfl rfl hl.1 rfl (Nat.le_of_ble_eq_true rfl) dX7_piece_38 (fun H locs hP hS => ?_)
        refine W.eq (g2 := F0 m 41 ls [.int r_13]) rfl ?_
        obtain ⟨rfl, rfl⟩ := nb_e2 h
        exact nb_iret hx hb hr hlk hP hS dX7_piece_41
    · have h := nb_t c_5 h
      refine lv_aload_n hx hb dX7_piece_15 rfl (lv_at hl 0 rfl) ?_
      refine lv_ldc (v := (-1000000001 : Int32)) hx hb hown w_1 dX7_piece_16 ?_
      obtain ⟨r_14, M_14, e_14, h⟩ := nb_pE h
      refine nb_callV (n := 1) (As := [.int (-1000000001 : Int32)]) (rest := []) hx hb hml hown hts hK hZ hP hS (k_X7_error had M N (-1000000001 : Int32) e_14) gX7_piece_X7_error rfl (by decide +kernel) (nb_rm (Nat.le_of_ble_eq_true rfl) (Nat.le_of_ble_eq_true rfl)) nb_a52 rfl rfl rfl hl.1 rfl (Nat.le_of_ble_eq_true rfl) dX7_piece_18 (fun H locs hP hS => ?_)
      refine W.eq (g2 := F0 m 21 ls [.int r_14]) rfl ?_
      obtain ⟨rfl, rfl⟩ := nb_e2 h
      exact nb_iret hx hb hr hlk hP hS dX7_piece_21
set_option maxHeartbeats 4000000 in
set_option maxRecDepth 100000 in
theorem k_X7_isPiece (had : nb_AD ad b0) (M N : nb_M) (p0 : Int32) : nb_C l D ad ca b0 yX7_isPiece wsX7_isPiece 1 [.ref (ad 52), .int p0] N M (some (.int (f_X7_isPiece M p0))) N M := by
  obtain ⟨r, h⟩ : ∃ r, f_X7_isPiece M p0 = r := ⟨_, rfl⟩
  rw [h]
  refine nb_of (cc := cX7_isPiece) (maxL := 2) (ret := (some .boolean)) (own := RX7) (by decide +kernel) rfl rfl (Nat.le_of_ble_eq_true rfl) ?_
  intro p e s m args below meth c ls X hP hS hl
  have hl : lv_has ls 2 [(0, .ref (ad 52)), (1, .int p0)] := hl
  obtain ⟨hx, hb, hml, hown, hts, hr, hlk, hK, hZ⟩ := id X
  have w_1 := hts (.fieldLink RX7 9 "NineBreakagesModel" "row" "[I") (by decide +kernel)
  have in7 : ∀ w ∈ u_ws RX7 TX7 21, w ∈ wsX7_isPiece := fun w q => List.mem_cons_of_mem _ (List.mem_append_right _ q)
  unfold f_X7_isPiece at h
  refine lv_iload_n hx hb dX7_isPiece_0 rfl (lv_at hl 1 rfl) ?_
  refine lv_iconst (v := (0 : Int32)) hx hb dX7_isPiece_1 (by decide) ?_
  refine lv_aload_n hx hb dX7_isPiece_2 rfl (lv_at hl 0 rfl) ?_
  refine va_get (v := .ref (ad 53)) (C := RX7) (T := TX7) (N := 21) hx hb hts in7 hown hK.1 hP 52 nb_a52 rfl 0 (by decide) w_1 (fun _ h9 => h9) rfl dX7_isPiece_3 ?_
  refine lv_iconst (v := (2 : Int32)) hx hb dX7_isPiece_6 (by decide) ?_
  refine va_iald hx hb hK.1 hP 53 0 nb_a53 rfl (nb_lit rfl) dX7_isPiece_7 ?_
  refine lv_iconst (v := (1 : Int32)) hx hb dX7_isPiece_8 (by decide) ?_
  refine lv_isub hx hb dX7_isPiece_9 ?_
  refine nb_callS (n := 3) (As := [.int p0, .int (0 : Int32), .int ((M.1 1 (2 : Int32).toNatClampNeg) - (1 : Int32))]) (rest := []) hx hb hml hown hts hK hZ hP hS (k_X7_in had M N p0 (0 : Int32) ((M.1 1 (2 : Int32).toNatClampNeg) - (1 : Int32))) gX7_isPiece_X7_in rfl (by decide +kernel) (nb_rm (Nat.le_of_ble_eq_true rfl) (Nat.le_of_ble_eq_true rfl)) rfl hl.1 rfl (Nat.le_of_ble_eq_true rfl) dX7_isPiece_10 (fun H locs hP hS => ?_)
  refine W.eq (g2 := F0 m 13 ls [.int (f_X7_in p0 (0 : Int32) ((M.1 1 (2 : Int32).toNatClampNeg) - (1 : Int32)))]) rfl ?_
  obtain rfl := nb_e3 h
  exact nb_zret (z_X7_in p0 (0 : Int32) ((M.1 1 (2 : Int32).toNatClampNeg) - (1 : Int32))) hx hb hr hlk hP hS dX7_isPiece_13
set_option maxHeartbeats 4000000 in
set_option maxRecDepth 100000 in
theorem k_X7_doesCountOn {r : Int32} (had : nb_AD ad b0) (M N : nb_M) (p0 : Int32) (p1 : Int32) (h : f_X7_doesCountOn M p0 p1 = some r) : nb_C l D ad ca b0 yX7_doesCountOn wsX7_doesCountOn 2 [.ref (ad 52), .int p0, .int p1] N M (some (.int r)) N M := by
  refine nb_of (cc := cX7_doesCountOn) (maxL := 4) (ret := (some .boolean)) (own := RX7) (by decide +kernel) rfl rfl (Nat.le_of_ble_eq_true rfl) ?_
  intro p e s m args below meth c ls X hP hS hl
  have hl : lv_has ls 4 [(0, .ref (ad 52)), (1, .int p0), (2, .int p1)] := hl
  obtain ⟨hx, hb, hml, hown, hts, hr, hlk, hK, hZ⟩ := id X
  unfold f_X7_doesCountOn at h
  refine lv_aload_n hx hb dX7_doesCountOn_0 rfl (lv_at hl 0 rfl) ?_
  refine lv_iload_n hx hb dX7_doesCountOn_1 rfl (lv_at hl 1 rfl) ?_
  refine lv_iconst (v := (1 : Int32)) hx hb dX7_doesCountOn_2 (by decide) ?_
  obtain ⟨r_1, e_1, h⟩ := nb_oE h
  refine nb_callV (n := 2) (As := [.int p0, .int (1 : Int32)]) (rest := []) hx hb hml hown hts hK hZ hP hS (k_X7_of had M N p0 (1 : Int32) e_1) gX7_doesCountOn_X7_of rfl (by decide +kernel) (nb_rm (Nat.le_of_ble_eq_true rfl) (Nat.le_of_ble_eq_true rfl)) nb_a52 rfl rfl rfl hl.1 rfl (Nat.le_of_ble_eq_true rfl) dX7_doesCountOn_3 (fun H locs hP hS => ?_)
  refine W.eq (g2 := F0 m 6 ls [.int r_1]) rfl ?_
  refine lv_istore_n (lv' := [(3, .int r_1), (0, .ref (ad 52)), (1, .int p0), (2, .int p1)]) hx hb dX7_doesCountOn_6 rfl hl (by decide) rfl (fun ls hl => ?_)
  refine lv_aload_n hx hb dX7_doesCountOn_7 rfl (lv_at hl 1 rfl) ?_
  refine lv_iload_n hx hb dX7_doesCountOn_8 rfl (lv_at hl 2 rfl) ?_
  refine lv_iconst (v := (0 : Int32)) hx hb dX7_doesCountOn_9 (by decide) ?_
  obtain ⟨r_2, e_2, h⟩ := nb_oE h
  refine nb_callV (n := 2) (As := [.int p0, .int (0 : Int32)]) (rest := []) hx hb hml hown hts hK hZ hP hS (k_X7_of had M N p0 (0 : Int32) e_2) gX7_doesCountOn_X7_of rfl (by decide +kernel) (nb_rm (Nat.le_of_ble_eq_true rfl) (Nat.le_of_ble_eq_true rfl)) nb_a52 rfl rfl rfl hl.1 rfl (Nat.le_of_ble_eq_true rfl) dX7_doesCountOn_10 (fun H locs hP hS => ?_)
  refine W.eq (g2 := F0 m 13 ls [.int r_2]) rfl ?_
  refine nb_tsw [(2, 48), (3, 65), (4, 77), (5, 90), (6, 113)] 115 hx hb dX7_doesCountOn_13 (by decide +kernel) ?_
  refine nb_split (fun c_3 => ?_) (fun c_3 => ?_)
  · have h := nb_t c_3 h
    refine lv_iload_n hx hb dX7_doesCountOn_48 rfl (lv_at hl 3 rfl) ?_
    refine lv_iconst (v := (2 : Int32)) hx hb dX7_doesCountOn_49 (by decide) ?_
    refine lv_irem hx hb dX7_doesCountOn_50 (by decide) ?_
    refine lv_if_eq (tgt := 59) hx hb dX7_doesCountOn_51 (by decide) (fun c_4 => ?_) (fun c_4 => ?_)
    · have h := nb_t c_4 h
      refine lv_iconst (v := (1 : Int32)) hx hb dX7_doesCountOn_59 (by decide) ?_
      refine lv_goto (tgt := 64) hx hb dX7_doesCountOn_60 (by decide) ?_
      obtain rfl := nb_e1 h
      exact nb_zret (by decide) hx hb hr hlk hP hS dX7_doesCountOn_64
    · have h := nb_f c_4 h
      refine lv_iload_n hx hb dX7_doesCountOn_54 rfl (lv_at hl 0 rfl) ?_
      refine lv_iconst (v := (4 : Int32)) hx hb dX7_doesCountOn_55 (by decide) ?_
      refine lv_icmp_le (tgt := 63) hx hb dX7_doesCountOn_56 (by decide) (fun c_5 => ?_) (fun c_5 => ?_)
      · have h := nb_t c_5 h
        refine lv_iconst (v := (0 : Int32)) hx hb dX7_doesCountOn_63 (by decide) ?_
        obtain rfl := nb_e1 h
        exact nb_zret (by decide) hx hb hr hlk hP hS dX7_doesCountOn_64
      · have h := nb_f c_5 h
        refine lv_iconst (v := (1 : Int32)) hx hb dX7_doesCountOn_59 (by decide) ?_
        refine lv_goto (tgt := 64) hx hb dX7_doesCountOn_60 (by decide) ?_
        obtain rfl := nb_e1 h
        exact nb_zret (by decide) hx hb hr hlk hP hS dX7_doesCountOn_64
  · have h := nb_f c_3 h
    refine nb_split (fun c_6 => ?_) (fun c_6 => ?_)
    · have h := nb_t c_6 h
      refine lv_iload_n hx hb dX7_doesCountOn_65 rfl (lv_at hl 0 rfl) ?_
      refine lv_bipush (v := (8 : Int32)) hx hb dX7_doesCountOn_66 (by decide) ?_
      refine lv_icmp_ge (tgt := 75) hx hb dX7_doesCountOn_68 (by decide) (fun c_7 => ?_) (fun c_7 => ?_)
      · have h := nb_t c_7 h
        refine lv_iconst (v := (0 : Int32)) hx hb dX7_doesCountOn_75 (by decide) ?_
        obtain rfl := nb_e1 h
        exact nb_zret (by decide) hx hb hr hlk hP hS dX7_doesCountOn_76
      · have h := nb_f c_7 h
        refine lv_iconst (v := (1 : Int32)) hx hb dX7_doesCountOn_71 (by decide) ?_
        refine lv_goto (tgt := 76) hx hb dX7_doesCountOn_72 (by decide) ?_
        obtain rfl := nb_e1 h
        exact nb_zret (by decide) hx hb hr hlk hP hS dX7_doesCountOn_76
    · have h := nb_f c_6 h
      refine nb_split (fun c_8 => ?_) (fun c_8 => ?_)
      · have h := nb_t c_8 h
        refine lv_aload_n hx hb dX7_doesCountOn_77 rfl (lv_at hl 1 rfl) ?_
        obtain ⟨r_9, e_9, h⟩ := nb_oE h
        refine nb_callV (n := 0) (As := []) (rest := []) hx hb hml hown hts hK hZ hP hS (k_X7_shards had M N e_9) gX7_doesCountOn_X7_shards rfl (by decide +kernel) (nb_rm (Nat.le_of_ble_eq_true rfl) (Nat.le_of_ble_eq_true rfl)) nb_a52 rfl rfl rfl hl.1 rfl (Nat.le_of_ble_eq_true rfl) dX7_doesCountOn_78 (fun H locs hP hS => ?_)
        refine W.eq (g2 := F0 m 81 ls [.int r_9]) rfl ?_
        refine lv_if_le (tgt := 88) hx hb dX7_doesCountOn_81 (by decide) (fun c_10 => ?_) (fun c_10 => ?_)
        · have h := nb_t c_10 h
          refine lv_iconst (v := (0 : Int32)) hx hb dX7_doesCountOn_88 (by decide) ?_
          obtain rfl := nb_e1 h
          exact nb_zret (by decide) hx hb hr hlk hP hS dX7_doesCountOn_89
        · have h := nb_f c_10 h
          refine lv_iconst (v := (1 : Int32)) hx hb dX7_doesCountOn_84 (by decide) ?_
          refine lv_goto (tgt := 89) hx hb dX7_doesCountOn_85 (by decide) ?_
          obtain rfl := nb_e1 h
          exact nb_zret (by decide) hx hb hr hlk hP hS dX7_doesCountOn_89
      · have h := nb_f c_8 h
        refine nb_split (fun c_11 => ?_) (fun c_11 => ?_)
        · have h := nb_t c_11 h
          refine lv_iload_n hx hb dX7_doesCountOn_90 rfl (lv_at hl 3 rfl) ?_
          refine lv_iconst (v := (2 : Int32)) hx hb dX7_doesCountOn_91 (by decide) ?_
          refine lv_irem hx hb dX7_doesCountOn_92 (by decide) ?_
          refine lv_if_eq (tgt := 107) hx hb dX7_doesCountOn_93 (by decide) (fun c_12 => ?_) (fun c_12 => ?_)
          · have h := nb_t c_12 h
            refine lv_iconst (v := (1 : Int32)) hx hb dX7_doesCountOn_107 (by decide) ?_
            refine lv_goto (tgt := 112) hx hb dX7_doesCountOn_108 (by decide) ?_
            obtain rfl := nb_e1 h
            exact nb_zret (by decide) hx hb hr hlk hP hS dX7_doesCountOn_112
          · have h := nb_f c_12 h
            refine lv_iload_n hx hb dX7_doesCountOn_96 rfl (lv_at hl 0 rfl) ?_
            refine lv_iconst (v := (4 : Int32)) hx hb dX7_doesCountOn_97 (by decide) ?_
            refine lv_icmp_gt (tgt := 107) hx hb dX7_doesCountOn_98 (by decide) (fun c_13 => ?_) (fun c_13 => ?_)
            · have h := nb_t c_13 h
              refine lv_iconst (v := (1 : Int32)) hx hb dX7_doesCountOn_107 (by decide) ?_
              refine lv_goto (tgt := 112) hx hb dX7_doesCountOn_108 (by decide) ?_
              obtain rfl := nb_e1 h
              exact nb_zret (by decide) hx hb hr hlk hP hS dX7_doesCountOn_112
            · have h := nb_f c_13 h
              refine lv_iload_n hx hb dX7_doesCountOn_101 rfl (lv_at hl 3 rfl) ?_
              refine lv_bipush (v := (100 : Int32)) hx hb dX7_doesCountOn_102 (by decide) ?_
              refine lv_icmp_le (tgt := 111) hx hb dX7_doesCountOn_104 (by decide) (fun c_14 => ?_) (fun c_14 => ?_)
              · have h := nb_t c_14 h
                refine lv_iconst (v := (0 : Int32)) hx hb dX7_doesCountOn_111 (by decide) ?_
                obtain rfl := nb_e1 h
                exact nb_zret (by decide) hx hb hr hlk hP hS dX7_doesCountOn_112
              · have h := nb_f c_14 h
                refine lv_iconst (v := (1 : Int32)) hx hb dX7_doesCountOn_107 (by decide) ?_
                refine lv_goto (tgt := 112) hx hb dX7_doesCountOn_108 (by decide) ?_
                obtain rfl := nb_e1 h
                exact nb_zret (by decide) hx hb hr hlk hP hS dX7_doesCountOn_112
        · have h := nb_f c_11 h
          refine nb_split (fun c_15 => ?_) (fun c_15 => ?_)
          · have h := nb_t c_15 h
            refine lv_iconst (v := (0 : Int32)) hx hb dX7_doesCountOn_113 (by decide) ?_
            obtain rfl := nb_e1 h
            exact nb_zret (by decide) hx hb hr hlk hP hS dX7_doesCountOn_114
          · have h := nb_f c_15 h
            refine W.eq (g2 := F0 m 115 ls []) rfl ?_
            refine lv_iconst (v := (1 : Int32)) hx hb dX7_doesCountOn_115 (by decide) ?_
            obtain rfl := nb_e1 h
            exact nb_zret (by decide) hx hb hr hlk hP hS dX7_doesCountOn_116
set_option maxHeartbeats 4000000 in
set_option maxRecDepth 100000 in
theorem k_X7_doesCount {r : Int32} (had : nb_AD ad b0) (M N : nb_M) (p0 : Int32) (h : f_X7_doesCount M p0 = some r) : nb_C l D ad ca b0 yX7_doesCount wsX7_doesCount 3 [.ref (ad 52), .int p0] N M (some (.int r)) N M := by
  refine nb_of (cc := cX7_doesCount) (maxL := 2) (ret := (some .boolean)) (own := RX7) (by decide +kernel) rfl rfl (Nat.le_of_ble_eq_true rfl) ?_
  intro p e s m args below meth c ls X hP hS hl
  have hl : lv_has ls 2 [(0, .ref (ad 52)), (1, .int p0)] := hl
  obtain ⟨hx, hb, hml, hown, hts, hr, hlk, hK, hZ⟩ := id X
  have w_1 := hts (.fieldLink RX7 9 "NineBreakagesModel" "row" "[I") (by decide +kernel)
  have in7 : ∀ w ∈ u_ws RX7 TX7 21, w ∈ wsX7_doesCount := fun w q => List.mem_cons_of_mem _ (List.mem_append_right _ q)
  unfold f_X7_doesCount at h
  refine lv_aload_n hx hb dX7_doesCount_0 rfl (lv_at hl 0 rfl) ?_
  refine lv_iload_n hx hb dX7_doesCount_1 rfl (lv_at hl 1 rfl) ?_
  refine lv_aload_n hx hb dX7_doesCount_2 rfl (lv_at hl 0 rfl) ?_
  refine va_get (v := .ref (ad 53)) (C := RX7) (T := TX7) (N := 21) hx hb hts in7 hown hK.1 hP 52 nb_a52 rfl 0 (by decide) w_1 (fun _ h9 => h9) rfl dX7_doesCount_3 ?_
  refine lv_iconst (v := (0 : Int32)) hx hb dX7_doesCount_6 (by decide) ?_
  refine va_iald hx hb hK.1 hP 53 0 nb_a53 rfl (nb_lit rfl) dX7_doesCount_7 ?_
  obtain ⟨r_1, e_1, h⟩ := nb_oE h
  refine nb_callV (n := 2) (As := [.int p0, .int (M.1 1 (0 : Int32).toNatClampNeg)]) (rest := []) hx hb hml hown hts hK hZ hP hS (k_X7_doesCountOn had M N p0 (M.1 1 (0 : Int32).toNatClampNeg) e_1) gX7_doesCount_X7_doesCountOn rfl (by decide +kernel) (nb_rm (Nat.le_of_ble_eq_true rfl) (Nat.le_of_ble_eq_true rfl)) nb_a52 rfl rfl rfl hl.1 rfl (Nat.le_of_ble_eq_true rfl) dX7_doesCount_8 (fun H locs hP hS => ?_)
  refine W.eq (g2 := F0 m 11 ls [.int r_1]) rfl ?_
  obtain ⟨c_2, h⟩ := nb_c h
  obtain rfl := nb_e1 h
  exact nb_zret (Decidable.not_not.mp c_2) hx hb hr hlk hP hS dX7_doesCount_11
set_option maxHeartbeats 4000000 in
set_option maxRecDepth 100000 in
theorem k_X7_slipsOf {r : Int32} (had : nb_AD ad b0) (M N : nb_M) (p0 : Int32) (p1 : Int32) (h : f_X7_slipsOf M p0 p1 = some r) : nb_C l D ad ca b0 yX7_slipsOf wsX7_slipsOf 2 [.ref (ad 52), .int p0, .int p1] N M (some (.int r)) N M := by
  refine nb_of (cc := cX7_slipsOf) (maxL := 5) (ret := (some .int)) (own := RX7) (by decide +kernel) rfl rfl (Nat.le_of_ble_eq_true rfl) ?_
  intro p e s m args below meth c ls X hP hS hl
  have hl : lv_has ls 5 [(0, .ref (ad 52)), (1, .int p0), (2, .int p1)] := hl
  obtain ⟨hx, hb, hml, hown, hts, hr, hlk, hK, hZ⟩ := id X
  have w_1 := hts (.fieldLink RX7 9 "NineBreakagesModel" "row" "[I") (by decide +kernel)
  have in7 : ∀ w ∈ u_ws RX7 TX7 21, w ∈ wsX7_slipsOf := fun w q => List.mem_cons_of_mem _ (List.mem_append_right _ q)
  unfold f_X7_slipsOf at h
  refine lv_aload_n hx hb dX7_slipsOf_0 rfl (lv_at hl 0 rfl) ?_
  refine lv_iload_n hx hb dX7_slipsOf_1 rfl (lv_at hl 1 rfl) ?_
  refine lv_iconst (v := (1 : Int32)) hx hb dX7_slipsOf_2 (by decide) ?_
  obtain ⟨r_1, e_1, h⟩ := nb_oE h
  refine nb_callV (n := 2) (As := [.int p0, .int (1 : Int32)]) (rest := []) hx hb hml hown hts hK hZ hP hS (k_X7_of had M N p0 (1 : Int32) e_1) gX7_slipsOf_X7_of rfl (by decide +kernel) (nb_rm (Nat.le_of_ble_eq_true rfl) (Nat.le_of_ble_eq_true rfl)) nb_a52 rfl rfl rfl hl.1 rfl (Nat.le_of_ble_eq_true rfl) dX7_slipsOf_3 (fun H locs hP hS => ?_)
  refine W.eq (g2 := F0 m 6 ls [.int r_1]) rfl ?_
  refine lv_istore_n (lv' := [(3, .int r_1), (0, .ref (ad 52)), (1, .int p0), (2, .int p1)]) hx hb dX7_slipsOf_6 rfl hl (by decide) rfl (fun ls hl => ?_)
  refine lv_bipush (v := (10 : Int32)) hx hb dX7_slipsOf_7 (by decide) ?_
  refine lv_iload_n hx hb dX7_slipsOf_9 rfl (lv_at hl 3 rfl) ?_
  refine lv_isub hx hb dX7_slipsOf_10 ?_
  refine lv_iload_n hx hb dX7_slipsOf_11 rfl (lv_at hl 0 rfl) ?_
  refine lv_iadd hx hb dX7_slipsOf_12 ?_
  refine lv_topi (fun v_2 e_2 => ?_)
  have h := nb_nA e_2 h
  refine lv_istore (lv' := [(4, .int v_2), (3, .int r_1), (0, .ref (ad 52)), (1, .int p0), (2, .int p1)]) hx hb dX7_slipsOf_13 hl (by decide) rfl (fun ls hl => ?_)
  refine lv_aload_n hx hb dX7_slipsOf_15 rfl (lv_at hl 2 rfl) ?_
  refine lv_iload_n hx hb dX7_slipsOf_16 rfl (lv_at hl 3 rfl) ?_
  refine lv_iconst (v := (0 : Int32)) hx hb dX7_slipsOf_17 (by decide) ?_
  obtain ⟨r_3, e_3, h⟩ := nb_oE h
  refine nb_callV (n := 2) (As := [.int p0, .int (0 : Int32)]) (rest := []) hx hb hml hown hts hK hZ hP hS (k_X7_of had M N p0 (0 : Int32) e_3) gX7_slipsOf_X7_of rfl (by decide +kernel) (nb_rm (Nat.le_of_ble_eq_true rfl) (Nat.le_of_ble_eq_true rfl)) nb_a52 rfl rfl rfl hl.1 rfl (Nat.le_of_ble_eq_true rfl) dX7_slipsOf_18 (fun H locs hP hS => ?_)
  refine W.eq (g2 := F0 m 21 ls [.int r_3]) rfl ?_
  refine nb_tsw [(1, 60), (2, 65), (3, 70), (4, 75), (5, 89), (6, 99)] 112 hx hb dX7_slipsOf_21 (by decide +kernel) ?_
  refine nb_split (fun c_4 => ?_) (fun c_4 => ?_)
  · have h := nb_t c_4 h
    refine lv_iload hx hb dX7_slipsOf_60 (lv_at hl 0 rfl) ?_
    refine lv_iconst (v := (3 : Int32)) hx hb dX7_slipsOf_62 (by decide) ?_
    refine lv_iadd hx hb dX7_slipsOf_63 ?_
    obtain rfl := nb_e1 h
    exact nb_iret hx hb hr hlk hP hS dX7_slipsOf_64
  · have h := nb_f c_4 h
    refine nb_split (fun c_5 => ?_) (fun c_5 => ?_)
    · have h := nb_t c_5 h
      refine lv_iload hx hb dX7_slipsOf_65 (lv_at hl 0 rfl) ?_
      refine lv_iconst (v := (2 : Int32)) hx hb dX7_slipsOf_67 (by decide) ?_
      refine lv_idiv hx hb dX7_slipsOf_68 (by decide) ?_
      obtain rfl := nb_e1 h
      exact nb_iret hx hb hr hlk hP hS dX7_slipsOf_69
    · have h := nb_f c_5 h
      refine nb_split (fun c_6 => ?_) (fun c_6 => ?_)
      · have h := nb_t c_6 h
        refine lv_iload hx hb dX7_slipsOf_70 (lv_at hl 0 rfl) ?_
        refine lv_iload_n hx hb dX7_slipsOf_72 rfl (lv_at hl 1 rfl) ?_
        refine lv_isub hx hb dX7_slipsOf_73 ?_
        obtain rfl := nb_e1 h
        exact nb_iret hx hb hr hlk hP hS dX7_slipsOf_74
      · have h := nb_f c_6 h
        refine nb_split (fun c_7 => ?_) (fun c_7 => ?_)
        · have h := nb_t c_7 h
          refine lv_iload hx hb dX7_slipsOf_75 (lv_at hl 0 rfl) ?_
          refine lv_iconst (v := (3 : Int32)) hx hb dX7_slipsOf_77 (by decide) ?_
          refine lv_iadd hx hb dX7_slipsOf_78 ?_
          refine lv_aload_n hx hb dX7_slipsOf_79 rfl (lv_at hl 2 rfl) ?_
          refine va_get (v := .ref (ad 53)) (C := RX7) (T := TX7) (N := 21) hx hb hts in7 hown hK.1 hP 52 nb_a52 rfl 0 (by decide) w_1 (fun _ h9 => h9) rfl dX7_slipsOf_80 ?_
          refine lv_iconst (v := (0 : Int32)) hx hb dX7_slipsOf_83 (by decide) ?_
          refine va_iald hx hb hK.1 hP 53 0 nb_a53 rfl (nb_lit rfl) dX7_slipsOf_84 ?_
          refine lv_iconst (v := (3 : Int32)) hx hb dX7_slipsOf_85 (by decide) ?_
          refine lv_irem hx hb dX7_slipsOf_86 (by decide) ?_
          refine lv_iadd hx hb dX7_slipsOf_87 ?_
          obtain rfl := nb_e1 h
          exact nb_iret hx hb hr hlk hP hS dX7_slipsOf_88
        · have h := nb_f c_7 h
          refine nb_split (fun c_8 => ?_) (fun c_8 => ?_)
          · have h := nb_t c_8 h
            refine lv_iload hx hb dX7_slipsOf_89 (lv_at hl 0 rfl) ?_
            refine lv_iconst (v := (2 : Int32)) hx hb dX7_slipsOf_91 (by decide) ?_
            refine lv_idiv hx hb dX7_slipsOf_92 (by decide) ?_
            refine lv_aload_n hx hb dX7_slipsOf_93 rfl (lv_at hl 2 rfl) ?_
            obtain ⟨r_9, e_9, h⟩ := nb_oE h
            refine nb_callV (n := 0) (As := []) (rest := [.int (v_2 / (2 : Int32))]) hx hb hml hown hts hK hZ hP hS (k_X7_shards had M N e_9) gX7_slipsOf_X7_shards rfl (by decide +kernel) (nb_rm (Nat.le_of_ble_eq_true rfl) (Nat.le_of_ble_eq_true rfl)) nb_a52 rfl rfl rfl hl.1 rfl (Nat.le_of_ble_eq_true rfl) dX7_slipsOf_94 (fun H locs hP hS => ?_)
            refine W.eq (g2 := F0 m 97 ls [.int r_9, .int (v_2 / (2 : Int32))]) rfl ?_
            refine lv_iadd hx hb dX7_slipsOf_97 ?_
            obtain rfl := nb_e1 h
            exact nb_iret hx hb hr hlk hP hS dX7_slipsOf_98
          · have h := nb_f c_8 h
            refine nb_split (fun c_10 => ?_) (fun c_10 => ?_)
            · have h := nb_t c_10 h
              refine lv_iload_n hx hb dX7_slipsOf_99 rfl (lv_at hl 4 rfl) ?_
              refine lv_bipush (v := (6 : Int32)) hx hb dX7_slipsOf_100 (by decide) ?_
              refine lv_icmp_le (tgt := 109) hx hb dX7_slipsOf_102 (by decide) (fun c_11 => ?_) (fun c_11 => ?_)
              · have h := nb_t c_11 h
                refine lv_iload hx hb dX7_slipsOf_109 (lv_at hl 0 rfl) ?_
                obtain rfl := nb_e1 h
                exact nb_iret hx hb hr hlk hP hS dX7_slipsOf_111
              · have h := nb_f c_11 h
                refine lv_iconst (v := (0 : Int32)) hx hb dX7_slipsOf_105 (by decide) ?_
                refine lv_goto (tgt := 111) hx hb dX7_slipsOf_106 (by decide) ?_
                obtain rfl := nb_e1 h
                exact nb_iret hx hb hr hlk hP hS dX7_slipsOf_111
            · have h := nb_f c_10 h
              refine W.eq (g2 := F0 m 112 ls []) rfl ?_
              refine lv_iload hx hb dX7_slipsOf_112 (lv_at hl 0 rfl) ?_
              obtain rfl := nb_e1 h
              exact nb_iret hx hb hr hlk hP hS dX7_slipsOf_114
set_option maxHeartbeats 4000000 in
set_option maxRecDepth 100000 in
theorem k_X7_riskBy {r : Int32} {M' : nb_M} (had : nb_AD ad b0) (M N : nb_M) (p0 : Int32) (p1 : Int32) (h : f_X7_riskBy M p0 p1 = some (r, M')) : nb_C l D ad ca b0 yX7_riskBy wsX7_riskBy 3 [.ref (ad 52), .int p0, .int p1] N M (some (.int r)) N M' := by
  refine nb_of (cc := cX7_riskBy) (maxL := 3) (ret := (some .int)) (own := RX7) (by decide +kernel) rfl rfl (Nat.le_of_ble_eq_true rfl) ?_
  intro p e s m args below meth c ls X hP hS hl
  have hl : lv_has ls 3 [(0, .ref (ad 52)), (1, .int p0), (2, .int p1)] := hl
  obtain ⟨hx, hb, hml, hown, hts, hr, hlk, hK, hZ⟩ := id X
  have w_1 := hts (.fieldLink RX7 9 "NineBreakagesModel" "row" "[I") (by decide +kernel)
  have in7 : ∀ w ∈ u_ws RX7 TX7 21, w ∈ wsX7_riskBy := fun w q => List.mem_cons_of_mem _ (List.mem_append_right _ q)
  unfold f_X7_riskBy at h
  refine lv_aload_n hx hb dX7_riskBy_0 rfl (lv_at hl 0 rfl) ?_
  refine lv_iconst (v := (0 : Int32)) hx hb dX7_riskBy_1 (by decide) ?_
  refine lv_aload_n hx hb dX7_riskBy_2 rfl (lv_at hl 0 rfl) ?_
  refine lv_iload_n hx hb dX7_riskBy_3 rfl (lv_at hl 1 rfl) ?_
  refine lv_iload_n hx hb dX7_riskBy_4 rfl (lv_at hl 2 rfl) ?_
  obtain ⟨r_1, e_1, h⟩ := nb_oE h
  refine nb_callV (n := 2) (As := [.int p0, .int p1]) (rest := [.int (0 : Int32), .ref (ad 52)]) hx hb hml hown hts hK hZ hP hS (k_X7_slipsOf had M N p0 p1 e_1) gX7_riskBy_X7_slipsOf rfl (by decide +kernel) (nb_rm (Nat.le_of_ble_eq_true rfl) (Nat.le_of_ble_eq_true rfl)) nb_a52 rfl rfl rfl hl.1 rfl (Nat.le_of_ble_eq_true rfl) dX7_riskBy_5 (fun H locs hP hS => ?_)
  refine W.eq (g2 := F0 m 8 ls [.int r_1, .int (0 : Int32), .ref (ad 52)]) rfl ?_
  refine lv_iload_n hx hb dX7_riskBy_8 rfl (lv_at hl 2 rfl) ?_
  refine lv_aload_n hx hb dX7_riskBy_9 rfl (lv_at hl 0 rfl) ?_
  refine va_get (v := .ref (ad 53)) (C := RX7) (T := TX7) (N := 21) hx hb hts in7 hown hK.1 hP 52 nb_a52 rfl 0 (by decide) w_1 (fun _ h9 => h9) rfl dX7_riskBy_10 ?_
  refine lv_iconst (v := (0 : Int32)) hx hb dX7_riskBy_13 (by decide) ?_
  refine va_iald hx hb hK.1 hP 53 0 nb_a53 rfl (nb_lit rfl) dX7_riskBy_14 ?_
  refine lv_bipush (v := (7 : Int32)) hx hb dX7_riskBy_15 (by decide) ?_
  refine lv_irem hx hb dX7_riskBy_17 (by decide) ?_
  obtain ⟨r_2, M_2, e_2, h⟩ := nb_pE h
  refine nb_callV (n := 4) (As := [.int (0 : Int32), .int r_1, .int p1, .int ((M.1 1 (0 : Int32).toNatClampNeg) - (M.1 1 (0 : Int32).toNatClampNeg) / (7 : Int32) * (7 : Int32))]) (rest := []) hx hb hml hown hts hK hZ hP hS (k_X7_gives had M N (0 : Int32) r_1 p1 ((M.1 1 (0 : Int32).toNatClampNeg) - (M.1 1 (0 : Int32).toNatClampNeg) / (7 : Int32) * (7 : Int32)) e_2) gX7_riskBy_X7_gives rfl (by decide +kernel) (nb_rm (Nat.le_of_ble_eq_true rfl) (Nat.le_of_ble_eq_true rfl)) nb_a52 rfl rfl rfl hl.1 rfl (Nat.le_of_ble_eq_true rfl) dX7_riskBy_18 (fun H locs hP hS => ?_)
  refine W.eq (g2 := F0 m 21 ls [.int r_2]) rfl ?_
  obtain ⟨rfl, rfl⟩ := nb_e2 h
  exact nb_iret hx hb hr hlk hP hS dX7_riskBy_21
set_option maxHeartbeats 4000000 in
set_option maxRecDepth 100000 in
theorem k_X7_riskOf {r : Int32} {M' : nb_M} (had : nb_AD ad b0) (M N : nb_M) (p0 : Int32) (p1 : Int32) (h : f_X7_riskOf M p0 p1 = some (r, M')) : nb_C l D ad ca b0 yX7_riskOf wsX7_riskOf 4 [.ref (ad 52), .int p0, .int p1] N M (some (.int r)) N M' := by
  refine nb_of (cc := cX7_riskOf) (maxL := 3) (ret := (some .int)) (own := RX7) (by decide +kernel) rfl rfl (Nat.le_of_ble_eq_true rfl) ?_
  intro p e s m args below meth c ls X hP hS hl
  have hl : lv_has ls 3 [(0, .ref (ad 52)), (1, .int p0), (2, .int p1)] := hl
  obtain ⟨hx, hb, hml, hown, hts, hr, hlk, hK, hZ⟩ := id X
  unfold f_X7_riskOf at h
  refine lv_aload_n hx hb dX7_riskOf_0 rfl (lv_at hl 0 rfl) ?_
  refine lv_iload_n hx hb dX7_riskOf_1 rfl (lv_at hl 1 rfl) ?_
  refine lv_aload_n hx hb dX7_riskOf_2 rfl (lv_at hl 0 rfl) ?_
  refine lv_iload_n hx hb dX7_riskOf_3 rfl (lv_at hl 2 rfl) ?_
  refine lv_iconst (v := (0 : Int32)) hx hb dX7_riskOf_4 (by decide) ?_
  obtain ⟨r_1, e_1, h⟩ := nb_oE h
  refine nb_callV (n := 2) (As := [.int p1, .int (0 : Int32)]) (rest := [.int p0, .ref (ad 52)]) hx hb hml hown hts hK hZ hP hS (k_X7_about had M N p1 (0 : Int32) e_1) gX7_riskOf_X7_about rfl (by decide +kernel) (nb_rm (Nat.le_of_ble_eq_true rfl) (Nat.le_of_ble_eq_true rfl)) nb_a52 rfl rfl rfl hl.1 rfl (Nat.le_of_ble_eq_true rfl) dX7_riskOf_5 (fun H locs hP hS => ?_)
  refine W.eq (g2 := F0 m 8 ls [.int r_1, .int p0, .ref (ad 52)]) rfl ?_
  obtain ⟨r_2, M_2, e_2, h⟩ := nb_pE h
  refine nb_callV (n := 2) (As := [.int p0, .int r_1]) (rest := []) hx hb hml hown hts hK hZ hP hS (k_X7_riskBy had M N p0 r_1 e_2) gX7_riskOf_X7_riskBy rfl (by decide +kernel) (nb_rm (Nat.le_of_ble_eq_true rfl) (Nat.le_of_ble_eq_true rfl)) nb_a52 rfl rfl rfl hl.1 rfl (Nat.le_of_ble_eq_true rfl) dX7_riskOf_8 (fun H locs hP hS => ?_)
  refine W.eq (g2 := F0 m 11 ls [.int r_2]) rfl ?_
  obtain ⟨rfl, rfl⟩ := nb_e2 h
  exact nb_iret hx hb hr hlk hP hS dX7_riskOf_11
set_option maxHeartbeats 4000000 in
set_option maxRecDepth 100000 in
theorem k_X7_pieceIs {r : Int32} {M' : nb_M} (had : nb_AD ad b0) (M N : nb_M) (p0 : Int32) (p1 : Int32) (h : f_X7_pieceIs M p0 p1 = some (r, M')) : nb_C l D ad ca b0 yX7_pieceIs wsX7_pieceIs 5 [.ref (ad 52), .int p0, .int p1] N M (some (.int r)) N M' := by
  refine nb_of (cc := cX7_pieceIs) (maxL := 3) (ret := (some .int)) (own := RX7) (by decide +kernel) rfl rfl (Nat.le_of_ble_eq_true rfl) ?_
  intro p e s m args below meth c ls X hP hS hl
  have hl : lv_has ls 3 [(0, .ref (ad 52)), (1, .int p0), (2, .int p1)] := hl
  obtain ⟨hx, hb, hml, hown, hts, hr, hlk, hK, hZ⟩ := id X
  have w_1 := hts (.constant RX7 77 (-1000000001)) (by decide +kernel)
  unfold f_X7_pieceIs at h
  refine lv_aload_n hx hb dX7_pieceIs_0 rfl (lv_at hl 0 rfl) ?_
  refine lv_iload_n hx hb dX7_pieceIs_1 rfl (lv_at hl 1 rfl) ?_
  refine nb_callV (n := 1) (As := [.int p0]) (rest := []) hx hb hml hown hts hK hZ hP hS (k_X7_isPiece had M N p0) gX7_pieceIs_X7_isPiece rfl (by decide +kernel) (nb_rm (Nat.le_of_ble_eq_true rfl) (Nat.le_of_ble_eq_true rfl)) nb_a52 rfl rfl rfl hl.1 rfl (Nat.le_of_ble_eq_true rfl) dX7_pieceIs_2 (fun H locs hP hS => ?_)
  refine W.eq (g2 := F0 m 5 ls [.int (f_X7_isPiece M p0)]) rfl ?_
  refine lv_if_eq (tgt := 17) hx hb dX7_pieceIs_5 (by decide) (fun c_2 => ?_) (fun c_2 => ?_)
  · have h := nb_t c_2 h
    refine lv_aload_n hx hb dX7_pieceIs_17 rfl (lv_at hl 0 rfl) ?_
    refine lv_ldc (v := (-1000000001 : Int32)) hx hb hown w_1 dX7_pieceIs_18 ?_
    obtain ⟨r_3, M_3, e_3, h⟩ := nb_pE h
    refine nb_callV (n := 1) (As := [.int (-1000000001 : Int32)]) (rest := []) hx hb hml hown hts hK hZ hP hS (k_X7_error had M N (-1000000001 : Int32) e_3) gX7_pieceIs_X7_error rfl (by decide +kernel) (nb_rm (Nat.le_of_ble_eq_true rfl) (Nat.le_of_ble_eq_true rfl)) nb_a52 rfl rfl rfl hl.1 rfl (Nat.le_of_ble_eq_true rfl) dX7_pieceIs_20 (fun H locs hP hS => ?_)
    refine W.eq (g2 := F0 m 23 ls [.int r_3]) rfl ?_
    obtain ⟨rfl, rfl⟩ := nb_e2 h
    exact nb_iret hx hb hr hlk hP hS dX7_pieceIs_23
  · have h := nb_f c_2 h
    refine lv_iload_n hx hb dX7_pieceIs_8 rfl (lv_at hl 2 rfl) ?_
    refine lv_iconst (v := (0 : Int32)) hx hb dX7_pieceIs_9 (by decide) ?_
    refine lv_iconst (v := (5 : Int32)) hx hb dX7_pieceIs_10 (by decide) ?_
    refine nb_callS (n := 3) (As := [.int p1, .int (0 : Int32), .int (5 : Int32)]) (rest := []) hx hb hml hown hts hK hZ hP hS (k_X7_in had M N p1 (0 : Int32) (5 : Int32)) gX7_pieceIs_X7_in rfl (by decide +kernel) (nb_rm (Nat.le_of_ble_eq_true rfl) (Nat.le_of_ble_eq_true rfl)) rfl hl.1 rfl (Nat.le_of_ble_eq_true rfl) dX7_pieceIs_11 (fun H locs hP hS => ?_)
    refine W.eq (g2 := F0 m 14 ls [.int (f_X7_in p1 (0 : Int32) (5 : Int32))]) rfl ?_
    refine lv_if_ne (tgt := 24) hx hb dX7_pieceIs_14 (by decide) (fun c_5 => ?_) (fun c_5 => ?_)
    · have h := nb_f c_5 h
      refine lv_iload_n hx hb dX7_pieceIs_24 rfl (lv_at hl 2 rfl) ?_
      refine lv_iconst (v := (4 : Int32)) hx hb dX7_pieceIs_25 (by decide) ?_
      refine lv_icmp_ge (tgt := 38) hx hb dX7_pieceIs_26 (by decide) (fun c_6 => ?_) (fun c_6 => ?_)
      · have h := nb_t c_6 h
        refine lv_iload_n hx hb dX7_pieceIs_38 rfl (lv_at hl 2 rfl) ?_
        refine lv_iconst (v := (5 : Int32)) hx hb dX7_pieceIs_39 (by decide) ?_
        refine lv_icmp_ne (tgt := 57) hx hb dX7_pieceIs_40 (by decide) (fun c_7 => ?_) (fun c_7 => ?_)
        · have h := nb_f c_7 h
          refine lv_aload_n hx hb dX7_pieceIs_57 rfl (lv_at hl 0 rfl) ?_
          refine lv_iload_n hx hb dX7_pieceIs_58 rfl (lv_at hl 1 rfl) ?_
          obtain ⟨r_8, e_8, h⟩ := nb_oE h
          refine nb_callV (n := 1) (As := [.int p0]) (rest := []) hx hb hml hown hts hK hZ hP hS (k_X7_doesCount had M N p0 e_8) gX7_pieceIs_X7_doesCount rfl (by decide +kernel) (nb_rm (Nat.le_of_ble_eq_true rfl) (Nat.le_of_ble_eq_true rfl)) nb_a52 rfl rfl rfl hl.1 rfl (Nat.le_of_ble_eq_true rfl) dX7_pieceIs_59 (fun H locs hP hS => ?_)
          refine W.eq (g2 := F0 m 62 ls [.int r_8]) rfl ?_
          refine lv_if_eq (tgt := 69) hx hb dX7_pieceIs_62 (by decide) (fun c_9 => ?_) (fun c_9 => ?_)
          · have h := nb_t c_9 h
            refine lv_iconst (v := (0 : Int32)) hx hb dX7_pieceIs_69 (by decide) ?_
            obtain ⟨rfl, rfl⟩ := nb_e2 h
            exact nb_iret hx hb hr hlk hP hS dX7_pieceIs_70
          · have h := nb_f c_9 h
            refine lv_iconst (v := (1 : Int32)) hx hb dX7_pieceIs_65 (by decide) ?_
            refine lv_goto (tgt := 70) hx hb dX7_pieceIs_66 (by decide) ?_
            obtain ⟨rfl, rfl⟩ := nb_e2 h
            exact nb_iret hx hb hr hlk hP hS dX7_pieceIs_70
        · have h := nb_t c_7 h
          refine lv_aload_n hx hb dX7_pieceIs_43 rfl (lv_at hl 0 rfl) ?_
          refine lv_iload_n hx hb dX7_pieceIs_44 rfl (lv_at hl 1 rfl) ?_
          refine lv_aload_n hx hb dX7_pieceIs_45 rfl (lv_at hl 0 rfl) ?_
          refine lv_iload_n hx hb dX7_pieceIs_46 rfl (lv_at hl 1 rfl) ?_
          refine lv_iconst (v := (2 : Int32)) hx hb dX7_pieceIs_47 (by decide) ?_
          obtain ⟨r_10, e_10, h⟩ := nb_oE h
          refine nb_callV (n := 2) (As := [.int p0, .int (2 : Int32)]) (rest := [.int p0, .ref (ad 52)]) hx hb hml hown hts hK hZ hP hS (k_X7_of had M N p0 (2 : Int32) e_10) gX7_pieceIs_X7_of rfl (by decide +kernel) (nb_rm (Nat.le_of_ble_eq_true rfl) (Nat.le_of_ble_eq_true rfl)) nb_a52 rfl rfl rfl hl.1 rfl (Nat.le_of_ble_eq_true rfl) dX7_pieceIs_48 (fun H locs hP hS => ?_)
          refine W.eq (g2 := F0 m 51 ls [.int r_10, .int p0, .ref (ad 52)]) rfl ?_
          obtain ⟨r_11, M_11, e_11, h⟩ := nb_pE h
          refine nb_callV (n := 2) (As := [.int p0, .int r_10]) (rest := []) hx hb hml hown hts hK hZ hP hS (k_X7_riskOf had M N p0 r_10 e_11) gX7_pieceIs_X7_riskOf rfl (by decide +kernel) (nb_rm (Nat.le_of_ble_eq_true rfl) (Nat.le_of_ble_eq_true rfl)) nb_a52 rfl rfl rfl hl.1 rfl (Nat.le_of_ble_eq_true rfl) dX7_pieceIs_51 (fun H locs hP hS => ?_)
          refine W.eq (g2 := F0 m 54 ls [.int r_11]) rfl ?_
          refine lv_goto (tgt := 70) hx hb dX7_pieceIs_54 (by decide) ?_
          obtain ⟨rfl, rfl⟩ := nb_e2 h
          exact nb_iret hx hb hr hlk hP hS dX7_pieceIs_70
      · have h := nb_f c_6 h
        refine lv_aload_n hx hb dX7_pieceIs_29 rfl (lv_at hl 0 rfl) ?_
        refine lv_iload_n hx hb dX7_pieceIs_30 rfl (lv_at hl 1 rfl) ?_
        refine lv_iload_n hx hb dX7_pieceIs_31 rfl (lv_at hl 2 rfl) ?_
        obtain ⟨r_12, e_12, h⟩ := nb_oE h
        refine nb_callV (n := 2) (As := [.int p0, .int p1]) (rest := []) hx hb hml hown hts hK hZ hP hS (k_X7_of had M N p0 p1 e_12) gX7_pieceIs_X7_of rfl (by decide +kernel) (nb_rm (Nat.le_of_ble_eq_true rfl) (Nat.le_of_ble_eq_true rfl)) nb_a52 rfl rfl rfl hl.1 rfl (Nat.le_of_ble_eq_true rfl) dX7_pieceIs_32 (fun H locs hP hS => ?_)
        refine W.eq (g2 := F0 m 35 ls [.int r_12]) rfl ?_
        refine lv_goto (tgt := 70) hx hb dX7_pieceIs_35 (by decide) ?_
        obtain ⟨rfl, rfl⟩ := nb_e2 h
        exact nb_iret hx hb hr hlk hP hS dX7_pieceIs_70
    · have h := nb_t c_5 h
      refine lv_aload_n hx hb dX7_pieceIs_17 rfl (lv_at hl 0 rfl) ?_
      refine lv_ldc (v := (-1000000001 : Int32)) hx hb hown w_1 dX7_pieceIs_18 ?_
      obtain ⟨r_13, M_13, e_13, h⟩ := nb_pE h
      refine nb_callV (n := 1) (As := [.int (-1000000001 : Int32)]) (rest := []) hx hb hml hown hts hK hZ hP hS (k_X7_error had M N (-1000000001 : Int32) e_13) gX7_pieceIs_X7_error rfl (by decide +kernel) (nb_rm (Nat.le_of_ble_eq_true rfl) (Nat.le_of_ble_eq_true rfl)) nb_a52 rfl rfl rfl hl.1 rfl (Nat.le_of_ble_eq_true rfl) dX7_pieceIs_20 (fun H locs hP hS => ?_)
      refine W.eq (g2 := F0 m 23 ls [.int r_13]) rfl ?_
      obtain ⟨rfl, rfl⟩ := nb_e2 h
      exact nb_iret hx hb hr hlk hP hS dX7_pieceIs_23
set_option maxHeartbeats 4000000 in
set_option maxRecDepth 100000 in
theorem k_X7_becomes {r : Int32} {M' : nb_M} (had : nb_AD ad b0) (M N : nb_M) (p0 : Int32) (p1 : Int32) (h : f_X7_becomes M p0 p1 = some (r, M')) : nb_C l D ad ca b0 yX7_becomes wsX7_becomes 0 [.ref (ad 52), .int p0, .int p1] N M (some (.int r)) N M' := by
  refine nb_of (cc := cX7_becomes) (maxL := 4) (ret := (some .int)) (own := RX7) (by decide +kernel) rfl rfl (Nat.le_of_ble_eq_true rfl) ?_
  intro p e s m args below meth c ls X hP hS hl
  have hl : lv_has ls 4 [(0, .ref (ad 52)), (1, .int p0), (2, .int p1)] := hl
  obtain ⟨hx, hb, hml, hown, hts, hr, hlk, hK, hZ⟩ := id X
  have w_1 := hts (.fieldLink RX7 9 "NineBreakagesModel" "row" "[I") (by decide +kernel)
  have in7 : ∀ w ∈ u_ws RX7 TX7 21, w ∈ wsX7_becomes := fun w q => List.mem_cons_of_mem _ (List.mem_append_right _ q)
  unfold f_X7_becomes at h
  refine lv_aload_n hx hb dX7_becomes_0 rfl (lv_at hl 0 rfl) ?_
  refine va_get (v := .ref (ad 53)) (C := RX7) (T := TX7) (N := 21) hx hb hts in7 hown hK.1 hP 52 nb_a52 rfl 0 (by decide) w_1 (fun _ h9 => h9) rfl dX7_becomes_1 ?_
  refine lv_iload_n hx hb dX7_becomes_4 rfl (lv_at hl 1 rfl) ?_
  obtain ⟨c_1, h⟩ := nb_c h
  refine va_iald hx hb hK.1 hP 53 0 nb_a53 rfl c_1 dX7_becomes_5 ?_
  refine lv_topi (fun v_2 e_2 => ?_)
  have h := nb_nA e_2 h
  refine lv_istore_n (lv' := [(3, .int v_2), (0, .ref (ad 52)), (1, .int p0), (2, .int p1)]) hx hb dX7_becomes_6 rfl hl (by decide) rfl (fun ls hl => ?_)
  refine lv_aload_n hx hb dX7_becomes_7 rfl (lv_at hl 1 rfl) ?_
  refine va_get (v := .ref (ad 53)) (C := RX7) (T := TX7) (N := 21) hx hb hts in7 hown hK.1 hP 52 nb_a52 rfl 0 (by decide) w_1 (fun _ h9 => h9) rfl dX7_becomes_8 ?_
  refine lv_iload_n hx hb dX7_becomes_11 rfl (lv_at hl 2 rfl) ?_
  refine lv_iload_n hx hb dX7_becomes_12 rfl (lv_at hl 3 rfl) ?_
  refine nb_iast hx hb had hK hP hS nb_a53 c_1 (nb_t53 _ _) dX7_becomes_13 (fun H locs hP hS => ?_)
  obtain ⟨M_3, e_3, h⟩ := nb_nE h
  rw [e_3] at hP
  refine lv_iload_n hx hb dX7_becomes_14 rfl (lv_at hl 0 rfl) ?_
  obtain ⟨rfl, rfl⟩ := nb_e2 h
  exact nb_iret hx hb hr hlk hP hS dX7_becomes_15
set_option maxHeartbeats 4000000 in
set_option maxRecDepth 100000 in
theorem k_X7_become {r : Int32} {M' : nb_M} (had : nb_AD ad b0) (M N : nb_M) (p0 : Int32) (p1 : Int32) (h : f_X7_become M p0 p1 = some (r, M')) : nb_C l D ad ca b0 yX7_become wsX7_become 2 [.ref (ad 52), .int p0, .int p1] N M (some (.int r)) N M' := by
  refine nb_of (cc := cX7_become) (maxL := 3) (ret := (some .int)) (own := RX7) (by decide +kernel) rfl rfl (Nat.le_of_ble_eq_true rfl) ?_
  intro p e s m args below meth c ls X hP hS hl
  have hl : lv_has ls 3 [(0, .ref (ad 52)), (1, .int p0), (2, .int p1)] := hl
  obtain ⟨hx, hb, hml, hown, hts, hr, hlk, hK, hZ⟩ := id X
  have w_1 := hts (.constant RX7 77 (-1000000001)) (by decide +kernel)
  unfold f_X7_become at h
  refine lv_aload_n hx hb dX7_become_0 rfl (lv_at hl 0 rfl) ?_
  refine lv_iload_n hx hb dX7_become_1 rfl (lv_at hl 1 rfl) ?_
  refine nb_callV (n := 1) (As := [.int p0]) (rest := []) hx hb hml hown hts hK hZ hP hS (k_X7_isPiece had M N p0) gX7_become_X7_isPiece rfl (by decide +kernel) (nb_rm (Nat.le_of_ble_eq_true rfl) (Nat.le_of_ble_eq_true rfl)) nb_a52 rfl rfl rfl hl.1 rfl (Nat.le_of_ble_eq_true rfl) dX7_become_2 (fun H locs hP hS => ?_)
  refine W.eq (g2 := F0 m 5 ls [.int (f_X7_isPiece M p0)]) rfl ?_
  refine lv_if_eq (tgt := 15) hx hb dX7_become_5 (by decide) (fun c_2 => ?_) (fun c_2 => ?_)
  · have h := nb_t c_2 h
    refine lv_aload_n hx hb dX7_become_15 rfl (lv_at hl 0 rfl) ?_
    refine lv_ldc (v := (-1000000001 : Int32)) hx hb hown w_1 dX7_become_16 ?_
    obtain ⟨r_3, M_3, e_3, h⟩ := nb_pE h
    refine nb_callV (n := 1) (As := [.int (-1000000001 : Int32)]) (rest := []) hx hb hml hown hts hK hZ hP hS (k_X7_error had M N (-1000000001 : Int32) e_3) gX7_become_X7_error rfl (by decide +kernel) (nb_rm (Nat.le_of_ble_eq_true rfl) (Nat.le_of_ble_eq_true rfl)) nb_a52 rfl rfl rfl hl.1 rfl (Nat.le_of_ble_eq_true rfl) dX7_become_18 (fun H locs hP hS => ?_)
    refine W.eq (g2 := F0 m 21 ls [.int r_3]) rfl ?_
    obtain ⟨rfl, rfl⟩ := nb_e2 h
    exact nb_iret hx hb hr hlk hP hS dX7_become_21
  · have h := nb_f c_2 h
    refine lv_iload_n hx hb dX7_become_8 rfl (lv_at hl 2 rfl) ?_
    refine nb_callS (n := 1) (As := [.int p1]) (rest := []) hx hb hml hown hts hK hZ hP hS (k_X7_isKm had M N p1) gX7_become_X7_isKm rfl (by decide +kernel) (nb_rm (Nat.le_of_ble_eq_true rfl) (Nat.le_of_ble_eq_true rfl)) rfl hl.1 rfl (Nat.le_of_ble_eq_true rfl) dX7_become_9 (fun H locs hP hS => ?_)
    refine W.eq (g2 := F0 m 12 ls [.int (f_X7_isKm p1)]) rfl ?_
    refine lv_if_ne (tgt := 22) hx hb dX7_become_12 (by decide) (fun c_5 => ?_) (fun c_5 => ?_)
    · have h := nb_f c_5 h
      refine lv_aload_n hx hb dX7_become_22 rfl (lv_at hl 0 rfl) ?_
      refine lv_iload_n hx hb dX7_become_23 rfl (lv_at hl 1 rfl) ?_
      refine lv_iconst (v := (1 : Int32)) hx hb dX7_become_24 (by decide) ?_
      refine lv_iload_n hx hb dX7_become_25 rfl (lv_at hl 2 rfl) ?_
      refine lv_bipush (v := (10 : Int32)) hx hb dX7_become_26 (by decide) ?_
      refine lv_irem hx hb dX7_become_28 (by decide) ?_
      obtain ⟨M_6, e_6, h⟩ := nb_oE h
      refine nb_callV (n := 3) (As := [.int p0, .int (1 : Int32), .int (p1 - p1 / (10 : Int32) * (10 : Int32))]) (rest := []) hx hb hml hown hts hK hZ hP hS (k_X7_lets had M N p0 (1 : Int32) (p1 - p1 / (10 : Int32) * (10 : Int32)) e_6) gX7_become_X7_lets rfl (by decide +kernel) (nb_rm (Nat.le_of_ble_eq_true rfl) (Nat.le_of_ble_eq_true rfl)) nb_a52 rfl rfl rfl hl.1 rfl (Nat.le_of_ble_eq_true rfl) dX7_become_29 (fun H locs hP hS => ?_)
      refine W.eq (g2 := F0 m 32 ls []) rfl ?_
      refine lv_aload_n hx hb dX7_become_32 rfl (lv_at hl 0 rfl) ?_
      refine lv_bipush (v := (21 : Int32)) hx hb dX7_become_33 (by decide) ?_
      refine lv_iconst (v := (4 : Int32)) hx hb dX7_become_35 (by decide) ?_
      refine lv_iload_n hx hb dX7_become_36 rfl (lv_at hl 1 rfl) ?_
      refine lv_imul hx hb dX7_become_37 ?_
      refine lv_iadd hx hb dX7_become_38 ?_
      refine lv_iload_n hx hb dX7_become_39 rfl (lv_at hl 2 rfl) ?_
      refine lv_bipush (v := (10 : Int32)) hx hb dX7_become_40 (by decide) ?_
      refine lv_idiv hx hb dX7_become_42 (by decide) ?_
      obtain ⟨r_7, M_7, e_7, h⟩ := nb_pE h
      refine nb_callV (n := 2) (As := [.int ((21 : Int32) + ((4 : Int32) * p0)), .int (p1 / (10 : Int32))]) (rest := []) hx hb hml hown hts hK hZ hP hS (k_X7_becomes had M_6 N ((21 : Int32) + ((4 : Int32) * p0)) (p1 / (10 : Int32)) e_7) gX7_become_X7_becomes rfl (by decide +kernel) (nb_rm (Nat.le_of_ble_eq_true rfl) (Nat.le_of_ble_eq_true rfl)) nb_a52 rfl rfl rfl hl.1 rfl (Nat.le_of_ble_eq_true rfl) dX7_become_43 (fun H locs hP hS => ?_)
      refine W.eq (g2 := F0 m 46 ls [.int r_7]) rfl ?_
      obtain ⟨rfl, rfl⟩ := nb_e2 h
      exact nb_iret hx hb hr hlk hP hS dX7_become_46
    · have h := nb_t c_5 h
      refine lv_aload_n hx hb dX7_become_15 rfl (lv_at hl 0 rfl) ?_
      refine lv_ldc (v := (-1000000001 : Int32)) hx hb hown w_1 dX7_become_16 ?_
      obtain ⟨r_8, M_8, e_8, h⟩ := nb_pE h
      refine nb_callV (n := 1) (As := [.int (-1000000001 : Int32)]) (rest := []) hx hb hml hown hts hK hZ hP hS (k_X7_error had M N (-1000000001 : Int32) e_8) gX7_become_X7_error rfl (by decide +kernel) (nb_rm (Nat.le_of_ble_eq_true rfl) (Nat.le_of_ble_eq_true rfl)) nb_a52 rfl rfl rfl hl.1 rfl (Nat.le_of_ble_eq_true rfl) dX7_become_18 (fun H locs hP hS => ?_)
      refine W.eq (g2 := F0 m 21 ls [.int r_8]) rfl ?_
      obtain ⟨rfl, rfl⟩ := nb_e2 h
      exact nb_iret hx hb hr hlk hP hS dX7_become_21
set_option maxHeartbeats 4000000 in
set_option maxRecDepth 100000 in
theorem w_X7_as_61 {N : nb_M} {r : Int32} {M' : nb_M} (had : nb_AD ad b0) (X : nb_X p s m args meth c cX7_as 5 RX7 (some .int) wsX7_as D ca b0) : ∀ (M : nb_M) (x1 : Int32), f_X7_as_61 M x1 = some (r, M') → ∀ (H : Heap) (locs : List Loc), va_P D vwCl (nb_w ad ca N M) H → va_S (fun q => b0 ≤ q) s.heap H locs → ∀ ls : Array Slot, lv_has ls 5 [(0, .ref (ad 52)), (1, .int x1)] → W p l e (nb_R 2) s m args below meth c H locs 0 0 (nb_Q below args s D ad ca b0 (some (.int r)) N M') (F0 m 61 ls []) := by
  obtain ⟨hx, hb, hml, hown, hts, hr, hlk, hK, hZ⟩ := id X
  intro M x1 h H locs hP hS ls hl
  unfold f_X7_as_61 at h
  refine lv_iconst (v := (1 : Int32)) hx hb dX7_as_61 (by decide) ?_
  refine lv_goto (tgt := 66) hx hb dX7_as_62 (by decide) ?_
  refine lv_istore (lv' := [(4, .int (1 : Int32)), (0, .ref (ad 52)), (1, .int x1)]) hx hb dX7_as_66 hl (by decide) rfl (fun ls hl => ?_)
  refine lv_iload hx hb dX7_as_68 (lv_at hl 0 rfl) ?_
  refine lv_if_eq (tgt := 82) hx hb dX7_as_70 (by decide) (fun c_8 => absurd c_8 (by decide)) (fun _ => ?_)
  refine lv_aload_n hx hb dX7_as_73 rfl (lv_at hl 1 rfl) ?_
  refine lv_iload_n hx hb dX7_as_74 rfl (lv_at hl 2 rfl) ?_
  refine lv_iconst (v := (1 : Int32)) hx hb dX7_as_75 (by decide) ?_
  obtain ⟨r_9, e_9, h⟩ := nb_oE h
  refine nb_callV (n := 2) (As := [.int x1, .int (1 : Int32)]) (rest := []) hx hb hml hown hts hK hZ hP hS (k_X7_of had M N x1 (1 : Int32) e_9) gX7_as_X7_of rfl (by decide +kernel) (nb_rm (Nat.le_of_ble_eq_true rfl) (Nat.le_of_ble_eq_true rfl)) nb_a52 rfl rfl rfl hl.1 rfl (Nat.le_of_ble_eq_true rfl) dX7_as_76 (fun H locs hP hS => ?_)
  refine W.eq (g2 := F0 m 79 ls [.int r_9]) rfl ?_
  refine lv_goto (tgt := 88) hx hb dX7_as_79 (by decide) ?_
  obtain ⟨rfl, rfl⟩ := nb_e2 h
  exact nb_iret hx hb hr hlk hP hS dX7_as_88
set_option maxHeartbeats 4000000 in
set_option maxRecDepth 100000 in
theorem w_X7_as_65 {N : nb_M} {r : Int32} {M' : nb_M} (had : nb_AD ad b0) (X : nb_X p s m args meth c cX7_as 5 RX7 (some .int) wsX7_as D ca b0) : ∀ (M : nb_M) (x1 : Int32), f_X7_as_65 M x1 = some (r, M') → ∀ (H : Heap) (locs : List Loc), va_P D vwCl (nb_w ad ca N M) H → va_S (fun q => b0 ≤ q) s.heap H locs → ∀ ls : Array Slot, lv_has ls 5 [(0, .ref (ad 52)), (1, .int x1)] → W p l e (nb_R 2) s m args below meth c H locs 0 0 (nb_Q below args s D ad ca b0 (some (.int r)) N M') (F0 m 65 ls []) := by
  obtain ⟨hx, hb, hml, hown, hts, hr, hlk, hK, hZ⟩ := id X
  have w_1 := hts (.constant RX7 112 (-1000000005)) (by decide +kernel)
  intro M x1 h H locs hP hS ls hl
  unfold f_X7_as_65 at h
  refine lv_iconst (v := (0 : Int32)) hx hb dX7_as_65 (by decide) ?_
  refine lv_istore (lv' := [(4, .int (0 : Int32)), (0, .ref (ad 52)), (1, .int x1)]) hx hb dX7_as_66 hl (by decide) rfl (fun ls hl => ?_)
  refine lv_iload hx hb dX7_as_68 (lv_at hl 0 rfl) ?_
  refine lv_if_eq (tgt := 82) hx hb dX7_as_70 (by decide) (fun _ => ?_) (fun c_13 => absurd (by decide) c_13)
  refine lv_aload_n hx hb dX7_as_82 rfl (lv_at hl 1 rfl) ?_
  refine lv_ldc (v := (-1000000005 : Int32)) hx hb hown w_1 dX7_as_83 ?_
  obtain ⟨r_14, M_14, e_14, h⟩ := nb_pE h
  refine nb_callV (n := 1) (As := [.int (-1000000005 : Int32)]) (rest := []) hx hb hml hown hts hK hZ hP hS (k_X7_error had M N (-1000000005 : Int32) e_14) gX7_as_X7_error rfl (by decide +kernel) (nb_rm (Nat.le_of_ble_eq_true rfl) (Nat.le_of_ble_eq_true rfl)) nb_a52 rfl rfl rfl hl.1 rfl (Nat.le_of_ble_eq_true rfl) dX7_as_85 (fun H locs hP hS => ?_)
  refine W.eq (g2 := F0 m 88 ls [.int r_14]) rfl ?_
  obtain ⟨rfl, rfl⟩ := nb_e2 h
  exact nb_iret hx hb hr hlk hP hS dX7_as_88
set_option maxHeartbeats 4000000 in
set_option maxRecDepth 100000 in
theorem w_X7_as_51 {N : nb_M} {r : Int32} {M' : nb_M} (had : nb_AD ad b0) (X : nb_X p s m args meth c cX7_as 5 RX7 (some .int) wsX7_as D ca b0) : ∀ (M : nb_M) (x1 : Int32) (x2 : Int32) (x3 : Int32), f_X7_as_51 M x1 x2 x3 = some (r, M') → ∀ (H : Heap) (locs : List Loc), va_P D vwCl (nb_w ad ca N M) H → va_S (fun q => b0 ≤ q) s.heap H locs → ∀ ls : Array Slot, lv_has ls 5 [(0, .ref (ad 52)), (1, .int x1), (2, .int x2), (3, .int x3)] → W p l e (nb_R 2) s m args below meth c H locs 0 0 (nb_Q below args s D ad ca b0 (some (.int r)) N M') (F0 m 51 ls []) := by
  obtain ⟨hx, hb, hml, hown, hts, hr, hlk, hK, hZ⟩ := id X
  intro M x1 x2 x3 h H locs hP hS ls hl
  unfold f_X7_as_51 at h
  refine lv_iload_n hx hb dX7_as_51 rfl (lv_at hl 2 rfl) ?_
  refine lv_iconst (v := (2 : Int32)) hx hb dX7_as_52 (by decide) ?_
  refine lv_icmp_ne (tgt := 65) hx hb dX7_as_53 (by decide) (fun c_12 => ?_) (fun c_12 => ?_)
  · have h := nb_f c_12 h
    exact w_X7_as_65 had X _ _ h _ _ hP hS _ (lv_sub hl [0, 1] rfl)
  · have h := nb_t c_12 h
    refine lv_iload_n hx hb dX7_as_56 rfl (lv_at hl 3 rfl) ?_
    refine lv_iconst (v := (5 : Int32)) hx hb dX7_as_57 (by decide) ?_
    refine lv_icmp_ne (tgt := 65) hx hb dX7_as_58 (by decide) (fun c_15 => ?_) (fun c_15 => ?_)
    · have h := nb_f c_15 h
      exact w_X7_as_65 had X _ _ h _ _ hP hS _ (lv_sub hl [0, 1] rfl)
    · have h := nb_t c_15 h
      exact w_X7_as_61 had X _ _ h _ _ hP hS _ (lv_sub hl [0, 1] rfl)
set_option maxHeartbeats 4000000 in
set_option maxRecDepth 100000 in
theorem k_X7_as {r : Int32} {M' : nb_M} (had : nb_AD ad b0) (M N : nb_M) (p0 : Int32) (p1 : Int32) (h : f_X7_as M p0 p1 = some (r, M')) : nb_C l D ad ca b0 yX7_as wsX7_as 2 [.ref (ad 52), .int p0, .int p1] N M (some (.int r)) N M' := by
  refine nb_of (cc := cX7_as) (maxL := 5) (ret := (some .int)) (own := RX7) (by decide +kernel) rfl rfl (Nat.le_of_ble_eq_true rfl) ?_
  intro p e s m args below meth c ls X hP hS hl
  have hl : lv_has ls 5 [(0, .ref (ad 52)), (1, .int p0), (2, .int p1)] := hl
  obtain ⟨hx, hb, hml, hown, hts, hr, hlk, hK, hZ⟩ := id X
  have w_1 := hts (.constant RX7 77 (-1000000001)) (by decide +kernel)
  unfold f_X7_as at h
  refine lv_aload_n hx hb dX7_as_0 rfl (lv_at hl 0 rfl) ?_
  refine lv_iload_n hx hb dX7_as_1 rfl (lv_at hl 1 rfl) ?_
  refine nb_callV (n := 1) (As := [.int p0]) (rest := []) hx hb hml hown hts hK hZ hP hS (k_X7_isPiece had M N p0) gX7_as_X7_isPiece rfl (by decide +kernel) (nb_rm (Nat.le_of_ble_eq_true rfl) (Nat.le_of_ble_eq_true rfl)) nb_a52 rfl rfl rfl hl.1 rfl (Nat.le_of_ble_eq_true rfl) dX7_as_2 (fun H locs hP hS => ?_)
  refine W.eq (g2 := F0 m 5 ls [.int (f_X7_isPiece M p0)]) rfl ?_
  refine lv_if_eq (tgt := 18) hx hb dX7_as_5 (by decide) (fun c_2 => ?_) (fun c_2 => ?_)
  · have h := nb_t c_2 h
    refine lv_aload_n hx hb dX7_as_18 rfl (lv_at hl 0 rfl) ?_
    refine lv_ldc (v := (-1000000001 : Int32)) hx hb hown w_1 dX7_as_19 ?_
    obtain ⟨r_3, M_3, e_3, h⟩ := nb_pE h
    refine nb_callV (n := 1) (As := [.int (-1000000001 : Int32)]) (rest := []) hx hb hml hown hts hK hZ hP hS (k_X7_error had M N (-1000000001 : Int32) e_3) gX7_as_X7_error rfl (by decide +kernel) (nb_rm (Nat.le_of_ble_eq_true rfl) (Nat.le_of_ble_eq_true rfl)) nb_a52 rfl rfl rfl hl.1 rfl (Nat.le_of_ble_eq_true rfl) dX7_as_21 (fun H locs hP hS => ?_)
    refine W.eq (g2 := F0 m 24 ls [.int r_3]) rfl ?_
    obtain ⟨rfl, rfl⟩ := nb_e2 h
    exact nb_iret hx hb hr hlk hP hS dX7_as_24
  · have h := nb_f c_2 h
    refine lv_iload_n hx hb dX7_as_8 rfl (lv_at hl 2 rfl) ?_
    refine lv_iconst (v := (0 : Int32)) hx hb dX7_as_9 (by decide) ?_
    refine lv_bipush (v := (6 : Int32)) hx hb dX7_as_10 (by decide) ?_
    refine nb_callS (n := 3) (As := [.int p1, .int (0 : Int32), .int (6 : Int32)]) (rest := []) hx hb hml hown hts hK hZ hP hS (k_X7_in had M N p1 (0 : Int32) (6 : Int32)) gX7_as_X7_in rfl (by decide +kernel) (nb_rm (Nat.le_of_ble_eq_true rfl) (Nat.le_of_ble_eq_true rfl)) rfl hl.1 rfl (Nat.le_of_ble_eq_true rfl) dX7_as_12 (fun H locs hP hS => ?_)
    refine W.eq (g2 := F0 m 15 ls [.int (f_X7_in p1 (0 : Int32) (6 : Int32))]) rfl ?_
    refine lv_if_ne (tgt := 25) hx hb dX7_as_15 (by decide) (fun c_5 => ?_) (fun c_5 => ?_)
    · have h := nb_f c_5 h
      refine lv_aload_n hx hb dX7_as_25 rfl (lv_at hl 0 rfl) ?_
      refine lv_iload_n hx hb dX7_as_26 rfl (lv_at hl 1 rfl) ?_
      refine lv_iconst (v := (0 : Int32)) hx hb dX7_as_27 (by decide) ?_
      obtain ⟨r_6, e_6, h⟩ := nb_oE h
      refine nb_callV (n := 2) (As := [.int p0, .int (0 : Int32)]) (rest := []) hx hb hml hown hts hK hZ hP hS (k_X7_of had M N p0 (0 : Int32) e_6) gX7_as_X7_of rfl (by decide +kernel) (nb_rm (Nat.le_of_ble_eq_true rfl) (Nat.le_of_ble_eq_true rfl)) nb_a52 rfl rfl rfl hl.1 rfl (Nat.le_of_ble_eq_true rfl) dX7_as_28 (fun H locs hP hS => ?_)
      refine W.eq (g2 := F0 m 31 ls [.int r_6]) rfl ?_
      refine lv_istore_n (lv' := [(3, .int r_6), (0, .ref (ad 52)), (1, .int p0), (2, .int p1)]) hx hb dX7_as_31 rfl hl (by decide) rfl (fun ls hl => ?_)
      refine lv_iload_n hx hb dX7_as_32 rfl (lv_at hl 3 rfl) ?_
      refine lv_if_eq (tgt := 61) hx hb dX7_as_33 (by decide) (fun c_7 => ?_) (fun c_7 => ?_)
      · have h := nb_t c_7 h
        exact w_X7_as_61 had X _ _ h _ _ hP hS _ (lv_sub hl [1, 2] rfl)
      · have h := nb_f c_7 h
        refine lv_iload_n hx hb dX7_as_36 rfl (lv_at hl 3 rfl) ?_
        refine lv_iload_n hx hb dX7_as_37 rfl (lv_at hl 0 rfl) ?_
        refine lv_icmp_eq (tgt := 61) hx hb dX7_as_38 (by decide) (fun c_10 => ?_) (fun c_10 => ?_)
        · have h := nb_t c_10 h
          exact w_X7_as_61 had X _ _ h _ _ hP hS _ (lv_sub hl [1, 2] rfl)
        · have h := nb_f c_10 h
          refine lv_iload_n hx hb dX7_as_41 rfl (lv_at hl 3 rfl) ?_
          refine lv_iconst (v := (1 : Int32)) hx hb dX7_as_42 (by decide) ?_
          refine lv_icmp_ne (tgt := 51) hx hb dX7_as_43 (by decide) (fun c_11 => ?_) (fun c_11 => ?_)
          · have h := nb_f c_11 h
            exact w_X7_as_51 had X _ _ _ _ h _ _ hP hS _ (lv_sub hl [1, 2, 3, 0] rfl)
          · have h := nb_t c_11 h
            refine lv_iload_n hx hb dX7_as_46 rfl (lv_at hl 0 rfl) ?_
            refine lv_iconst (v := (4 : Int32)) hx hb dX7_as_47 (by decide) ?_
            refine lv_icmp_eq (tgt := 61) hx hb dX7_as_48 (by decide) (fun c_16 => ?_) (fun c_16 => ?_)
            · have h := nb_t c_16 h
              exact w_X7_as_61 had X _ _ h _ _ hP hS _ (lv_sub hl [1, 2] rfl)
            · have h := nb_f c_16 h
              exact w_X7_as_51 had X _ _ _ _ h _ _ hP hS _ (lv_sub hl [1, 2, 3, 0] rfl)
    · have h := nb_t c_5 h
      refine lv_aload_n hx hb dX7_as_18 rfl (lv_at hl 0 rfl) ?_
      refine lv_ldc (v := (-1000000001 : Int32)) hx hb hown w_1 dX7_as_19 ?_
      obtain ⟨r_17, M_17, e_17, h⟩ := nb_pE h
      refine nb_callV (n := 1) (As := [.int (-1000000001 : Int32)]) (rest := []) hx hb hml hown hts hK hZ hP hS (k_X7_error had M N (-1000000001 : Int32) e_17) gX7_as_X7_error rfl (by decide +kernel) (nb_rm (Nat.le_of_ble_eq_true rfl) (Nat.le_of_ble_eq_true rfl)) nb_a52 rfl rfl rfl hl.1 rfl (Nat.le_of_ble_eq_true rfl) dX7_as_21 (fun H locs hP hS => ?_)
      refine W.eq (g2 := F0 m 24 ls [.int r_17]) rfl ?_
      obtain ⟨rfl, rfl⟩ := nb_e2 h
      exact nb_iret hx hb hr hlk hP hS dX7_as_24
set_option maxHeartbeats 4000000 in
set_option maxRecDepth 100000 in
theorem k_X7_minds {r : Int32} {M' : nb_M} (had : nb_AD ad b0) (M N : nb_M) (p0 : Int32) (p1 : Int32) (h : f_X7_minds M p0 p1 = some (r, M')) : nb_C l D ad ca b0 yX7_minds wsX7_minds 2 [.ref (ad 52), .int p0, .int p1] N M (some (.int r)) N M' := by
  refine nb_of (cc := cX7_minds) (maxL := 3) (ret := (some .int)) (own := RX7) (by decide +kernel) rfl rfl (Nat.le_of_ble_eq_true rfl) ?_
  intro p e s m args below meth c ls X hP hS hl
  have hl : lv_has ls 3 [(0, .ref (ad 52)), (1, .int p0), (2, .int p1)] := hl
  obtain ⟨hx, hb, hml, hown, hts, hr, hlk, hK, hZ⟩ := id X
  have w_1 := hts (.constant RX7 77 (-1000000001)) (by decide +kernel)
  unfold f_X7_minds at h
  refine lv_aload_n hx hb dX7_minds_0 rfl (lv_at hl 0 rfl) ?_
  refine lv_iload_n hx hb dX7_minds_1 rfl (lv_at hl 1 rfl) ?_
  refine nb_callV (n := 1) (As := [.int p0]) (rest := []) hx hb hml hown hts hK hZ hP hS (k_X7_isPerson had M N p0) gX7_minds_X7_isPerson rfl (by decide +kernel) (nb_rm (Nat.le_of_ble_eq_true rfl) (Nat.le_of_ble_eq_true rfl)) nb_a52 rfl rfl rfl hl.1 rfl (Nat.le_of_ble_eq_true rfl) dX7_minds_2 (fun H locs hP hS => ?_)
  refine W.eq (g2 := F0 m 5 ls [.int (f_X7_isPerson M p0)]) rfl ?_
  refine lv_if_eq (tgt := 32) hx hb dX7_minds_5 (by decide) (fun c_2 => ?_) (fun c_2 => ?_)
  · have h := nb_t c_2 h
    refine lv_aload_n hx hb dX7_minds_32 rfl (lv_at hl 0 rfl) ?_
    refine lv_ldc (v := (-1000000001 : Int32)) hx hb hown w_1 dX7_minds_33 ?_
    obtain ⟨r_3, M_3, e_3, h⟩ := nb_pE h
    refine nb_callV (n := 1) (As := [.int (-1000000001 : Int32)]) (rest := []) hx hb hml hown hts hK hZ hP hS (k_X7_error had M N (-1000000001 : Int32) e_3) gX7_minds_X7_error rfl (by decide +kernel) (nb_rm (Nat.le_of_ble_eq_true rfl) (Nat.le_of_ble_eq_true rfl)) nb_a52 rfl rfl rfl hl.1 rfl (Nat.le_of_ble_eq_true rfl) dX7_minds_35 (fun H locs hP hS => ?_)
    refine W.eq (g2 := F0 m 38 ls [.int r_3]) rfl ?_
    obtain ⟨rfl, rfl⟩ := nb_e2 h
    exact nb_iret hx hb hr hlk hP hS dX7_minds_38
  · have h := nb_f c_2 h
    refine lv_iload_n hx hb dX7_minds_8 rfl (lv_at hl 2 rfl) ?_
    refine lv_iconst (v := (0 : Int32)) hx hb dX7_minds_9 (by decide) ?_
    refine lv_bipush (v := (9 : Int32)) hx hb dX7_minds_10 (by decide) ?_
    refine nb_callS (n := 3) (As := [.int p1, .int (0 : Int32), .int (9 : Int32)]) (rest := []) hx hb hml hown hts hK hZ hP hS (k_X7_in had M N p1 (0 : Int32) (9 : Int32)) gX7_minds_X7_in rfl (by decide +kernel) (nb_rm (Nat.le_of_ble_eq_true rfl) (Nat.le_of_ble_eq_true rfl)) rfl hl.1 rfl (Nat.le_of_ble_eq_true rfl) dX7_minds_12 (fun H locs hP hS => ?_)
    refine W.eq (g2 := F0 m 15 ls [.int (f_X7_in p1 (0 : Int32) (9 : Int32))]) rfl ?_
    refine lv_if_eq (tgt := 32) hx hb dX7_minds_15 (by decide) (fun c_5 => ?_) (fun c_5 => ?_)
    · have h := nb_t c_5 h
      refine lv_aload_n hx hb dX7_minds_32 rfl (lv_at hl 0 rfl) ?_
      refine lv_ldc (v := (-1000000001 : Int32)) hx hb hown w_1 dX7_minds_33 ?_
      obtain ⟨r_6, M_6, e_6, h⟩ := nb_pE h
      refine nb_callV (n := 1) (As := [.int (-1000000001 : Int32)]) (rest := []) hx hb hml hown hts hK hZ hP hS (k_X7_error had M N (-1000000001 : Int32) e_6) gX7_minds_X7_error rfl (by decide +kernel) (nb_rm (Nat.le_of_ble_eq_true rfl) (Nat.le_of_ble_eq_true rfl)) nb_a52 rfl rfl rfl hl.1 rfl (Nat.le_of_ble_eq_true rfl) dX7_minds_35 (fun H locs hP hS => ?_)
      refine W.eq (g2 := F0 m 38 ls [.int r_6]) rfl ?_
      obtain ⟨rfl, rfl⟩ := nb_e2 h
      exact nb_iret hx hb hr hlk hP hS dX7_minds_38
    · have h := nb_f c_5 h
      refine lv_aload_n hx hb dX7_minds_18 rfl (lv_at hl 0 rfl) ?_
      refine lv_bipush (v := (6 : Int32)) hx hb dX7_minds_19 (by decide) ?_
      refine lv_iconst (v := (3 : Int32)) hx hb dX7_minds_21 (by decide) ?_
      refine lv_iload_n hx hb dX7_minds_22 rfl (lv_at hl 1 rfl) ?_
      refine lv_imul hx hb dX7_minds_23 ?_
      refine lv_iadd hx hb dX7_minds_24 ?_
      refine lv_iload_n hx hb dX7_minds_25 rfl (lv_at hl 2 rfl) ?_
      obtain ⟨r_7, M_7, e_7, h⟩ := nb_pE h
      refine nb_callV (n := 2) (As := [.int ((6 : Int32) + ((3 : Int32) * p0)), .int p1]) (rest := []) hx hb hml hown hts hK hZ hP hS (k_X7_becomes had M N ((6 : Int32) + ((3 : Int32) * p0)) p1 e_7) gX7_minds_X7_becomes rfl (by decide +kernel) (nb_rm (Nat.le_of_ble_eq_true rfl) (Nat.le_of_ble_eq_true rfl)) nb_a52 rfl rfl rfl hl.1 rfl (Nat.le_of_ble_eq_true rfl) dX7_minds_26 (fun H locs hP hS => ?_)
      refine W.eq (g2 := F0 m 29 ls [.int r_7]) rfl ?_
      refine lv_goto (tgt := 38) hx hb dX7_minds_29 (by decide) ?_
      obtain ⟨rfl, rfl⟩ := nb_e2 h
      exact nb_iret hx hb hr hlk hP hS dX7_minds_38
set_option maxHeartbeats 4000000 in
set_option maxRecDepth 100000 in
theorem k_X7_lend {r : Int32} {M' : nb_M} (had : nb_AD ad b0) (M N : nb_M) (p0 : Int32) (p1 : Int32) (h : f_X7_lend M p0 p1 = some (r, M')) : nb_C l D ad ca b0 yX7_lend wsX7_lend 2 [.ref (ad 52), .int p0, .int p1] N M (some (.int r)) N M' := by
  refine nb_of (cc := cX7_lend) (maxL := 3) (ret := (some .int)) (own := RX7) (by decide +kernel) rfl rfl (Nat.le_of_ble_eq_true rfl) ?_
  intro p e s m args below meth c ls X hP hS hl
  have hl : lv_has ls 3 [(0, .ref (ad 52)), (1, .int p0), (2, .int p1)] := hl
  obtain ⟨hx, hb, hml, hown, hts, hr, hlk, hK, hZ⟩ := id X
  have w_1 := hts (.constant RX7 77 (-1000000001)) (by decide +kernel)
  unfold f_X7_lend at h
  refine lv_aload_n hx hb dX7_lend_0 rfl (lv_at hl 0 rfl) ?_
  refine lv_iload_n hx hb dX7_lend_1 rfl (lv_at hl 1 rfl) ?_
  refine nb_callV (n := 1) (As := [.int p0]) (rest := []) hx hb hml hown hts hK hZ hP hS (k_X7_isPiece had M N p0) gX7_lend_X7_isPiece rfl (by decide +kernel) (nb_rm (Nat.le_of_ble_eq_true rfl) (Nat.le_of_ble_eq_true rfl)) nb_a52 rfl rfl rfl hl.1 rfl (Nat.le_of_ble_eq_true rfl) dX7_lend_2 (fun H locs hP hS => ?_)
  refine W.eq (g2 := F0 m 5 ls [.int (f_X7_isPiece M p0)]) rfl ?_
  refine lv_if_eq (tgt := 32) hx hb dX7_lend_5 (by decide) (fun c_2 => ?_) (fun c_2 => ?_)
  · have h := nb_t c_2 h
    refine lv_aload_n hx hb dX7_lend_32 rfl (lv_at hl 0 rfl) ?_
    refine lv_ldc (v := (-1000000001 : Int32)) hx hb hown w_1 dX7_lend_33 ?_
    obtain ⟨r_3, M_3, e_3, h⟩ := nb_pE h
    refine nb_callV (n := 1) (As := [.int (-1000000001 : Int32)]) (rest := []) hx hb hml hown hts hK hZ hP hS (k_X7_error had M N (-1000000001 : Int32) e_3) gX7_lend_X7_error rfl (by decide +kernel) (nb_rm (Nat.le_of_ble_eq_true rfl) (Nat.le_of_ble_eq_true rfl)) nb_a52 rfl rfl rfl hl.1 rfl (Nat.le_of_ble_eq_true rfl) dX7_lend_35 (fun H locs hP hS => ?_)
    refine W.eq (g2 := F0 m 38 ls [.int r_3]) rfl ?_
    obtain ⟨rfl, rfl⟩ := nb_e2 h
    exact nb_iret hx hb hr hlk hP hS dX7_lend_38
  · have h := nb_f c_2 h
    refine lv_aload_n hx hb dX7_lend_8 rfl (lv_at hl 0 rfl) ?_
    refine lv_iload_n hx hb dX7_lend_9 rfl (lv_at hl 2 rfl) ?_
    refine nb_callV (n := 1) (As := [.int p1]) (rest := []) hx hb hml hown hts hK hZ hP hS (k_X7_isPerson had M N p1) gX7_lend_X7_isPerson rfl (by decide +kernel) (nb_rm (Nat.le_of_ble_eq_true rfl) (Nat.le_of_ble_eq_true rfl)) nb_a52 rfl rfl rfl hl.1 rfl (Nat.le_of_ble_eq_true rfl) dX7_lend_10 (fun H locs hP hS => ?_)
    refine W.eq (g2 := F0 m 13 ls [.int (f_X7_isPerson M p1)]) rfl ?_
    refine lv_if_eq (tgt := 32) hx hb dX7_lend_13 (by decide) (fun c_5 => ?_) (fun c_5 => ?_)
    · have h := nb_t c_5 h
      refine lv_aload_n hx hb dX7_lend_32 rfl (lv_at hl 0 rfl) ?_
      refine lv_ldc (v := (-1000000001 : Int32)) hx hb hown w_1 dX7_lend_33 ?_
      obtain ⟨r_6, M_6, e_6, h⟩ := nb_pE h
      refine nb_callV (n := 1) (As := [.int (-1000000001 : Int32)]) (rest := []) hx hb hml hown hts hK hZ hP hS (k_X7_error had M N (-1000000001 : Int32) e_6) gX7_lend_X7_error rfl (by decide +kernel) (nb_rm (Nat.le_of_ble_eq_true rfl) (Nat.le_of_ble_eq_true rfl)) nb_a52 rfl rfl rfl hl.1 rfl (Nat.le_of_ble_eq_true rfl) dX7_lend_35 (fun H locs hP hS => ?_)
      refine W.eq (g2 := F0 m 38 ls [.int r_6]) rfl ?_
      obtain ⟨rfl, rfl⟩ := nb_e2 h
      exact nb_iret hx hb hr hlk hP hS dX7_lend_38
    · have h := nb_f c_5 h
      refine lv_aload_n hx hb dX7_lend_16 rfl (lv_at hl 0 rfl) ?_
      refine lv_bipush (v := (21 : Int32)) hx hb dX7_lend_17 (by decide) ?_
      refine lv_iconst (v := (4 : Int32)) hx hb dX7_lend_19 (by decide) ?_
      refine lv_iload_n hx hb dX7_lend_20 rfl (lv_at hl 1 rfl) ?_
      refine lv_imul hx hb dX7_lend_21 ?_
      refine lv_iadd hx hb dX7_lend_22 ?_
      refine lv_iconst (v := (2 : Int32)) hx hb dX7_lend_23 (by decide) ?_
      refine lv_iadd hx hb dX7_lend_24 ?_
      refine lv_iload_n hx hb dX7_lend_25 rfl (lv_at hl 2 rfl) ?_
      obtain ⟨r_7, M_7, e_7, h⟩ := nb_pE h
      refine nb_callV (n := 2) (As := [.int (((21 : Int32) + ((4 : Int32) * p0)) + (2 : Int32)), .int p1]) (rest := []) hx hb hml hown hts hK hZ hP hS (k_X7_becomes had M N (((21 : Int32) + ((4 : Int32) * p0)) + (2 : Int32)) p1 e_7) gX7_lend_X7_becomes rfl (by decide +kernel) (nb_rm (Nat.le_of_ble_eq_true rfl) (Nat.le_of_ble_eq_true rfl)) nb_a52 rfl rfl rfl hl.1 rfl (Nat.le_of_ble_eq_true rfl) dX7_lend_26 (fun H locs hP hS => ?_)
      refine W.eq (g2 := F0 m 29 ls [.int r_7]) rfl ?_
      refine lv_goto (tgt := 38) hx hb dX7_lend_29 (by decide) ?_
      obtain ⟨rfl, rfl⟩ := nb_e2 h
      exact nb_iret hx hb hr hlk hP hS dX7_lend_38
end GEN
