def la_ks : List (Int32 × Nat) := [(0, 200), (1, 233), (2, 266), (3, 299), (4, 332), (5, 365), (6, 398), (7, 431), (8, 464), (9, 497), (10, 530), (11, 553), (12, 616), (13, 639), (14, 662), (15, 715), (16, 738), (17, 761), (18, 784), (19, 817), (20, 861), (21, 895), (22, 928), (23, 961), (24, 984), (25, 1027), (26, 1070), (27, 1093), (28, 1136), (29, 1179), (30, 1242), (31, 1265), (32, 1288), (33, 1301), (34, 1314), (35, 1337), (36, 1350), (37, 1373)]
set_option maxRecDepth 20000 in
theorem la_tok : nb_tok 33 1363 0 37 #[167, 200, 233, 266, 299, 332, 365, 398, 431, 464, 497, 520, 583, 606, 629, 682, 705, 728, 751, 784, 828, 862, 895, 928, 951, 994, 1037, 1060, 1103, 1146, 1209, 1232, 1255, 1268, 1281, 1304, 1317, 1340] la_ks 1396 = true := by decide +kernel
theorem la_le {L k : Nat} (hL : L ≤ 3072) (hk : k ≤ L) (h : ¬ nI L - 6 < nI k) : k + 6 ≤ L := by
  rcases Nat.lt_or_ge L 6 with q | q
  · exfalso
    apply h
    have h0 : nI L - 6 < 0 := by
      rcases (show L = 0 ∨ L = 1 ∨ L = 2 ∨ L = 3 ∨ L = 4 ∨ L = 5 by omega) with rfl | rfl | rfl | rfl | rfl | rfl <;> decide
    exact Int32.lt_of_lt_of_le h0 (nI_pos' (by omega))
  · have e : nI L - 6 = nI (L - 6) := by rw [show (6 : Int32) = nI 6 from rfl, pk_sub q]
    rw [e] at h
    rcases Nat.lt_or_ge (L - 6) k with w | w
    · exact absurd (nI_lt w (by omega)) h
    · omega
theorem la_in {L k : Nat} (hL : L ≤ 3072) (h : k + 6 ≤ L) : la_I (nI k) L := by
  have g : ∀ j, j < 6 → vp_in (nI k + nI j) L := fun j hj => by
    rw [nI_add]
    exact vp_in_nI (by omega) (by omega)
  exact ⟨g 1 (by decide), g 2 (by decide), g 3 (by decide), g 4 (by decide), g 5 (by decide)⟩
set_option maxHeartbeats 4000000 in
set_option maxRecDepth 20000 in
theorem la_loop {p : Program} {l : Launch} {e : Env} {s : State} {m : MethodId} {below : List Frame} {meth : Method} {c : Code} {b L : Nat} {xs : Nat → Int32} {D : va_G} {ad : Nat → Nat} {ca : Nat → ClassId} (hL : L ≤ 3072) (A : la_A p s m meth c b L xs D ad ca) :
    ∀ (n k : Nat) (M N : nb_M) (H : Heap) (locs : List Loc) (ls : Array Slot), k ≤ L → L + 1 ≤ k + n → hs_Rel M N → va_P D vwCl (nb_w ad ca M N) H → va_S (fun q : Nat => s.heap.size ≤ q) s.heap H locs → lv_has ls 4 [(0, .ref b), (1, .ref (ad 0)), (2, .ref (ad 52)), (3, .int (nI k))] → W p l e room_1 s m #[Value.ref b] below meth c H locs 600000 7302250 (lw_Z below #[Value.ref b] s) (F0 m 18 ls []) := by
  intro n
  induction n with
  | zero =>
    intro k M N H locs ls h1 h2
    exact absurd h2 (by omega)
  | succ n ih =>
    intro k M N H locs ls hk hn R hP hS hl
    obtain ⟨⟨hx, hb, hr, hml, hown, hts, hX, hbl, hlocks, hgv⟩, had, hK, hZ, ht⟩ := id A
    have hbA : ¬ (fun q : Nat => s.heap.size ≤ q) b := Nat.not_le.mpr hbl
    refine lv_iload_n hx hb dL_law_18 rfl (lv_at hl 3 rfl) ?_
    refine lv_aload_n hx hb dL_law_19 rfl (lv_at hl 0 rfl) ?_
    refine va_slen hx hb hX hbl hbA hS dL_law_20 ?_
    refine lv_bipush (v := 6) hx hb dL_law_21 (by decide) ?_
    refine lv_isub hx hb dL_law_23 ?_
    refine lv_icmp_gt (tgt := 1402) hx hb dL_law_24 (by decide) (fun _ => ?_) (fun q => ?_)
    · refine lv_iconst (v := 1) hx hb dL_law_1402 (by decide) ?_
      refine va_forget (fun q hq => hS.2.2 q hq) ?_
      exact lw_ret hx hb hr hlocks dL_law_1403
    · have h6 : k + 6 ≤ L := la_le hL hk q
      have hI := la_in hL h6
      have kk : la_G p l e s m below meth c b D ad ca ls := by
        intro M' N' H' locs' R' hP' hS'
        refine lv_iinc (v := nI (k + 6)) (lv' := [(3, .int (nI (k + 6))), (0, .ref b), (1, .ref (ad 0)), (2, .ref (ad 52))]) hx hb dL_law_1396 hl (k := 3) rfl (nI_add k 6) (by decide) rfl (fun ls hl => ?_)
        refine lv_goto (tgt := 18) hx hb dL_law_1399 (by decide) ?_
        exact ih (k + 6) M' N' H' locs' ls h6 (by omega) R' hP' hS' (lv_sub hl [1, 2, 3, 0] rfl)
      refine lv_aload_n hx hb dL_law_27 rfl (lv_at hl 0 rfl) ?_
      refine lv_iload_n hx hb dL_law_28 rfl (lv_at hl 3 rfl) ?_
      refine va_sld hx hb hX hbl hbA hS (vp_in_nI (by omega) (by omega)) dL_law_29 ?_
      refine lv_bipush (v := 63) hx hb dL_law_30 (by decide) ?_
      refine lv_iand hx hb dL_law_32 ?_
      refine nb_tsw la_ks 1396 hx hb dL_law_33 la_tok ?_
      unfold la_ks
      refine nb_split (fun _ => la_c0 A R hI hP hS hl kk) (fun _ => ?_)
      refine nb_split (fun _ => la_c1 A R hI hP hS hl kk) (fun _ => ?_)
      refine nb_split (fun _ => la_c2 A R hI hP hS hl kk) (fun _ => ?_)
      refine nb_split (fun _ => la_c3 A R hI hP hS hl kk) (fun _ => ?_)
      refine nb_split (fun _ => la_c4 A R hI hP hS hl kk) (fun _ => ?_)
      refine nb_split (fun _ => la_c5 A R hI hP hS hl kk) (fun _ => ?_)
      refine nb_split (fun _ => la_c6 A R hI hP hS hl kk) (fun _ => ?_)
      refine nb_split (fun _ => la_c7 A R hI hP hS hl kk) (fun _ => ?_)
      refine nb_split (fun _ => la_c8 A R hI hP hS hl kk) (fun _ => ?_)
      refine nb_split (fun _ => la_c9 A R hI hP hS hl kk) (fun _ => ?_)
      refine nb_split (fun _ => la_c10 A R hI hP hS hl kk) (fun _ => ?_)
      refine nb_split (fun _ => la_c11 A R hI hP hS hl kk) (fun _ => ?_)
      refine nb_split (fun _ => la_c12 A R hI hP hS hl kk) (fun _ => ?_)
      refine nb_split (fun _ => la_c13 A R hI hP hS hl kk) (fun _ => ?_)
      refine nb_split (fun _ => la_c14 A R hI hP hS hl kk) (fun _ => ?_)
      refine nb_split (fun _ => la_c15 A R hI hP hS hl kk) (fun _ => ?_)
      refine nb_split (fun _ => la_c16 A R hI hP hS hl kk) (fun _ => ?_)
      refine nb_split (fun _ => la_c17 A R hI hP hS hl kk) (fun _ => ?_)
      refine nb_split (fun _ => la_c18 A R hI hP hS hl kk) (fun _ => ?_)
      refine nb_split (fun _ => la_c19 A R hI hP hS hl kk) (fun _ => ?_)
      refine nb_split (fun _ => la_c20 A R hI hP hS hl kk) (fun _ => ?_)
      refine nb_split (fun _ => la_c21 A R hI hP hS hl kk) (fun _ => ?_)
      refine nb_split (fun _ => la_c22 A R hI hP hS hl kk) (fun _ => ?_)
      refine nb_split (fun _ => la_c23 A R hI hP hS hl kk) (fun _ => ?_)
      refine nb_split (fun _ => la_c24 A R hI hP hS hl kk) (fun _ => ?_)
      refine nb_split (fun _ => la_c25 A R hI hP hS hl kk) (fun _ => ?_)
      refine nb_split (fun _ => la_c26 A R hI hP hS hl kk) (fun _ => ?_)
      refine nb_split (fun _ => la_c27 A R hI hP hS hl kk) (fun _ => ?_)
      refine nb_split (fun _ => la_c28 A R hI hP hS hl kk) (fun _ => ?_)
      refine nb_split (fun _ => la_c29 A R hI hP hS hl kk) (fun _ => ?_)
      refine nb_split (fun _ => la_c30 A R hI hP hS hl kk) (fun _ => ?_)
      refine nb_split (fun _ => la_c31 A R hI hP hS hl kk) (fun _ => ?_)
      refine nb_split (fun _ => la_c32 A R hI hP hS hl kk) (fun _ => ?_)
      refine nb_split (fun _ => la_c33 A R hI hP hS hl kk) (fun _ => ?_)
      refine nb_split (fun _ => la_c34 A R hI hP hS hl kk) (fun _ => ?_)
      refine nb_split (fun _ => la_c35 A R hI hP hS hl kk) (fun _ => ?_)
      refine nb_split (fun _ => la_c36 A R hI hP hS hl kk) (fun _ => ?_)
      refine nb_split (fun _ => la_c37 A R hI hP hS hl kk) (fun _ => ?_)
      exact kk M N H locs R hP hS
