set_option maxRecDepth 20000 in
theorem la_c13 {p : Program} {l : Launch} {e : Env} {s : State} {m : MethodId} {below : List Frame} {meth : Method} {c : Code} {b L : Nat} {xs : Nat → Int32} {D : va_G} {ad : Nat → Nat} {ca : Nat → ClassId} {i : Int32} {M N : nb_M} {H : Heap} {locs : List Loc} {ls : Array Slot} (A : la_A p s m meth c b L xs D ad ca) (R : hs_Rel M N) (hI : la_I i L) (hP : va_P D vwCl (nb_w ad ca M N) H) (hS : va_S (fun q : Nat => s.heap.size ≤ q) s.heap H locs) (hl : lv_has ls 4 [(0, .ref b), (1, .ref (ad 0)), (2, .ref (ad 52)), (3, .int i)]) (kk : la_G p l e s m below meth c b D ad ca ls) : W p l e room_1 s m #[Value.ref b] below meth c H locs 600000 7302250 (lw_Z below #[Value.ref b] s) (F0 m 639 ls []) := by
  obtain ⟨⟨hx, hb, hr, hml, hown, hts, hX, hbl, hlocks, hgv⟩, had, hK, hZ, ht⟩ := A
  obtain ⟨h1, h2, h3, h4, h5⟩ := hI
  obtain ⟨v, M1, N1, e1, e2, R1⟩ := s_untell R (xs (i + 1).toNatClampNeg)
  refine lv_aload_n hx hb dL_law_639 rfl (lv_at hl 1 rfl) ?_
  refine la_ld (j := 1) hx hb hX hbl hS hl h1 (by decide) dL_law_640 dL_law_641 dL_law_642 dL_law_643 dL_law_644 ?_
  refine la_callV (n := 1) (As := [.int (xs (i + 1).toNatClampNeg)]) (rest := []) hx hb hml hown ht hK hZ hP hS (k_X6_untell had M N _ e1) gL_law_X6_untell rfl (by decide +kernel) ⟨(Nat.le_of_ble_eq_true rfl), (Nat.le_of_ble_eq_true rfl)⟩ nb_a0 rfl rfl rfl hl.1 rfl (Nat.le_of_ble_eq_true rfl) dL_law_645 (fun H locs hP hS => ?_)
  refine lv_aload_n hx hb dL_law_648 rfl (lv_at hl 2 rfl) ?_
  refine la_ld (j := 1) hx hb hX hbl hS hl h1 (by decide) dL_law_649 dL_law_650 dL_law_651 dL_law_652 dL_law_653 ?_
  refine la_callV (n := 1) (As := [.int (xs (i + 1).toNatClampNeg)]) (rest := [.int v]) hx hb hml hown ht hK hZ hP hS (k_X7_untell had N M1 _ e2) gL_law_X7_untell rfl (by decide +kernel) ⟨(Nat.le_of_ble_eq_true rfl), (Nat.le_of_ble_eq_true rfl)⟩ nb_a52 rfl rfl rfl hl.1 rfl (Nat.le_of_ble_eq_true rfl) dL_law_654 (fun H locs hP hS => ?_)
  exact lv_icmp_eq (tgt := 1396) hx hb dL_law_657 (by decide) (fun _ => kk M1 N1 H locs R1 hP hS) (fun q => absurd rfl q)
set_option maxRecDepth 20000 in
theorem la_c14 {p : Program} {l : Launch} {e : Env} {s : State} {m : MethodId} {below : List Frame} {meth : Method} {c : Code} {b L : Nat} {xs : Nat → Int32} {D : va_G} {ad : Nat → Nat} {ca : Nat → ClassId} {i : Int32} {M N : nb_M} {H : Heap} {locs : List Loc} {ls : Array Slot} (A : la_A p s m meth c b L xs D ad ca) (R : hs_Rel M N) (hI : la_I i L) (hP : va_P D vwCl (nb_w ad ca M N) H) (hS : va_S (fun q : Nat => s.heap.size ≤ q) s.heap H locs) (hl : lv_has ls 4 [(0, .ref b), (1, .ref (ad 0)), (2, .ref (ad 52)), (3, .int i)]) (kk : la_G p l e s m below meth c b D ad ca ls) : W p l e room_1 s m #[Value.ref b] below meth c H locs 600000 7302250 (lw_Z below #[Value.ref b] s) (F0 m 662 ls []) := by
  obtain ⟨⟨hx, hb, hr, hml, hown, hts, hX, hbl, hlocks, hgv⟩, had, hK, hZ, ht⟩ := A
  obtain ⟨h1, h2, h3, h4, h5⟩ := hI
  obtain ⟨v, M1, N1, e1, e2, R1⟩ := s_law R (xs (i + 1).toNatClampNeg) (xs (i + 2).toNatClampNeg) (xs (i + 3).toNatClampNeg) (xs (i + 4).toNatClampNeg)
  refine lv_aload_n hx hb dL_law_662 rfl (lv_at hl 1 rfl) ?_
  refine la_ld (j := 1) hx hb hX hbl hS hl h1 (by decide) dL_law_663 dL_law_664 dL_law_665 dL_law_666 dL_law_667 ?_
  refine la_ld (j := 2) hx hb hX hbl hS hl h2 (by decide) dL_law_668 dL_law_669 dL_law_670 dL_law_671 dL_law_672 ?_
  refine la_ld (j := 3) hx hb hX hbl hS hl h3 (by decide) dL_law_673 dL_law_674 dL_law_675 dL_law_676 dL_law_677 ?_
  refine la_ld (j := 4) hx hb hX hbl hS hl h4 (by decide) dL_law_678 dL_law_679 dL_law_680 dL_law_681 dL_law_682 ?_
  refine la_callV (n := 4) (As := [.int (xs (i + 1).toNatClampNeg), .int (xs (i + 2).toNatClampNeg), .int (xs (i + 3).toNatClampNeg), .int (xs (i + 4).toNatClampNeg)]) (rest := []) hx hb hml hown ht hK hZ hP hS (k_X6_law had M N _ _ _ _ e1) gL_law_X6_law rfl (by decide +kernel) ⟨(Nat.le_of_ble_eq_true rfl), (Nat.le_of_ble_eq_true rfl)⟩ nb_a0 rfl rfl rfl hl.1 rfl (Nat.le_of_ble_eq_true rfl) dL_law_683 (fun H locs hP hS => ?_)
  refine lv_aload_n hx hb dL_law_686 rfl (lv_at hl 2 rfl) ?_
  refine la_ld (j := 1) hx hb hX hbl hS hl h1 (by decide) dL_law_687 dL_law_688 dL_law_689 dL_law_690 dL_law_691 ?_
  refine la_ld (j := 2) hx hb hX hbl hS hl h2 (by decide) dL_law_692 dL_law_693 dL_law_694 dL_law_695 dL_law_696 ?_
  refine la_ld (j := 3) hx hb hX hbl hS hl h3 (by decide) dL_law_697 dL_law_698 dL_law_699 dL_law_700 dL_law_701 ?_
  refine la_ld (j := 4) hx hb hX hbl hS hl h4 (by decide) dL_law_702 dL_law_703 dL_law_704 dL_law_705 dL_law_706 ?_
  refine la_callV (n := 4) (As := [.int (xs (i + 1).toNatClampNeg), .int (xs (i + 2).toNatClampNeg), .int (xs (i + 3).toNatClampNeg), .int (xs (i + 4).toNatClampNeg)]) (rest := [.int v]) hx hb hml hown ht hK hZ hP hS (k_X7_law had N M1 _ _ _ _ e2) gL_law_X7_law rfl (by decide +kernel) ⟨(Nat.le_of_ble_eq_true rfl), (Nat.le_of_ble_eq_true rfl)⟩ nb_a52 rfl rfl rfl hl.1 rfl (Nat.le_of_ble_eq_true rfl) dL_law_707 (fun H locs hP hS => ?_)
  exact lv_icmp_eq (tgt := 1396) hx hb dL_law_710 (by decide) (fun _ => kk M1 N1 H locs R1 hP hS) (fun q => absurd rfl q)
set_option maxRecDepth 20000 in
theorem la_c15 {p : Program} {l : Launch} {e : Env} {s : State} {m : MethodId} {below : List Frame} {meth : Method} {c : Code} {b L : Nat} {xs : Nat → Int32} {D : va_G} {ad : Nat → Nat} {ca : Nat → ClassId} {i : Int32} {M N : nb_M} {H : Heap} {locs : List Loc} {ls : Array Slot} (A : la_A p s m meth c b L xs D ad ca) (R : hs_Rel M N) (hI : la_I i L) (hP : va_P D vwCl (nb_w ad ca M N) H) (hS : va_S (fun q : Nat => s.heap.size ≤ q) s.heap H locs) (hl : lv_has ls 4 [(0, .ref b), (1, .ref (ad 0)), (2, .ref (ad 52)), (3, .int i)]) (kk : la_G p l e s m below meth c b D ad ca ls) : W p l e room_1 s m #[Value.ref b] below meth c H locs 600000 7302250 (lw_Z below #[Value.ref b] s) (F0 m 715 ls []) := by
  obtain ⟨⟨hx, hb, hr, hml, hown, hts, hX, hbl, hlocks, hgv⟩, had, hK, hZ, ht⟩ := A
  obtain ⟨h1, h2, h3, h4, h5⟩ := hI
  obtain ⟨v, M1, N1, e1, e2, R1⟩ := s_days R (xs (i + 1).toNatClampNeg)
  refine lv_aload_n hx hb dL_law_715 rfl (lv_at hl 1 rfl) ?_
  refine la_ld (j := 1) hx hb hX hbl hS hl h1 (by decide) dL_law_716 dL_law_717 dL_law_718 dL_law_719 dL_law_720 ?_
  refine la_callV (n := 1) (As := [.int (xs (i + 1).toNatClampNeg)]) (rest := []) hx hb hml hown ht hK hZ hP hS (k_X6_days had M N _ e1) gL_law_X6_days rfl (by decide +kernel) ⟨(Nat.le_of_ble_eq_true rfl), (Nat.le_of_ble_eq_true rfl)⟩ nb_a0 rfl rfl rfl hl.1 rfl (Nat.le_of_ble_eq_true rfl) dL_law_721 (fun H locs hP hS => ?_)
  refine lv_aload_n hx hb dL_law_724 rfl (lv_at hl 2 rfl) ?_
  refine la_ld (j := 1) hx hb hX hbl hS hl h1 (by decide) dL_law_725 dL_law_726 dL_law_727 dL_law_728 dL_law_729 ?_
  refine la_callV (n := 1) (As := [.int (xs (i + 1).toNatClampNeg)]) (rest := [.int v]) hx hb hml hown ht hK hZ hP hS (k_X7_days had N M1 _ e2) gL_law_X7_days rfl (by decide +kernel) ⟨(Nat.le_of_ble_eq_true rfl), (Nat.le_of_ble_eq_true rfl)⟩ nb_a52 rfl rfl rfl hl.1 rfl (Nat.le_of_ble_eq_true rfl) dL_law_730 (fun H locs hP hS => ?_)
  exact lv_icmp_eq (tgt := 1396) hx hb dL_law_733 (by decide) (fun _ => kk M1 N1 H locs R1 hP hS) (fun q => absurd rfl q)
set_option maxRecDepth 20000 in
theorem la_c16 {p : Program} {l : Launch} {e : Env} {s : State} {m : MethodId} {below : List Frame} {meth : Method} {c : Code} {b L : Nat} {xs : Nat → Int32} {D : va_G} {ad : Nat → Nat} {ca : Nat → ClassId} {i : Int32} {M N : nb_M} {H : Heap} {locs : List Loc} {ls : Array Slot} (A : la_A p s m meth c b L xs D ad ca) (R : hs_Rel M N) (hI : la_I i L) (hP : va_P D vwCl (nb_w ad ca M N) H) (hS : va_S (fun q : Nat => s.heap.size ≤ q) s.heap H locs) (hl : lv_has ls 4 [(0, .ref b), (1, .ref (ad 0)), (2, .ref (ad 52)), (3, .int i)]) (kk : la_G p l e s m below meth c b D ad ca ls) : W p l e room_1 s m #[Value.ref b] below meth c H locs 600000 7302250 (lw_Z below #[Value.ref b] s) (F0 m 738 ls []) := by
  obtain ⟨⟨hx, hb, hr, hml, hown, hts, hX, hbl, hlocks, hgv⟩, had, hK, hZ, ht⟩ := A
  obtain ⟨h1, h2, h3, h4, h5⟩ := hI
  obtain ⟨v, M1, N1, e1, e2, R1⟩ := s_loose R (xs (i + 1).toNatClampNeg)
  refine lv_aload_n hx hb dL_law_738 rfl (lv_at hl 1 rfl) ?_
  refine la_ld (j := 1) hx hb hX hbl hS hl h1 (by decide) dL_law_739 dL_law_740 dL_law_741 dL_law_742 dL_law_743 ?_
  refine la_callV (n := 1) (As := [.int (xs (i + 1).toNatClampNeg)]) (rest := []) hx hb hml hown ht hK hZ hP hS (k_X6_loose had M N _ e1) gL_law_X6_loose rfl (by decide +kernel) ⟨(Nat.le_of_ble_eq_true rfl), (Nat.le_of_ble_eq_true rfl)⟩ nb_a0 rfl rfl rfl hl.1 rfl (Nat.le_of_ble_eq_true rfl) dL_law_744 (fun H locs hP hS => ?_)
  refine lv_aload_n hx hb dL_law_747 rfl (lv_at hl 2 rfl) ?_
  refine la_ld (j := 1) hx hb hX hbl hS hl h1 (by decide) dL_law_748 dL_law_749 dL_law_750 dL_law_751 dL_law_752 ?_
  refine la_callV (n := 1) (As := [.int (xs (i + 1).toNatClampNeg)]) (rest := [.int v]) hx hb hml hown ht hK hZ hP hS (k_X7_loose had N M1 _ e2) gL_law_X7_loose rfl (by decide +kernel) ⟨(Nat.le_of_ble_eq_true rfl), (Nat.le_of_ble_eq_true rfl)⟩ nb_a52 rfl rfl rfl hl.1 rfl (Nat.le_of_ble_eq_true rfl) dL_law_753 (fun H locs hP hS => ?_)
  exact lv_icmp_eq (tgt := 1396) hx hb dL_law_756 (by decide) (fun _ => kk M1 N1 H locs R1 hP hS) (fun q => absurd rfl q)
set_option maxRecDepth 20000 in
theorem la_c17 {p : Program} {l : Launch} {e : Env} {s : State} {m : MethodId} {below : List Frame} {meth : Method} {c : Code} {b L : Nat} {xs : Nat → Int32} {D : va_G} {ad : Nat → Nat} {ca : Nat → ClassId} {i : Int32} {M N : nb_M} {H : Heap} {locs : List Loc} {ls : Array Slot} (A : la_A p s m meth c b L xs D ad ca) (R : hs_Rel M N) (hI : la_I i L) (hP : va_P D vwCl (nb_w ad ca M N) H) (hS : va_S (fun q : Nat => s.heap.size ≤ q) s.heap H locs) (hl : lv_has ls 4 [(0, .ref b), (1, .ref (ad 0)), (2, .ref (ad 52)), (3, .int i)]) (kk : la_G p l e s m below meth c b D ad ca ls) : W p l e room_1 s m #[Value.ref b] below meth c H locs 600000 7302250 (lw_Z below #[Value.ref b] s) (F0 m 761 ls []) := by
  obtain ⟨⟨hx, hb, hr, hml, hown, hts, hX, hbl, hlocks, hgv⟩, had, hK, hZ, ht⟩ := A
  obtain ⟨h1, h2, h3, h4, h5⟩ := hI
  obtain ⟨v, M1, N1, e1, e2, R1⟩ := s_seed R (xs (i + 1).toNatClampNeg)
  have e1 := Option.some.inj e1
  refine lv_aload_n hx hb dL_law_761 rfl (lv_at hl 1 rfl) ?_
  refine la_ld (j := 1) hx hb hX hbl hS hl h1 (by decide) dL_law_762 dL_law_763 dL_law_764 dL_law_765 dL_law_766 ?_
  refine la_callV (n := 1) (As := [.int (xs (i + 1).toNatClampNeg)]) (rest := []) hx hb hml hown ht hK hZ hP hS (k_X6_seed had M N _ e1) gL_law_X6_seed rfl (by decide +kernel) ⟨(Nat.le_of_ble_eq_true rfl), (Nat.le_of_ble_eq_true rfl)⟩ nb_a0 rfl rfl rfl hl.1 rfl (Nat.le_of_ble_eq_true rfl) dL_law_767 (fun H locs hP hS => ?_)
  refine lv_aload_n hx hb dL_law_770 rfl (lv_at hl 2 rfl) ?_
  refine la_ld (j := 1) hx hb hX hbl hS hl h1 (by decide) dL_law_771 dL_law_772 dL_law_773 dL_law_774 dL_law_775 ?_
  refine la_callV (n := 1) (As := [.int (xs (i + 1).toNatClampNeg)]) (rest := [.int v]) hx hb hml hown ht hK hZ hP hS (k_X7_seed had N M1 _ e2) gL_law_X7_seed rfl (by decide +kernel) ⟨(Nat.le_of_ble_eq_true rfl), (Nat.le_of_ble_eq_true rfl)⟩ nb_a52 rfl rfl rfl hl.1 rfl (Nat.le_of_ble_eq_true rfl) dL_law_776 (fun H locs hP hS => ?_)
  exact lv_icmp_eq (tgt := 1396) hx hb dL_law_779 (by decide) (fun _ => kk M1 N1 H locs R1 hP hS) (fun q => absurd rfl q)
set_option maxRecDepth 20000 in
theorem la_c18 {p : Program} {l : Launch} {e : Env} {s : State} {m : MethodId} {below : List Frame} {meth : Method} {c : Code} {b L : Nat} {xs : Nat → Int32} {D : va_G} {ad : Nat → Nat} {ca : Nat → ClassId} {i : Int32} {M N : nb_M} {H : Heap} {locs : List Loc} {ls : Array Slot} (A : la_A p s m meth c b L xs D ad ca) (R : hs_Rel M N) (hI : la_I i L) (hP : va_P D vwCl (nb_w ad ca M N) H) (hS : va_S (fun q : Nat => s.heap.size ≤ q) s.heap H locs) (hl : lv_has ls 4 [(0, .ref b), (1, .ref (ad 0)), (2, .ref (ad 52)), (3, .int i)]) (kk : la_G p l e s m below meth c b D ad ca ls) : W p l e room_1 s m #[Value.ref b] below meth c H locs 600000 7302250 (lw_Z below #[Value.ref b] s) (F0 m 784 ls []) := by
  obtain ⟨⟨hx, hb, hr, hml, hown, hts, hX, hbl, hlocks, hgv⟩, had, hK, hZ, ht⟩ := A
  obtain ⟨h1, h2, h3, h4, h5⟩ := hI
  obtain ⟨v, M1, N1, e1, e2, R1⟩ := s_left R (xs (i + 1).toNatClampNeg) (xs (i + 2).toNatClampNeg)
  refine lv_aload_n hx hb dL_law_784 rfl (lv_at hl 1 rfl) ?_
  refine la_ld (j := 1) hx hb hX hbl hS hl h1 (by decide) dL_law_785 dL_law_786 dL_law_787 dL_law_788 dL_law_789 ?_
  refine la_ld (j := 2) hx hb hX hbl hS hl h2 (by decide) dL_law_790 dL_law_791 dL_law_792 dL_law_793 dL_law_794 ?_
  refine la_callV (n := 2) (As := [.int (xs (i + 1).toNatClampNeg), .int (xs (i + 2).toNatClampNeg)]) (rest := []) hx hb hml hown ht hK hZ hP hS (k_X6_left had M N _ _ e1) gL_law_X6_left rfl (by decide +kernel) ⟨(Nat.le_of_ble_eq_true rfl), (Nat.le_of_ble_eq_true rfl)⟩ nb_a0 rfl rfl rfl hl.1 rfl (Nat.le_of_ble_eq_true rfl) dL_law_795 (fun H locs hP hS => ?_)
  refine lv_aload_n hx hb dL_law_798 rfl (lv_at hl 2 rfl) ?_
  refine la_ld (j := 1) hx hb hX hbl hS hl h1 (by decide) dL_law_799 dL_law_800 dL_law_801 dL_law_802 dL_law_803 ?_
  refine la_ld (j := 2) hx hb hX hbl hS hl h2 (by decide) dL_law_804 dL_law_805 dL_law_806 dL_law_807 dL_law_808 ?_
  refine la_callV (n := 2) (As := [.int (xs (i + 1).toNatClampNeg), .int (xs (i + 2).toNatClampNeg)]) (rest := [.int v]) hx hb hml hown ht hK hZ hP hS (k_X7_left had N M1 _ _ e2) gL_law_X7_left rfl (by decide +kernel) ⟨(Nat.le_of_ble_eq_true rfl), (Nat.le_of_ble_eq_true rfl)⟩ nb_a52 rfl rfl rfl hl.1 rfl (Nat.le_of_ble_eq_true rfl) dL_law_809 (fun H locs hP hS => ?_)
  exact lv_icmp_eq (tgt := 1396) hx hb dL_law_812 (by decide) (fun _ => kk M1 N1 H locs R1 hP hS) (fun q => absurd rfl q)
set_option maxRecDepth 20000 in
theorem la_c19 {p : Program} {l : Launch} {e : Env} {s : State} {m : MethodId} {below : List Frame} {meth : Method} {c : Code} {b L : Nat} {xs : Nat → Int32} {D : va_G} {ad : Nat → Nat} {ca : Nat → ClassId} {i : Int32} {M N : nb_M} {H : Heap} {locs : List Loc} {ls : Array Slot} (A : la_A p s m meth c b L xs D ad ca) (R : hs_Rel M N) (hI : la_I i L) (hP : va_P D vwCl (nb_w ad ca M N) H) (hS : va_S (fun q : Nat => s.heap.size ≤ q) s.heap H locs) (hl : lv_has ls 4 [(0, .ref b), (1, .ref (ad 0)), (2, .ref (ad 52)), (3, .int i)]) (kk : la_G p l e s m below meth c b D ad ca ls) : W p l e room_1 s m #[Value.ref b] below meth c H locs 600000 7302250 (lw_Z below #[Value.ref b] s) (F0 m 817 ls []) := by
  obtain ⟨⟨hx, hb, hr, hml, hown, hts, hX, hbl, hlocks, hgv⟩, had, hK, hZ, ht⟩ := A
  obtain ⟨h1, h2, h3, h4, h5⟩ := hI
  obtain ⟨v, M1, N1, e1, e2, R1⟩ := s_odds R (xs (i + 1).toNatClampNeg) (xs (i + 2).toNatClampNeg) (xs (i + 3).toNatClampNeg)
  refine lv_aload_n hx hb dL_law_817 rfl (lv_at hl 1 rfl) ?_
  refine la_ld (j := 1) hx hb hX hbl hS hl h1 (by decide) dL_law_818 dL_law_819 dL_law_820 dL_law_821 dL_law_822 ?_
  refine la_ld (j := 2) hx hb hX hbl hS hl h2 (by decide) dL_law_823 dL_law_824 dL_law_825 dL_law_826 dL_law_827 ?_
  refine la_ld (j := 3) hx hb hX hbl hS hl h3 (by decide) dL_law_828 dL_law_829 dL_law_830 dL_law_831 dL_law_832 ?_
  refine la_callV (n := 3) (As := [.int (xs (i + 1).toNatClampNeg), .int (xs (i + 2).toNatClampNeg), .int (xs (i + 3).toNatClampNeg)]) (rest := []) hx hb hml hown ht hK hZ hP hS (k_X6_odds had M N _ _ _ e1) gL_law_X6_odds rfl (by decide +kernel) ⟨(Nat.le_of_ble_eq_true rfl), (Nat.le_of_ble_eq_true rfl)⟩ nb_a0 rfl rfl rfl hl.1 rfl (Nat.le_of_ble_eq_true rfl) dL_law_833 (fun H locs hP hS => ?_)
  refine lv_aload_n hx hb dL_law_836 rfl (lv_at hl 2 rfl) ?_
  refine la_ld (j := 1) hx hb hX hbl hS hl h1 (by decide) dL_law_837 dL_law_838 dL_law_839 dL_law_840 dL_law_841 ?_
  refine la_ld (j := 2) hx hb hX hbl hS hl h2 (by decide) dL_law_842 dL_law_843 dL_law_844 dL_law_845 dL_law_846 ?_
  refine la_ld (j := 3) hx hb hX hbl hS hl h3 (by decide) dL_law_847 dL_law_848 dL_law_849 dL_law_850 dL_law_851 ?_
  refine la_callV (n := 3) (As := [.int (xs (i + 1).toNatClampNeg), .int (xs (i + 2).toNatClampNeg), .int (xs (i + 3).toNatClampNeg)]) (rest := [.long v]) hx hb hml hown ht hK hZ hP hS (k_X7_odds had N M1 _ _ _ e2) gL_law_X7_odds rfl (by decide +kernel) ⟨(Nat.le_of_ble_eq_true rfl), (Nat.le_of_ble_eq_true rfl)⟩ nb_a52 rfl rfl rfl hl.1 rfl (Nat.le_of_ble_eq_true rfl) dL_law_852 (fun H locs hP hS => ?_)
  refine W.lcmp hx hb dL_law_855 ?_
  exact lv_if_eq (tgt := 1396) hx hb dL_law_856 (by decide) (fun _ => kk M1 N1 H locs R1 hP hS) (fun q => absurd (la_cmp v) q)
set_option maxRecDepth 20000 in
theorem la_c20 {p : Program} {l : Launch} {e : Env} {s : State} {m : MethodId} {below : List Frame} {meth : Method} {c : Code} {b L : Nat} {xs : Nat → Int32} {D : va_G} {ad : Nat → Nat} {ca : Nat → ClassId} {i : Int32} {M N : nb_M} {H : Heap} {locs : List Loc} {ls : Array Slot} (A : la_A p s m meth c b L xs D ad ca) (R : hs_Rel M N) (hI : la_I i L) (hP : va_P D vwCl (nb_w ad ca M N) H) (hS : va_S (fun q : Nat => s.heap.size ≤ q) s.heap H locs) (hl : lv_has ls 4 [(0, .ref b), (1, .ref (ad 0)), (2, .ref (ad 52)), (3, .int i)]) (kk : la_G p l e s m below meth c b D ad ca ls) : W p l e room_1 s m #[Value.ref b] below meth c H locs 600000 7302250 (lw_Z below #[Value.ref b] s) (F0 m 861 ls []) := by
  obtain ⟨⟨hx, hb, hr, hml, hown, hts, hX, hbl, hlocks, hgv⟩, had, hK, hZ, ht⟩ := A
  obtain ⟨h1, h2, h3, h4, h5⟩ := hI
  obtain ⟨v, M1, N1, e1, e2, R1⟩ := s_through R (xs (i + 1).toNatClampNeg) (xs (i + 2).toNatClampNeg)
  refine lv_aload_n hx hb dL_law_861 rfl (lv_at hl 1 rfl) ?_
  refine la_ld (j := 1) hx hb hX hbl hS hl h1 (by decide) dL_law_862 dL_law_863 dL_law_864 dL_law_865 dL_law_866 ?_
  refine la_ld (j := 2) hx hb hX hbl hS hl h2 (by decide) dL_law_867 dL_law_868 dL_law_869 dL_law_870 dL_law_871 ?_
  refine la_callV (n := 2) (As := [.int (xs (i + 1).toNatClampNeg), .int (xs (i + 2).toNatClampNeg)]) (rest := []) hx hb hml hown ht hK hZ hP hS (k_X6_through had M N _ _ e1) gL_law_X6_through rfl (by decide +kernel) ⟨(Nat.le_of_ble_eq_true rfl), (Nat.le_of_ble_eq_true rfl)⟩ nb_a0 rfl rfl rfl hl.1 rfl (Nat.le_of_ble_eq_true rfl) dL_law_872 (fun H locs hP hS => ?_)
  refine lv_aload_n hx hb dL_law_875 rfl (lv_at hl 2 rfl) ?_
  refine la_ld (j := 1) hx hb hX hbl hS hl h1 (by decide) dL_law_876 dL_law_877 dL_law_878 dL_law_879 dL_law_880 ?_
  refine la_ld (j := 2) hx hb hX hbl hS hl h2 (by decide) dL_law_881 dL_law_882 dL_law_883 dL_law_884 dL_law_885 ?_
  refine la_callV (n := 2) (As := [.int (xs (i + 1).toNatClampNeg), .int (xs (i + 2).toNatClampNeg)]) (rest := [.long v]) hx hb hml hown ht hK hZ hP hS (k_X7_through had N M1 _ _ e2) gL_law_X7_through rfl (by decide +kernel) ⟨(Nat.le_of_ble_eq_true rfl), (Nat.le_of_ble_eq_true rfl)⟩ nb_a52 rfl rfl rfl hl.1 rfl (Nat.le_of_ble_eq_true rfl) dL_law_886 (fun H locs hP hS => ?_)
  refine W.lcmp hx hb dL_law_889 ?_
  exact lv_if_eq (tgt := 1396) hx hb dL_law_890 (by decide) (fun _ => kk M1 N1 H locs R1 hP hS) (fun q => absurd (la_cmp v) q)
set_option maxRecDepth 20000 in
theorem la_c21 {p : Program} {l : Launch} {e : Env} {s : State} {m : MethodId} {below : List Frame} {meth : Method} {c : Code} {b L : Nat} {xs : Nat → Int32} {D : va_G} {ad : Nat → Nat} {ca : Nat → ClassId} {i : Int32} {M N : nb_M} {H : Heap} {locs : List Loc} {ls : Array Slot} (A : la_A p s m meth c b L xs D ad ca) (R : hs_Rel M N) (hI : la_I i L) (hP : va_P D vwCl (nb_w ad ca M N) H) (hS : va_S (fun q : Nat => s.heap.size ≤ q) s.heap H locs) (hl : lv_has ls 4 [(0, .ref b), (1, .ref (ad 0)), (2, .ref (ad 52)), (3, .int i)]) (kk : la_G p l e s m below meth c b D ad ca ls) : W p l e room_1 s m #[Value.ref b] below meth c H locs 600000 7302250 (lw_Z below #[Value.ref b] s) (F0 m 895 ls []) := by
  obtain ⟨⟨hx, hb, hr, hml, hown, hts, hX, hbl, hlocks, hgv⟩, had, hK, hZ, ht⟩ := A
  obtain ⟨h1, h2, h3, h4, h5⟩ := hI
  obtain ⟨v, M1, N1, e1, e2, R1⟩ := s_safest R (xs (i + 1).toNatClampNeg) (xs (i + 2).toNatClampNeg)
  refine lv_aload_n hx hb dL_law_895 rfl (lv_at hl 1 rfl) ?_
  refine la_ld (j := 1) hx hb hX hbl hS hl h1 (by decide) dL_law_896 dL_law_897 dL_law_898 dL_law_899 dL_law_900 ?_
  refine la_ld (j := 2) hx hb hX hbl hS hl h2 (by decide) dL_law_901 dL_law_902 dL_law_903 dL_law_904 dL_law_905 ?_
  refine la_callV (n := 2) (As := [.int (xs (i + 1).toNatClampNeg), .int (xs (i + 2).toNatClampNeg)]) (rest := []) hx hb hml hown ht hK hZ hP hS (k_X6_safest had M N _ _ e1) gL_law_X6_safest rfl (by decide +kernel) ⟨(Nat.le_of_ble_eq_true rfl), (Nat.le_of_ble_eq_true rfl)⟩ nb_a0 rfl rfl rfl hl.1 rfl (Nat.le_of_ble_eq_true rfl) dL_law_906 (fun H locs hP hS => ?_)
  refine lv_aload_n hx hb dL_law_909 rfl (lv_at hl 2 rfl) ?_
  refine la_ld (j := 1) hx hb hX hbl hS hl h1 (by decide) dL_law_910 dL_law_911 dL_law_912 dL_law_913 dL_law_914 ?_
  refine la_ld (j := 2) hx hb hX hbl hS hl h2 (by decide) dL_law_915 dL_law_916 dL_law_917 dL_law_918 dL_law_919 ?_
  refine la_callV (n := 2) (As := [.int (xs (i + 1).toNatClampNeg), .int (xs (i + 2).toNatClampNeg)]) (rest := [.int v]) hx hb hml hown ht hK hZ hP hS (k_X7_safest had N M1 _ _ e2) gL_law_X7_safest rfl (by decide +kernel) ⟨(Nat.le_of_ble_eq_true rfl), (Nat.le_of_ble_eq_true rfl)⟩ nb_a52 rfl rfl rfl hl.1 rfl (Nat.le_of_ble_eq_true rfl) dL_law_920 (fun H locs hP hS => ?_)
  exact lv_icmp_eq (tgt := 1396) hx hb dL_law_923 (by decide) (fun _ => kk M1 N1 H locs R1 hP hS) (fun q => absurd rfl q)
set_option maxRecDepth 20000 in
theorem la_c22 {p : Program} {l : Launch} {e : Env} {s : State} {m : MethodId} {below : List Frame} {meth : Method} {c : Code} {b L : Nat} {xs : Nat → Int32} {D : va_G} {ad : Nat → Nat} {ca : Nat → ClassId} {i : Int32} {M N : nb_M} {H : Heap} {locs : List Loc} {ls : Array Slot} (A : la_A p s m meth c b L xs D ad ca) (R : hs_Rel M N) (hI : la_I i L) (hP : va_P D vwCl (nb_w ad ca M N) H) (hS : va_S (fun q : Nat => s.heap.size ≤ q) s.heap H locs) (hl : lv_has ls 4 [(0, .ref b), (1, .ref (ad 0)), (2, .ref (ad 52)), (3, .int i)]) (kk : la_G p l e s m below meth c b D ad ca ls) : W p l e room_1 s m #[Value.ref b] below meth c H locs 600000 7302250 (lw_Z below #[Value.ref b] s) (F0 m 928 ls []) := by
  obtain ⟨⟨hx, hb, hr, hml, hown, hts, hX, hbl, hlocks, hgv⟩, had, hK, hZ, ht⟩ := A
  obtain ⟨h1, h2, h3, h4, h5⟩ := hI
  obtain ⟨v, M1, N1, e1, e2, R1⟩ := s_saves R (xs (i + 1).toNatClampNeg) (xs (i + 2).toNatClampNeg)
  refine lv_aload_n hx hb dL_law_928 rfl (lv_at hl 1 rfl) ?_
  refine la_ld (j := 1) hx hb hX hbl hS hl h1 (by decide) dL_law_929 dL_law_930 dL_law_931 dL_law_932 dL_law_933 ?_
  refine la_ld (j := 2) hx hb hX hbl hS hl h2 (by decide) dL_law_934 dL_law_935 dL_law_936 dL_law_937 dL_law_938 ?_
  refine la_callV (n := 2) (As := [.int (xs (i + 1).toNatClampNeg), .int (xs (i + 2).toNatClampNeg)]) (rest := []) hx hb hml hown ht hK hZ hP hS (k_X6_saves had M N _ _ e1) gL_law_X6_saves rfl (by decide +kernel) ⟨(Nat.le_of_ble_eq_true rfl), (Nat.le_of_ble_eq_true rfl)⟩ nb_a0 rfl rfl rfl hl.1 rfl (Nat.le_of_ble_eq_true rfl) dL_law_939 (fun H locs hP hS => ?_)
  refine lv_aload_n hx hb dL_law_942 rfl (lv_at hl 2 rfl) ?_
  refine la_ld (j := 1) hx hb hX hbl hS hl h1 (by decide) dL_law_943 dL_law_944 dL_law_945 dL_law_946 dL_law_947 ?_
  refine la_ld (j := 2) hx hb hX hbl hS hl h2 (by decide) dL_law_948 dL_law_949 dL_law_950 dL_law_951 dL_law_952 ?_
  refine la_callV (n := 2) (As := [.int (xs (i + 1).toNatClampNeg), .int (xs (i + 2).toNatClampNeg)]) (rest := [.int v]) hx hb hml hown ht hK hZ hP hS (k_X7_saves had N M1 _ _ e2) gL_law_X7_saves rfl (by decide +kernel) ⟨(Nat.le_of_ble_eq_true rfl), (Nat.le_of_ble_eq_true rfl)⟩ nb_a52 rfl rfl rfl hl.1 rfl (Nat.le_of_ble_eq_true rfl) dL_law_953 (fun H locs hP hS => ?_)
  exact lv_icmp_eq (tgt := 1396) hx hb dL_law_956 (by decide) (fun _ => kk M1 N1 H locs R1 hP hS) (fun q => absurd rfl q)
set_option maxRecDepth 20000 in
theorem la_c23 {p : Program} {l : Launch} {e : Env} {s : State} {m : MethodId} {below : List Frame} {meth : Method} {c : Code} {b L : Nat} {xs : Nat → Int32} {D : va_G} {ad : Nat → Nat} {ca : Nat → ClassId} {i : Int32} {M N : nb_M} {H : Heap} {locs : List Loc} {ls : Array Slot} (A : la_A p s m meth c b L xs D ad ca) (R : hs_Rel M N) (hI : la_I i L) (hP : va_P D vwCl (nb_w ad ca M N) H) (hS : va_S (fun q : Nat => s.heap.size ≤ q) s.heap H locs) (hl : lv_has ls 4 [(0, .ref b), (1, .ref (ad 0)), (2, .ref (ad 52)), (3, .int i)]) (kk : la_G p l e s m below meth c b D ad ca ls) : W p l e room_1 s m #[Value.ref b] below meth c H locs 600000 7302250 (lw_Z below #[Value.ref b] s) (F0 m 961 ls []) := by
  obtain ⟨⟨hx, hb, hr, hml, hown, hts, hX, hbl, hlocks, hgv⟩, had, hK, hZ, ht⟩ := A
  obtain ⟨h1, h2, h3, h4, h5⟩ := hI
  obtain ⟨v, M1, N1, e1, e2, R1⟩ := s_counts R (xs (i + 1).toNatClampNeg)
  refine lv_aload_n hx hb dL_law_961 rfl (lv_at hl 1 rfl) ?_
  refine la_ld (j := 1) hx hb hX hbl hS hl h1 (by decide) dL_law_962 dL_law_963 dL_law_964 dL_law_965 dL_law_966 ?_
  refine la_callV (n := 1) (As := [.int (xs (i + 1).toNatClampNeg)]) (rest := []) hx hb hml hown ht hK hZ hP hS (k_X6_counts had M N _ e1) gL_law_X6_counts rfl (by decide +kernel) ⟨(Nat.le_of_ble_eq_true rfl), (Nat.le_of_ble_eq_true rfl)⟩ nb_a0 rfl rfl rfl hl.1 rfl (Nat.le_of_ble_eq_true rfl) dL_law_967 (fun H locs hP hS => ?_)
  refine lv_aload_n hx hb dL_law_970 rfl (lv_at hl 2 rfl) ?_
  refine la_ld (j := 1) hx hb hX hbl hS hl h1 (by decide) dL_law_971 dL_law_972 dL_law_973 dL_law_974 dL_law_975 ?_
  refine la_callV (n := 1) (As := [.int (xs (i + 1).toNatClampNeg)]) (rest := [.int v]) hx hb hml hown ht hK hZ hP hS (k_X7_counts had N M1 _ e2) gL_law_X7_counts rfl (by decide +kernel) ⟨(Nat.le_of_ble_eq_true rfl), (Nat.le_of_ble_eq_true rfl)⟩ nb_a52 rfl rfl rfl hl.1 rfl (Nat.le_of_ble_eq_true rfl) dL_law_976 (fun H locs hP hS => ?_)
  exact lv_icmp_eq (tgt := 1396) hx hb dL_law_979 (by decide) (fun _ => kk M1 N1 H locs R1 hP hS) (fun q => absurd rfl q)
set_option maxRecDepth 20000 in
theorem la_c24 {p : Program} {l : Launch} {e : Env} {s : State} {m : MethodId} {below : List Frame} {meth : Method} {c : Code} {b L : Nat} {xs : Nat → Int32} {D : va_G} {ad : Nat → Nat} {ca : Nat → ClassId} {i : Int32} {M N : nb_M} {H : Heap} {locs : List Loc} {ls : Array Slot} (A : la_A p s m meth c b L xs D ad ca) (R : hs_Rel M N) (hI : la_I i L) (hP : va_P D vwCl (nb_w ad ca M N) H) (hS : va_S (fun q : Nat => s.heap.size ≤ q) s.heap H locs) (hl : lv_has ls 4 [(0, .ref b), (1, .ref (ad 0)), (2, .ref (ad 52)), (3, .int i)]) (kk : la_G p l e s m below meth c b D ad ca ls) : W p l e room_1 s m #[Value.ref b] below meth c H locs 600000 7302250 (lw_Z below #[Value.ref b] s) (F0 m 984 ls []) := by
  obtain ⟨⟨hx, hb, hr, hml, hown, hts, hX, hbl, hlocks, hgv⟩, had, hK, hZ, ht⟩ := A
  obtain ⟨h1, h2, h3, h4, h5⟩ := hI
  obtain ⟨v, M1, N1, e1, e2, R1⟩ := s_fits R (xs (i + 1).toNatClampNeg) (xs (i + 2).toNatClampNeg) (xs (i + 3).toNatClampNeg)
  refine lv_aload_n hx hb dL_law_984 rfl (lv_at hl 1 rfl) ?_
  refine la_ld (j := 1) hx hb hX hbl hS hl h1 (by decide) dL_law_985 dL_law_986 dL_law_987 dL_law_988 dL_law_989 ?_
  refine la_ld (j := 2) hx hb hX hbl hS hl h2 (by decide) dL_law_990 dL_law_991 dL_law_992 dL_law_993 dL_law_994 ?_
  refine la_ld (j := 3) hx hb hX hbl hS hl h3 (by decide) dL_law_995 dL_law_996 dL_law_997 dL_law_998 dL_law_999 ?_
  refine la_callV (n := 3) (As := [.int (xs (i + 1).toNatClampNeg), .int (xs (i + 2).toNatClampNeg), .int (xs (i + 3).toNatClampNeg)]) (rest := []) hx hb hml hown ht hK hZ hP hS (k_X6_fits had M N _ _ _ e1) gL_law_X6_fits rfl (by decide +kernel) ⟨(Nat.le_of_ble_eq_true rfl), (Nat.le_of_ble_eq_true rfl)⟩ nb_a0 rfl rfl rfl hl.1 rfl (Nat.le_of_ble_eq_true rfl) dL_law_1000 (fun H locs hP hS => ?_)
  refine lv_aload_n hx hb dL_law_1003 rfl (lv_at hl 2 rfl) ?_
  refine la_ld (j := 1) hx hb hX hbl hS hl h1 (by decide) dL_law_1004 dL_law_1005 dL_law_1006 dL_law_1007 dL_law_1008 ?_
  refine la_ld (j := 2) hx hb hX hbl hS hl h2 (by decide) dL_law_1009 dL_law_1010 dL_law_1011 dL_law_1012 dL_law_1013 ?_
  refine la_ld (j := 3) hx hb hX hbl hS hl h3 (by decide) dL_law_1014 dL_law_1015 dL_law_1016 dL_law_1017 dL_law_1018 ?_
  refine la_callV (n := 3) (As := [.int (xs (i + 1).toNatClampNeg), .int (xs (i + 2).toNatClampNeg), .int (xs (i + 3).toNatClampNeg)]) (rest := [.int v]) hx hb hml hown ht hK hZ hP hS (k_X7_fits had N M1 _ _ _ e2) gL_law_X7_fits rfl (by decide +kernel) ⟨(Nat.le_of_ble_eq_true rfl), (Nat.le_of_ble_eq_true rfl)⟩ nb_a52 rfl rfl rfl hl.1 rfl (Nat.le_of_ble_eq_true rfl) dL_law_1019 (fun H locs hP hS => ?_)
  exact lv_icmp_eq (tgt := 1396) hx hb dL_law_1022 (by decide) (fun _ => kk M1 N1 H locs R1 hP hS) (fun q => absurd rfl q)
set_option maxRecDepth 20000 in
theorem la_c25 {p : Program} {l : Launch} {e : Env} {s : State} {m : MethodId} {below : List Frame} {meth : Method} {c : Code} {b L : Nat} {xs : Nat → Int32} {D : va_G} {ad : Nat → Nat} {ca : Nat → ClassId} {i : Int32} {M N : nb_M} {H : Heap} {locs : List Loc} {ls : Array Slot} (A : la_A p s m meth c b L xs D ad ca) (R : hs_Rel M N) (hI : la_I i L) (hP : va_P D vwCl (nb_w ad ca M N) H) (hS : va_S (fun q : Nat => s.heap.size ≤ q) s.heap H locs) (hl : lv_has ls 4 [(0, .ref b), (1, .ref (ad 0)), (2, .ref (ad 52)), (3, .int i)]) (kk : la_G p l e s m below meth c b D ad ca ls) : W p l e room_1 s m #[Value.ref b] below meth c H locs 600000 7302250 (lw_Z below #[Value.ref b] s) (F0 m 1027 ls []) := by
  obtain ⟨⟨hx, hb, hr, hml, hown, hts, hX, hbl, hlocks, hgv⟩, had, hK, hZ, ht⟩ := A
  obtain ⟨h1, h2, h3, h4, h5⟩ := hI
  obtain ⟨v, M1, N1, e1, e2, R1⟩ := s_voice R (xs (i + 1).toNatClampNeg) (xs (i + 2).toNatClampNeg) (xs (i + 3).toNatClampNeg)
  refine lv_aload_n hx hb dL_law_1027 rfl (lv_at hl 1 rfl) ?_
  refine la_ld (j := 1) hx hb hX hbl hS hl h1 (by decide) dL_law_1028 dL_law_1029 dL_law_1030 dL_law_1031 dL_law_1032 ?_
  refine la_ld (j := 2) hx hb hX hbl hS hl h2 (by decide) dL_law_1033 dL_law_1034 dL_law_1035 dL_law_1036 dL_law_1037 ?_
  refine la_ld (j := 3) hx hb hX hbl hS hl h3 (by decide) dL_law_1038 dL_law_1039 dL_law_1040 dL_law_1041 dL_law_1042 ?_
  refine la_callV (n := 3) (As := [.int (xs (i + 1).toNatClampNeg), .int (xs (i + 2).toNatClampNeg), .int (xs (i + 3).toNatClampNeg)]) (rest := []) hx hb hml hown ht hK hZ hP hS (k_X6_voice had M N _ _ _ e1) gL_law_X6_voice rfl (by decide +kernel) ⟨(Nat.le_of_ble_eq_true rfl), (Nat.le_of_ble_eq_true rfl)⟩ nb_a0 rfl rfl rfl hl.1 rfl (Nat.le_of_ble_eq_true rfl) dL_law_1043 (fun H locs hP hS => ?_)
  refine lv_aload_n hx hb dL_law_1046 rfl (lv_at hl 2 rfl) ?_
  refine la_ld (j := 1) hx hb hX hbl hS hl h1 (by decide) dL_law_1047 dL_law_1048 dL_law_1049 dL_law_1050 dL_law_1051 ?_
  refine la_ld (j := 2) hx hb hX hbl hS hl h2 (by decide) dL_law_1052 dL_law_1053 dL_law_1054 dL_law_1055 dL_law_1056 ?_
  refine la_ld (j := 3) hx hb hX hbl hS hl h3 (by decide) dL_law_1057 dL_law_1058 dL_law_1059 dL_law_1060 dL_law_1061 ?_
  refine la_callV (n := 3) (As := [.int (xs (i + 1).toNatClampNeg), .int (xs (i + 2).toNatClampNeg), .int (xs (i + 3).toNatClampNeg)]) (rest := [.int v]) hx hb hml hown ht hK hZ hP hS (k_X7_voice had N M1 _ _ _ e2) gL_law_X7_voice rfl (by decide +kernel) ⟨(Nat.le_of_ble_eq_true rfl), (Nat.le_of_ble_eq_true rfl)⟩ nb_a52 rfl rfl rfl hl.1 rfl (Nat.le_of_ble_eq_true rfl) dL_law_1062 (fun H locs hP hS => ?_)
  exact lv_icmp_eq (tgt := 1396) hx hb dL_law_1065 (by decide) (fun _ => kk M1 N1 H locs R1 hP hS) (fun q => absurd rfl q)
