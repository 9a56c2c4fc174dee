/-! the law's blocks, one for each call (wip/whole/gen/mk90.py) -/
section LB
variable {p : Program} {l : Launch} {e : Env} {s : State} {m : MethodId} {below : List Frame} {meth : Method} {c : Code} {b L : Nat} {xs : Nat → Int32} {Q : State → Prop} {D : va_G} {ls : Array Slot} {q1 q2 n : Nat}
set_option maxHeartbeats 1000000 in
theorem lb_12 (C0 : lw_At p s m meth c b L xs) (hAm : Amb_ D s) (hL : L ≤ 3072) (hn : 6 * n + 6 ≤ L) (hl : lv_has ls 4 [(0, .ref b), (1, .ref q1), (2, .ref q2), (3, .int (nI (6 * n)))]) (kk : LG_ p l e s m below meth c b D Q ls q1 q2 (n + 1) 1320) : LG_ p l e s m below meth c b D Q ls q1 q2 n 568 := by
  intro α β gX gM H locs cells slots hR hLW hq1 hq2 hce hsl
  obtain ⟨hx, hb, hr, hml, hown, hts, hX, hbl, hlocks, hgv⟩ := id C0
  obtain ⟨r, gX2, gM2, f1, f2, hR2, b1, b2, b3, b4⟩ := op_where (xs (6 * n + 1)) (xs (6 * n + 2)) (xs (6 * n + 3)) gX gM n (by omega) hR
  have M1 := t9_where 0 (xs (6 * n + 1)) (xs (6 * n + 2)) (xs (6 * n + 3)) gX
  have M2 := t10_where 0 (xs (6 * n + 1)) (xs (6 * n + 2)) (xs (6 * n + 3)) gM
  rw [f1] at M1
  rw [f2] at M2
  refine lv_aload_n hx hb dL_law_568 rfl (lv_at hl 1 rfl) ?_
  refine lw_arg (6 * n) 1 C0 hLW.2.2.2.2.2 hL (by omega) hl (by decide) dL_law_569 dL_law_570 dL_law_571 dL_law_572 dL_law_573 ?_
  refine lw_arg (6 * n) 2 C0 hLW.2.2.2.2.2 hL (by omega) hl (by decide) dL_law_574 dL_law_575 dL_law_576 dL_law_577 dL_law_578 ?_
  refine lw_arg (6 * n) 3 C0 hLW.2.2.2.2.2 hL (by omega) hl (by decide) dL_law_579 dL_law_580 dL_law_581 dL_law_582 dL_law_583 ?_
  refine lw_call (As := [xs (6 * n + 1), xs (6 * n + 2), xs (6 * n + 3)]) (t1 := 9) (q1 := q1) (rest := []) (r := r) (g1 := gX2) M1 cw_cX9_where mlL_66 dL_law_584 rfl (by decide) (by decide) C0 hAm hl.1 hLW hq1 (by decide) (by omega) (by omega) rfl (fun α2 H2 locs2 hLW2 hq12 => ?_)
  have hLW2 := LW_swap hLW2
  refine lv_aload_n hx hb dL_law_587 rfl (lv_at hl 2 rfl) ?_
  refine lw_arg (6 * n) 1 C0 hLW2.2.2.2.2.2 hL (by omega) hl (by decide) dL_law_588 dL_law_589 dL_law_590 dL_law_591 dL_law_592 ?_
  refine lw_arg (6 * n) 2 C0 hLW2.2.2.2.2.2 hL (by omega) hl (by decide) dL_law_593 dL_law_594 dL_law_595 dL_law_596 dL_law_597 ?_
  refine lw_arg (6 * n) 3 C0 hLW2.2.2.2.2.2 hL (by omega) hl (by decide) dL_law_598 dL_law_599 dL_law_600 dL_law_601 dL_law_602 ?_
  refine lw_call (As := [xs (6 * n + 1), xs (6 * n + 2), xs (6 * n + 3)]) (t1 := 10) (q1 := q2) (rest := [.int r]) (r := r) (g1 := gM2) M2 cw_cX10_where mlL_70 dL_law_603 rfl (by decide) (by decide) C0 hAm hl.1 hLW2 hq2 (Nat.le_of_ble_eq_true rfl) (by omega) (by omega) rfl (fun β2 H3 locs3 hLW3 hq22 => ?_)
  refine lv_icmp_eq (tgt := 1320) hx hb dL_law_606 (by decide) (fun _ => ?_) (fun h => absurd rfl h)
  exact kk α2 β2 gX2 gM2 H3 locs3 _ _ hR2 (LW_swap hLW3) hq12 hq22 (by omega) (by omega)
set_option maxHeartbeats 1000000 in
theorem lb_13 (C0 : lw_At p s m meth c b L xs) (hAm : Amb_ D s) (hL : L ≤ 3072) (hn : 6 * n + 6 ≤ L) (hl : lv_has ls 4 [(0, .ref b), (1, .ref q1), (2, .ref q2), (3, .int (nI (6 * n)))]) (kk : LG_ p l e s m below meth c b D Q ls q1 q2 (n + 1) 1320) : LG_ p l e s m below meth c b D Q ls q1 q2 n 611 := by
  intro α β gX gM H locs cells slots hR hLW hq1 hq2 hce hsl
  obtain ⟨hx, hb, hr, hml, hown, hts, hX, hbl, hlocks, hgv⟩ := id C0
  obtain ⟨r, gX2, gM2, f1, f2, hR2, b1, b2, b3, b4⟩ := op_canonical (xs (6 * n + 1)) (xs (6 * n + 2)) gX gM n (by omega) hR
  have M1 := t9_canonical 0 (xs (6 * n + 1)) (xs (6 * n + 2)) gX
  have M2 := t10_canonical 0 (xs (6 * n + 1)) (xs (6 * n + 2)) gM
  rw [f1] at M1
  rw [f2] at M2
  refine lv_aload_n hx hb dL_law_611 rfl (lv_at hl 1 rfl) ?_
  refine lw_arg (6 * n) 1 C0 hLW.2.2.2.2.2 hL (by omega) hl (by decide) dL_law_612 dL_law_613 dL_law_614 dL_law_615 dL_law_616 ?_
  refine lw_arg (6 * n) 2 C0 hLW.2.2.2.2.2 hL (by omega) hl (by decide) dL_law_617 dL_law_618 dL_law_619 dL_law_620 dL_law_621 ?_
  refine lw_call (As := [xs (6 * n + 1), xs (6 * n + 2)]) (t1 := 9) (q1 := q1) (rest := []) (r := r) (g1 := gX2) M1 cw_cX9_canonical mlL_71 dL_law_622 rfl (by decide) (by decide) C0 hAm hl.1 hLW hq1 (by decide) (by omega) (by omega) rfl (fun α2 H2 locs2 hLW2 hq12 => ?_)
  have hLW2 := LW_swap hLW2
  refine lv_aload_n hx hb dL_law_625 rfl (lv_at hl 2 rfl) ?_
  refine lw_arg (6 * n) 1 C0 hLW2.2.2.2.2.2 hL (by omega) hl (by decide) dL_law_626 dL_law_627 dL_law_628 dL_law_629 dL_law_630 ?_
  refine lw_arg (6 * n) 2 C0 hLW2.2.2.2.2.2 hL (by omega) hl (by decide) dL_law_631 dL_law_632 dL_law_633 dL_law_634 dL_law_635 ?_
  refine lw_call (As := [xs (6 * n + 1), xs (6 * n + 2)]) (t1 := 10) (q1 := q2) (rest := [.int r]) (r := r) (g1 := gM2) M2 cw_cX10_canonical mlL_74 dL_law_636 rfl (by decide) (by decide) C0 hAm hl.1 hLW2 hq2 (Nat.le_of_ble_eq_true rfl) (by omega) (by omega) rfl (fun β2 H3 locs3 hLW3 hq22 => ?_)
  refine lv_icmp_eq (tgt := 1320) hx hb dL_law_639 (by decide) (fun _ => ?_) (fun h => absurd rfl h)
  exact kk α2 β2 gX2 gM2 H3 locs3 _ _ hR2 (LW_swap hLW3) hq12 hq22 (by omega) (by omega)
set_option maxHeartbeats 1000000 in
theorem lb_14 (C0 : lw_At p s m meth c b L xs) (hAm : Amb_ D s) (hL : L ≤ 3072) (hn : 6 * n + 6 ≤ L) (hl : lv_has ls 4 [(0, .ref b), (1, .ref q1), (2, .ref q2), (3, .int (nI (6 * n)))]) (kk : LG_ p l e s m below meth c b D Q ls q1 q2 (n + 1) 1320) : LG_ p l e s m below meth c b D Q ls q1 q2 n 644 := by
  intro α β gX gM H locs cells slots hR hLW hq1 hq2 hce hsl
  obtain ⟨hx, hb, hr, hml, hown, hts, hX, hbl, hlocks, hgv⟩ := id C0
  obtain ⟨r, gX2, gM2, f1, f2, hR2, b1, b2, b3, b4⟩ := op_addPrinter (xs (6 * n + 1)) (xs (6 * n + 2)) (xs (6 * n + 3)) gX gM n (by omega) hR
  have M1 := t9_addPrinter 0 (xs (6 * n + 1)) (xs (6 * n + 2)) (xs (6 * n + 3)) gX
  have M2 := t10_addPrinter 0 (xs (6 * n + 1)) (xs (6 * n + 2)) (xs (6 * n + 3)) gM
  rw [f1] at M1
  rw [f2] at M2
  refine lv_aload_n hx hb dL_law_644 rfl (lv_at hl 1 rfl) ?_
  refine lw_arg (6 * n) 1 C0 hLW.2.2.2.2.2 hL (by omega) hl (by decide) dL_law_645 dL_law_646 dL_law_647 dL_law_648 dL_law_649 ?_
  refine lw_arg (6 * n) 2 C0 hLW.2.2.2.2.2 hL (by omega) hl (by decide) dL_law_650 dL_law_651 dL_law_652 dL_law_653 dL_law_654 ?_
  refine lw_arg (6 * n) 3 C0 hLW.2.2.2.2.2 hL (by omega) hl (by decide) dL_law_655 dL_law_656 dL_law_657 dL_law_658 dL_law_659 ?_
  refine lw_call (As := [xs (6 * n + 1), xs (6 * n + 2), xs (6 * n + 3)]) (t1 := 9) (q1 := q1) (rest := []) (r := r) (g1 := gX2) M1 cw_cX9_addPrinter mlL_75 dL_law_660 rfl (by decide) (by decide) C0 hAm hl.1 hLW hq1 (by decide) (by omega) (by omega) rfl (fun α2 H2 locs2 hLW2 hq12 => ?_)
  have hLW2 := LW_swap hLW2
  refine lv_aload_n hx hb dL_law_663 rfl (lv_at hl 2 rfl) ?_
  refine lw_arg (6 * n) 1 C0 hLW2.2.2.2.2.2 hL (by omega) hl (by decide) dL_law_664 dL_law_665 dL_law_666 dL_law_667 dL_law_668 ?_
  refine lw_arg (6 * n) 2 C0 hLW2.2.2.2.2.2 hL (by omega) hl (by decide) dL_law_669 dL_law_670 dL_law_671 dL_law_672 dL_law_673 ?_
  refine lw_arg (6 * n) 3 C0 hLW2.2.2.2.2.2 hL (by omega) hl (by decide) dL_law_674 dL_law_675 dL_law_676 dL_law_677 dL_law_678 ?_
  refine lw_call (As := [xs (6 * n + 1), xs (6 * n + 2), xs (6 * n + 3)]) (t1 := 10) (q1 := q2) (rest := [.int r]) (r := r) (g1 := gM2) M2 cw_cX10_addPrinter mlL_78 dL_law_679 rfl (by decide) (by decide) C0 hAm hl.1 hLW2 hq2 (Nat.le_of_ble_eq_true rfl) (by omega) (by omega) rfl (fun β2 H3 locs3 hLW3 hq22 => ?_)
  refine lv_icmp_eq (tgt := 1320) hx hb dL_law_682 (by decide) (fun _ => ?_) (fun h => absurd rfl h)
  exact kk α2 β2 gX2 gM2 H3 locs3 _ _ hR2 (LW_swap hLW3) hq12 hq22 (by omega) (by omega)
set_option maxHeartbeats 1000000 in
theorem lb_15 (C0 : lw_At p s m meth c b L xs) (hAm : Amb_ D s) (hL : L ≤ 3072) (hn : 6 * n + 6 ≤ L) (hl : lv_has ls 4 [(0, .ref b), (1, .ref q1), (2, .ref q2), (3, .int (nI (6 * n)))]) (kk : LG_ p l e s m below meth c b D Q ls q1 q2 (n + 1) 1320) : LG_ p l e s m below meth c b D Q ls q1 q2 n 687 := by
  intro α β gX gM H locs cells slots hR hLW hq1 hq2 hce hsl
  obtain ⟨hx, hb, hr, hml, hown, hts, hX, hbl, hlocks, hgv⟩ := id C0
  obtain ⟨r, gX2, gM2, f1, f2, hR2, b1, b2, b3, b4⟩ := op_fill (xs (6 * n + 1)) (xs (6 * n + 2)) (xs (6 * n + 3)) gX gM n (by omega) hR
  have M1 := t9_fill 0 (xs (6 * n + 1)) (xs (6 * n + 2)) (xs (6 * n + 3)) gX
  have M2 := t10_fill 0 (xs (6 * n + 1)) (xs (6 * n + 2)) (xs (6 * n + 3)) gM
  rw [f1] at M1
  rw [f2] at M2
  refine lv_aload_n hx hb dL_law_687 rfl (lv_at hl 1 rfl) ?_
  refine lw_arg (6 * n) 1 C0 hLW.2.2.2.2.2 hL (by omega) hl (by decide) dL_law_688 dL_law_689 dL_law_690 dL_law_691 dL_law_692 ?_
  refine lw_arg (6 * n) 2 C0 hLW.2.2.2.2.2 hL (by omega) hl (by decide) dL_law_693 dL_law_694 dL_law_695 dL_law_696 dL_law_697 ?_
  refine lw_arg (6 * n) 3 C0 hLW.2.2.2.2.2 hL (by omega) hl (by decide) dL_law_698 dL_law_699 dL_law_700 dL_law_701 dL_law_702 ?_
  refine lw_call (As := [xs (6 * n + 1), xs (6 * n + 2), xs (6 * n + 3)]) (t1 := 9) (q1 := q1) (rest := []) (r := r) (g1 := gX2) M1 cw_cX9_fill mlL_79 dL_law_703 rfl (by decide) (by decide) C0 hAm hl.1 hLW hq1 (by decide) (by omega) (by omega) rfl (fun α2 H2 locs2 hLW2 hq12 => ?_)
  have hLW2 := LW_swap hLW2
  refine lv_aload_n hx hb dL_law_706 rfl (lv_at hl 2 rfl) ?_
  refine lw_arg (6 * n) 1 C0 hLW2.2.2.2.2.2 hL (by omega) hl (by decide) dL_law_707 dL_law_708 dL_law_709 dL_law_710 dL_law_711 ?_
  refine lw_arg (6 * n) 2 C0 hLW2.2.2.2.2.2 hL (by omega) hl (by decide) dL_law_712 dL_law_713 dL_law_714 dL_law_715 dL_law_716 ?_
  refine lw_arg (6 * n) 3 C0 hLW2.2.2.2.2.2 hL (by omega) hl (by decide) dL_law_717 dL_law_718 dL_law_719 dL_law_720 dL_law_721 ?_
  refine lw_call (As := [xs (6 * n + 1), xs (6 * n + 2), xs (6 * n + 3)]) (t1 := 10) (q1 := q2) (rest := [.int r]) (r := r) (g1 := gM2) M2 cw_cX10_fill mlL_82 dL_law_722 rfl (by decide) (by decide) C0 hAm hl.1 hLW2 hq2 (Nat.le_of_ble_eq_true rfl) (by omega) (by omega) rfl (fun β2 H3 locs3 hLW3 hq22 => ?_)
  refine lv_icmp_eq (tgt := 1320) hx hb dL_law_725 (by decide) (fun _ => ?_) (fun h => absurd rfl h)
  exact kk α2 β2 gX2 gM2 H3 locs3 _ _ hR2 (LW_swap hLW3) hq12 hq22 (by omega) (by omega)
set_option maxHeartbeats 1000000 in
theorem lb_16 (C0 : lw_At p s m meth c b L xs) (hAm : Amb_ D s) (hL : L ≤ 3072) (hn : 6 * n + 6 ≤ L) (hl : lv_has ls 4 [(0, .ref b), (1, .ref q1), (2, .ref q2), (3, .int (nI (6 * n)))]) (kk : LG_ p l e s m below meth c b D Q ls q1 q2 (n + 1) 1320) : LG_ p l e s m below meth c b D Q ls q1 q2 n 730 := by
  intro α β gX gM H locs cells slots hR hLW hq1 hq2 hce hsl
  obtain ⟨hx, hb, hr, hml, hown, hts, hX, hbl, hlocks, hgv⟩ := id C0
  obtain ⟨r, gX2, gM2, f1, f2, hR2, b1, b2, b3, b4⟩ := op_printer (xs (6 * n + 1)) (xs (6 * n + 2)) gX gM n (by omega) hR
  have M1 := t9_printer 0 (xs (6 * n + 1)) (xs (6 * n + 2)) gX
  have M2 := t10_printer 0 (xs (6 * n + 1)) (xs (6 * n + 2)) gM
  rw [f1] at M1
  rw [f2] at M2
  refine lv_aload_n hx hb dL_law_730 rfl (lv_at hl 1 rfl) ?_
  refine lw_arg (6 * n) 1 C0 hLW.2.2.2.2.2 hL (by omega) hl (by decide) dL_law_731 dL_law_732 dL_law_733 dL_law_734 dL_law_735 ?_
  refine lw_arg (6 * n) 2 C0 hLW.2.2.2.2.2 hL (by omega) hl (by decide) dL_law_736 dL_law_737 dL_law_738 dL_law_739 dL_law_740 ?_
  refine lw_call (As := [xs (6 * n + 1), xs (6 * n + 2)]) (t1 := 9) (q1 := q1) (rest := []) (r := r) (g1 := gX2) M1 cw_cX9_printer mlL_83 dL_law_741 rfl (by decide) (by decide) C0 hAm hl.1 hLW hq1 (by decide) (by omega) (by omega) rfl (fun α2 H2 locs2 hLW2 hq12 => ?_)
  have hLW2 := LW_swap hLW2
  refine lv_aload_n hx hb dL_law_744 rfl (lv_at hl 2 rfl) ?_
  refine lw_arg (6 * n) 1 C0 hLW2.2.2.2.2.2 hL (by omega) hl (by decide) dL_law_745 dL_law_746 dL_law_747 dL_law_748 dL_law_749 ?_
  refine lw_arg (6 * n) 2 C0 hLW2.2.2.2.2.2 hL (by omega) hl (by decide) dL_law_750 dL_law_751 dL_law_752 dL_law_753 dL_law_754 ?_
  refine lw_call (As := [xs (6 * n + 1), xs (6 * n + 2)]) (t1 := 10) (q1 := q2) (rest := [.int r]) (r := r) (g1 := gM2) M2 cw_cX10_printer mlL_86 dL_law_755 rfl (by decide) (by decide) C0 hAm hl.1 hLW2 hq2 (Nat.le_of_ble_eq_true rfl) (by omega) (by omega) rfl (fun β2 H3 locs3 hLW3 hq22 => ?_)
  refine lv_icmp_eq (tgt := 1320) hx hb dL_law_758 (by decide) (fun _ => ?_) (fun h => absurd rfl h)
  exact kk α2 β2 gX2 gM2 H3 locs3 _ _ hR2 (LW_swap hLW3) hq12 hq22 (by omega) (by omega)
set_option maxHeartbeats 1000000 in
theorem lb_17 (C0 : lw_At p s m meth c b L xs) (hAm : Amb_ D s) (hL : L ≤ 3072) (hn : 6 * n + 6 ≤ L) (hl : lv_has ls 4 [(0, .ref b), (1, .ref q1), (2, .ref q2), (3, .int (nI (6 * n)))]) (kk : LG_ p l e s m below meth c b D Q ls q1 q2 (n + 1) 1320) : LG_ p l e s m below meth c b D Q ls q1 q2 n 763 := by
  intro α β gX gM H locs cells slots hR hLW hq1 hq2 hce hsl
  obtain ⟨hx, hb, hr, hml, hown, hts, hX, hbl, hlocks, hgv⟩ := id C0
  obtain ⟨r, gX2, gM2, f1, f2, hR2, b1, b2, b3, b4⟩ := op_side (xs (6 * n + 1)) (xs (6 * n + 2)) (xs (6 * n + 3)) (xs (6 * n + 4)) (xs (6 * n + 5)) gX gM n (by omega) hR
  have M1 := t9_side 0 (xs (6 * n + 1)) (xs (6 * n + 2)) (xs (6 * n + 3)) (xs (6 * n + 4)) (xs (6 * n + 5)) gX
  have M2 := t10_side 0 (xs (6 * n + 1)) (xs (6 * n + 2)) (xs (6 * n + 3)) (xs (6 * n + 4)) (xs (6 * n + 5)) gM
  rw [f1] at M1
  rw [f2] at M2
  refine lv_aload_n hx hb dL_law_763 rfl (lv_at hl 1 rfl) ?_
  refine lw_arg (6 * n) 1 C0 hLW.2.2.2.2.2 hL (by omega) hl (by decide) dL_law_764 dL_law_765 dL_law_766 dL_law_767 dL_law_768 ?_
  refine lw_arg (6 * n) 2 C0 hLW.2.2.2.2.2 hL (by omega) hl (by decide) dL_law_769 dL_law_770 dL_law_771 dL_law_772 dL_law_773 ?_
  refine lw_arg (6 * n) 3 C0 hLW.2.2.2.2.2 hL (by omega) hl (by decide) dL_law_774 dL_law_775 dL_law_776 dL_law_777 dL_law_778 ?_
  refine lw_arg (6 * n) 4 C0 hLW.2.2.2.2.2 hL (by omega) hl (by decide) dL_law_779 dL_law_780 dL_law_781 dL_law_782 dL_law_783 ?_
  refine lw_arg (6 * n) 5 C0 hLW.2.2.2.2.2 hL (by omega) hl (by decide) dL_law_784 dL_law_785 dL_law_786 dL_law_787 dL_law_788 ?_
  refine lw_call (As := [xs (6 * n + 1), xs (6 * n + 2), xs (6 * n + 3), xs (6 * n + 4), xs (6 * n + 5)]) (t1 := 9) (q1 := q1) (rest := []) (r := r) (g1 := gX2) M1 cw_cX9_side mlL_87 dL_law_789 rfl (by decide) (by decide) C0 hAm hl.1 hLW hq1 (by decide) (by omega) (by omega) rfl (fun α2 H2 locs2 hLW2 hq12 => ?_)
  have hLW2 := LW_swap hLW2
  refine lv_aload_n hx hb dL_law_792 rfl (lv_at hl 2 rfl) ?_
  refine lw_arg (6 * n) 1 C0 hLW2.2.2.2.2.2 hL (by omega) hl (by decide) dL_law_793 dL_law_794 dL_law_795 dL_law_796 dL_law_797 ?_
  refine lw_arg (6 * n) 2 C0 hLW2.2.2.2.2.2 hL (by omega) hl (by decide) dL_law_798 dL_law_799 dL_law_800 dL_law_801 dL_law_802 ?_
  refine lw_arg (6 * n) 3 C0 hLW2.2.2.2.2.2 hL (by omega) hl (by decide) dL_law_803 dL_law_804 dL_law_805 dL_law_806 dL_law_807 ?_
  refine lw_arg (6 * n) 4 C0 hLW2.2.2.2.2.2 hL (by omega) hl (by decide) dL_law_808 dL_law_809 dL_law_810 dL_law_811 dL_law_812 ?_
  refine lw_arg (6 * n) 5 C0 hLW2.2.2.2.2.2 hL (by omega) hl (by decide) dL_law_813 dL_law_814 dL_law_815 dL_law_816 dL_law_817 ?_
  refine lw_call (As := [xs (6 * n + 1), xs (6 * n + 2), xs (6 * n + 3), xs (6 * n + 4), xs (6 * n + 5)]) (t1 := 10) (q1 := q2) (rest := [.int r]) (r := r) (g1 := gM2) M2 cw_cX10_side mlL_90 dL_law_818 rfl (by decide) (by decide) C0 hAm hl.1 hLW2 hq2 (Nat.le_of_ble_eq_true rfl) (by omega) (by omega) rfl (fun β2 H3 locs3 hLW3 hq22 => ?_)
  refine lv_icmp_eq (tgt := 1320) hx hb dL_law_821 (by decide) (fun _ => ?_) (fun h => absurd rfl h)
  exact kk α2 β2 gX2 gM2 H3 locs3 _ _ hR2 (LW_swap hLW3) hq12 hq22 (by omega) (by omega)
set_option maxHeartbeats 1000000 in
theorem lb_18 (C0 : lw_At p s m meth c b L xs) (hAm : Amb_ D s) (hL : L ≤ 3072) (hn : 6 * n + 6 ≤ L) (hl : lv_has ls 4 [(0, .ref b), (1, .ref q1), (2, .ref q2), (3, .int (nI (6 * n)))]) (kk : LG_ p l e s m below meth c b D Q ls q1 q2 (n + 1) 1320) : LG_ p l e s m below meth c b D Q ls q1 q2 n 826 := by
  intro α β gX gM H locs cells slots hR hLW hq1 hq2 hce hsl
  obtain ⟨hx, hb, hr, hml, hown, hts, hX, hbl, hlocks, hgv⟩ := id C0
  obtain ⟨r, gX2, gM2, f1, f2, hR2, b1, b2, b3, b4⟩ := op_duration (xs (6 * n + 1)) (xs (6 * n + 2)) gX gM n (by omega) hR
  have M1 := t9_duration 0 (xs (6 * n + 1)) (xs (6 * n + 2)) gX
  have M2 := t10_duration 0 (xs (6 * n + 1)) (xs (6 * n + 2)) gM
  rw [f1] at M1
  rw [f2] at M2
  refine lv_aload_n hx hb dL_law_826 rfl (lv_at hl 1 rfl) ?_
  refine lw_arg (6 * n) 1 C0 hLW.2.2.2.2.2 hL (by omega) hl (by decide) dL_law_827 dL_law_828 dL_law_829 dL_law_830 dL_law_831 ?_
  refine lw_arg (6 * n) 2 C0 hLW.2.2.2.2.2 hL (by omega) hl (by decide) dL_law_832 dL_law_833 dL_law_834 dL_law_835 dL_law_836 ?_
  refine lw_call (As := [xs (6 * n + 1), xs (6 * n + 2)]) (t1 := 9) (q1 := q1) (rest := []) (r := r) (g1 := gX2) M1 cw_cX9_duration mlL_91 dL_law_837 rfl (by decide) (by decide) C0 hAm hl.1 hLW hq1 (by decide) (by omega) (by omega) rfl (fun α2 H2 locs2 hLW2 hq12 => ?_)
  have hLW2 := LW_swap hLW2
  refine lv_aload_n hx hb dL_law_840 rfl (lv_at hl 2 rfl) ?_
  refine lw_arg (6 * n) 1 C0 hLW2.2.2.2.2.2 hL (by omega) hl (by decide) dL_law_841 dL_law_842 dL_law_843 dL_law_844 dL_law_845 ?_
  refine lw_arg (6 * n) 2 C0 hLW2.2.2.2.2.2 hL (by omega) hl (by decide) dL_law_846 dL_law_847 dL_law_848 dL_law_849 dL_law_850 ?_
  refine lw_call (As := [xs (6 * n + 1), xs (6 * n + 2)]) (t1 := 10) (q1 := q2) (rest := [.int r]) (r := r) (g1 := gM2) M2 cw_cX10_duration mlL_94 dL_law_851 rfl (by decide) (by decide) C0 hAm hl.1 hLW2 hq2 (Nat.le_of_ble_eq_true rfl) (by omega) (by omega) rfl (fun β2 H3 locs3 hLW3 hq22 => ?_)
  refine lv_icmp_eq (tgt := 1320) hx hb dL_law_854 (by decide) (fun _ => ?_) (fun h => absurd rfl h)
  exact kk α2 β2 gX2 gM2 H3 locs3 _ _ hR2 (LW_swap hLW3) hq12 hq22 (by omega) (by omega)
set_option maxHeartbeats 1000000 in
theorem lb_19 (C0 : lw_At p s m meth c b L xs) (hAm : Amb_ D s) (hL : L ≤ 3072) (hn : 6 * n + 6 ≤ L) (hl : lv_has ls 4 [(0, .ref b), (1, .ref q1), (2, .ref q2), (3, .int (nI (6 * n)))]) (kk : LG_ p l e s m below meth c b D Q ls q1 q2 (n + 1) 1320) : LG_ p l e s m below meth c b D Q ls q1 q2 n 859 := by
  intro α β gX gM H locs cells slots hR hLW hq1 hq2 hce hsl
  obtain ⟨hx, hb, hr, hml, hown, hts, hX, hbl, hlocks, hgv⟩ := id C0
  obtain ⟨r, gX2, gM2, f1, f2, hR2, b1, b2, b3, b4⟩ := op_setRules (xs (6 * n + 1)) (xs (6 * n + 2)) gX gM n (by omega) hR
  have M1 := t9_setRules 0 (xs (6 * n + 1)) (xs (6 * n + 2)) gX
  have M2 := t10_setRules 0 (xs (6 * n + 1)) (xs (6 * n + 2)) gM
  rw [f1] at M1
  rw [f2] at M2
  refine lv_aload_n hx hb dL_law_859 rfl (lv_at hl 1 rfl) ?_
  refine lw_arg (6 * n) 1 C0 hLW.2.2.2.2.2 hL (by omega) hl (by decide) dL_law_860 dL_law_861 dL_law_862 dL_law_863 dL_law_864 ?_
  refine lw_arg (6 * n) 2 C0 hLW.2.2.2.2.2 hL (by omega) hl (by decide) dL_law_865 dL_law_866 dL_law_867 dL_law_868 dL_law_869 ?_
  refine lw_call (As := [xs (6 * n + 1), xs (6 * n + 2)]) (t1 := 9) (q1 := q1) (rest := []) (r := r) (g1 := gX2) M1 cw_cX9_setRules mlL_95 dL_law_870 rfl (by decide) (by decide) C0 hAm hl.1 hLW hq1 (by decide) (by omega) (by omega) rfl (fun α2 H2 locs2 hLW2 hq12 => ?_)
  have hLW2 := LW_swap hLW2
  refine lv_aload_n hx hb dL_law_873 rfl (lv_at hl 2 rfl) ?_
  refine lw_arg (6 * n) 1 C0 hLW2.2.2.2.2.2 hL (by omega) hl (by decide) dL_law_874 dL_law_875 dL_law_876 dL_law_877 dL_law_878 ?_
  refine lw_arg (6 * n) 2 C0 hLW2.2.2.2.2.2 hL (by omega) hl (by decide) dL_law_879 dL_law_880 dL_law_881 dL_law_882 dL_law_883 ?_
  refine lw_call (As := [xs (6 * n + 1), xs (6 * n + 2)]) (t1 := 10) (q1 := q2) (rest := [.int r]) (r := r) (g1 := gM2) M2 cw_cX10_setRules mlL_98 dL_law_884 rfl (by decide) (by decide) C0 hAm hl.1 hLW2 hq2 (Nat.le_of_ble_eq_true rfl) (by omega) (by omega) rfl (fun β2 H3 locs3 hLW3 hq22 => ?_)
  refine lv_icmp_eq (tgt := 1320) hx hb dL_law_887 (by decide) (fun _ => ?_) (fun h => absurd rfl h)
  exact kk α2 β2 gX2 gM2 H3 locs3 _ _ hR2 (LW_swap hLW3) hq12 hq22 (by omega) (by omega)
set_option maxHeartbeats 1000000 in
theorem lb_20 (C0 : lw_At p s m meth c b L xs) (hAm : Amb_ D s) (hL : L ≤ 3072) (hn : 6 * n + 6 ≤ L) (hl : lv_has ls 4 [(0, .ref b), (1, .ref q1), (2, .ref q2), (3, .int (nI (6 * n)))]) (kk : LG_ p l e s m below meth c b D Q ls q1 q2 (n + 1) 1320) : LG_ p l e s m below meth c b D Q ls q1 q2 n 892 := by
  intro α β gX gM H locs cells slots hR hLW hq1 hq2 hce hsl
  obtain ⟨hx, hb, hr, hml, hown, hts, hX, hbl, hlocks, hgv⟩ := id C0
  obtain ⟨r, gX2, gM2, f1, f2, hR2, b1, b2, b3, b4⟩ := op_setQuota (xs (6 * n + 1)) (xs (6 * n + 2)) gX gM n (by omega) hR
  have M1 := t9_setQuota 0 (xs (6 * n + 1)) (xs (6 * n + 2)) gX
  have M2 := t10_setQuota 0 (xs (6 * n + 1)) (xs (6 * n + 2)) gM
  rw [f1] at M1
  rw [f2] at M2
  refine lv_aload_n hx hb dL_law_892 rfl (lv_at hl 1 rfl) ?_
  refine lw_arg (6 * n) 1 C0 hLW.2.2.2.2.2 hL (by omega) hl (by decide) dL_law_893 dL_law_894 dL_law_895 dL_law_896 dL_law_897 ?_
  refine lw_arg (6 * n) 2 C0 hLW.2.2.2.2.2 hL (by omega) hl (by decide) dL_law_898 dL_law_899 dL_law_900 dL_law_901 dL_law_902 ?_
  refine lw_call (As := [xs (6 * n + 1), xs (6 * n + 2)]) (t1 := 9) (q1 := q1) (rest := []) (r := r) (g1 := gX2) M1 cw_cX9_setQuota mlL_99 dL_law_903 rfl (by decide) (by decide) C0 hAm hl.1 hLW hq1 (by decide) (by omega) (by omega) rfl (fun α2 H2 locs2 hLW2 hq12 => ?_)
  have hLW2 := LW_swap hLW2
  refine lv_aload_n hx hb dL_law_906 rfl (lv_at hl 2 rfl) ?_
  refine lw_arg (6 * n) 1 C0 hLW2.2.2.2.2.2 hL (by omega) hl (by decide) dL_law_907 dL_law_908 dL_law_909 dL_law_910 dL_law_911 ?_
  refine lw_arg (6 * n) 2 C0 hLW2.2.2.2.2.2 hL (by omega) hl (by decide) dL_law_912 dL_law_913 dL_law_914 dL_law_915 dL_law_916 ?_
  refine lw_call (As := [xs (6 * n + 1), xs (6 * n + 2)]) (t1 := 10) (q1 := q2) (rest := [.int r]) (r := r) (g1 := gM2) M2 cw_cX10_setQuota mlL_102 dL_law_917 rfl (by decide) (by decide) C0 hAm hl.1 hLW2 hq2 (Nat.le_of_ble_eq_true rfl) (by omega) (by omega) rfl (fun β2 H3 locs3 hLW3 hq22 => ?_)
  refine lv_icmp_eq (tgt := 1320) hx hb dL_law_920 (by decide) (fun _ => ?_) (fun h => absurd rfl h)
  exact kk α2 β2 gX2 gM2 H3 locs3 _ _ hR2 (LW_swap hLW3) hq12 hq22 (by omega) (by omega)
set_option maxHeartbeats 1000000 in
theorem lb_21 (C0 : lw_At p s m meth c b L xs) (hAm : Amb_ D s) (hL : L ≤ 3072) (hn : 6 * n + 6 ≤ L) (hl : lv_has ls 4 [(0, .ref b), (1, .ref q1), (2, .ref q2), (3, .int (nI (6 * n)))]) (kk : LG_ p l e s m below meth c b D Q ls q1 q2 (n + 1) 1320) : LG_ p l e s m below meth c b D Q ls q1 q2 n 925 := by
  intro α β gX gM H locs cells slots hR hLW hq1 hq2 hce hsl
  obtain ⟨hx, hb, hr, hml, hown, hts, hX, hbl, hlocks, hgv⟩ := id C0
  obtain ⟨r, gX2, gM2, f1, f2, hR2, b1, b2, b3, b4⟩ := op_promote (xs (6 * n + 1)) (xs (6 * n + 2)) gX gM n (by omega) hR
  have M1 := t9_promote 0 (xs (6 * n + 1)) (xs (6 * n + 2)) gX
  have M2 := t10_promote 0 (xs (6 * n + 1)) (xs (6 * n + 2)) gM
  rw [f1] at M1
  rw [f2] at M2
  refine lv_aload_n hx hb dL_law_925 rfl (lv_at hl 1 rfl) ?_
  refine lw_arg (6 * n) 1 C0 hLW.2.2.2.2.2 hL (by omega) hl (by decide) dL_law_926 dL_law_927 dL_law_928 dL_law_929 dL_law_930 ?_
  refine lw_arg (6 * n) 2 C0 hLW.2.2.2.2.2 hL (by omega) hl (by decide) dL_law_931 dL_law_932 dL_law_933 dL_law_934 dL_law_935 ?_
  refine lw_call (As := [xs (6 * n + 1), xs (6 * n + 2)]) (t1 := 9) (q1 := q1) (rest := []) (r := r) (g1 := gX2) M1 cw_cX9_promote mlL_103 dL_law_936 rfl (by decide) (by decide) C0 hAm hl.1 hLW hq1 (by decide) (by omega) (by omega) rfl (fun α2 H2 locs2 hLW2 hq12 => ?_)
  have hLW2 := LW_swap hLW2
  refine lv_aload_n hx hb dL_law_939 rfl (lv_at hl 2 rfl) ?_
  refine lw_arg (6 * n) 1 C0 hLW2.2.2.2.2.2 hL (by omega) hl (by decide) dL_law_940 dL_law_941 dL_law_942 dL_law_943 dL_law_944 ?_
  refine lw_arg (6 * n) 2 C0 hLW2.2.2.2.2.2 hL (by omega) hl (by decide) dL_law_945 dL_law_946 dL_law_947 dL_law_948 dL_law_949 ?_
  refine lw_call (As := [xs (6 * n + 1), xs (6 * n + 2)]) (t1 := 10) (q1 := q2) (rest := [.int r]) (r := r) (g1 := gM2) M2 cw_cX10_promote mlL_106 dL_law_950 rfl (by decide) (by decide) C0 hAm hl.1 hLW2 hq2 (Nat.le_of_ble_eq_true rfl) (by omega) (by omega) rfl (fun β2 H3 locs3 hLW3 hq22 => ?_)
  refine lv_icmp_eq (tgt := 1320) hx hb dL_law_953 (by decide) (fun _ => ?_) (fun h => absurd rfl h)
  exact kk α2 β2 gX2 gM2 H3 locs3 _ _ hR2 (LW_swap hLW3) hq12 hq22 (by omega) (by omega)
set_option maxHeartbeats 1000000 in
theorem lb_22 (C0 : lw_At p s m meth c b L xs) (hAm : Amb_ D s) (hL : L ≤ 3072) (hn : 6 * n + 6 ≤ L) (hl : lv_has ls 4 [(0, .ref b), (1, .ref q1), (2, .ref q2), (3, .int (nI (6 * n)))]) (kk : LG_ p l e s m below meth c b D Q ls q1 q2 (n + 1) 1320) : LG_ p l e s m below meth c b D Q ls q1 q2 n 958 := by
  intro α β gX gM H locs cells slots hR hLW hq1 hq2 hce hsl
  obtain ⟨hx, hb, hr, hml, hown, hts, hX, hbl, hlocks, hgv⟩ := id C0
  obtain ⟨r, gX2, gM2, f1, f2, hR2, b1, b2, b3, b4⟩ := op_hold (xs (6 * n + 1)) gX gM n (by omega) hR
  have M1 := t9_hold 0 (xs (6 * n + 1)) gX
  have M2 := t10_hold 0 (xs (6 * n + 1)) gM
  rw [f1] at M1
  rw [f2] at M2
  refine lv_aload_n hx hb dL_law_958 rfl (lv_at hl 1 rfl) ?_
  refine lw_arg (6 * n) 1 C0 hLW.2.2.2.2.2 hL (by omega) hl (by decide) dL_law_959 dL_law_960 dL_law_961 dL_law_962 dL_law_963 ?_
  refine lw_call (As := [xs (6 * n + 1)]) (t1 := 9) (q1 := q1) (rest := []) (r := r) (g1 := gX2) M1 cw_cX9_hold mlL_107 dL_law_964 rfl (by decide) (by decide) C0 hAm hl.1 hLW hq1 (by decide) (by omega) (by omega) rfl (fun α2 H2 locs2 hLW2 hq12 => ?_)
  have hLW2 := LW_swap hLW2
  refine lv_aload_n hx hb dL_law_967 rfl (lv_at hl 2 rfl) ?_
  refine lw_arg (6 * n) 1 C0 hLW2.2.2.2.2.2 hL (by omega) hl (by decide) dL_law_968 dL_law_969 dL_law_970 dL_law_971 dL_law_972 ?_
  refine lw_call (As := [xs (6 * n + 1)]) (t1 := 10) (q1 := q2) (rest := [.int r]) (r := r) (g1 := gM2) M2 cw_cX10_hold mlL_110 dL_law_973 rfl (by decide) (by decide) C0 hAm hl.1 hLW2 hq2 (Nat.le_of_ble_eq_true rfl) (by omega) (by omega) rfl (fun β2 H3 locs3 hLW3 hq22 => ?_)
  refine lv_icmp_eq (tgt := 1320) hx hb dL_law_976 (by decide) (fun _ => ?_) (fun h => absurd rfl h)
  exact kk α2 β2 gX2 gM2 H3 locs3 _ _ hR2 (LW_swap hLW3) hq12 hq22 (by omega) (by omega)
set_option maxHeartbeats 1000000 in
theorem lb_23 (C0 : lw_At p s m meth c b L xs) (hAm : Amb_ D s) (hL : L ≤ 3072) (hn : 6 * n + 6 ≤ L) (hl : lv_has ls 4 [(0, .ref b), (1, .ref q1), (2, .ref q2), (3, .int (nI (6 * n)))]) (kk : LG_ p l e s m below meth c b D Q ls q1 q2 (n + 1) 1320) : LG_ p l e s m below meth c b D Q ls q1 q2 n 981 := by
  intro α β gX gM H locs cells slots hR hLW hq1 hq2 hce hsl
  obtain ⟨hx, hb, hr, hml, hown, hts, hX, hbl, hlocks, hgv⟩ := id C0
  obtain ⟨r, gX2, gM2, f1, f2, hR2, b1, b2, b3, b4⟩ := op_release (xs (6 * n + 1)) gX gM n (by omega) hR
  have M1 := t9_release 0 (xs (6 * n + 1)) gX
  have M2 := t10_release 0 (xs (6 * n + 1)) gM
  rw [f1] at M1
  rw [f2] at M2
  refine lv_aload_n hx hb dL_law_981 rfl (lv_at hl 1 rfl) ?_
  refine lw_arg (6 * n) 1 C0 hLW.2.2.2.2.2 hL (by omega) hl (by decide) dL_law_982 dL_law_983 dL_law_984 dL_law_985 dL_law_986 ?_
  refine lw_call (As := [xs (6 * n + 1)]) (t1 := 9) (q1 := q1) (rest := []) (r := r) (g1 := gX2) M1 cw_cX9_release mlL_111 dL_law_987 rfl (by decide) (by decide) C0 hAm hl.1 hLW hq1 (by decide) (by omega) (by omega) rfl (fun α2 H2 locs2 hLW2 hq12 => ?_)
  have hLW2 := LW_swap hLW2
  refine lv_aload_n hx hb dL_law_990 rfl (lv_at hl 2 rfl) ?_
  refine lw_arg (6 * n) 1 C0 hLW2.2.2.2.2.2 hL (by omega) hl (by decide) dL_law_991 dL_law_992 dL_law_993 dL_law_994 dL_law_995 ?_
  refine lw_call (As := [xs (6 * n + 1)]) (t1 := 10) (q1 := q2) (rest := [.int r]) (r := r) (g1 := gM2) M2 cw_cX10_release mlL_114 dL_law_996 rfl (by decide) (by decide) C0 hAm hl.1 hLW2 hq2 (Nat.le_of_ble_eq_true rfl) (by omega) (by omega) rfl (fun β2 H3 locs3 hLW3 hq22 => ?_)
  refine lv_icmp_eq (tgt := 1320) hx hb dL_law_999 (by decide) (fun _ => ?_) (fun h => absurd rfl h)
  exact kk α2 β2 gX2 gM2 H3 locs3 _ _ hR2 (LW_swap hLW3) hq12 hq22 (by omega) (by omega)
end LB
