/-! methods as functions over numbers, and that the machine does them: written by wip/whole/gen/mkparts.py (decode rows: printed names) -/
theorem dX0_init_0 : decode cX0_init 0 = .ok (.aload_n 0, 1) := by decide +kernel
theorem dX0_init_1 : decode cX0_init 1 = .ok (.invokespecial 1, 3) := by decide +kernel
theorem dX0_init_4 : decode cX0_init 4 = .ok (.aload_n 0, 1) := by decide +kernel
theorem dX0_init_5 : decode cX0_init 5 = .ok (.iload_n 1, 1) := by decide +kernel
theorem dX0_init_6 : decode cX0_init 6 = .ok (.putfield 7, 3) := by decide +kernel
theorem dX0_init_9 : decode cX0_init 9 = .ok (.aload_n 0, 1) := by decide +kernel
theorem dX0_init_10 : decode cX0_init 10 = .ok (.iload_n 2, 1) := by decide +kernel
theorem dX0_init_11 : decode cX0_init 11 = .ok (.putfield 13, 3) := by decide +kernel
theorem dX0_init_14 : decode cX0_init 14 = .ok (.aload_n 0, 1) := by decide +kernel
theorem dX0_init_15 : decode cX0_init 15 = .ok (.iload_n 3, 1) := by decide +kernel
theorem dX0_init_16 : decode cX0_init 16 = .ok (.putfield 16, 3) := by decide +kernel
theorem dX0_init_19 : decode cX0_init 19 = .ok (.aload_n 0, 1) := by decide +kernel
theorem dX0_init_20 : decode cX0_init 20 = .ok (.iload 4, 2) := by decide +kernel
theorem dX0_init_22 : decode cX0_init 22 = .ok (.putfield 19, 3) := by decide +kernel
theorem dX0_init_25 : decode cX0_init 25 = .ok (.aload_n 0, 1) := by decide +kernel
theorem dX0_init_26 : decode cX0_init 26 = .ok (.iload 5, 2) := by decide +kernel
theorem dX0_init_28 : decode cX0_init 28 = .ok (.putfield 22, 3) := by decide +kernel
theorem dX0_init_31 : decode cX0_init 31 = .ok (.return_, 1) := by decide +kernel
def f0_init (v0 : Nat) (v1 : Int32) (v2 : Int32) (v3 : Int32) (v4 : Int32) (v5 : Int32) (g : GS_) : Option (Unit × GS_) :=
  lr_ (sfi g 0 v0 v1) fun g1 => lr_ (sfi g1 1 v0 v2) fun g2 => lr_ (sfi g2 2 v0 v3) fun g3 => lr_ (sfi g3 3 v0 v4) fun g4 => lr_ (sfi g4 4 v0 v5) fun g5 => some ((), g5)
theorem t0_init (v0 : Nat) (v1 : Int32) (v2 : Int32) (v3 : Int32) (v4 : Int32) (v5 : Int32) (g : GS_) : Cn_ yX0_init cX0_init 6 none 1 12 EV_ [.inr (0, some v0), .inl v1, .inl v2, .inl v3, .inl v4, .inl v5] g (f0_init v0 v1 v2 v3 v4 v5 g) := by
  refine k_method (own := RX0) (ini := true) (L1 := [some (.inr (0, some v0)), some (.inl v1), some (.inl v2), some (.inl v3), some (.inl v4), some (.inl v5)]) (by decide +kernel) rfl (fun _ => rfl) (Nat.le_of_ble_eq_true rfl) rfl ?_
  unfold f0_init
  refine k_aloadn (j := 0) dX0_init_0 rfl rfl ?_
  refine k_objInit ml_0_1 oi_.1 oi_.2 (by decide) (Nat.le_of_ble_eq_true rfl) dX0_init_1 ?_
  refine k_aloadn (j := 0) dX0_init_4 rfl rfl ?_
  refine k_iloadn (j := 1) dX0_init_5 rfl rfl ?_
  refine k_putfi fp_0_7 rfl rfl rfl dX0_init_6 (fun g1 => ?_)
  refine k_aloadn (j := 0) dX0_init_9 rfl rfl ?_
  refine k_iloadn (j := 2) dX0_init_10 rfl rfl ?_
  refine k_putfi fp_0_13 rfl rfl rfl dX0_init_11 (fun g2 => ?_)
  refine k_aloadn (j := 0) dX0_init_14 rfl rfl ?_
  refine k_iloadn (j := 3) dX0_init_15 rfl rfl ?_
  refine k_putfi fp_0_16 rfl rfl rfl dX0_init_16 (fun g3 => ?_)
  refine k_aloadn (j := 0) dX0_init_19 rfl rfl ?_
  refine k_iload dX0_init_20 rfl ?_
  refine k_putfi fp_0_19 rfl rfl rfl dX0_init_22 (fun g4 => ?_)
  refine k_aloadn (j := 0) dX0_init_25 rfl rfl ?_
  refine k_iload dX0_init_26 rfl ?_
  refine k_putfi fp_0_22 rfl rfl rfl dX0_init_28 (fun g5 => ?_)
  exact k_return rfl dX0_init_31
theorem dX0_weightOf_0 : decode cX0_weightOf 0 = .ok (.aload_n 0, 1) := by decide +kernel
theorem dX0_weightOf_1 : decode cX0_weightOf 1 = .ok (.getfield 22, 3) := by decide +kernel
theorem dX0_weightOf_4 : decode cX0_weightOf 4 = .ok (.iconst 1, 1) := by decide +kernel
theorem dX0_weightOf_5 : decode cX0_weightOf 5 = .ok (.if_icmp .ge 10, 3) := by decide +kernel
theorem dX0_weightOf_8 : decode cX0_weightOf 8 = .ok (.aload_n 0, 1) := by decide +kernel
theorem dX0_weightOf_9 : decode cX0_weightOf 9 = .ok (.getfield 16, 3) := by decide +kernel
theorem dX0_weightOf_12 : decode cX0_weightOf 12 = .ok (.goto 19, 3) := by decide +kernel
theorem dX0_weightOf_15 : decode cX0_weightOf 15 = .ok (.aload_n 0, 1) := by decide +kernel
theorem dX0_weightOf_16 : decode cX0_weightOf 16 = .ok (.getfield 16, 3) := by decide +kernel
theorem dX0_weightOf_19 : decode cX0_weightOf 19 = .ok (.iload_n 1, 1) := by decide +kernel
theorem dX0_weightOf_20 : decode cX0_weightOf 20 = .ok (.aload_n 0, 1) := by decide +kernel
theorem dX0_weightOf_21 : decode cX0_weightOf 21 = .ok (.getfield 19, 3) := by decide +kernel
theorem dX0_weightOf_24 : decode cX0_weightOf 24 = .ok (.imul, 1) := by decide +kernel
theorem dX0_weightOf_25 : decode cX0_weightOf 25 = .ok (.aload_n 0, 1) := by decide +kernel
theorem dX0_weightOf_26 : decode cX0_weightOf 26 = .ok (.getfield 22, 3) := by decide +kernel
theorem dX0_weightOf_29 : decode cX0_weightOf 29 = .ok (.irem, 1) := by decide +kernel
theorem dX0_weightOf_30 : decode cX0_weightOf 30 = .ok (.iadd, 1) := by decide +kernel
theorem dX0_weightOf_31 : decode cX0_weightOf 31 = .ok (.ireturn, 1) := by decide +kernel
def f0_weightOf (v0 : Nat) (v1 : Int32) (g : GS_) : Option (Int32 × GS_) :=
  if (1 : Int32) ≤ (gfi g 4 v0) then if (gfi g 4 v0) = 0 then none else some (((gfi g 2 v0) + (jrem (v1 * (gfi g 3 v0)) (gfi g 4 v0))), g) else some ((gfi g 2 v0), g)
theorem t0_weightOf (v0 : Nat) (v1 : Int32) (g : GS_) : Cn_ yX0_weightOf cX0_weightOf 2 (some .int) 0 0 EI_ [.inr (0, some v0), .inl v1] g (f0_weightOf v0 v1 g) := by
  refine k_method (own := RX0) (ini := false) (L1 := [some (.inr (0, some v0)), some (.inl v1)]) (by decide +kernel) rfl (fun h => by cases h) (Nat.le_of_ble_eq_true rfl) rfl ?_
  unfold f0_weightOf
  refine k_aloadn (j := 0) dX0_weightOf_0 rfl rfl ?_
  refine k_geti fg_0_22 rfl rfl dX0_weightOf_1 ?_
  refine k_iconst (v := (1 : Int32)) dX0_weightOf_4 rfl ?_
  refine k_icmpge (tgt := 15) dX0_weightOf_5 (by decide) (fun _ => ?_) (fun _ => ?_)
  · refine k_aloadn (j := 0) dX0_weightOf_15 rfl rfl ?_
    refine k_geti fg_0_16 rfl rfl dX0_weightOf_16 ?_
    refine k_iloadn (j := 1) dX0_weightOf_19 rfl rfl ?_
    refine k_aloadn (j := 0) dX0_weightOf_20 rfl rfl ?_
    refine k_geti fg_0_19 rfl rfl dX0_weightOf_21 ?_
    refine k_imul dX0_weightOf_24 ?_
    refine k_aloadn (j := 0) dX0_weightOf_25 rfl rfl ?_
    refine k_geti fg_0_22 rfl rfl dX0_weightOf_26 ?_
    refine k_irem dX0_weightOf_29 (fun _ => ?_)
    refine k_iadd dX0_weightOf_30 ?_
    exact k_ireturn rfl dX0_weightOf_31
  refine k_aloadn (j := 0) dX0_weightOf_8 rfl rfl ?_
  refine k_geti fg_0_16 rfl rfl dX0_weightOf_9 ?_
  refine k_goto (tgt := 31) dX0_weightOf_12 (by decide) ?_
  exact k_ireturn rfl dX0_weightOf_31
theorem dX1_init_0 : decode cX1_init 0 = .ok (.aload_n 0, 1) := by decide +kernel
theorem dX1_init_1 : decode cX1_init 1 = .ok (.invokespecial 3, 3) := by decide +kernel
theorem dX1_init_4 : decode cX1_init 4 = .ok (.aload_n 0, 1) := by decide +kernel
theorem dX1_init_5 : decode cX1_init 5 = .ok (.iconst 0, 1) := by decide +kernel
theorem dX1_init_6 : decode cX1_init 6 = .ok (.putfield 9, 3) := by decide +kernel
theorem dX1_init_9 : decode cX1_init 9 = .ok (.aload_n 0, 1) := by decide +kernel
theorem dX1_init_10 : decode cX1_init 10 = .ok (.iconst 0, 1) := by decide +kernel
theorem dX1_init_11 : decode cX1_init 11 = .ok (.putfield 15, 3) := by decide +kernel
theorem dX1_init_14 : decode cX1_init 14 = .ok (.aload_n 0, 1) := by decide +kernel
theorem dX1_init_15 : decode cX1_init 15 = .ok (.iconst 0, 1) := by decide +kernel
theorem dX1_init_16 : decode cX1_init 16 = .ok (.putfield 18, 3) := by decide +kernel
theorem dX1_init_19 : decode cX1_init 19 = .ok (.aload_n 0, 1) := by decide +kernel
theorem dX1_init_20 : decode cX1_init 20 = .ok (.iconst 0, 1) := by decide +kernel
theorem dX1_init_21 : decode cX1_init 21 = .ok (.putfield 21, 3) := by decide +kernel
theorem dX1_init_24 : decode cX1_init 24 = .ok (.aload_n 0, 1) := by decide +kernel
theorem dX1_init_25 : decode cX1_init 25 = .ok (.iconst (-1), 1) := by decide +kernel
theorem dX1_init_26 : decode cX1_init 26 = .ok (.putfield 24, 3) := by decide +kernel
theorem dX1_init_29 : decode cX1_init 29 = .ok (.aload_n 0, 1) := by decide +kernel
theorem dX1_init_30 : decode cX1_init 30 = .ok (.iload_n 1, 1) := by decide +kernel
theorem dX1_init_31 : decode cX1_init 31 = .ok (.putfield 27, 3) := by decide +kernel
theorem dX1_init_34 : decode cX1_init 34 = .ok (.aload_n 0, 1) := by decide +kernel
theorem dX1_init_35 : decode cX1_init 35 = .ok (.aload_n 2, 1) := by decide +kernel
theorem dX1_init_36 : decode cX1_init 36 = .ok (.putfield 30, 3) := by decide +kernel
theorem dX1_init_39 : decode cX1_init 39 = .ok (.return_, 1) := by decide +kernel
def f1_init (v0 : Nat) (v1 : Int32) (v2 : Option Nat) (g : GS_) : Option (Unit × GS_) :=
  lr_ (sfi g 34 v0 (0 : Int32)) fun g1 => lr_ (sfi g1 35 v0 (0 : Int32)) fun g2 => lr_ (sfi g2 36 v0 (0 : Int32)) fun g3 => lr_ (sfi g3 37 v0 (0 : Int32)) fun g4 => lr_ (sfi g4 38 v0 (-1 : Int32)) fun g5 => lr_ (sfi g5 32 v0 v1) fun g6 => lr_ (sfr g6 33 v0 v2) fun g7 => some ((), g7)
theorem t1_init (v0 : Nat) (v1 : Int32) (v2 : Option Nat) (g : GS_) : Cn_ yX1_init cX1_init 3 none 1 12 EV_ [.inr (1, some v0), .inl v1, .inr (4, v2)] g (f1_init v0 v1 v2 g) := by
  refine k_method (own := RX1) (ini := true) (L1 := [some (.inr (1, some v0)), some (.inl v1), some (.inr (4, v2))]) (by decide +kernel) rfl (fun _ => rfl) (Nat.le_of_ble_eq_true rfl) rfl ?_
  unfold f1_init
  refine k_aloadn (j := 0) dX1_init_0 rfl rfl ?_
  refine k_objInit ml_1_3 oi_.1 oi_.2 (by decide) (Nat.le_of_ble_eq_true rfl) dX1_init_1 ?_
  refine k_aloadn (j := 0) dX1_init_4 rfl rfl ?_
  refine k_iconst (v := (0 : Int32)) dX1_init_5 rfl ?_
  refine k_puti fp_1_9 rfl rfl dX1_init_6 (fun g1 => ?_)
  refine k_aloadn (j := 0) dX1_init_9 rfl rfl ?_
  refine k_iconst (v := (0 : Int32)) dX1_init_10 rfl ?_
  refine k_puti fp_1_15 rfl rfl dX1_init_11 (fun g2 => ?_)
  refine k_aloadn (j := 0) dX1_init_14 rfl rfl ?_
  refine k_iconst (v := (0 : Int32)) dX1_init_15 rfl ?_
  refine k_puti fp_1_18 rfl rfl dX1_init_16 (fun g3 => ?_)
  refine k_aloadn (j := 0) dX1_init_19 rfl rfl ?_
  refine k_iconst (v := (0 : Int32)) dX1_init_20 rfl ?_
  refine k_puti fp_1_21 rfl rfl dX1_init_21 (fun g4 => ?_)
  refine k_aloadn (j := 0) dX1_init_24 rfl rfl ?_
  refine k_iconst (v := (-1 : Int32)) dX1_init_25 rfl ?_
  refine k_puti fp_1_24 rfl rfl dX1_init_26 (fun g5 => ?_)
  refine k_aloadn (j := 0) dX1_init_29 rfl rfl ?_
  refine k_iloadn (j := 1) dX1_init_30 rfl rfl ?_
  refine k_putfi fp_1_27 rfl rfl rfl dX1_init_31 (fun g6 => ?_)
  refine k_aloadn (j := 0) dX1_init_34 rfl rfl ?_
  refine k_aloadn (j := 2) dX1_init_35 rfl rfl ?_
  refine k_putr fp_1_30 ty_obj rfl rfl dX1_init_36 (fun g7 => ?_)
  exact k_return rfl dX1_init_39
theorem dX1_awaitFrom_0 : decode cX1_awaitFrom 0 = .ok (.aload_n 0, 1) := by decide +kernel
theorem dX1_awaitFrom_1 : decode cX1_awaitFrom 1 = .ok (.iconst 0, 1) := by decide +kernel
theorem dX1_awaitFrom_2 : decode cX1_awaitFrom 2 = .ok (.putfield 15, 3) := by decide +kernel
theorem dX1_awaitFrom_5 : decode cX1_awaitFrom 5 = .ok (.aload_n 0, 1) := by decide +kernel
theorem dX1_awaitFrom_6 : decode cX1_awaitFrom 6 = .ok (.iload_n 1, 1) := by decide +kernel
theorem dX1_awaitFrom_7 : decode cX1_awaitFrom 7 = .ok (.putfield 21, 3) := by decide +kernel
theorem dX1_awaitFrom_10 : decode cX1_awaitFrom 10 = .ok (.return_, 1) := by decide +kernel
def f1_awaitFrom (v0 : Nat) (v1 : Int32) (g : GS_) : Option (Unit × GS_) :=
  lr_ (sfi g 35 v0 (0 : Int32)) fun g1 => lr_ (sfi g1 37 v0 v1) fun g2 => some ((), g2)
theorem t1_awaitFrom (v0 : Nat) (v1 : Int32) (g : GS_) : Cn_ yX1_awaitFrom cX1_awaitFrom 2 none 0 0 EV_ [.inr (1, some v0), .inl v1] g (f1_awaitFrom v0 v1 g) := by
  refine k_method (own := RX1) (ini := false) (L1 := [some (.inr (1, some v0)), some (.inl v1)]) (by decide +kernel) rfl (fun h => by cases h) (Nat.le_of_ble_eq_true rfl) rfl ?_
  unfold f1_awaitFrom
  refine k_aloadn (j := 0) dX1_awaitFrom_0 rfl rfl ?_
  refine k_iconst (v := (0 : Int32)) dX1_awaitFrom_1 rfl ?_
  refine k_puti fp_1_15 rfl rfl dX1_awaitFrom_2 (fun g1 => ?_)
  refine k_aloadn (j := 0) dX1_awaitFrom_5 rfl rfl ?_
  refine k_iloadn (j := 1) dX1_awaitFrom_6 rfl rfl ?_
  refine k_puti fp_1_21 rfl rfl dX1_awaitFrom_7 (fun g2 => ?_)
  exact k_return rfl dX1_awaitFrom_10
theorem dX1_beginLife_0 : decode cX1_beginLife 0 = .ok (.aload_n 0, 1) := by decide +kernel
theorem dX1_beginLife_1 : decode cX1_beginLife 1 = .ok (.aload_n 1, 1) := by decide +kernel
theorem dX1_beginLife_2 : decode cX1_beginLife 2 = .ok (.putfield 30, 3) := by decide +kernel
theorem dX1_beginLife_5 : decode cX1_beginLife 5 = .ok (.aload_n 0, 1) := by decide +kernel
theorem dX1_beginLife_6 : decode cX1_beginLife 6 = .ok (.iload_n 2, 1) := by decide +kernel
theorem dX1_beginLife_7 : decode cX1_beginLife 7 = .ok (.putfield 9, 3) := by decide +kernel
theorem dX1_beginLife_10 : decode cX1_beginLife 10 = .ok (.aload_n 0, 1) := by decide +kernel
theorem dX1_beginLife_11 : decode cX1_beginLife 11 = .ok (.iconst 0, 1) := by decide +kernel
theorem dX1_beginLife_12 : decode cX1_beginLife 12 = .ok (.putfield 18, 3) := by decide +kernel
theorem dX1_beginLife_15 : decode cX1_beginLife 15 = .ok (.aload_n 0, 1) := by decide +kernel
theorem dX1_beginLife_16 : decode cX1_beginLife 16 = .ok (.iconst (-1), 1) := by decide +kernel
theorem dX1_beginLife_17 : decode cX1_beginLife 17 = .ok (.putfield 24, 3) := by decide +kernel
theorem dX1_beginLife_20 : decode cX1_beginLife 20 = .ok (.aload_n 0, 1) := by decide +kernel
theorem dX1_beginLife_21 : decode cX1_beginLife 21 = .ok (.iload_n 3, 1) := by decide +kernel
theorem dX1_beginLife_22 : decode cX1_beginLife 22 = .ok (.invokevirtual 34, 3) := by decide +kernel
theorem dX1_beginLife_25 : decode cX1_beginLife 25 = .ok (.return_, 1) := by decide +kernel
def f1_beginLife (v0 : Nat) (v1 : Option Nat) (v2 : Int32) (v3 : Int32) (g : GS_) : Option (Unit × GS_) :=
  lr_ (sfr g 33 v0 v1) fun g1 => lr_ (sfi g1 34 v0 v2) fun g2 => lr_ (sfi g2 36 v0 (0 : Int32)) fun g3 => lr_ (sfi g3 38 v0 (-1 : Int32)) fun g4 => bd_ (f1_awaitFrom v0 v3 g4) fun _ g5 => some ((), g5)
theorem t1_beginLife (v0 : Nat) (v1 : Option Nat) (v2 : Int32) (v3 : Int32) (g : GS_) : Cn_ yX1_beginLife cX1_beginLife 4 none 1 21 EV_ [.inr (1, some v0), .inr (4, v1), .inl v2, .inl v3] g (f1_beginLife v0 v1 v2 v3 g) := by
  refine k_method (own := RX1) (ini := false) (L1 := [some (.inr (1, some v0)), some (.inr (4, v1)), some (.inl v2), some (.inl v3)]) (by decide +kernel) rfl (fun h => by cases h) (Nat.le_of_ble_eq_true rfl) rfl ?_
  unfold f1_beginLife
  refine k_aloadn (j := 0) dX1_beginLife_0 rfl rfl ?_
  refine k_aloadn (j := 1) dX1_beginLife_1 rfl rfl ?_
  refine k_putr fp_1_30 ty_obj rfl rfl dX1_beginLife_2 (fun g1 => ?_)
  refine k_aloadn (j := 0) dX1_beginLife_5 rfl rfl ?_
  refine k_iloadn (j := 2) dX1_beginLife_6 rfl rfl ?_
  refine k_puti fp_1_9 rfl rfl dX1_beginLife_7 (fun g2 => ?_)
  refine k_aloadn (j := 0) dX1_beginLife_10 rfl rfl ?_
  refine k_iconst (v := (0 : Int32)) dX1_beginLife_11 rfl ?_
  refine k_puti fp_1_18 rfl rfl dX1_beginLife_12 (fun g3 => ?_)
  refine k_aloadn (j := 0) dX1_beginLife_15 rfl rfl ?_
  refine k_iconst (v := (-1 : Int32)) dX1_beginLife_16 rfl ?_
  refine k_puti fp_1_24 rfl rfl dX1_beginLife_17 (fun g4 => ?_)
  refine k_aloadn (j := 0) dX1_beginLife_20 rfl rfl ?_
  refine k_iloadn (j := 3) dX1_beginLife_21 rfl rfl ?_
  refine k_callVv [.inl v3] (t1_awaitFrom v0 v3 g4) cw_cX1_awaitFrom (Or.inl ml_1_34) rfl rfl (by decide) (by decide) (Nat.le_of_ble_eq_true rfl) dX1_beginLife_22 (fun _ g5 => ?_)
  exact k_return rfl dX1_beginLife_25
theorem dX1_isOver_0 : decode cX1_isOver 0 = .ok (.aload_n 0, 1) := by decide +kernel
theorem dX1_isOver_1 : decode cX1_isOver 1 = .ok (.getfield 15, 3) := by decide +kernel
theorem dX1_isOver_4 : decode cX1_isOver 4 = .ok (.iconst 3, 1) := by decide +kernel
theorem dX1_isOver_5 : decode cX1_isOver 5 = .ok (.if_icmp .eq 11, 3) := by decide +kernel
theorem dX1_isOver_8 : decode cX1_isOver 8 = .ok (.aload_n 0, 1) := by decide +kernel
theorem dX1_isOver_9 : decode cX1_isOver 9 = .ok (.getfield 15, 3) := by decide +kernel
theorem dX1_isOver_12 : decode cX1_isOver 12 = .ok (.iconst 4, 1) := by decide +kernel
theorem dX1_isOver_13 : decode cX1_isOver 13 = .ok (.if_icmp .ne 7, 3) := by decide +kernel
theorem dX1_isOver_16 : decode cX1_isOver 16 = .ok (.iconst 1, 1) := by decide +kernel
theorem dX1_isOver_17 : decode cX1_isOver 17 = .ok (.goto 4, 3) := by decide +kernel
theorem dX1_isOver_20 : decode cX1_isOver 20 = .ok (.iconst 0, 1) := by decide +kernel
theorem dX1_isOver_21 : decode cX1_isOver 21 = .ok (.ireturn, 1) := by decide +kernel
def f1_isOver_b16 (g : GS_) : Option (Int32 × GS_) :=
  some ((1 : Int32), g)
theorem t1_isOver_b16 (g : GS_) : K_ RX1 cX1_isOver 1 (some .boolean) 0 0 false EI_ 16 [none] [] g (f1_isOver_b16 g) := by
  unfold f1_isOver_b16
  refine k_iconst (v := (1 : Int32)) dX1_isOver_16 rfl ?_
  refine k_goto (tgt := 21) dX1_isOver_17 (by decide) ?_
  exact k_zreturn rfl (by decide) dX1_isOver_21
def f1_isOver (v0 : Nat) (g : GS_) : Option (Int32 × GS_) :=
  if (gfi g 35 v0) = (3 : Int32) then f1_isOver_b16 g else if (gfi g 35 v0) = (4 : Int32) then f1_isOver_b16 g else some ((0 : Int32), g)
theorem t1_isOver (v0 : Nat) (g : GS_) : Cn_ yX1_isOver cX1_isOver 1 (some .boolean) 0 0 EI_ [.inr (1, some v0)] g (f1_isOver v0 g) := by
  refine k_method (own := RX1) (ini := false) (L1 := [some (.inr (1, some v0))]) (by decide +kernel) rfl (fun h => by cases h) (Nat.le_of_ble_eq_true rfl) rfl ?_
  unfold f1_isOver
  refine k_aloadn (j := 0) dX1_isOver_0 rfl rfl ?_
  refine k_geti fg_1_15 rfl rfl dX1_isOver_1 ?_
  refine k_iconst (v := (3 : Int32)) dX1_isOver_4 rfl ?_
  refine k_icmpeq (tgt := 16) dX1_isOver_5 (by decide) (fun _ => ?_) (fun _ => ?_)
  · refine k_msk (L' := [none]) [false] rfl ?_
    exact t1_isOver_b16 g
  refine k_aloadn (j := 0) dX1_isOver_8 rfl rfl ?_
  refine k_geti fg_1_15 rfl rfl dX1_isOver_9 ?_
  refine k_iconst (v := (4 : Int32)) dX1_isOver_12 rfl ?_
  refine k_icmpne (tgt := 20) dX1_isOver_13 (by decide) (fun _ => ?_) (fun _ => ?_)
  · refine k_msk (L' := [none]) [false] rfl ?_
    exact t1_isOver_b16 g
  refine k_iconst (v := (0 : Int32)) dX1_isOver_20 rfl ?_
  exact k_zreturn rfl (by decide) dX1_isOver_21
theorem dX1_rankAt_0 : decode cX1_rankAt 0 = .ok (.iload_n 2, 1) := by decide +kernel
theorem dX1_rankAt_1 : decode cX1_rankAt 1 = .ok (.iconst 1, 1) := by decide +kernel
theorem dX1_rankAt_2 : decode cX1_rankAt 2 = .ok (.if_icmp .ge 7, 3) := by decide +kernel
theorem dX1_rankAt_5 : decode cX1_rankAt 5 = .ok (.iconst 0, 1) := by decide +kernel
theorem dX1_rankAt_6 : decode cX1_rankAt 6 = .ok (.goto 11, 3) := by decide +kernel
theorem dX1_rankAt_9 : decode cX1_rankAt 9 = .ok (.iload_n 1, 1) := by decide +kernel
theorem dX1_rankAt_10 : decode cX1_rankAt 10 = .ok (.aload_n 0, 1) := by decide +kernel
theorem dX1_rankAt_11 : decode cX1_rankAt 11 = .ok (.getfield 21, 3) := by decide +kernel
theorem dX1_rankAt_14 : decode cX1_rankAt 14 = .ok (.isub, 1) := by decide +kernel
theorem dX1_rankAt_15 : decode cX1_rankAt 15 = .ok (.iload_n 2, 1) := by decide +kernel
theorem dX1_rankAt_16 : decode cX1_rankAt 16 = .ok (.idiv, 1) := by decide +kernel
theorem dX1_rankAt_17 : decode cX1_rankAt 17 = .ok (.istore_n 3, 1) := by decide +kernel
theorem dX1_rankAt_18 : decode cX1_rankAt 18 = .ok (.bipush 10, 2) := by decide +kernel
theorem dX1_rankAt_20 : decode cX1_rankAt 20 = .ok (.aload_n 0, 1) := by decide +kernel
theorem dX1_rankAt_21 : decode cX1_rankAt 21 = .ok (.getfield 9, 3) := by decide +kernel
theorem dX1_rankAt_24 : decode cX1_rankAt 24 = .ok (.imul, 1) := by decide +kernel
theorem dX1_rankAt_25 : decode cX1_rankAt 25 = .ok (.iload_n 3, 1) := by decide +kernel
theorem dX1_rankAt_26 : decode cX1_rankAt 26 = .ok (.iadd, 1) := by decide +kernel
theorem dX1_rankAt_27 : decode cX1_rankAt 27 = .ok (.ireturn, 1) := by decide +kernel
def f1_rankAt_b17 (v0 : Nat) (s0 : Int32) (g : GS_) : Option (Int32 × GS_) :=
  some ((((10 : Int32) * (gfi g 34 v0)) + s0), g)
theorem t1_rankAt_b17 (v0 : Nat) (s0 : Int32) (g : GS_) : K_ RX1 cX1_rankAt 4 (some .int) 0 0 false EI_ 17 [some (.inr (1, some v0)), none, none, none] [.inl s0] g (f1_rankAt_b17 v0 s0 g) := by
  unfold f1_rankAt_b17
  refine k_istn (j := 3) (L' := [some (.inr (1, some v0)), none, none, some (.inl s0)]) dX1_rankAt_17 rfl (by decide) rfl ?_
  refine k_bipush (v := (10 : Int32)) dX1_rankAt_18 rfl ?_
  refine k_aloadn (j := 0) dX1_rankAt_20 rfl rfl ?_
  refine k_geti fg_1_9 rfl rfl dX1_rankAt_21 ?_
  refine k_imul dX1_rankAt_24 ?_
  refine k_iloadn (j := 3) dX1_rankAt_25 rfl rfl ?_
  refine k_iadd dX1_rankAt_26 ?_
  exact k_ireturn rfl dX1_rankAt_27
def f1_rankAt (v0 : Nat) (v1 : Int32) (v2 : Int32) (g : GS_) : Option (Int32 × GS_) :=
  if (1 : Int32) ≤ v2 then if v2 = 0 then none else f1_rankAt_b17 v0 ((v1 - (gfi g 37 v0)) / v2) g else f1_rankAt_b17 v0 (0 : Int32) g
theorem t1_rankAt (v0 : Nat) (v1 : Int32) (v2 : Int32) (g : GS_) : Cn_ yX1_rankAt cX1_rankAt 4 (some .int) 0 0 EI_ [.inr (1, some v0), .inl v1, .inl v2] g (f1_rankAt v0 v1 v2 g) := by
  refine k_method (own := RX1) (ini := false) (L1 := [some (.inr (1, some v0)), some (.inl v1), some (.inl v2), none]) (by decide +kernel) rfl (fun h => by cases h) (Nat.le_of_ble_eq_true rfl) rfl ?_
  unfold f1_rankAt
  refine k_iloadn (j := 2) dX1_rankAt_0 rfl rfl ?_
  refine k_iconst (v := (1 : Int32)) dX1_rankAt_1 rfl ?_
  refine k_icmpge (tgt := 9) dX1_rankAt_2 (by decide) (fun _ => ?_) (fun _ => ?_)
  · refine k_iloadn (j := 1) dX1_rankAt_9 rfl rfl ?_
    refine k_aloadn (j := 0) dX1_rankAt_10 rfl rfl ?_
    refine k_geti fg_1_21 rfl rfl dX1_rankAt_11 ?_
    refine k_isub dX1_rankAt_14 ?_
    refine k_iloadn (j := 2) dX1_rankAt_15 rfl rfl ?_
    refine k_idiv dX1_rankAt_16 (fun _ => ?_)
    refine k_msk (L' := [some (.inr (1, some v0)), none, none, none]) [true, false, false, true] rfl ?_
    exact t1_rankAt_b17 v0 ((v1 - (gfi g 37 v0)) / v2) g
  refine k_iconst (v := (0 : Int32)) dX1_rankAt_5 rfl ?_
  refine k_goto (tgt := 17) dX1_rankAt_6 (by decide) ?_
  refine k_msk (L' := [some (.inr (1, some v0)), none, none, none]) [true, false, false, true] rfl ?_
  exact t1_rankAt_b17 v0 (0 : Int32) g
theorem dX1_demand_0 : decode cX1_demand 0 = .ok (.aload_n 0, 1) := by decide +kernel
theorem dX1_demand_1 : decode cX1_demand 1 = .ok (.getfield 15, 3) := by decide +kernel
theorem dX1_demand_4 : decode cX1_demand 4 = .ok (.iconst 1, 1) := by decide +kernel
theorem dX1_demand_5 : decode cX1_demand 5 = .ok (.if_icmp .ne 11, 3) := by decide +kernel
theorem dX1_demand_8 : decode cX1_demand 8 = .ok (.aload_n 0, 1) := by decide +kernel
theorem dX1_demand_9 : decode cX1_demand 9 = .ok (.iload_n 1, 1) := by decide +kernel
theorem dX1_demand_10 : decode cX1_demand 10 = .ok (.putfield 24, 3) := by decide +kernel
theorem dX1_demand_13 : decode cX1_demand 13 = .ok (.goto 8, 3) := by decide +kernel
theorem dX1_demand_16 : decode cX1_demand 16 = .ok (.aload_n 0, 1) := by decide +kernel
theorem dX1_demand_17 : decode cX1_demand 17 = .ok (.iload_n 1, 1) := by decide +kernel
theorem dX1_demand_18 : decode cX1_demand 18 = .ok (.putfield 15, 3) := by decide +kernel
theorem dX1_demand_21 : decode cX1_demand 21 = .ok (.return_, 1) := by decide +kernel
def f1_demand (v0 : Nat) (v1 : Int32) (g : GS_) : Option (Unit × GS_) :=
  if (gfi g 35 v0) = (1 : Int32) then lr_ (sfi g 38 v0 v1) fun g1 => some ((), g1) else lr_ (sfi g 35 v0 v1) fun g2 => some ((), g2)
theorem t1_demand (v0 : Nat) (v1 : Int32) (g : GS_) : Cn_ yX1_demand cX1_demand 2 none 0 0 EV_ [.inr (1, some v0), .inl v1] g (f1_demand v0 v1 g) := by
  refine k_method (own := RX1) (ini := false) (L1 := [some (.inr (1, some v0)), some (.inl v1)]) (by decide +kernel) rfl (fun h => by cases h) (Nat.le_of_ble_eq_true rfl) rfl ?_
  unfold f1_demand
  refine k_aloadn (j := 0) dX1_demand_0 rfl rfl ?_
  refine k_geti fg_1_15 rfl rfl dX1_demand_1 ?_
  refine k_iconst (v := (1 : Int32)) dX1_demand_4 rfl ?_
  refine k_icmpne (tgt := 16) dX1_demand_5 (by decide) (fun _ => ?_) (fun _ => ?_)
  · refine k_aloadn (j := 0) dX1_demand_8 rfl rfl ?_
    refine k_iloadn (j := 1) dX1_demand_9 rfl rfl ?_
    refine k_puti fp_1_24 rfl rfl dX1_demand_10 (fun g1 => ?_)
    refine k_goto (tgt := 21) dX1_demand_13 (by decide) ?_
    exact k_return rfl dX1_demand_21
  refine k_aloadn (j := 0) dX1_demand_16 rfl rfl ?_
  refine k_iloadn (j := 1) dX1_demand_17 rfl rfl ?_
  refine k_puti fp_1_15 rfl rfl dX1_demand_18 (fun g2 => ?_)
  exact k_return rfl dX1_demand_21
theorem dX1_stopPrinting_0 : decode cX1_stopPrinting 0 = .ok (.aload_n 0, 1) := by decide +kernel
theorem dX1_stopPrinting_1 : decode cX1_stopPrinting 1 = .ok (.getfield 24, 3) := by decide +kernel
theorem dX1_stopPrinting_4 : decode cX1_stopPrinting 4 = .ok (.iconst (-1), 1) := by decide +kernel
theorem dX1_stopPrinting_5 : decode cX1_stopPrinting 5 = .ok (.if_icmp .ne 11, 3) := by decide +kernel
theorem dX1_stopPrinting_8 : decode cX1_stopPrinting 8 = .ok (.aload_n 0, 1) := by decide +kernel
theorem dX1_stopPrinting_9 : decode cX1_stopPrinting 9 = .ok (.iload_n 1, 1) := by decide +kernel
theorem dX1_stopPrinting_10 : decode cX1_stopPrinting 10 = .ok (.invokevirtual 34, 3) := by decide +kernel
theorem dX1_stopPrinting_13 : decode cX1_stopPrinting 13 = .ok (.goto 11, 3) := by decide +kernel
theorem dX1_stopPrinting_16 : decode cX1_stopPrinting 16 = .ok (.aload_n 0, 1) := by decide +kernel
theorem dX1_stopPrinting_17 : decode cX1_stopPrinting 17 = .ok (.aload_n 0, 1) := by decide +kernel
theorem dX1_stopPrinting_18 : decode cX1_stopPrinting 18 = .ok (.getfield 24, 3) := by decide +kernel
theorem dX1_stopPrinting_21 : decode cX1_stopPrinting 21 = .ok (.putfield 15, 3) := by decide +kernel
theorem dX1_stopPrinting_24 : decode cX1_stopPrinting 24 = .ok (.aload_n 0, 1) := by decide +kernel
theorem dX1_stopPrinting_25 : decode cX1_stopPrinting 25 = .ok (.iconst (-1), 1) := by decide +kernel
theorem dX1_stopPrinting_26 : decode cX1_stopPrinting 26 = .ok (.putfield 24, 3) := by decide +kernel
theorem dX1_stopPrinting_29 : decode cX1_stopPrinting 29 = .ok (.return_, 1) := by decide +kernel
def f1_stopPrinting_b24 (v0 : Nat) (g : GS_) : Option (Unit × GS_) :=
  lr_ (sfi g 38 v0 (-1 : Int32)) fun g1 => some ((), g1)
theorem t1_stopPrinting_b24 (v0 : Nat) (g : GS_) : K_ RX1 cX1_stopPrinting 2 none 1 21 false EV_ 24 [some (.inr (1, some v0)), none] [] g (f1_stopPrinting_b24 v0 g) := by
  unfold f1_stopPrinting_b24
  refine k_aloadn (j := 0) dX1_stopPrinting_24 rfl rfl ?_
  refine k_iconst (v := (-1 : Int32)) dX1_stopPrinting_25 rfl ?_
  refine k_puti fp_1_24 rfl rfl dX1_stopPrinting_26 (fun g1 => ?_)
  exact k_return rfl dX1_stopPrinting_29
def f1_stopPrinting (v0 : Nat) (v1 : Int32) (g : GS_) : Option (Unit × GS_) :=
  if (gfi g 38 v0) = (-1 : Int32) then bd_ (f1_awaitFrom v0 v1 g) fun _ g2 => f1_stopPrinting_b24 v0 g2 else lr_ (sfi g 35 v0 (gfi g 38 v0)) fun g3 => f1_stopPrinting_b24 v0 g3
theorem t1_stopPrinting (v0 : Nat) (v1 : Int32) (g : GS_) : Cn_ yX1_stopPrinting cX1_stopPrinting 2 none 1 21 EV_ [.inr (1, some v0), .inl v1] g (f1_stopPrinting v0 v1 g) := by
  refine k_method (own := RX1) (ini := false) (L1 := [some (.inr (1, some v0)), some (.inl v1)]) (by decide +kernel) rfl (fun h => by cases h) (Nat.le_of_ble_eq_true rfl) rfl ?_
  unfold f1_stopPrinting
  refine k_aloadn (j := 0) dX1_stopPrinting_0 rfl rfl ?_
  refine k_geti fg_1_24 rfl rfl dX1_stopPrinting_1 ?_
  refine k_iconst (v := (-1 : Int32)) dX1_stopPrinting_4 rfl ?_
  refine k_icmpne (tgt := 16) dX1_stopPrinting_5 (by decide) (fun _ => ?_) (fun _ => ?_)
  · refine k_aloadn (j := 0) dX1_stopPrinting_8 rfl rfl ?_
    refine k_iloadn (j := 1) dX1_stopPrinting_9 rfl rfl ?_
    refine k_callVv [.inl v1] (t1_awaitFrom v0 v1 g) cw_cX1_awaitFrom (Or.inl ml_1_34) rfl rfl (by decide) (by decide) (Nat.le_of_ble_eq_true rfl) dX1_stopPrinting_10 (fun _ g2 => ?_)
    refine k_goto (tgt := 24) dX1_stopPrinting_13 (by decide) ?_
    refine k_msk (L' := [some (.inr (1, some v0)), none]) [true, false] rfl ?_
    exact t1_stopPrinting_b24 v0 g2
  refine k_aloadn (j := 0) dX1_stopPrinting_16 rfl rfl ?_
  refine k_aloadn (j := 0) dX1_stopPrinting_17 rfl rfl ?_
  refine k_geti fg_1_24 rfl rfl dX1_stopPrinting_18 ?_
  refine k_puti fp_1_15 rfl rfl dX1_stopPrinting_21 (fun g3 => ?_)
  refine k_msk (L' := [some (.inr (1, some v0)), none]) [true, false] rfl ?_
  exact t1_stopPrinting_b24 v0 g3
theorem dX1_copyFrom_0 : decode cX1_copyFrom 0 = .ok (.aload_n 0, 1) := by decide +kernel
theorem dX1_copyFrom_1 : decode cX1_copyFrom 1 = .ok (.aload_n 1, 1) := by decide +kernel
theorem dX1_copyFrom_2 : decode cX1_copyFrom 2 = .ok (.getfield 30, 3) := by decide +kernel
theorem dX1_copyFrom_5 : decode cX1_copyFrom 5 = .ok (.putfield 30, 3) := by decide +kernel
theorem dX1_copyFrom_8 : decode cX1_copyFrom 8 = .ok (.aload_n 0, 1) := by decide +kernel
theorem dX1_copyFrom_9 : decode cX1_copyFrom 9 = .ok (.aload_n 1, 1) := by decide +kernel
theorem dX1_copyFrom_10 : decode cX1_copyFrom 10 = .ok (.getfield 9, 3) := by decide +kernel
theorem dX1_copyFrom_13 : decode cX1_copyFrom 13 = .ok (.putfield 9, 3) := by decide +kernel
theorem dX1_copyFrom_16 : decode cX1_copyFrom 16 = .ok (.aload_n 0, 1) := by decide +kernel
theorem dX1_copyFrom_17 : decode cX1_copyFrom 17 = .ok (.aload_n 1, 1) := by decide +kernel
theorem dX1_copyFrom_18 : decode cX1_copyFrom 18 = .ok (.getfield 15, 3) := by decide +kernel
theorem dX1_copyFrom_21 : decode cX1_copyFrom 21 = .ok (.putfield 15, 3) := by decide +kernel
theorem dX1_copyFrom_24 : decode cX1_copyFrom 24 = .ok (.aload_n 0, 1) := by decide +kernel
theorem dX1_copyFrom_25 : decode cX1_copyFrom 25 = .ok (.aload_n 1, 1) := by decide +kernel
theorem dX1_copyFrom_26 : decode cX1_copyFrom 26 = .ok (.getfield 18, 3) := by decide +kernel
theorem dX1_copyFrom_29 : decode cX1_copyFrom 29 = .ok (.putfield 18, 3) := by decide +kernel
theorem dX1_copyFrom_32 : decode cX1_copyFrom 32 = .ok (.aload_n 0, 1) := by decide +kernel
theorem dX1_copyFrom_33 : decode cX1_copyFrom 33 = .ok (.aload_n 1, 1) := by decide +kernel
theorem dX1_copyFrom_34 : decode cX1_copyFrom 34 = .ok (.getfield 21, 3) := by decide +kernel
theorem dX1_copyFrom_37 : decode cX1_copyFrom 37 = .ok (.putfield 21, 3) := by decide +kernel
theorem dX1_copyFrom_40 : decode cX1_copyFrom 40 = .ok (.aload_n 0, 1) := by decide +kernel
theorem dX1_copyFrom_41 : decode cX1_copyFrom 41 = .ok (.aload_n 1, 1) := by decide +kernel
theorem dX1_copyFrom_42 : decode cX1_copyFrom 42 = .ok (.getfield 24, 3) := by decide +kernel
theorem dX1_copyFrom_45 : decode cX1_copyFrom 45 = .ok (.putfield 24, 3) := by decide +kernel
theorem dX1_copyFrom_48 : decode cX1_copyFrom 48 = .ok (.return_, 1) := by decide +kernel
def f1_copyFrom (v0 : Nat) (v1 : Option Nat) (g : GS_) : Option (Unit × GS_) :=
  oc_ v1 none fun a1 => lr_ (gfr g 33 a1) fun x2 => lr_ (sfr g 33 v0 x2) fun g3 => lr_ (sfi g3 34 v0 (gfi g3 34 a1)) fun g4 => lr_ (sfi g4 35 v0 (gfi g4 35 a1)) fun g5 => lr_ (sfi g5 36 v0 (gfi g5 36 a1)) fun g6 => lr_ (sfi g6 37 v0 (gfi g6 37 a1)) fun g7 => lr_ (sfi g7 38 v0 (gfi g7 38 a1)) fun g8 => some ((), g8)
theorem t1_copyFrom (v0 : Nat) (v1 : Option Nat) (g : GS_) : Cn_ yX1_copyFrom cX1_copyFrom 2 none 0 0 EV_ [.inr (1, some v0), .inr (1, v1)] g (f1_copyFrom v0 v1 g) := by
  refine k_method (own := RX1) (ini := false) (L1 := [some (.inr (1, some v0)), some (.inr (1, v1))]) (by decide +kernel) rfl (fun h => by cases h) (Nat.le_of_ble_eq_true rfl) rfl ?_
  unfold f1_copyFrom
  refine k_aloadn (j := 0) dX1_copyFrom_0 rfl rfl ?_
  refine k_aloadn (j := 1) dX1_copyFrom_1 rfl rfl ?_
  rcases v1 with _ | a1
  · exact k_ocn
  refine k_ocs ?_
  refine k_getr fg_1_30 rfl rfl dX1_copyFrom_2 (fun x2 => ?_)
  refine k_putr fp_1_30 ty_obj rfl rfl dX1_copyFrom_5 (fun g3 => ?_)
  refine k_aloadn (j := 0) dX1_copyFrom_8 rfl rfl ?_
  refine k_aloadn (j := 1) dX1_copyFrom_9 rfl rfl ?_
  refine k_geti fg_1_9 rfl rfl dX1_copyFrom_10 ?_
  refine k_puti fp_1_9 rfl rfl dX1_copyFrom_13 (fun g4 => ?_)
  refine k_aloadn (j := 0) dX1_copyFrom_16 rfl rfl ?_
  refine k_aloadn (j := 1) dX1_copyFrom_17 rfl rfl ?_
  refine k_geti fg_1_15 rfl rfl dX1_copyFrom_18 ?_
  refine k_puti fp_1_15 rfl rfl dX1_copyFrom_21 (fun g5 => ?_)
  refine k_aloadn (j := 0) dX1_copyFrom_24 rfl rfl ?_
  refine k_aloadn (j := 1) dX1_copyFrom_25 rfl rfl ?_
  refine k_geti fg_1_18 rfl rfl dX1_copyFrom_26 ?_
  refine k_puti fp_1_18 rfl rfl dX1_copyFrom_29 (fun g6 => ?_)
  refine k_aloadn (j := 0) dX1_copyFrom_32 rfl rfl ?_
  refine k_aloadn (j := 1) dX1_copyFrom_33 rfl rfl ?_
  refine k_geti fg_1_21 rfl rfl dX1_copyFrom_34 ?_
  refine k_puti fp_1_21 rfl rfl dX1_copyFrom_37 (fun g7 => ?_)
  refine k_aloadn (j := 0) dX1_copyFrom_40 rfl rfl ?_
  refine k_aloadn (j := 1) dX1_copyFrom_41 rfl rfl ?_
  refine k_geti fg_1_24 rfl rfl dX1_copyFrom_42 ?_
  refine k_puti fp_1_24 rfl rfl dX1_copyFrom_45 (fun g8 => ?_)
  exact k_return rfl dX1_copyFrom_48
theorem dX2_init_0 : decode cX2_init 0 = .ok (.aload_n 0, 1) := by decide +kernel
theorem dX2_init_1 : decode cX2_init 1 = .ok (.invokespecial 3, 3) := by decide +kernel
theorem dX2_init_4 : decode cX2_init 4 = .ok (.aload_n 0, 1) := by decide +kernel
theorem dX2_init_5 : decode cX2_init 5 = .ok (.sipush 400, 3) := by decide +kernel
theorem dX2_init_8 : decode cX2_init 8 = .ok (.newarray .int, 2) := by decide +kernel
theorem dX2_init_10 : decode cX2_init 10 = .ok (.putfield 11, 3) := by decide +kernel
theorem dX2_init_13 : decode cX2_init 13 = .ok (.aload_n 0, 1) := by decide +kernel
theorem dX2_init_14 : decode cX2_init 14 = .ok (.iconst 0, 1) := by decide +kernel
theorem dX2_init_15 : decode cX2_init 15 = .ok (.putfield 15, 3) := by decide +kernel
theorem dX2_init_18 : decode cX2_init 18 = .ok (.return_, 1) := by decide +kernel
def f2_init (v0 : Nat) (g : GS_) : Option (Unit × GS_) :=
  na_ g 20 (400 : Int32) fun a1 g2 => lr_ (sfr g2 64 v0 (some a1)) fun g3 => lr_ (sfi g3 65 v0 (0 : Int32)) fun g4 => some ((), g4)
theorem t2_init (v0 : Nat) (g : GS_) : Cn_ yX2_init cX2_init 1 none 1 12 EV_ [.inr (2, some v0)] g (f2_init v0 g) := by
  refine k_method (own := RX2) (ini := true) (L1 := [some (.inr (2, some v0))]) (by decide +kernel) rfl (fun _ => rfl) (Nat.le_of_ble_eq_true rfl) rfl ?_
  unfold f2_init
  refine k_aloadn (j := 0) dX2_init_0 rfl rfl ?_
  refine k_objInit ml_2_3 oi_.1 oi_.2 (by decide) (Nat.le_of_ble_eq_true rfl) dX2_init_1 ?_
  refine k_aloadn (j := 0) dX2_init_4 rfl rfl ?_
  refine k_sipush (v := (400 : Int32)) dX2_init_5 rfl ?_
  refine k_newa ac_20 dX2_init_8 (fun a1 g2 => ?_)
  refine k_putfr fp_2_11 ty_arr rfl rfl rfl dX2_init_10 (fun g3 => ?_)
  refine k_aloadn (j := 0) dX2_init_13 rfl rfl ?_
  refine k_iconst (v := (0 : Int32)) dX2_init_14 rfl ?_
  refine k_puti fp_2_15 rfl rfl dX2_init_15 (fun g4 => ?_)
  exact k_return rfl dX2_init_18
theorem dX2_cellOf_0 : decode cX2_cellOf 0 = .ok (.iload_n 0, 1) := by decide +kernel
theorem dX2_cellOf_1 : decode cX2_cellOf 1 = .ok (.bipush 100, 2) := by decide +kernel
theorem dX2_cellOf_3 : decode cX2_cellOf 3 = .ok (.irem, 1) := by decide +kernel
theorem dX2_cellOf_4 : decode cX2_cellOf 4 = .ok (.iconst 4, 1) := by decide +kernel
theorem dX2_cellOf_5 : decode cX2_cellOf 5 = .ok (.imul, 1) := by decide +kernel
theorem dX2_cellOf_6 : decode cX2_cellOf 6 = .ok (.iload_n 1, 1) := by decide +kernel
theorem dX2_cellOf_7 : decode cX2_cellOf 7 = .ok (.iadd, 1) := by decide +kernel
theorem dX2_cellOf_8 : decode cX2_cellOf 8 = .ok (.ireturn, 1) := by decide +kernel
def f2_cellOf (v0 : Int32) (v1 : Int32) (g : GS_) : Option (Int32 × GS_) :=
  some ((((jrem v0 (100 : Int32)) * (4 : Int32)) + v1), g)
theorem t2_cellOf (v0 : Int32) (v1 : Int32) (g : GS_) : Cn_ yX2_cellOf cX2_cellOf 2 (some .int) 0 0 EI_ [.inl v0, .inl v1] g (f2_cellOf v0 v1 g) := by
  refine k_method (own := RX2) (ini := false) (L1 := [some (.inl v0), some (.inl v1)]) (by decide +kernel) rfl (fun h => by cases h) (Nat.le_of_ble_eq_true rfl) rfl ?_
  unfold f2_cellOf
  refine k_iloadn (j := 0) dX2_cellOf_0 rfl rfl ?_
  refine k_bipush (v := (100 : Int32)) dX2_cellOf_1 rfl ?_
  refine k_iremc (by decide) dX2_cellOf_3 ?_
  refine k_iconst (v := (4 : Int32)) dX2_cellOf_4 rfl ?_
  refine k_imul dX2_cellOf_5 ?_
  refine k_iloadn (j := 1) dX2_cellOf_6 rfl rfl ?_
  refine k_iadd dX2_cellOf_7 ?_
  exact k_ireturn rfl dX2_cellOf_8
theorem dX2_put_0 : decode cX2_put 0 = .ok (.iload_n 1, 1) := by decide +kernel
theorem dX2_put_1 : decode cX2_put 1 = .ok (.iload_n 2, 1) := by decide +kernel
theorem dX2_put_2 : decode cX2_put 2 = .ok (.invokestatic 23, 3) := by decide +kernel
theorem dX2_put_5 : decode cX2_put 5 = .ok (.istore 4, 2) := by decide +kernel
theorem dX2_put_7 : decode cX2_put 7 = .ok (.iload 4, 2) := by decide +kernel
theorem dX2_put_9 : decode cX2_put 9 = .ok (.ifCond .lt 21, 3) := by decide +kernel
theorem dX2_put_12 : decode cX2_put 12 = .ok (.iload 4, 2) := by decide +kernel
theorem dX2_put_14 : decode cX2_put 14 = .ok (.aload_n 0, 1) := by decide +kernel
theorem dX2_put_15 : decode cX2_put 15 = .ok (.getfield 11, 3) := by decide +kernel
theorem dX2_put_18 : decode cX2_put 18 = .ok (.arraylength, 1) := by decide +kernel
theorem dX2_put_19 : decode cX2_put 19 = .ok (.if_icmp .ge 11, 3) := by decide +kernel
theorem dX2_put_22 : decode cX2_put 22 = .ok (.aload_n 0, 1) := by decide +kernel
theorem dX2_put_23 : decode cX2_put 23 = .ok (.getfield 11, 3) := by decide +kernel
theorem dX2_put_26 : decode cX2_put 26 = .ok (.iload 4, 2) := by decide +kernel
theorem dX2_put_28 : decode cX2_put 28 = .ok (.iload_n 3, 1) := by decide +kernel
theorem dX2_put_29 : decode cX2_put 29 = .ok (.iastore, 1) := by decide +kernel
theorem dX2_put_30 : decode cX2_put 30 = .ok (.return_, 1) := by decide +kernel
def f2_put (v0 : Nat) (v1 : Int32) (v2 : Int32) (v3 : Int32) (g : GS_) : Option (Unit × GS_) :=
  bd_ (f2_cellOf v1 v2 g) fun z2 g1 => if z2 < 0 then some ((), g1) else lr_ (gfr g1 64 v0) fun x3 => oc_ x3 none fun a4 => if (Int32.ofNat (gln g1 20 a4)) ≤ z2 then some ((), g1) else lr_ (gfr g1 64 v0) fun x5 => oc_ x5 none fun a6 => if inb z2 (gln g1 20 a6) then lr_ (sai g1 20 a6 z2.toInt.toNat v3) (fun g7 => some ((), g7)) else none
theorem t2_put (v0 : Nat) (v1 : Int32) (v2 : Int32) (v3 : Int32) (g : GS_) : Cn_ yX2_put cX2_put 5 none 1 21 EV_ [.inr (2, some v0), .inl v1, .inl v2, .inl v3] g (f2_put v0 v1 v2 v3 g) := by
  refine k_method (own := RX2) (ini := false) (L1 := [some (.inr (2, some v0)), some (.inl v1), some (.inl v2), some (.inl v3), none]) (by decide +kernel) rfl (fun h => by cases h) (Nat.le_of_ble_eq_true rfl) rfl ?_
  unfold f2_put
  refine k_iloadn (j := 1) dX2_put_0 rfl rfl ?_
  refine k_iloadn (j := 2) dX2_put_1 rfl rfl ?_
  refine k_callSi [.inl v1, .inl v2] (t2_cellOf v1 v2 g) cw_cX2_cellOf ml_2_23 rfl rfl (by decide) (by decide) (Nat.le_of_ble_eq_true rfl) dX2_put_2 (fun z2 g1 => ?_)
  refine k_ist (L' := [some (.inr (2, some v0)), some (.inl v1), some (.inl v2), some (.inl v3), some (.inl z2)]) dX2_put_5 (by decide) rfl ?_
  refine k_iload dX2_put_7 rfl ?_
  refine k_iflt (tgt := 30) dX2_put_9 (by decide) (fun _ => ?_) (fun _ => ?_)
  · exact k_return rfl dX2_put_30
  refine k_iload dX2_put_12 rfl ?_
  refine k_aloadn (j := 0) dX2_put_14 rfl rfl ?_
  refine k_getr fg_2_11 rfl rfl dX2_put_15 (fun x3 => ?_)
  rcases x3 with _ | a4
  · exact k_ocn
  refine k_ocs ?_
  refine k_alen dX2_put_18 (by decide) ?_
  refine k_icmpge (tgt := 30) dX2_put_19 (by decide) (fun _ => ?_) (fun _ => ?_)
  · exact k_return rfl dX2_put_30
  refine k_aloadn (j := 0) dX2_put_22 rfl rfl ?_
  refine k_getr fg_2_11 rfl rfl dX2_put_23 (fun x5 => ?_)
  refine k_iload dX2_put_26 rfl ?_
  refine k_iloadn (j := 3) dX2_put_28 rfl rfl ?_
  rcases x5 with _ | a6
  · exact k_ocn
  refine k_ocs ?_
  refine k_iast dX2_put_29 (fun g7 => ?_)
  exact k_return rfl dX2_put_30
theorem dX2_write_0 : decode cX2_write 0 = .ok (.aload_n 0, 1) := by decide +kernel
theorem dX2_write_1 : decode cX2_write 1 = .ok (.aload_n 0, 1) := by decide +kernel
theorem dX2_write_2 : decode cX2_write 2 = .ok (.getfield 15, 3) := by decide +kernel
theorem dX2_write_5 : decode cX2_write 5 = .ok (.iconst 0, 1) := by decide +kernel
theorem dX2_write_6 : decode cX2_write 6 = .ok (.iload_n 1, 1) := by decide +kernel
theorem dX2_write_7 : decode cX2_write 7 = .ok (.invokevirtual 19, 3) := by decide +kernel
theorem dX2_write_10 : decode cX2_write 10 = .ok (.aload_n 0, 1) := by decide +kernel
theorem dX2_write_11 : decode cX2_write 11 = .ok (.aload_n 0, 1) := by decide +kernel
theorem dX2_write_12 : decode cX2_write 12 = .ok (.getfield 15, 3) := by decide +kernel
theorem dX2_write_15 : decode cX2_write 15 = .ok (.iconst 1, 1) := by decide +kernel
theorem dX2_write_16 : decode cX2_write 16 = .ok (.iload_n 2, 1) := by decide +kernel
theorem dX2_write_17 : decode cX2_write 17 = .ok (.invokevirtual 19, 3) := by decide +kernel
theorem dX2_write_20 : decode cX2_write 20 = .ok (.aload_n 0, 1) := by decide +kernel
theorem dX2_write_21 : decode cX2_write 21 = .ok (.aload_n 0, 1) := by decide +kernel
theorem dX2_write_22 : decode cX2_write 22 = .ok (.getfield 15, 3) := by decide +kernel
theorem dX2_write_25 : decode cX2_write 25 = .ok (.iconst 2, 1) := by decide +kernel
theorem dX2_write_26 : decode cX2_write 26 = .ok (.iload_n 3, 1) := by decide +kernel
theorem dX2_write_27 : decode cX2_write 27 = .ok (.invokevirtual 19, 3) := by decide +kernel
theorem dX2_write_30 : decode cX2_write 30 = .ok (.aload_n 0, 1) := by decide +kernel
theorem dX2_write_31 : decode cX2_write 31 = .ok (.aload_n 0, 1) := by decide +kernel
theorem dX2_write_32 : decode cX2_write 32 = .ok (.getfield 15, 3) := by decide +kernel
theorem dX2_write_35 : decode cX2_write 35 = .ok (.iconst 3, 1) := by decide +kernel
theorem dX2_write_36 : decode cX2_write 36 = .ok (.iload 4, 2) := by decide +kernel
theorem dX2_write_38 : decode cX2_write 38 = .ok (.invokevirtual 19, 3) := by decide +kernel
theorem dX2_write_41 : decode cX2_write 41 = .ok (.aload_n 0, 1) := by decide +kernel
theorem dX2_write_42 : decode cX2_write 42 = .ok (.dup, 1) := by decide +kernel
theorem dX2_write_43 : decode cX2_write 43 = .ok (.getfield 15, 3) := by decide +kernel
theorem dX2_write_46 : decode cX2_write 46 = .ok (.iconst 1, 1) := by decide +kernel
theorem dX2_write_47 : decode cX2_write 47 = .ok (.iadd, 1) := by decide +kernel
theorem dX2_write_48 : decode cX2_write 48 = .ok (.putfield 15, 3) := by decide +kernel
theorem dX2_write_51 : decode cX2_write 51 = .ok (.return_, 1) := by decide +kernel
def f2_write (v0 : Nat) (v1 : Int32) (v2 : Int32) (v3 : Int32) (v4 : Int32) (g : GS_) : Option (Unit × GS_) :=
  bd_ (f2_put v0 (gfi g 65 v0) (0 : Int32) v1 g) fun _ g1 => bd_ (f2_put v0 (gfi g1 65 v0) (1 : Int32) v2 g1) fun _ g2 => bd_ (f2_put v0 (gfi g2 65 v0) (2 : Int32) v3 g2) fun _ g3 => bd_ (f2_put v0 (gfi g3 65 v0) (3 : Int32) v4 g3) fun _ g4 => lr_ (sfi g4 65 v0 ((gfi g4 65 v0) + (1 : Int32))) fun g5 => some ((), g5)
theorem t2_write (v0 : Nat) (v1 : Int32) (v2 : Int32) (v3 : Int32) (v4 : Int32) (g : GS_) : Cn_ yX2_write cX2_write 5 none 2 45 EV_ [.inr (2, some v0), .inl v1, .inl v2, .inl v3, .inl v4] g (f2_write v0 v1 v2 v3 v4 g) := by
  refine k_method (own := RX2) (ini := false) (L1 := [some (.inr (2, some v0)), some (.inl v1), some (.inl v2), some (.inl v3), some (.inl v4)]) (by decide +kernel) rfl (fun h => by cases h) (Nat.le_of_ble_eq_true rfl) rfl ?_
  unfold f2_write
  refine k_aloadn (j := 0) dX2_write_0 rfl rfl ?_
  refine k_aloadn (j := 0) dX2_write_1 rfl rfl ?_
  refine k_geti fg_2_15 rfl rfl dX2_write_2 ?_
  refine k_iconst (v := (0 : Int32)) dX2_write_5 rfl ?_
  refine k_iloadn (j := 1) dX2_write_6 rfl rfl ?_
  refine k_callVv [.inl (gfi g 65 v0), .inl (0 : Int32), .inl v1] (t2_put v0 (gfi g 65 v0) (0 : Int32) v1 g) cw_cX2_put (Or.inl ml_2_19) rfl rfl (by decide) (by decide) (Nat.le_of_ble_eq_true rfl) dX2_write_7 (fun _ g1 => ?_)
  refine k_aloadn (j := 0) dX2_write_10 rfl rfl ?_
  refine k_aloadn (j := 0) dX2_write_11 rfl rfl ?_
  refine k_geti fg_2_15 rfl rfl dX2_write_12 ?_
  refine k_iconst (v := (1 : Int32)) dX2_write_15 rfl ?_
  refine k_iloadn (j := 2) dX2_write_16 rfl rfl ?_
  refine k_callVv [.inl (gfi g1 65 v0), .inl (1 : Int32), .inl v2] (t2_put v0 (gfi g1 65 v0) (1 : Int32) v2 g1) cw_cX2_put (Or.inl ml_2_19) rfl rfl (by decide) (by decide) (Nat.le_of_ble_eq_true rfl) dX2_write_17 (fun _ g2 => ?_)
  refine k_aloadn (j := 0) dX2_write_20 rfl rfl ?_
  refine k_aloadn (j := 0) dX2_write_21 rfl rfl ?_
  refine k_geti fg_2_15 rfl rfl dX2_write_22 ?_
  refine k_iconst (v := (2 : Int32)) dX2_write_25 rfl ?_
  refine k_iloadn (j := 3) dX2_write_26 rfl rfl ?_
  refine k_callVv [.inl (gfi g2 65 v0), .inl (2 : Int32), .inl v3] (t2_put v0 (gfi g2 65 v0) (2 : Int32) v3 g2) cw_cX2_put (Or.inl ml_2_19) rfl rfl (by decide) (by decide) (Nat.le_of_ble_eq_true rfl) dX2_write_27 (fun _ g3 => ?_)
  refine k_aloadn (j := 0) dX2_write_30 rfl rfl ?_
  refine k_aloadn (j := 0) dX2_write_31 rfl rfl ?_
  refine k_geti fg_2_15 rfl rfl dX2_write_32 ?_
  refine k_iconst (v := (3 : Int32)) dX2_write_35 rfl ?_
  refine k_iload dX2_write_36 rfl ?_
  refine k_callVv [.inl (gfi g3 65 v0), .inl (3 : Int32), .inl v4] (t2_put v0 (gfi g3 65 v0) (3 : Int32) v4 g3) cw_cX2_put (Or.inl ml_2_19) rfl rfl (by decide) (by decide) (Nat.le_of_ble_eq_true rfl) dX2_write_38 (fun _ g4 => ?_)
  refine k_aloadn (j := 0) dX2_write_41 rfl rfl ?_
  refine k_dup dX2_write_42 ?_
  refine k_geti fg_2_15 rfl rfl dX2_write_43 ?_
  refine k_iconst (v := (1 : Int32)) dX2_write_46 rfl ?_
  refine k_iadd dX2_write_47 ?_
  refine k_puti fp_2_15 rfl rfl dX2_write_48 (fun g5 => ?_)
  exact k_return rfl dX2_write_51
theorem dX2_has_0 : decode cX2_has 0 = .ok (.iload_n 1, 1) := by decide +kernel
theorem dX2_has_1 : decode cX2_has 1 = .ok (.ifCond .lt 26, 3) := by decide +kernel
theorem dX2_has_4 : decode cX2_has 4 = .ok (.iload_n 1, 1) := by decide +kernel
theorem dX2_has_5 : decode cX2_has 5 = .ok (.aload_n 0, 1) := by decide +kernel
theorem dX2_has_6 : decode cX2_has 6 = .ok (.getfield 15, 3) := by decide +kernel
theorem dX2_has_9 : decode cX2_has 9 = .ok (.if_icmp .ge 18, 3) := by decide +kernel
theorem dX2_has_12 : decode cX2_has 12 = .ok (.iload_n 1, 1) := by decide +kernel
theorem dX2_has_13 : decode cX2_has 13 = .ok (.aload_n 0, 1) := by decide +kernel
theorem dX2_has_14 : decode cX2_has 14 = .ok (.getfield 15, 3) := by decide +kernel
theorem dX2_has_17 : decode cX2_has 17 = .ok (.bipush 100, 2) := by decide +kernel
theorem dX2_has_19 : decode cX2_has 19 = .ok (.isub, 1) := by decide +kernel
theorem dX2_has_20 : decode cX2_has 20 = .ok (.if_icmp .lt 7, 3) := by decide +kernel
theorem dX2_has_23 : decode cX2_has 23 = .ok (.iconst 1, 1) := by decide +kernel
theorem dX2_has_24 : decode cX2_has 24 = .ok (.goto 4, 3) := by decide +kernel
theorem dX2_has_27 : decode cX2_has 27 = .ok (.iconst 0, 1) := by decide +kernel
theorem dX2_has_28 : decode cX2_has 28 = .ok (.ireturn, 1) := by decide +kernel
def f2_has_b27 (g : GS_) : Option (Int32 × GS_) :=
  some ((0 : Int32), g)
theorem t2_has_b27 (g : GS_) : K_ RX2 cX2_has 2 (some .boolean) 0 0 false EI_ 27 [none, none] [] g (f2_has_b27 g) := by
  unfold f2_has_b27
  refine k_iconst (v := (0 : Int32)) dX2_has_27 rfl ?_
  exact k_zreturn rfl (by decide) dX2_has_28
def f2_has (v0 : Nat) (v1 : Int32) (g : GS_) : Option (Int32 × GS_) :=
  if v1 < 0 then f2_has_b27 g else if (gfi g 65 v0) ≤ v1 then f2_has_b27 g else if v1 < ((gfi g 65 v0) - (100 : Int32)) then f2_has_b27 g else some ((1 : Int32), g)
theorem t2_has (v0 : Nat) (v1 : Int32) (g : GS_) : Cn_ yX2_has cX2_has 2 (some .boolean) 0 0 EI_ [.inr (2, some v0), .inl v1] g (f2_has v0 v1 g) := by
  refine k_method (own := RX2) (ini := false) (L1 := [some (.inr (2, some v0)), some (.inl v1)]) (by decide +kernel) rfl (fun h => by cases h) (Nat.le_of_ble_eq_true rfl) rfl ?_
  unfold f2_has
  refine k_iloadn (j := 1) dX2_has_0 rfl rfl ?_
  refine k_iflt (tgt := 27) dX2_has_1 (by decide) (fun _ => ?_) (fun _ => ?_)
  · refine k_msk (L' := [none, none]) [false, false] rfl ?_
    exact t2_has_b27 g
  refine k_iloadn (j := 1) dX2_has_4 rfl rfl ?_
  refine k_aloadn (j := 0) dX2_has_5 rfl rfl ?_
  refine k_geti fg_2_15 rfl rfl dX2_has_6 ?_
  refine k_icmpge (tgt := 27) dX2_has_9 (by decide) (fun _ => ?_) (fun _ => ?_)
  · refine k_msk (L' := [none, none]) [false, false] rfl ?_
    exact t2_has_b27 g
  refine k_iloadn (j := 1) dX2_has_12 rfl rfl ?_
  refine k_aloadn (j := 0) dX2_has_13 rfl rfl ?_
  refine k_geti fg_2_15 rfl rfl dX2_has_14 ?_
  refine k_bipush (v := (100 : Int32)) dX2_has_17 rfl ?_
  refine k_isub dX2_has_19 ?_
  refine k_icmplt (tgt := 27) dX2_has_20 (by decide) (fun _ => ?_) (fun _ => ?_)
  · refine k_msk (L' := [none, none]) [false, false] rfl ?_
    exact t2_has_b27 g
  refine k_iconst (v := (1 : Int32)) dX2_has_23 rfl ?_
  refine k_goto (tgt := 28) dX2_has_24 (by decide) ?_
  exact k_zreturn rfl (by decide) dX2_has_28
theorem dX2_read_0 : decode cX2_read 0 = .ok (.iload_n 1, 1) := by decide +kernel
theorem dX2_read_1 : decode cX2_read 1 = .ok (.iload_n 2, 1) := by decide +kernel
theorem dX2_read_2 : decode cX2_read 2 = .ok (.invokestatic 23, 3) := by decide +kernel
theorem dX2_read_5 : decode cX2_read 5 = .ok (.istore_n 3, 1) := by decide +kernel
theorem dX2_read_6 : decode cX2_read 6 = .ok (.iload_n 3, 1) := by decide +kernel
theorem dX2_read_7 : decode cX2_read 7 = .ok (.ifCond .lt 21, 3) := by decide +kernel
theorem dX2_read_10 : decode cX2_read 10 = .ok (.iload_n 3, 1) := by decide +kernel
theorem dX2_read_11 : decode cX2_read 11 = .ok (.aload_n 0, 1) := by decide +kernel
theorem dX2_read_12 : decode cX2_read 12 = .ok (.getfield 11, 3) := by decide +kernel
theorem dX2_read_15 : decode cX2_read 15 = .ok (.arraylength, 1) := by decide +kernel
theorem dX2_read_16 : decode cX2_read 16 = .ok (.if_icmp .ge 12, 3) := by decide +kernel
theorem dX2_read_19 : decode cX2_read 19 = .ok (.aload_n 0, 1) := by decide +kernel
theorem dX2_read_20 : decode cX2_read 20 = .ok (.getfield 11, 3) := by decide +kernel
theorem dX2_read_23 : decode cX2_read 23 = .ok (.iload_n 3, 1) := by decide +kernel
theorem dX2_read_24 : decode cX2_read 24 = .ok (.iaload, 1) := by decide +kernel
theorem dX2_read_25 : decode cX2_read 25 = .ok (.goto 4, 3) := by decide +kernel
theorem dX2_read_28 : decode cX2_read 28 = .ok (.iconst 0, 1) := by decide +kernel
theorem dX2_read_29 : decode cX2_read 29 = .ok (.ireturn, 1) := by decide +kernel
def f2_read_b28 (g : GS_) : Option (Int32 × GS_) :=
  some ((0 : Int32), g)
theorem t2_read_b28 (g : GS_) : K_ RX2 cX2_read 4 (some .int) 1 21 false EI_ 28 [none, none, none, none] [] g (f2_read_b28 g) := by
  unfold f2_read_b28
  refine k_iconst (v := (0 : Int32)) dX2_read_28 rfl ?_
  exact k_ireturn rfl dX2_read_29
def f2_read (v0 : Nat) (v1 : Int32) (v2 : Int32) (g : GS_) : Option (Int32 × GS_) :=
  bd_ (f2_cellOf v1 v2 g) fun z2 g1 => if z2 < 0 then f2_read_b28 g1 else lr_ (gfr g1 64 v0) fun x3 => oc_ x3 none fun a4 => if (Int32.ofNat (gln g1 20 a4)) ≤ z2 then f2_read_b28 g1 else lr_ (gfr g1 64 v0) fun x5 => oc_ x5 none fun a6 => if inb z2 (gln g1 20 a6) then some ((gai g1 20 a6 z2.toInt.toNat), g1) else none
theorem t2_read (v0 : Nat) (v1 : Int32) (v2 : Int32) (g : GS_) : Cn_ yX2_read cX2_read 4 (some .int) 1 21 EI_ [.inr (2, some v0), .inl v1, .inl v2] g (f2_read v0 v1 v2 g) := by
  refine k_method (own := RX2) (ini := false) (L1 := [some (.inr (2, some v0)), some (.inl v1), some (.inl v2), none]) (by decide +kernel) rfl (fun h => by cases h) (Nat.le_of_ble_eq_true rfl) rfl ?_
  unfold f2_read
  refine k_iloadn (j := 1) dX2_read_0 rfl rfl ?_
  refine k_iloadn (j := 2) dX2_read_1 rfl rfl ?_
  refine k_callSi [.inl v1, .inl v2] (t2_cellOf v1 v2 g) cw_cX2_cellOf ml_2_23 rfl rfl (by decide) (by decide) (Nat.le_of_ble_eq_true rfl) dX2_read_2 (fun z2 g1 => ?_)
  refine k_istn (j := 3) (L' := [some (.inr (2, some v0)), some (.inl v1), some (.inl v2), some (.inl z2)]) dX2_read_5 rfl (by decide) rfl ?_
  refine k_iloadn (j := 3) dX2_read_6 rfl rfl ?_
  refine k_iflt (tgt := 28) dX2_read_7 (by decide) (fun _ => ?_) (fun _ => ?_)
  · refine k_msk (L' := [none, none, none, none]) [false, false, false, false] rfl ?_
    exact t2_read_b28 g1
  refine k_iloadn (j := 3) dX2_read_10 rfl rfl ?_
  refine k_aloadn (j := 0) dX2_read_11 rfl rfl ?_
  refine k_getr fg_2_11 rfl rfl dX2_read_12 (fun x3 => ?_)
  rcases x3 with _ | a4
  · exact k_ocn
  refine k_ocs ?_
  refine k_alen dX2_read_15 (by decide) ?_
  refine k_icmpge (tgt := 28) dX2_read_16 (by decide) (fun _ => ?_) (fun _ => ?_)
  · refine k_msk (L' := [none, none, none, none]) [false, false, false, false] rfl ?_
    exact t2_read_b28 g1
  refine k_aloadn (j := 0) dX2_read_19 rfl rfl ?_
  refine k_getr fg_2_11 rfl rfl dX2_read_20 (fun x5 => ?_)
  refine k_iloadn (j := 3) dX2_read_23 rfl rfl ?_
  rcases x5 with _ | a6
  · exact k_ocn
  refine k_ocs ?_
  refine k_iald dX2_read_24 ?_
  refine k_goto (tgt := 29) dX2_read_25 (by decide) ?_
  exact k_ireturn rfl dX2_read_29
theorem dX2_copyFrom_0 : decode cX2_copyFrom 0 = .ok (.aload_n 0, 1) := by decide +kernel
theorem dX2_copyFrom_1 : decode cX2_copyFrom 1 = .ok (.aload_n 1, 1) := by decide +kernel
theorem dX2_copyFrom_2 : decode cX2_copyFrom 2 = .ok (.getfield 15, 3) := by decide +kernel
theorem dX2_copyFrom_5 : decode cX2_copyFrom 5 = .ok (.putfield 15, 3) := by decide +kernel
theorem dX2_copyFrom_8 : decode cX2_copyFrom 8 = .ok (.aload_n 1, 1) := by decide +kernel
theorem dX2_copyFrom_9 : decode cX2_copyFrom 9 = .ok (.getfield 11, 3) := by decide +kernel
theorem dX2_copyFrom_12 : decode cX2_copyFrom 12 = .ok (.iconst 0, 1) := by decide +kernel
theorem dX2_copyFrom_13 : decode cX2_copyFrom 13 = .ok (.aload_n 0, 1) := by decide +kernel
theorem dX2_copyFrom_14 : decode cX2_copyFrom 14 = .ok (.getfield 11, 3) := by decide +kernel
theorem dX2_copyFrom_17 : decode cX2_copyFrom 17 = .ok (.iconst 0, 1) := by decide +kernel
theorem dX2_copyFrom_18 : decode cX2_copyFrom 18 = .ok (.aload_n 0, 1) := by decide +kernel
theorem dX2_copyFrom_19 : decode cX2_copyFrom 19 = .ok (.getfield 11, 3) := by decide +kernel
theorem dX2_copyFrom_22 : decode cX2_copyFrom 22 = .ok (.arraylength, 1) := by decide +kernel
theorem dX2_copyFrom_23 : decode cX2_copyFrom 23 = .ok (.invokestatic 27, 3) := by decide +kernel
theorem dX2_copyFrom_26 : decode cX2_copyFrom 26 = .ok (.return_, 1) := by decide +kernel
def f2_copyFrom (v0 : Nat) (v1 : Option Nat) (g : GS_) : Option (Unit × GS_) :=
  oc_ v1 none fun a1 => lr_ (sfi g 65 v0 (gfi g 65 a1)) fun g2 => lr_ (gfr g2 64 a1) fun x3 => lr_ (gfr g2 64 v0) fun x4 => lr_ (gfr g2 64 v0) fun x5 => oc_ x5 none fun a6 => oc_ x3 none fun a7 => oc_ x4 none fun a8 => cp_ g2 a7 a8 (0 : Int32) (0 : Int32) (Int32.ofNat (gln g2 20 a6)) fun g9 => some ((), g9)
theorem t2_copyFrom (v0 : Nat) (v1 : Option Nat) (g : GS_) : Cn_ yX2_copyFrom cX2_copyFrom 2 none 1 40 EV_ [.inr (2, some v0), .inr (2, v1)] g (f2_copyFrom v0 v1 g) := by
  refine k_method (own := RX2) (ini := false) (L1 := [some (.inr (2, some v0)), some (.inr (2, v1))]) (by decide +kernel) rfl (fun h => by cases h) (Nat.le_of_ble_eq_true rfl) rfl ?_
  unfold f2_copyFrom
  refine k_aloadn (j := 0) dX2_copyFrom_0 rfl rfl ?_
  refine k_aloadn (j := 1) dX2_copyFrom_1 rfl rfl ?_
  rcases v1 with _ | a1
  · exact k_ocn
  refine k_ocs ?_
  refine k_geti fg_2_15 rfl rfl dX2_copyFrom_2 ?_
  refine k_puti fp_2_15 rfl rfl dX2_copyFrom_5 (fun g2 => ?_)
  refine k_aloadn (j := 1) dX2_copyFrom_8 rfl rfl ?_
  refine k_getr fg_2_11 rfl rfl dX2_copyFrom_9 (fun x3 => ?_)
  refine k_iconst (v := (0 : Int32)) dX2_copyFrom_12 rfl ?_
  refine k_aloadn (j := 0) dX2_copyFrom_13 rfl rfl ?_
  refine k_getr fg_2_11 rfl rfl dX2_copyFrom_14 (fun x4 => ?_)
  refine k_iconst (v := (0 : Int32)) dX2_copyFrom_17 rfl ?_
  refine k_aloadn (j := 0) dX2_copyFrom_18 rfl rfl ?_
  refine k_getr fg_2_11 rfl rfl dX2_copyFrom_19 (fun x5 => ?_)
  rcases x5 with _ | a6
  · exact k_ocn
  refine k_ocs ?_
  refine k_alen dX2_copyFrom_22 (by decide) ?_
  rcases x3 with _ | a7
  · exact k_ocn
  refine k_ocs ?_
  rcases x4 with _ | a8
  · exact k_ocn
  refine k_ocs ?_
  refine k_copy yw_ ml_2_27 (by decide) (Nat.le_of_ble_eq_true rfl) dX2_copyFrom_23 (fun g9 => ?_)
  exact k_return rfl dX2_copyFrom_26
theorem dX3_init_0 : decode cX3_init 0 = .ok (.aload_n 0, 1) := by decide +kernel
theorem dX3_init_1 : decode cX3_init 1 = .ok (.invokespecial 3, 3) := by decide +kernel
theorem dX3_init_4 : decode cX3_init 4 = .ok (.aload_n 0, 1) := by decide +kernel
theorem dX3_init_5 : decode cX3_init 5 = .ok (.sipush 400, 3) := by decide +kernel
theorem dX3_init_8 : decode cX3_init 8 = .ok (.newarray .int, 2) := by decide +kernel
theorem dX3_init_10 : decode cX3_init 10 = .ok (.putfield 9, 3) := by decide +kernel
theorem dX3_init_13 : decode cX3_init 13 = .ok (.aload_n 0, 1) := by decide +kernel
theorem dX3_init_14 : decode cX3_init 14 = .ok (.iconst 0, 1) := by decide +kernel
theorem dX3_init_15 : decode cX3_init 15 = .ok (.putfield 15, 3) := by decide +kernel
theorem dX3_init_18 : decode cX3_init 18 = .ok (.aload_n 0, 1) := by decide +kernel
theorem dX3_init_19 : decode cX3_init 19 = .ok (.iconst 0, 1) := by decide +kernel
theorem dX3_init_20 : decode cX3_init 20 = .ok (.putfield 19, 3) := by decide +kernel
theorem dX3_init_23 : decode cX3_init 23 = .ok (.return_, 1) := by decide +kernel
def f3_init (v0 : Nat) (g : GS_) : Option (Unit × GS_) :=
  na_ g 20 (400 : Int32) fun a1 g2 => lr_ (sfr g2 96 v0 (some a1)) fun g3 => lr_ (sfi g3 97 v0 (0 : Int32)) fun g4 => lr_ (sfi g4 98 v0 (0 : Int32)) fun g5 => some ((), g5)
theorem t3_init (v0 : Nat) (g : GS_) : Cn_ yX3_init cX3_init 1 none 1 12 EV_ [.inr (3, some v0)] g (f3_init v0 g) := by
  refine k_method (own := RX3) (ini := true) (L1 := [some (.inr (3, some v0))]) (by decide +kernel) rfl (fun _ => rfl) (Nat.le_of_ble_eq_true rfl) rfl ?_
  unfold f3_init
  refine k_aloadn (j := 0) dX3_init_0 rfl rfl ?_
  refine k_objInit ml_3_3 oi_.1 oi_.2 (by decide) (Nat.le_of_ble_eq_true rfl) dX3_init_1 ?_
  refine k_aloadn (j := 0) dX3_init_4 rfl rfl ?_
  refine k_sipush (v := (400 : Int32)) dX3_init_5 rfl ?_
  refine k_newa ac_20 dX3_init_8 (fun a1 g2 => ?_)
  refine k_putfr fp_3_9 ty_arr rfl rfl rfl dX3_init_10 (fun g3 => ?_)
  refine k_aloadn (j := 0) dX3_init_13 rfl rfl ?_
  refine k_iconst (v := (0 : Int32)) dX3_init_14 rfl ?_
  refine k_puti fp_3_15 rfl rfl dX3_init_15 (fun g4 => ?_)
  refine k_aloadn (j := 0) dX3_init_18 rfl rfl ?_
  refine k_iconst (v := (0 : Int32)) dX3_init_19 rfl ?_
  refine k_putz fp_3_19 rfl rfl (by decide) dX3_init_20 (fun g5 => ?_)
  exact k_return rfl dX3_init_23
theorem dX3_empty_0 : decode cX3_empty 0 = .ok (.aload_n 0, 1) := by decide +kernel
theorem dX3_empty_1 : decode cX3_empty 1 = .ok (.iconst 0, 1) := by decide +kernel
theorem dX3_empty_2 : decode cX3_empty 2 = .ok (.putfield 15, 3) := by decide +kernel
theorem dX3_empty_5 : decode cX3_empty 5 = .ok (.aload_n 0, 1) := by decide +kernel
theorem dX3_empty_6 : decode cX3_empty 6 = .ok (.iconst 0, 1) := by decide +kernel
theorem dX3_empty_7 : decode cX3_empty 7 = .ok (.putfield 19, 3) := by decide +kernel
theorem dX3_empty_10 : decode cX3_empty 10 = .ok (.return_, 1) := by decide +kernel
def f3_empty (v0 : Nat) (g : GS_) : Option (Unit × GS_) :=
  lr_ (sfi g 97 v0 (0 : Int32)) fun g1 => lr_ (sfi g1 98 v0 (0 : Int32)) fun g2 => some ((), g2)
theorem t3_empty (v0 : Nat) (g : GS_) : Cn_ yX3_empty cX3_empty 1 none 0 0 EV_ [.inr (3, some v0)] g (f3_empty v0 g) := by
  refine k_method (own := RX3) (ini := false) (L1 := [some (.inr (3, some v0))]) (by decide +kernel) rfl (fun h => by cases h) (Nat.le_of_ble_eq_true rfl) rfl ?_
  unfold f3_empty
  refine k_aloadn (j := 0) dX3_empty_0 rfl rfl ?_
  refine k_iconst (v := (0 : Int32)) dX3_empty_1 rfl ?_
  refine k_puti fp_3_15 rfl rfl dX3_empty_2 (fun g1 => ?_)
  refine k_aloadn (j := 0) dX3_empty_5 rfl rfl ?_
  refine k_iconst (v := (0 : Int32)) dX3_empty_6 rfl ?_
  refine k_putz fp_3_19 rfl rfl (by decide) dX3_empty_7 (fun g2 => ?_)
  exact k_return rfl dX3_empty_10
theorem dX3_has_0 : decode cX3_has 0 = .ok (.iload_n 1, 1) := by decide +kernel
theorem dX3_has_1 : decode cX3_has 1 = .ok (.ifCond .lt 24, 3) := by decide +kernel
theorem dX3_has_4 : decode cX3_has 4 = .ok (.iload_n 1, 1) := by decide +kernel
theorem dX3_has_5 : decode cX3_has 5 = .ok (.aload_n 0, 1) := by decide +kernel
theorem dX3_has_6 : decode cX3_has 6 = .ok (.getfield 15, 3) := by decide +kernel
theorem dX3_has_9 : decode cX3_has 9 = .ok (.if_icmp .ge 16, 3) := by decide +kernel
theorem dX3_has_12 : decode cX3_has 12 = .ok (.iload_n 1, 1) := by decide +kernel
theorem dX3_has_13 : decode cX3_has 13 = .ok (.aload_n 0, 1) := by decide +kernel
theorem dX3_has_14 : decode cX3_has 14 = .ok (.getfield 9, 3) := by decide +kernel
theorem dX3_has_17 : decode cX3_has 17 = .ok (.arraylength, 1) := by decide +kernel
theorem dX3_has_18 : decode cX3_has 18 = .ok (.if_icmp .ge 7, 3) := by decide +kernel
theorem dX3_has_21 : decode cX3_has 21 = .ok (.iconst 1, 1) := by decide +kernel
theorem dX3_has_22 : decode cX3_has 22 = .ok (.goto 4, 3) := by decide +kernel
theorem dX3_has_25 : decode cX3_has 25 = .ok (.iconst 0, 1) := by decide +kernel
theorem dX3_has_26 : decode cX3_has 26 = .ok (.ireturn, 1) := by decide +kernel
def f3_has_b25 (g : GS_) : Option (Int32 × GS_) :=
  some ((0 : Int32), g)
theorem t3_has_b25 (g : GS_) : K_ RX3 cX3_has 2 (some .boolean) 0 0 false EI_ 25 [none, none] [] g (f3_has_b25 g) := by
  unfold f3_has_b25
  refine k_iconst (v := (0 : Int32)) dX3_has_25 rfl ?_
  exact k_zreturn rfl (by decide) dX3_has_26
def f3_has (v0 : Nat) (v1 : Int32) (g : GS_) : Option (Int32 × GS_) :=
  if v1 < 0 then f3_has_b25 g else if (gfi g 97 v0) ≤ v1 then f3_has_b25 g else lr_ (gfr g 96 v0) fun x1 => oc_ x1 none fun a2 => if (Int32.ofNat (gln g 20 a2)) ≤ v1 then f3_has_b25 g else some ((1 : Int32), g)
theorem t3_has (v0 : Nat) (v1 : Int32) (g : GS_) : Cn_ yX3_has cX3_has 2 (some .boolean) 0 0 EI_ [.inr (3, some v0), .inl v1] g (f3_has v0 v1 g) := by
  refine k_method (own := RX3) (ini := false) (L1 := [some (.inr (3, some v0)), some (.inl v1)]) (by decide +kernel) rfl (fun h => by cases h) (Nat.le_of_ble_eq_true rfl) rfl ?_
  unfold f3_has
  refine k_iloadn (j := 1) dX3_has_0 rfl rfl ?_
  refine k_iflt (tgt := 25) dX3_has_1 (by decide) (fun _ => ?_) (fun _ => ?_)
  · refine k_msk (L' := [none, none]) [false, false] rfl ?_
    exact t3_has_b25 g
  refine k_iloadn (j := 1) dX3_has_4 rfl rfl ?_
  refine k_aloadn (j := 0) dX3_has_5 rfl rfl ?_
  refine k_geti fg_3_15 rfl rfl dX3_has_6 ?_
  refine k_icmpge (tgt := 25) dX3_has_9 (by decide) (fun _ => ?_) (fun _ => ?_)
  · refine k_msk (L' := [none, none]) [false, false] rfl ?_
    exact t3_has_b25 g
  refine k_iloadn (j := 1) dX3_has_12 rfl rfl ?_
  refine k_aloadn (j := 0) dX3_has_13 rfl rfl ?_
  refine k_getr fg_3_9 rfl rfl dX3_has_14 (fun x1 => ?_)
  rcases x1 with _ | a2
  · exact k_ocn
  refine k_ocs ?_
  refine k_alen dX3_has_17 (by decide) ?_
  refine k_icmpge (tgt := 25) dX3_has_18 (by decide) (fun _ => ?_) (fun _ => ?_)
  · refine k_msk (L' := [none, none]) [false, false] rfl ?_
    exact t3_has_b25 g
  refine k_iconst (v := (1 : Int32)) dX3_has_21 rfl ?_
  refine k_goto (tgt := 26) dX3_has_22 (by decide) ?_
  exact k_zreturn rfl (by decide) dX3_has_26
theorem dX3_pageAt_0 : decode cX3_pageAt 0 = .ok (.aload_n 0, 1) := by decide +kernel
theorem dX3_pageAt_1 : decode cX3_pageAt 1 = .ok (.iload_n 1, 1) := by decide +kernel
theorem dX3_pageAt_2 : decode cX3_pageAt 2 = .ok (.invokevirtual 23, 3) := by decide +kernel
theorem dX3_pageAt_5 : decode cX3_pageAt 5 = .ok (.ifCond .eq 12, 3) := by decide +kernel
theorem dX3_pageAt_8 : decode cX3_pageAt 8 = .ok (.aload_n 0, 1) := by decide +kernel
theorem dX3_pageAt_9 : decode cX3_pageAt 9 = .ok (.getfield 9, 3) := by decide +kernel
theorem dX3_pageAt_12 : decode cX3_pageAt 12 = .ok (.iload_n 1, 1) := by decide +kernel
theorem dX3_pageAt_13 : decode cX3_pageAt 13 = .ok (.iaload, 1) := by decide +kernel
theorem dX3_pageAt_14 : decode cX3_pageAt 14 = .ok (.goto 4, 3) := by decide +kernel
theorem dX3_pageAt_17 : decode cX3_pageAt 17 = .ok (.iconst 0, 1) := by decide +kernel
theorem dX3_pageAt_18 : decode cX3_pageAt 18 = .ok (.ireturn, 1) := by decide +kernel
def f3_pageAt (v0 : Nat) (v1 : Int32) (g : GS_) : Option (Int32 × GS_) :=
  bd_ (f3_has v0 v1 g) fun z2 g1 => if z2 = 0 then some ((0 : Int32), g1) else lr_ (gfr g1 96 v0) fun x3 => oc_ x3 none fun a4 => if inb v1 (gln g1 20 a4) then some ((gai g1 20 a4 v1.toInt.toNat), g1) else none
theorem t3_pageAt (v0 : Nat) (v1 : Int32) (g : GS_) : Cn_ yX3_pageAt cX3_pageAt 2 (some .int) 1 21 EI_ [.inr (3, some v0), .inl v1] g (f3_pageAt v0 v1 g) := by
  refine k_method (own := RX3) (ini := false) (L1 := [some (.inr (3, some v0)), some (.inl v1)]) (by decide +kernel) rfl (fun h => by cases h) (Nat.le_of_ble_eq_true rfl) rfl ?_
  unfold f3_pageAt
  refine k_aloadn (j := 0) dX3_pageAt_0 rfl rfl ?_
  refine k_iloadn (j := 1) dX3_pageAt_1 rfl rfl ?_
  refine k_callVi [.inl v1] (t3_has v0 v1 g) cw_cX3_has (Or.inl ml_3_23) rfl rfl (by decide) (by decide) (Nat.le_of_ble_eq_true rfl) dX3_pageAt_2 (fun z2 g1 => ?_)
  refine k_ifeq (tgt := 17) dX3_pageAt_5 (by decide) (fun _ => ?_) (fun _ => ?_)
  · refine k_iconst (v := (0 : Int32)) dX3_pageAt_17 rfl ?_
    exact k_ireturn rfl dX3_pageAt_18
  refine k_aloadn (j := 0) dX3_pageAt_8 rfl rfl ?_
  refine k_getr fg_3_9 rfl rfl dX3_pageAt_9 (fun x3 => ?_)
  refine k_iloadn (j := 1) dX3_pageAt_12 rfl rfl ?_
  rcases x3 with _ | a4
  · exact k_ocn
  refine k_ocs ?_
  refine k_iald dX3_pageAt_13 ?_
  refine k_goto (tgt := 18) dX3_pageAt_14 (by decide) ?_
  exact k_ireturn rfl dX3_pageAt_18
theorem dX3_copyOfPages_0 : decode cX3_copyOfPages 0 = .ok (.iconst 0, 1) := by decide +kernel
theorem dX3_copyOfPages_1 : decode cX3_copyOfPages 1 = .ok (.aload_n 0, 1) := by decide +kernel
theorem dX3_copyOfPages_2 : decode cX3_copyOfPages 2 = .ok (.getfield 15, 3) := by decide +kernel
theorem dX3_copyOfPages_5 : decode cX3_copyOfPages 5 = .ok (.invokestatic 27, 3) := by decide +kernel
theorem dX3_copyOfPages_8 : decode cX3_copyOfPages 8 = .ok (.newarray .int, 2) := by decide +kernel
theorem dX3_copyOfPages_10 : decode cX3_copyOfPages 10 = .ok (.astore_n 1, 1) := by decide +kernel
theorem dX3_copyOfPages_11 : decode cX3_copyOfPages 11 = .ok (.iconst 0, 1) := by decide +kernel
theorem dX3_copyOfPages_12 : decode cX3_copyOfPages 12 = .ok (.istore_n 2, 1) := by decide +kernel
theorem dX3_copyOfPages_13 : decode cX3_copyOfPages 13 = .ok (.iload_n 2, 1) := by decide +kernel
theorem dX3_copyOfPages_14 : decode cX3_copyOfPages 14 = .ok (.aload_n 1, 1) := by decide +kernel
theorem dX3_copyOfPages_15 : decode cX3_copyOfPages 15 = .ok (.arraylength, 1) := by decide +kernel
theorem dX3_copyOfPages_16 : decode cX3_copyOfPages 16 = .ok (.if_icmp .ge 17, 3) := by decide +kernel
theorem dX3_copyOfPages_19 : decode cX3_copyOfPages 19 = .ok (.aload_n 1, 1) := by decide +kernel
theorem dX3_copyOfPages_20 : decode cX3_copyOfPages 20 = .ok (.iload_n 2, 1) := by decide +kernel
theorem dX3_copyOfPages_21 : decode cX3_copyOfPages 21 = .ok (.aload_n 0, 1) := by decide +kernel
theorem dX3_copyOfPages_22 : decode cX3_copyOfPages 22 = .ok (.iload_n 2, 1) := by decide +kernel
theorem dX3_copyOfPages_23 : decode cX3_copyOfPages 23 = .ok (.invokevirtual 33, 3) := by decide +kernel
theorem dX3_copyOfPages_26 : decode cX3_copyOfPages 26 = .ok (.iastore, 1) := by decide +kernel
theorem dX3_copyOfPages_27 : decode cX3_copyOfPages 27 = .ok (.iinc 2 1, 3) := by decide +kernel
theorem dX3_copyOfPages_30 : decode cX3_copyOfPages 30 = .ok (.goto (-17), 3) := by decide +kernel
theorem dX3_copyOfPages_33 : decode cX3_copyOfPages 33 = .ok (.aload_n 1, 1) := by decide +kernel
theorem dX3_copyOfPages_34 : decode cX3_copyOfPages 34 = .ok (.areturn, 1) := by decide +kernel
def f3_copyOfPages_b13 : Nat → Nat → Nat → Int32 → GS_ → Option (Option Nat × GS_)
  | 0, _, _, _, _ => none
  | n + 1, v0, v1, v2, g =>
    if (Int32.ofNat (gln g 20 v1)) ≤ v2 then some ((some v1), g) else bd_ (f3_pageAt v0 v2 g) fun z2 g1 => if inb v2 (gln g1 20 v1) then lr_ (sai g1 20 v1 v2.toInt.toNat z2) (fun g3 => (f3_copyOfPages_b13 n) v0 v1 (v2 + (1 : Int32)) g3) else none
theorem t3_copyOfPages_b13 : ∀ (n : Nat) (v0 : Nat) (v1 : Nat) (v2 : Int32) (g : GS_), K_ RX3 cX3_copyOfPages 3 (some (.array .int)) 2 42 false (ER_ 20) 13 [some (.inr (3, some v0)), some (.inr (20, some v1)), some (.inl v2)] [] g (f3_copyOfPages_b13 n v0 v1 v2 g) := by
  intro n
  induction n with
  | zero =>
    intro v0 v1 v2 g
    exact k_fail
  | succ n ih =>
    intro v0 v1 v2 g
    show K_ RX3 cX3_copyOfPages 3 (some (.array .int)) 2 42 false (ER_ 20) 13 [some (.inr (3, some v0)), some (.inr (20, some v1)), some (.inl v2)] [] g (if (Int32.ofNat (gln g 20 v1)) ≤ v2 then some ((some v1), g) else bd_ (f3_pageAt v0 v2 g) fun z2 g1 => if inb v2 (gln g1 20 v1) then lr_ (sai g1 20 v1 v2.toInt.toNat z2) (fun g3 => (f3_copyOfPages_b13 n) v0 v1 (v2 + (1 : Int32)) g3) else none)
    refine k_iloadn (j := 2) dX3_copyOfPages_13 rfl rfl ?_
    refine k_aloadn (j := 1) dX3_copyOfPages_14 rfl rfl ?_
    refine k_alen dX3_copyOfPages_15 (by decide) ?_
    refine k_icmpge (tgt := 33) dX3_copyOfPages_16 (by decide) (fun _ => ?_) (fun _ => ?_)
    · refine k_aloadn (j := 1) dX3_copyOfPages_33 rfl rfl ?_
      exact k_areturn rfl (Or.inr ⟨_, rfl⟩) dX3_copyOfPages_34
    refine k_aloadn (j := 1) dX3_copyOfPages_19 rfl rfl ?_
    refine k_iloadn (j := 2) dX3_copyOfPages_20 rfl rfl ?_
    refine k_aloadn (j := 0) dX3_copyOfPages_21 rfl rfl ?_
    refine k_iloadn (j := 2) dX3_copyOfPages_22 rfl rfl ?_
    refine k_callVi [.inl v2] (t3_pageAt v0 v2 g) cw_cX3_pageAt (Or.inl ml_3_33) rfl rfl (by decide) (by decide) (Nat.le_of_ble_eq_true rfl) dX3_copyOfPages_23 (fun z2 g1 => ?_)
    refine k_iast dX3_copyOfPages_26 (fun g3 => ?_)
    refine k_iinc (v := (v2 + (1 : Int32))) (L' := [some (.inr (3, some v0)), some (.inr (20, some v1)), some (.inl (v2 + (1 : Int32)))]) dX3_copyOfPages_27 rfl rfl (by decide) rfl ?_
    refine k_goto (tgt := 13) dX3_copyOfPages_30 (by decide) ?_
    exact ih v0 v1 (v2 + (1 : Int32)) g3
def f3_copyOfPages (v0 : Nat) (g : GS_) : Option (Option Nat × GS_) :=
  na_ g 20 (jmax (0 : Int32) (gfi g 97 v0)) fun a4 g5 => f3_copyOfPages_b13 FU_ v0 a4 (0 : Int32) g5
theorem t3_copyOfPages (v0 : Nat) (g : GS_) : Cn_ yX3_copyOfPages cX3_copyOfPages 3 (some (.array .int)) 2 42 (ER_ 20) [.inr (3, some v0)] g (f3_copyOfPages v0 g) := by
  refine k_method (own := RX3) (ini := false) (L1 := [some (.inr (3, some v0)), none, none]) (by decide +kernel) rfl (fun h => by cases h) (Nat.le_of_ble_eq_true rfl) rfl ?_
  unfold f3_copyOfPages
  refine k_iconst (v := (0 : Int32)) dX3_copyOfPages_0 rfl ?_
  refine k_aloadn (j := 0) dX3_copyOfPages_1 rfl rfl ?_
  refine k_geti fg_3_15 rfl rfl dX3_copyOfPages_2 ?_
  refine k_max mw_max ml_3_27 (by decide) (Nat.le_of_ble_eq_true rfl) dX3_copyOfPages_5 ?_
  refine k_newa ac_20 dX3_copyOfPages_8 (fun a4 g5 => ?_)
  refine k_astn (j := 1) (L' := [some (.inr (3, some v0)), some (.inr (20, some a4)), none]) dX3_copyOfPages_10 rfl (by decide) rfl ?_
  refine k_iconst (v := (0 : Int32)) dX3_copyOfPages_11 rfl ?_
  refine k_istn (j := 2) (L' := [some (.inr (3, some v0)), some (.inr (20, some a4)), some (.inl (0 : Int32))]) dX3_copyOfPages_12 rfl (by decide) rfl ?_
  exact t3_copyOfPages_b13 FU_ v0 a4 (0 : Int32) g5
theorem dX3_matches_0 : decode cX3_matches 0 = .ok (.iload_n 1, 1) := by decide +kernel
theorem dX3_matches_1 : decode cX3_matches 1 = .ok (.iconst (-1), 1) := by decide +kernel
theorem dX3_matches_2 : decode cX3_matches 2 = .ok (.if_icmp .eq 10, 3) := by decide +kernel
theorem dX3_matches_5 : decode cX3_matches 5 = .ok (.iload_n 0, 1) := by decide +kernel
theorem dX3_matches_6 : decode cX3_matches 6 = .ok (.iconst 2, 1) := by decide +kernel
theorem dX3_matches_7 : decode cX3_matches 7 = .ok (.irem, 1) := by decide +kernel
theorem dX3_matches_8 : decode cX3_matches 8 = .ok (.iload_n 1, 1) := by decide +kernel
theorem dX3_matches_9 : decode cX3_matches 9 = .ok (.if_icmp .ne 7, 3) := by decide +kernel
theorem dX3_matches_12 : decode cX3_matches 12 = .ok (.iconst 1, 1) := by decide +kernel
theorem dX3_matches_13 : decode cX3_matches 13 = .ok (.goto 4, 3) := by decide +kernel
theorem dX3_matches_16 : decode cX3_matches 16 = .ok (.iconst 0, 1) := by decide +kernel
theorem dX3_matches_17 : decode cX3_matches 17 = .ok (.ireturn, 1) := by decide +kernel
def f3_matches_b12 (g : GS_) : Option (Int32 × GS_) :=
  some ((1 : Int32), g)
theorem t3_matches_b12 (g : GS_) : K_ RX3 cX3_matches 2 (some .boolean) 0 0 false EI_ 12 [none, none] [] g (f3_matches_b12 g) := by
  unfold f3_matches_b12
  refine k_iconst (v := (1 : Int32)) dX3_matches_12 rfl ?_
  refine k_goto (tgt := 17) dX3_matches_13 (by decide) ?_
  exact k_zreturn rfl (by decide) dX3_matches_17
def f3_matches (v0 : Int32) (v1 : Int32) (g : GS_) : Option (Int32 × GS_) :=
  if v1 = (-1 : Int32) then f3_matches_b12 g else if (jrem v0 (2 : Int32)) = v1 then f3_matches_b12 g else some ((0 : Int32), g)
theorem t3_matches (v0 : Int32) (v1 : Int32) (g : GS_) : Cn_ yX3_matches cX3_matches 2 (some .boolean) 0 0 EI_ [.inl v0, .inl v1] g (f3_matches v0 v1 g) := by
  refine k_method (own := RX3) (ini := false) (L1 := [some (.inl v0), some (.inl v1)]) (by decide +kernel) rfl (fun h => by cases h) (Nat.le_of_ble_eq_true rfl) rfl ?_
  unfold f3_matches
  refine k_iloadn (j := 1) dX3_matches_0 rfl rfl ?_
  refine k_iconst (v := (-1 : Int32)) dX3_matches_1 rfl ?_
  refine k_icmpeq (tgt := 12) dX3_matches_2 (by decide) (fun _ => ?_) (fun _ => ?_)
  · refine k_msk (L' := [none, none]) [false, false] rfl ?_
    exact t3_matches_b12 g
  refine k_iloadn (j := 0) dX3_matches_5 rfl rfl ?_
  refine k_iconst (v := (2 : Int32)) dX3_matches_6 rfl ?_
  refine k_iremc (by decide) dX3_matches_7 ?_
  refine k_iloadn (j := 1) dX3_matches_8 rfl rfl ?_
  refine k_icmpne (tgt := 16) dX3_matches_9 (by decide) (fun _ => ?_) (fun _ => ?_)
  · refine k_msk (L' := [none, none]) [false, false] rfl ?_
    exact t3_matches_b12 g
  refine k_iconst (v := (0 : Int32)) dX3_matches_16 rfl ?_
  exact k_zreturn rfl (by decide) dX3_matches_17
theorem dX3_appendIf_0 : decode cX3_appendIf 0 = .ok (.iload_n 1, 1) := by decide +kernel
theorem dX3_appendIf_1 : decode cX3_appendIf 1 = .ok (.iload_n 2, 1) := by decide +kernel
theorem dX3_appendIf_2 : decode cX3_appendIf 2 = .ok (.invokestatic 44, 3) := by decide +kernel
theorem dX3_appendIf_5 : decode cX3_appendIf 5 = .ok (.ifCond .ne 4, 3) := by decide +kernel
theorem dX3_appendIf_8 : decode cX3_appendIf 8 = .ok (.return_, 1) := by decide +kernel
theorem dX3_appendIf_9 : decode cX3_appendIf 9 = .ok (.aload_n 0, 1) := by decide +kernel
theorem dX3_appendIf_10 : decode cX3_appendIf 10 = .ok (.getfield 15, 3) := by decide +kernel
theorem dX3_appendIf_13 : decode cX3_appendIf 13 = .ok (.ifCond .lt 15, 3) := by decide +kernel
theorem dX3_appendIf_16 : decode cX3_appendIf 16 = .ok (.aload_n 0, 1) := by decide +kernel
theorem dX3_appendIf_17 : decode cX3_appendIf 17 = .ok (.getfield 15, 3) := by decide +kernel
theorem dX3_appendIf_20 : decode cX3_appendIf 20 = .ok (.aload_n 0, 1) := by decide +kernel
theorem dX3_appendIf_21 : decode cX3_appendIf 21 = .ok (.getfield 9, 3) := by decide +kernel
theorem dX3_appendIf_24 : decode cX3_appendIf 24 = .ok (.arraylength, 1) := by decide +kernel
theorem dX3_appendIf_25 : decode cX3_appendIf 25 = .ok (.if_icmp .lt 9, 3) := by decide +kernel
theorem dX3_appendIf_28 : decode cX3_appendIf 28 = .ok (.aload_n 0, 1) := by decide +kernel
theorem dX3_appendIf_29 : decode cX3_appendIf 29 = .ok (.iconst 1, 1) := by decide +kernel
theorem dX3_appendIf_30 : decode cX3_appendIf 30 = .ok (.putfield 19, 3) := by decide +kernel
theorem dX3_appendIf_33 : decode cX3_appendIf 33 = .ok (.return_, 1) := by decide +kernel
theorem dX3_appendIf_34 : decode cX3_appendIf 34 = .ok (.aload_n 0, 1) := by decide +kernel
theorem dX3_appendIf_35 : decode cX3_appendIf 35 = .ok (.getfield 9, 3) := by decide +kernel
theorem dX3_appendIf_38 : decode cX3_appendIf 38 = .ok (.aload_n 0, 1) := by decide +kernel
theorem dX3_appendIf_39 : decode cX3_appendIf 39 = .ok (.getfield 15, 3) := by decide +kernel
theorem dX3_appendIf_42 : decode cX3_appendIf 42 = .ok (.iload_n 1, 1) := by decide +kernel
theorem dX3_appendIf_43 : decode cX3_appendIf 43 = .ok (.iastore, 1) := by decide +kernel
theorem dX3_appendIf_44 : decode cX3_appendIf 44 = .ok (.aload_n 0, 1) := by decide +kernel
theorem dX3_appendIf_45 : decode cX3_appendIf 45 = .ok (.dup, 1) := by decide +kernel
theorem dX3_appendIf_46 : decode cX3_appendIf 46 = .ok (.getfield 15, 3) := by decide +kernel
theorem dX3_appendIf_49 : decode cX3_appendIf 49 = .ok (.iconst 1, 1) := by decide +kernel
theorem dX3_appendIf_50 : decode cX3_appendIf 50 = .ok (.iadd, 1) := by decide +kernel
theorem dX3_appendIf_51 : decode cX3_appendIf 51 = .ok (.putfield 15, 3) := by decide +kernel
theorem dX3_appendIf_54 : decode cX3_appendIf 54 = .ok (.return_, 1) := by decide +kernel
def f3_appendIf_b28 (v0 : Nat) (g : GS_) : Option (Unit × GS_) :=
  lr_ (sfi g 98 v0 (1 : Int32)) fun g1 => some ((), g1)
theorem t3_appendIf_b28 (v0 : Nat) (g : GS_) : K_ RX3 cX3_appendIf 3 none 1 21 false EV_ 28 [some (.inr (3, some v0)), none, none] [] g (f3_appendIf_b28 v0 g) := by
  unfold f3_appendIf_b28
  refine k_aloadn (j := 0) dX3_appendIf_28 rfl rfl ?_
  refine k_iconst (v := (1 : Int32)) dX3_appendIf_29 rfl ?_
  refine k_putz fp_3_19 rfl rfl (by decide) dX3_appendIf_30 (fun g1 => ?_)
  exact k_return rfl dX3_appendIf_33
def f3_appendIf (v0 : Nat) (v1 : Int32) (v2 : Int32) (g : GS_) : Option (Unit × GS_) :=
  bd_ (f3_matches v1 v2 g) fun z3 g2 => if z3 = 0 then some ((), g2) else if (gfi g2 97 v0) < 0 then f3_appendIf_b28 v0 g2 else lr_ (gfr g2 96 v0) fun x4 => oc_ x4 none fun a5 => if (gfi g2 97 v0) < (Int32.ofNat (gln g2 20 a5)) then lr_ (gfr g2 96 v0) fun x6 => oc_ x6 none fun a7 => if inb (gfi g2 97 v0) (gln g2 20 a7) then lr_ (sai g2 20 a7 (gfi g2 97 v0).toInt.toNat v1) (fun g8 => lr_ (sfi g8 97 v0 ((gfi g8 97 v0) + (1 : Int32))) fun g9 => some ((), g9)) else none else f3_appendIf_b28 v0 g2
theorem t3_appendIf (v0 : Nat) (v1 : Int32) (v2 : Int32) (g : GS_) : Cn_ yX3_appendIf cX3_appendIf 3 none 1 21 EV_ [.inr (3, some v0), .inl v1, .inl v2] g (f3_appendIf v0 v1 v2 g) := by
  refine k_method (own := RX3) (ini := false) (L1 := [some (.inr (3, some v0)), some (.inl v1), some (.inl v2)]) (by decide +kernel) rfl (fun h => by cases h) (Nat.le_of_ble_eq_true rfl) rfl ?_
  unfold f3_appendIf
  refine k_iloadn (j := 1) dX3_appendIf_0 rfl rfl ?_
  refine k_iloadn (j := 2) dX3_appendIf_1 rfl rfl ?_
  refine k_callSi [.inl v1, .inl v2] (t3_matches v1 v2 g) cw_cX3_matches ml_3_44 rfl rfl (by decide) (by decide) (Nat.le_of_ble_eq_true rfl) dX3_appendIf_2 (fun z3 g2 => ?_)
  refine k_ifne (tgt := 9) dX3_appendIf_5 (by decide) (fun _ => ?_) (fun _ => ?_)
  · exact k_return rfl dX3_appendIf_8
  refine k_aloadn (j := 0) dX3_appendIf_9 rfl rfl ?_
  refine k_geti fg_3_15 rfl rfl dX3_appendIf_10 ?_
  refine k_iflt (tgt := 28) dX3_appendIf_13 (by decide) (fun _ => ?_) (fun _ => ?_)
  · refine k_msk (L' := [some (.inr (3, some v0)), none, none]) [true, false, false] rfl ?_
    exact t3_appendIf_b28 v0 g2
  refine k_aloadn (j := 0) dX3_appendIf_16 rfl rfl ?_
  refine k_geti fg_3_15 rfl rfl dX3_appendIf_17 ?_
  refine k_aloadn (j := 0) dX3_appendIf_20 rfl rfl ?_
  refine k_getr fg_3_9 rfl rfl dX3_appendIf_21 (fun x4 => ?_)
  rcases x4 with _ | a5
  · exact k_ocn
  refine k_ocs ?_
  refine k_alen dX3_appendIf_24 (by decide) ?_
  refine k_icmplt (tgt := 34) dX3_appendIf_25 (by decide) (fun _ => ?_) (fun _ => ?_)
  · refine k_aloadn (j := 0) dX3_appendIf_34 rfl rfl ?_
    refine k_getr fg_3_9 rfl rfl dX3_appendIf_35 (fun x6 => ?_)
    refine k_aloadn (j := 0) dX3_appendIf_38 rfl rfl ?_
    refine k_geti fg_3_15 rfl rfl dX3_appendIf_39 ?_
    refine k_iloadn (j := 1) dX3_appendIf_42 rfl rfl ?_
    rcases x6 with _ | a7
    · exact k_ocn
    refine k_ocs ?_
    refine k_iast dX3_appendIf_43 (fun g8 => ?_)
    refine k_aloadn (j := 0) dX3_appendIf_44 rfl rfl ?_
    refine k_dup dX3_appendIf_45 ?_
    refine k_geti fg_3_15 rfl rfl dX3_appendIf_46 ?_
    refine k_iconst (v := (1 : Int32)) dX3_appendIf_49 rfl ?_
    refine k_iadd dX3_appendIf_50 ?_
    refine k_puti fp_3_15 rfl rfl dX3_appendIf_51 (fun g9 => ?_)
    exact k_return rfl dX3_appendIf_54
  refine k_msk (L' := [some (.inr (3, some v0)), none, none]) [true, false, false] rfl ?_
  exact t3_appendIf_b28 v0 g2
theorem dX3_appendSpan_0 : decode cX3_appendSpan 0 = .ok (.iload_n 1, 1) := by decide +kernel
theorem dX3_appendSpan_1 : decode cX3_appendSpan 1 = .ok (.iload_n 2, 1) := by decide +kernel
theorem dX3_appendSpan_2 : decode cX3_appendSpan 2 = .ok (.if_icmp .gt 35, 3) := by decide +kernel
theorem dX3_appendSpan_5 : decode cX3_appendSpan 5 = .ok (.iload_n 1, 1) := by decide +kernel
theorem dX3_appendSpan_6 : decode cX3_appendSpan 6 = .ok (.istore 5, 2) := by decide +kernel
theorem dX3_appendSpan_8 : decode cX3_appendSpan 8 = .ok (.iload 5, 2) := by decide +kernel
theorem dX3_appendSpan_10 : decode cX3_appendSpan 10 = .ok (.iload_n 2, 1) := by decide +kernel
theorem dX3_appendSpan_11 : decode cX3_appendSpan 11 = .ok (.if_icmp .gt 23, 3) := by decide +kernel
theorem dX3_appendSpan_14 : decode cX3_appendSpan 14 = .ok (.iload 5, 2) := by decide +kernel
theorem dX3_appendSpan_16 : decode cX3_appendSpan 16 = .ok (.iload 4, 2) := by decide +kernel
theorem dX3_appendSpan_18 : decode cX3_appendSpan 18 = .ok (.if_icmp .gt 16, 3) := by decide +kernel
theorem dX3_appendSpan_21 : decode cX3_appendSpan 21 = .ok (.aload_n 0, 1) := by decide +kernel
theorem dX3_appendSpan_22 : decode cX3_appendSpan 22 = .ok (.iload 5, 2) := by decide +kernel
theorem dX3_appendSpan_24 : decode cX3_appendSpan 24 = .ok (.iload_n 3, 1) := by decide +kernel
theorem dX3_appendSpan_25 : decode cX3_appendSpan 25 = .ok (.invokevirtual 37, 3) := by decide +kernel
theorem dX3_appendSpan_28 : decode cX3_appendSpan 28 = .ok (.iinc 5 1, 3) := by decide +kernel
theorem dX3_appendSpan_31 : decode cX3_appendSpan 31 = .ok (.goto (-23), 3) := by decide +kernel
theorem dX3_appendSpan_34 : decode cX3_appendSpan 34 = .ok (.goto 30, 3) := by decide +kernel
theorem dX3_appendSpan_37 : decode cX3_appendSpan 37 = .ok (.iload_n 1, 1) := by decide +kernel
theorem dX3_appendSpan_38 : decode cX3_appendSpan 38 = .ok (.iload 4, 2) := by decide +kernel
theorem dX3_appendSpan_40 : decode cX3_appendSpan 40 = .ok (.invokestatic 41, 3) := by decide +kernel
theorem dX3_appendSpan_43 : decode cX3_appendSpan 43 = .ok (.istore 5, 2) := by decide +kernel
theorem dX3_appendSpan_45 : decode cX3_appendSpan 45 = .ok (.iload 5, 2) := by decide +kernel
theorem dX3_appendSpan_47 : decode cX3_appendSpan 47 = .ok (.iload_n 2, 1) := by decide +kernel
theorem dX3_appendSpan_48 : decode cX3_appendSpan 48 = .ok (.if_icmp .lt 16, 3) := by decide +kernel
theorem dX3_appendSpan_51 : decode cX3_appendSpan 51 = .ok (.aload_n 0, 1) := by decide +kernel
theorem dX3_appendSpan_52 : decode cX3_appendSpan 52 = .ok (.iload 5, 2) := by decide +kernel
theorem dX3_appendSpan_54 : decode cX3_appendSpan 54 = .ok (.iload_n 3, 1) := by decide +kernel
theorem dX3_appendSpan_55 : decode cX3_appendSpan 55 = .ok (.invokevirtual 37, 3) := by decide +kernel
theorem dX3_appendSpan_58 : decode cX3_appendSpan 58 = .ok (.iinc 5 (-1), 3) := by decide +kernel
theorem dX3_appendSpan_61 : decode cX3_appendSpan 61 = .ok (.goto (-16), 3) := by decide +kernel
theorem dX3_appendSpan_64 : decode cX3_appendSpan 64 = .ok (.return_, 1) := by decide +kernel
def f3_appendSpan_b45 : Nat → Nat → Int32 → Int32 → Int32 → GS_ → Option (Unit × GS_)
  | 0, _, _, _, _, _ => none
  | n + 1, v0, v2, v3, v5, g =>
    if v5 < v2 then some ((), g) else bd_ (f3_appendIf v0 v5 v3 g) fun _ g1 => (f3_appendSpan_b45 n) v0 v2 v3 (v5 + (-1 : Int32)) g1
theorem t3_appendSpan_b45 : ∀ (n : Nat) (v0 : Nat) (v2 : Int32) (v3 : Int32) (v5 : Int32) (g : GS_), K_ RX3 cX3_appendSpan 6 none 2 43 false EV_ 45 [some (.inr (3, some v0)), none, some (.inl v2), some (.inl v3), none, some (.inl v5)] [] g (f3_appendSpan_b45 n v0 v2 v3 v5 g) := by
  intro n
  induction n with
  | zero =>
    intro v0 v2 v3 v5 g
    exact k_fail
  | succ n ih =>
    intro v0 v2 v3 v5 g
    show K_ RX3 cX3_appendSpan 6 none 2 43 false EV_ 45 [some (.inr (3, some v0)), none, some (.inl v2), some (.inl v3), none, some (.inl v5)] [] g (if v5 < v2 then some ((), g) else bd_ (f3_appendIf v0 v5 v3 g) fun _ g1 => (f3_appendSpan_b45 n) v0 v2 v3 (v5 + (-1 : Int32)) g1)
    refine k_iload dX3_appendSpan_45 rfl ?_
    refine k_iloadn (j := 2) dX3_appendSpan_47 rfl rfl ?_
    refine k_icmplt (tgt := 64) dX3_appendSpan_48 (by decide) (fun _ => ?_) (fun _ => ?_)
    · exact k_return rfl dX3_appendSpan_64
    refine k_aloadn (j := 0) dX3_appendSpan_51 rfl rfl ?_
    refine k_iload dX3_appendSpan_52 rfl ?_
    refine k_iloadn (j := 3) dX3_appendSpan_54 rfl rfl ?_
    refine k_callVv [.inl v5, .inl v3] (t3_appendIf v0 v5 v3 g) cw_cX3_appendIf (Or.inl ml_3_37) rfl rfl (by decide) (by decide) (Nat.le_of_ble_eq_true rfl) dX3_appendSpan_55 (fun _ g1 => ?_)
    refine k_iinc (v := (v5 + (-1 : Int32))) (L' := [some (.inr (3, some v0)), none, some (.inl v2), some (.inl v3), none, some (.inl (v5 + (-1 : Int32)))]) dX3_appendSpan_58 rfl rfl (by decide) rfl ?_
    refine k_goto (tgt := 45) dX3_appendSpan_61 (by decide) ?_
    exact ih v0 v2 v3 (v5 + (-1 : Int32)) g1
def f3_appendSpan_b34 (g : GS_) : Option (Unit × GS_) :=
  some ((), g)
theorem t3_appendSpan_b34 (g : GS_) : K_ RX3 cX3_appendSpan 6 none 2 43 false EV_ 34 [none, none, none, none, none, none] [] g (f3_appendSpan_b34 g) := by
  unfold f3_appendSpan_b34
  refine k_goto (tgt := 64) dX3_appendSpan_34 (by decide) ?_
  exact k_return rfl dX3_appendSpan_64
def f3_appendSpan_b8 : Nat → Nat → Int32 → Int32 → Int32 → Int32 → GS_ → Option (Unit × GS_)
  | 0, _, _, _, _, _, _ => none
  | n + 1, v0, v2, v3, v4, v5, g =>
    if v2 < v5 then f3_appendSpan_b34 g else if v4 < v5 then f3_appendSpan_b34 g else bd_ (f3_appendIf v0 v5 v3 g) fun _ g2 => (f3_appendSpan_b8 n) v0 v2 v3 v4 (v5 + (1 : Int32)) g2
theorem t3_appendSpan_b8 : ∀ (n : Nat) (v0 : Nat) (v2 : Int32) (v3 : Int32) (v4 : Int32) (v5 : Int32) (g : GS_), K_ RX3 cX3_appendSpan 6 none 2 43 false EV_ 8 [some (.inr (3, some v0)), none, some (.inl v2), some (.inl v3), some (.inl v4), some (.inl v5)] [] g (f3_appendSpan_b8 n v0 v2 v3 v4 v5 g) := by
  intro n
  induction n with
  | zero =>
    intro v0 v2 v3 v4 v5 g
    exact k_fail
  | succ n ih =>
    intro v0 v2 v3 v4 v5 g
    show K_ RX3 cX3_appendSpan 6 none 2 43 false EV_ 8 [some (.inr (3, some v0)), none, some (.inl v2), some (.inl v3), some (.inl v4), some (.inl v5)] [] g (if v2 < v5 then f3_appendSpan_b34 g else if v4 < v5 then f3_appendSpan_b34 g else bd_ (f3_appendIf v0 v5 v3 g) fun _ g2 => (f3_appendSpan_b8 n) v0 v2 v3 v4 (v5 + (1 : Int32)) g2)
    refine k_iload dX3_appendSpan_8 rfl ?_
    refine k_iloadn (j := 2) dX3_appendSpan_10 rfl rfl ?_
    refine k_icmpgt (tgt := 34) dX3_appendSpan_11 (by decide) (fun _ => ?_) (fun _ => ?_)
    · refine k_msk (L' := [none, none, none, none, none, none]) [false, true, false, false, false, false] rfl ?_
      exact t3_appendSpan_b34 g
    refine k_iload dX3_appendSpan_14 rfl ?_
    refine k_iload dX3_appendSpan_16 rfl ?_
    refine k_icmpgt (tgt := 34) dX3_appendSpan_18 (by decide) (fun _ => ?_) (fun _ => ?_)
    · refine k_msk (L' := [none, none, none, none, none, none]) [false, true, false, false, false, false] rfl ?_
      exact t3_appendSpan_b34 g
    refine k_aloadn (j := 0) dX3_appendSpan_21 rfl rfl ?_
    refine k_iload dX3_appendSpan_22 rfl ?_
    refine k_iloadn (j := 3) dX3_appendSpan_24 rfl rfl ?_
    refine k_callVv [.inl v5, .inl v3] (t3_appendIf v0 v5 v3 g) cw_cX3_appendIf (Or.inl ml_3_37) rfl rfl (by decide) (by decide) (Nat.le_of_ble_eq_true rfl) dX3_appendSpan_25 (fun _ g2 => ?_)
    refine k_iinc (v := (v5 + (1 : Int32))) (L' := [some (.inr (3, some v0)), none, some (.inl v2), some (.inl v3), some (.inl v4), some (.inl (v5 + (1 : Int32)))]) dX3_appendSpan_28 rfl rfl (by decide) rfl ?_
    refine k_goto (tgt := 8) dX3_appendSpan_31 (by decide) ?_
    exact ih v0 v2 v3 v4 (v5 + (1 : Int32)) g2
def f3_appendSpan (v0 : Nat) (v1 : Int32) (v2 : Int32) (v3 : Int32) (v4 : Int32) (g : GS_) : Option (Unit × GS_) :=
  if v2 < v1 then lr_ (jmin v1 v4) fun z3 => f3_appendSpan_b45 FU_ v0 v2 v3 z3 g else f3_appendSpan_b8 FU_ v0 v2 v3 v4 v1 g
theorem t3_appendSpan (v0 : Nat) (v1 : Int32) (v2 : Int32) (v3 : Int32) (v4 : Int32) (g : GS_) : Cn_ yX3_appendSpan cX3_appendSpan 6 none 2 43 EV_ [.inr (3, some v0), .inl v1, .inl v2, .inl v3, .inl v4] g (f3_appendSpan v0 v1 v2 v3 v4 g) := by
  refine k_method (own := RX3) (ini := false) (L1 := [some (.inr (3, some v0)), some (.inl v1), some (.inl v2), some (.inl v3), some (.inl v4), none]) (by decide +kernel) rfl (fun h => by cases h) (Nat.le_of_ble_eq_true rfl) rfl ?_
  unfold f3_appendSpan
  refine k_iloadn (j := 1) dX3_appendSpan_0 rfl rfl ?_
  refine k_iloadn (j := 2) dX3_appendSpan_1 rfl rfl ?_
  refine k_icmpgt (tgt := 37) dX3_appendSpan_2 (by decide) (fun _ => ?_) (fun _ => ?_)
  · refine k_iloadn (j := 1) dX3_appendSpan_37 rfl rfl ?_
    refine k_iload dX3_appendSpan_38 rfl ?_
    refine k_min mw_min ml_3_41 (by decide) (Nat.le_of_ble_eq_true rfl) dX3_appendSpan_40 ?_
    refine k_istl (L2 := fun z3 => [some (.inr (3, some v0)), some (.inl v1), some (.inl v2), some (.inl v3), some (.inl v4), some (.inl z3)]) dX3_appendSpan_43 (by decide) (fun _ => rfl) (fun z3 => ?_)
    refine k_msk (L' := [some (.inr (3, some v0)), none, some (.inl v2), some (.inl v3), none, some (.inl z3)]) [true, false, true, true, false, true] rfl ?_
    exact t3_appendSpan_b45 FU_ v0 v2 v3 z3 g
  refine k_iloadn (j := 1) dX3_appendSpan_5 rfl rfl ?_
  refine k_ist (L' := [some (.inr (3, some v0)), some (.inl v1), some (.inl v2), some (.inl v3), some (.inl v4), some (.inl v1)]) dX3_appendSpan_6 (by decide) rfl ?_
  refine k_msk (L' := [some (.inr (3, some v0)), none, some (.inl v2), some (.inl v3), some (.inl v4), some (.inl v1)]) [true, false, true, true, true, true] rfl ?_
  exact t3_appendSpan_b8 FU_ v0 v2 v3 v4 v1 g
theorem dX3_removeSpan_0 : decode cX3_removeSpan 0 = .ok (.iload_n 1, 1) := by decide +kernel
theorem dX3_removeSpan_1 : decode cX3_removeSpan 1 = .ok (.iload_n 2, 1) := by decide +kernel
theorem dX3_removeSpan_2 : decode cX3_removeSpan 2 = .ok (.invokestatic 41, 3) := by decide +kernel
theorem dX3_removeSpan_5 : decode cX3_removeSpan 5 = .ok (.istore 4, 2) := by decide +kernel
theorem dX3_removeSpan_7 : decode cX3_removeSpan 7 = .ok (.iload_n 1, 1) := by decide +kernel
theorem dX3_removeSpan_8 : decode cX3_removeSpan 8 = .ok (.iload_n 2, 1) := by decide +kernel
theorem dX3_removeSpan_9 : decode cX3_removeSpan 9 = .ok (.invokestatic 27, 3) := by decide +kernel
theorem dX3_removeSpan_12 : decode cX3_removeSpan 12 = .ok (.istore 5, 2) := by decide +kernel
theorem dX3_removeSpan_14 : decode cX3_removeSpan 14 = .ok (.iconst 0, 1) := by decide +kernel
theorem dX3_removeSpan_15 : decode cX3_removeSpan 15 = .ok (.istore 6, 2) := by decide +kernel
theorem dX3_removeSpan_17 : decode cX3_removeSpan 17 = .ok (.iconst 0, 1) := by decide +kernel
theorem dX3_removeSpan_18 : decode cX3_removeSpan 18 = .ok (.istore 7, 2) := by decide +kernel
theorem dX3_removeSpan_20 : decode cX3_removeSpan 20 = .ok (.iload 7, 2) := by decide +kernel
theorem dX3_removeSpan_22 : decode cX3_removeSpan 22 = .ok (.aload_n 0, 1) := by decide +kernel
theorem dX3_removeSpan_23 : decode cX3_removeSpan 23 = .ok (.getfield 15, 3) := by decide +kernel
theorem dX3_removeSpan_26 : decode cX3_removeSpan 26 = .ok (.if_icmp .ge 85, 3) := by decide +kernel
theorem dX3_removeSpan_29 : decode cX3_removeSpan 29 = .ok (.iload 7, 2) := by decide +kernel
theorem dX3_removeSpan_31 : decode cX3_removeSpan 31 = .ok (.aload_n 0, 1) := by decide +kernel
theorem dX3_removeSpan_32 : decode cX3_removeSpan 32 = .ok (.getfield 9, 3) := by decide +kernel
theorem dX3_removeSpan_35 : decode cX3_removeSpan 35 = .ok (.arraylength, 1) := by decide +kernel
theorem dX3_removeSpan_36 : decode cX3_removeSpan 36 = .ok (.if_icmp .ge 75, 3) := by decide +kernel
theorem dX3_removeSpan_39 : decode cX3_removeSpan 39 = .ok (.aload_n 0, 1) := by decide +kernel
theorem dX3_removeSpan_40 : decode cX3_removeSpan 40 = .ok (.getfield 9, 3) := by decide +kernel
theorem dX3_removeSpan_43 : decode cX3_removeSpan 43 = .ok (.iload 7, 2) := by decide +kernel
theorem dX3_removeSpan_45 : decode cX3_removeSpan 45 = .ok (.iaload, 1) := by decide +kernel
theorem dX3_removeSpan_46 : decode cX3_removeSpan 46 = .ok (.istore 8, 2) := by decide +kernel
theorem dX3_removeSpan_48 : decode cX3_removeSpan 48 = .ok (.iload 8, 2) := by decide +kernel
theorem dX3_removeSpan_50 : decode cX3_removeSpan 50 = .ok (.iload 4, 2) := by decide +kernel
theorem dX3_removeSpan_52 : decode cX3_removeSpan 52 = .ok (.if_icmp .lt 23, 3) := by decide +kernel
theorem dX3_removeSpan_55 : decode cX3_removeSpan 55 = .ok (.iload 8, 2) := by decide +kernel
theorem dX3_removeSpan_57 : decode cX3_removeSpan 57 = .ok (.iload 5, 2) := by decide +kernel
theorem dX3_removeSpan_59 : decode cX3_removeSpan 59 = .ok (.if_icmp .gt 16, 3) := by decide +kernel
theorem dX3_removeSpan_62 : decode cX3_removeSpan 62 = .ok (.iload 8, 2) := by decide +kernel
theorem dX3_removeSpan_64 : decode cX3_removeSpan 64 = .ok (.iload_n 3, 1) := by decide +kernel
theorem dX3_removeSpan_65 : decode cX3_removeSpan 65 = .ok (.invokestatic 44, 3) := by decide +kernel
theorem dX3_removeSpan_68 : decode cX3_removeSpan 68 = .ok (.ifCond .eq 7, 3) := by decide +kernel
theorem dX3_removeSpan_71 : decode cX3_removeSpan 71 = .ok (.iconst 1, 1) := by decide +kernel
theorem dX3_removeSpan_72 : decode cX3_removeSpan 72 = .ok (.goto 4, 3) := by decide +kernel
theorem dX3_removeSpan_75 : decode cX3_removeSpan 75 = .ok (.iconst 0, 1) := by decide +kernel
theorem dX3_removeSpan_76 : decode cX3_removeSpan 76 = .ok (.istore 9, 2) := by decide +kernel
theorem dX3_removeSpan_78 : decode cX3_removeSpan 78 = .ok (.iload 9, 2) := by decide +kernel
theorem dX3_removeSpan_80 : decode cX3_removeSpan 80 = .ok (.ifCond .ne 25, 3) := by decide +kernel
theorem dX3_removeSpan_83 : decode cX3_removeSpan 83 = .ok (.iload 6, 2) := by decide +kernel
theorem dX3_removeSpan_85 : decode cX3_removeSpan 85 = .ok (.aload_n 0, 1) := by decide +kernel
theorem dX3_removeSpan_86 : decode cX3_removeSpan 86 = .ok (.getfield 9, 3) := by decide +kernel
theorem dX3_removeSpan_89 : decode cX3_removeSpan 89 = .ok (.arraylength, 1) := by decide +kernel
theorem dX3_removeSpan_90 : decode cX3_removeSpan 90 = .ok (.if_icmp .ge 15, 3) := by decide +kernel
theorem dX3_removeSpan_93 : decode cX3_removeSpan 93 = .ok (.aload_n 0, 1) := by decide +kernel
theorem dX3_removeSpan_94 : decode cX3_removeSpan 94 = .ok (.getfield 9, 3) := by decide +kernel
theorem dX3_removeSpan_97 : decode cX3_removeSpan 97 = .ok (.iload 6, 2) := by decide +kernel
theorem dX3_removeSpan_99 : decode cX3_removeSpan 99 = .ok (.iload 8, 2) := by decide +kernel
theorem dX3_removeSpan_101 : decode cX3_removeSpan 101 = .ok (.iastore, 1) := by decide +kernel
theorem dX3_removeSpan_102 : decode cX3_removeSpan 102 = .ok (.iinc 6 1, 3) := by decide +kernel
theorem dX3_removeSpan_105 : decode cX3_removeSpan 105 = .ok (.iinc 7 1, 3) := by decide +kernel
theorem dX3_removeSpan_108 : decode cX3_removeSpan 108 = .ok (.goto (-88), 3) := by decide +kernel
theorem dX3_removeSpan_111 : decode cX3_removeSpan 111 = .ok (.aload_n 0, 1) := by decide +kernel
theorem dX3_removeSpan_112 : decode cX3_removeSpan 112 = .ok (.iload 6, 2) := by decide +kernel
theorem dX3_removeSpan_114 : decode cX3_removeSpan 114 = .ok (.putfield 15, 3) := by decide +kernel
theorem dX3_removeSpan_117 : decode cX3_removeSpan 117 = .ok (.return_, 1) := by decide +kernel
def f3_removeSpan_b111 (v0 : Nat) (v6 : Int32) (g : GS_) : Option (Unit × GS_) :=
  lr_ (sfi g 97 v0 v6) fun g1 => some ((), g1)
theorem t3_removeSpan_b111 (v0 : Nat) (v6 : Int32) (g : GS_) : K_ RX3 cX3_removeSpan 10 none 1 21 false EV_ 111 [some (.inr (3, some v0)), none, none, none, none, none, some (.inl v6), none, none, none] [] g (f3_removeSpan_b111 v0 v6 g) := by
  unfold f3_removeSpan_b111
  refine k_aloadn (j := 0) dX3_removeSpan_111 rfl rfl ?_
  refine k_iload dX3_removeSpan_112 rfl ?_
  refine k_puti fp_3_15 rfl rfl dX3_removeSpan_114 (fun g1 => ?_)
  exact k_return rfl dX3_removeSpan_117
def f3_removeSpan_b105 (c20 : Nat → Int32 → Int32 → Int32 → Int32 → Int32 → GS_ → Option (Unit × GS_)) (v0 : Nat) (v3 : Int32) (v4 : Int32) (v5 : Int32) (v6 : Int32) (v7 : Int32) (g : GS_) : Option (Unit × GS_) :=
  c20 v0 v3 v4 v5 v6 (v7 + (1 : Int32)) g
theorem t3_removeSpan_b105 (c20 : Nat → Int32 → Int32 → Int32 → Int32 → Int32 → GS_ → Option (Unit × GS_)) (h20 : ∀ (v0 : Nat) (v3 : Int32) (v4 : Int32) (v5 : Int32) (v6 : Int32) (v7 : Int32) (g : GS_), K_ RX3 cX3_removeSpan 10 none 1 21 false EV_ 20 [some (.inr (3, some v0)), none, none, some (.inl v3), some (.inl v4), some (.inl v5), some (.inl v6), some (.inl v7), none, none] [] g (c20 v0 v3 v4 v5 v6 v7 g)) (v0 : Nat) (v3 : Int32) (v4 : Int32) (v5 : Int32) (v6 : Int32) (v7 : Int32) (g : GS_) : K_ RX3 cX3_removeSpan 10 none 1 21 false EV_ 105 [some (.inr (3, some v0)), none, none, some (.inl v3), some (.inl v4), some (.inl v5), some (.inl v6), some (.inl v7), none, none] [] g (f3_removeSpan_b105 c20 v0 v3 v4 v5 v6 v7 g) := by
  unfold f3_removeSpan_b105
  refine k_iinc (v := (v7 + (1 : Int32))) (L' := [some (.inr (3, some v0)), none, none, some (.inl v3), some (.inl v4), some (.inl v5), some (.inl v6), some (.inl (v7 + (1 : Int32))), none, none]) dX3_removeSpan_105 rfl rfl (by decide) rfl ?_
  refine k_goto (tgt := 20) dX3_removeSpan_108 (by decide) ?_
  exact h20 v0 v3 v4 v5 v6 (v7 + (1 : Int32)) g
def f3_removeSpan_b76 (c20 : Nat → Int32 → Int32 → Int32 → Int32 → Int32 → GS_ → Option (Unit × GS_)) (v0 : Nat) (v3 : Int32) (v4 : Int32) (v5 : Int32) (v6 : Int32) (v7 : Int32) (v8 : Int32) (s0 : Int32) (g : GS_) : Option (Unit × GS_) :=
  if s0 = 0 then lr_ (gfr g 96 v0) fun x2 => oc_ x2 none fun a3 => if (Int32.ofNat (gln g 20 a3)) ≤ v6 then f3_removeSpan_b105 c20 v0 v3 v4 v5 v6 v7 g else lr_ (gfr g 96 v0) fun x4 => oc_ x4 none fun a5 => if inb v6 (gln g 20 a5) then lr_ (sai g 20 a5 v6.toInt.toNat v8) (fun g6 => f3_removeSpan_b105 c20 v0 v3 v4 v5 (v6 + (1 : Int32)) v7 g6) else none else f3_removeSpan_b105 c20 v0 v3 v4 v5 v6 v7 g
theorem t3_removeSpan_b76 (c20 : Nat → Int32 → Int32 → Int32 → Int32 → Int32 → GS_ → Option (Unit × GS_)) (h20 : ∀ (v0 : Nat) (v3 : Int32) (v4 : Int32) (v5 : Int32) (v6 : Int32) (v7 : Int32) (g : GS_), K_ RX3 cX3_removeSpan 10 none 1 21 false EV_ 20 [some (.inr (3, some v0)), none, none, some (.inl v3), some (.inl v4), some (.inl v5), some (.inl v6), some (.inl v7), none, none] [] g (c20 v0 v3 v4 v5 v6 v7 g)) (v0 : Nat) (v3 : Int32) (v4 : Int32) (v5 : Int32) (v6 : Int32) (v7 : Int32) (v8 : Int32) (s0 : Int32) (g : GS_) : K_ RX3 cX3_removeSpan 10 none 1 21 false EV_ 76 [some (.inr (3, some v0)), none, none, some (.inl v3), some (.inl v4), some (.inl v5), some (.inl v6), some (.inl v7), some (.inl v8), none] [.inl s0] g (f3_removeSpan_b76 c20 v0 v3 v4 v5 v6 v7 v8 s0 g) := by
  unfold f3_removeSpan_b76
  refine k_ist (L' := [some (.inr (3, some v0)), none, none, some (.inl v3), some (.inl v4), some (.inl v5), some (.inl v6), some (.inl v7), some (.inl v8), some (.inl s0)]) dX3_removeSpan_76 (by decide) rfl ?_
  refine k_iload dX3_removeSpan_78 rfl ?_
  refine k_ifne (tgt := 105) dX3_removeSpan_80 (by decide) (fun _ => ?_) (fun _ => ?_)
  · refine k_iload dX3_removeSpan_83 rfl ?_
    refine k_aloadn (j := 0) dX3_removeSpan_85 rfl rfl ?_
    refine k_getr fg_3_9 rfl rfl dX3_removeSpan_86 (fun x2 => ?_)
    rcases x2 with _ | a3
    · exact k_ocn
    refine k_ocs ?_
    refine k_alen dX3_removeSpan_89 (by decide) ?_
    refine k_icmpge (tgt := 105) dX3_removeSpan_90 (by decide) (fun _ => ?_) (fun _ => ?_)
    · refine k_msk (L' := [some (.inr (3, some v0)), none, none, some (.inl v3), some (.inl v4), some (.inl v5), some (.inl v6), some (.inl v7), none, none]) [true, true, true, true, true, true, true, true, false, false] rfl ?_
      exact t3_removeSpan_b105 c20 h20 v0 v3 v4 v5 v6 v7 g
    refine k_aloadn (j := 0) dX3_removeSpan_93 rfl rfl ?_
    refine k_getr fg_3_9 rfl rfl dX3_removeSpan_94 (fun x4 => ?_)
    refine k_iload dX3_removeSpan_97 rfl ?_
    refine k_iload dX3_removeSpan_99 rfl ?_
    rcases x4 with _ | a5
    · exact k_ocn
    refine k_ocs ?_
    refine k_iast dX3_removeSpan_101 (fun g6 => ?_)
    refine k_iinc (v := (v6 + (1 : Int32))) (L' := [some (.inr (3, some v0)), none, none, some (.inl v3), some (.inl v4), some (.inl v5), some (.inl (v6 + (1 : Int32))), some (.inl v7), some (.inl v8), some (.inl s0)]) dX3_removeSpan_102 rfl rfl (by decide) rfl ?_
    refine k_msk (L' := [some (.inr (3, some v0)), none, none, some (.inl v3), some (.inl v4), some (.inl v5), some (.inl (v6 + (1 : Int32))), some (.inl v7), none, none]) [true, true, true, true, true, true, true, true, false, false] rfl ?_
    exact t3_removeSpan_b105 c20 h20 v0 v3 v4 v5 (v6 + (1 : Int32)) v7 g6
  refine k_msk (L' := [some (.inr (3, some v0)), none, none, some (.inl v3), some (.inl v4), some (.inl v5), some (.inl v6), some (.inl v7), none, none]) [true, true, true, true, true, true, true, true, false, false] rfl ?_
  exact t3_removeSpan_b105 c20 h20 v0 v3 v4 v5 v6 v7 g
def f3_removeSpan_b75 (c20 : Nat → Int32 → Int32 → Int32 → Int32 → Int32 → GS_ → Option (Unit × GS_)) (v0 : Nat) (v3 : Int32) (v4 : Int32) (v5 : Int32) (v6 : Int32) (v7 : Int32) (v8 : Int32) (g : GS_) : Option (Unit × GS_) :=
  f3_removeSpan_b76 c20 v0 v3 v4 v5 v6 v7 v8 (0 : Int32) g
theorem t3_removeSpan_b75 (c20 : Nat → Int32 → Int32 → Int32 → Int32 → Int32 → GS_ → Option (Unit × GS_)) (h20 : ∀ (v0 : Nat) (v3 : Int32) (v4 : Int32) (v5 : Int32) (v6 : Int32) (v7 : Int32) (g : GS_), K_ RX3 cX3_removeSpan 10 none 1 21 false EV_ 20 [some (.inr (3, some v0)), none, none, some (.inl v3), some (.inl v4), some (.inl v5), some (.inl v6), some (.inl v7), none, none] [] g (c20 v0 v3 v4 v5 v6 v7 g)) (v0 : Nat) (v3 : Int32) (v4 : Int32) (v5 : Int32) (v6 : Int32) (v7 : Int32) (v8 : Int32) (g : GS_) : K_ RX3 cX3_removeSpan 10 none 1 21 false EV_ 75 [some (.inr (3, some v0)), none, none, some (.inl v3), some (.inl v4), some (.inl v5), some (.inl v6), some (.inl v7), some (.inl v8), none] [] g (f3_removeSpan_b75 c20 v0 v3 v4 v5 v6 v7 v8 g) := by
  unfold f3_removeSpan_b75
  refine k_iconst (v := (0 : Int32)) dX3_removeSpan_75 rfl ?_
  exact t3_removeSpan_b76 c20 h20 v0 v3 v4 v5 v6 v7 v8 (0 : Int32) g
def f3_removeSpan_b20 : Nat → Nat → Int32 → Int32 → Int32 → Int32 → Int32 → GS_ → Option (Unit × GS_)
  | 0, _, _, _, _, _, _, _ => none
  | n + 1, v0, v3, v4, v5, v6, v7, g =>
    if (gfi g 97 v0) ≤ v7 then f3_removeSpan_b111 v0 v6 g else lr_ (gfr g 96 v0) fun x7 => oc_ x7 none fun a8 => if (Int32.ofNat (gln g 20 a8)) ≤ v7 then f3_removeSpan_b111 v0 v6 g else lr_ (gfr g 96 v0) fun x9 => oc_ x9 none fun a10 => if inb v7 (gln g 20 a10) then lr_ (gai g 20 a10 v7.toInt.toNat) fun z11 => if z11 < v4 then f3_removeSpan_b75 (f3_removeSpan_b20 n) v0 v3 v4 v5 v6 v7 z11 g else if v5 < z11 then f3_removeSpan_b75 (f3_removeSpan_b20 n) v0 v3 v4 v5 v6 v7 z11 g else bd_ (f3_matches z11 v3 g) fun z13 g12 => if z13 = 0 then f3_removeSpan_b75 (f3_removeSpan_b20 n) v0 v3 v4 v5 v6 v7 z11 g12 else f3_removeSpan_b76 (f3_removeSpan_b20 n) v0 v3 v4 v5 v6 v7 z11 (1 : Int32) g12 else none
theorem t3_removeSpan_b20 : ∀ (n : Nat) (v0 : Nat) (v3 : Int32) (v4 : Int32) (v5 : Int32) (v6 : Int32) (v7 : Int32) (g : GS_), K_ RX3 cX3_removeSpan 10 none 1 21 false EV_ 20 [some (.inr (3, some v0)), none, none, some (.inl v3), some (.inl v4), some (.inl v5), some (.inl v6), some (.inl v7), none, none] [] g (f3_removeSpan_b20 n v0 v3 v4 v5 v6 v7 g) := by
  intro n
  induction n with
  | zero =>
    intro v0 v3 v4 v5 v6 v7 g
    exact k_fail
  | succ n ih =>
    intro v0 v3 v4 v5 v6 v7 g
    show K_ RX3 cX3_removeSpan 10 none 1 21 false EV_ 20 [some (.inr (3, some v0)), none, none, some (.inl v3), some (.inl v4), some (.inl v5), some (.inl v6), some (.inl v7), none, none] [] g (if (gfi g 97 v0) ≤ v7 then f3_removeSpan_b111 v0 v6 g else lr_ (gfr g 96 v0) fun x7 => oc_ x7 none fun a8 => if (Int32.ofNat (gln g 20 a8)) ≤ v7 then f3_removeSpan_b111 v0 v6 g else lr_ (gfr g 96 v0) fun x9 => oc_ x9 none fun a10 => if inb v7 (gln g 20 a10) then lr_ (gai g 20 a10 v7.toInt.toNat) fun z11 => if z11 < v4 then f3_removeSpan_b75 (f3_removeSpan_b20 n) v0 v3 v4 v5 v6 v7 z11 g else if v5 < z11 then f3_removeSpan_b75 (f3_removeSpan_b20 n) v0 v3 v4 v5 v6 v7 z11 g else bd_ (f3_matches z11 v3 g) fun z13 g12 => if z13 = 0 then f3_removeSpan_b75 (f3_removeSpan_b20 n) v0 v3 v4 v5 v6 v7 z11 g12 else f3_removeSpan_b76 (f3_removeSpan_b20 n) v0 v3 v4 v5 v6 v7 z11 (1 : Int32) g12 else none)
    refine k_iload dX3_removeSpan_20 rfl ?_
    refine k_aloadn (j := 0) dX3_removeSpan_22 rfl rfl ?_
    refine k_geti fg_3_15 rfl rfl dX3_removeSpan_23 ?_
    refine k_icmpge (tgt := 111) dX3_removeSpan_26 (by decide) (fun _ => ?_) (fun _ => ?_)
    · refine k_msk (L' := [some (.inr (3, some v0)), none, none, none, none, none, some (.inl v6), none, none, none]) [true, true, true, false, false, false, true, false, true, true] rfl ?_
      exact t3_removeSpan_b111 v0 v6 g
    refine k_iload dX3_removeSpan_29 rfl ?_
    refine k_aloadn (j := 0) dX3_removeSpan_31 rfl rfl ?_
    refine k_getr fg_3_9 rfl rfl dX3_removeSpan_32 (fun x7 => ?_)
    rcases x7 with _ | a8
    · exact k_ocn
    refine k_ocs ?_
    refine k_alen dX3_removeSpan_35 (by decide) ?_
    refine k_icmpge (tgt := 111) dX3_removeSpan_36 (by decide) (fun _ => ?_) (fun _ => ?_)
    · refine k_msk (L' := [some (.inr (3, some v0)), none, none, none, none, none, some (.inl v6), none, none, none]) [true, true, true, false, false, false, true, false, true, true] rfl ?_
      exact t3_removeSpan_b111 v0 v6 g
    refine k_aloadn (j := 0) dX3_removeSpan_39 rfl rfl ?_
    refine k_getr fg_3_9 rfl rfl dX3_removeSpan_40 (fun x9 => ?_)
    refine k_iload dX3_removeSpan_43 rfl ?_
    rcases x9 with _ | a10
    · exact k_ocn
    refine k_ocs ?_
    refine k_iald dX3_removeSpan_45 ?_
    refine k_istl (L2 := fun z11 => [some (.inr (3, some v0)), none, none, some (.inl v3), some (.inl v4), some (.inl v5), some (.inl v6), some (.inl v7), some (.inl z11), none]) dX3_removeSpan_46 (by decide) (fun _ => rfl) (fun z11 => ?_)
    refine k_iload dX3_removeSpan_48 rfl ?_
    refine k_iload dX3_removeSpan_50 rfl ?_
    refine k_icmplt (tgt := 75) dX3_removeSpan_52 (by decide) (fun _ => ?_) (fun _ => ?_)
    · exact t3_removeSpan_b75 (f3_removeSpan_b20 n) ih v0 v3 v4 v5 v6 v7 z11 g
    refine k_iload dX3_removeSpan_55 rfl ?_
    refine k_iload dX3_removeSpan_57 rfl ?_
    refine k_icmpgt (tgt := 75) dX3_removeSpan_59 (by decide) (fun _ => ?_) (fun _ => ?_)
    · exact t3_removeSpan_b75 (f3_removeSpan_b20 n) ih v0 v3 v4 v5 v6 v7 z11 g
    refine k_iload dX3_removeSpan_62 rfl ?_
    refine k_iloadn (j := 3) dX3_removeSpan_64 rfl rfl ?_
    refine k_callSi [.inl z11, .inl v3] (t3_matches z11 v3 g) cw_cX3_matches ml_3_44 rfl rfl (by decide) (by decide) (Nat.le_of_ble_eq_true rfl) dX3_removeSpan_65 (fun z13 g12 => ?_)
    refine k_ifeq (tgt := 75) dX3_removeSpan_68 (by decide) (fun _ => ?_) (fun _ => ?_)
    · exact t3_removeSpan_b75 (f3_removeSpan_b20 n) ih v0 v3 v4 v5 v6 v7 z11 g12
    refine k_iconst (v := (1 : Int32)) dX3_removeSpan_71 rfl ?_
    refine k_goto (tgt := 76) dX3_removeSpan_72 (by decide) ?_
    exact t3_removeSpan_b76 (f3_removeSpan_b20 n) ih v0 v3 v4 v5 v6 v7 z11 (1 : Int32) g12
def f3_removeSpan (v0 : Nat) (v1 : Int32) (v2 : Int32) (v3 : Int32) (g : GS_) : Option (Unit × GS_) :=
  lr_ (jmin v1 v2) fun z14 => lr_ (jmax v1 v2) fun z15 => f3_removeSpan_b20 FU_ v0 v3 z14 z15 (0 : Int32) (0 : Int32) g
theorem t3_removeSpan (v0 : Nat) (v1 : Int32) (v2 : Int32) (v3 : Int32) (g : GS_) : Cn_ yX3_removeSpan cX3_removeSpan 10 none 1 21 EV_ [.inr (3, some v0), .inl v1, .inl v2, .inl v3] g (f3_removeSpan v0 v1 v2 v3 g) := by
  refine k_method (own := RX3) (ini := false) (L1 := [some (.inr (3, some v0)), some (.inl v1), some (.inl v2), some (.inl v3), none, none, none, none, none, none]) (by decide +kernel) rfl (fun h => by cases h) (Nat.le_of_ble_eq_true rfl) rfl ?_
  unfold f3_removeSpan
  refine k_iloadn (j := 1) dX3_removeSpan_0 rfl rfl ?_
  refine k_iloadn (j := 2) dX3_removeSpan_1 rfl rfl ?_
  refine k_min mw_min ml_3_41 (by decide) (Nat.le_of_ble_eq_true rfl) dX3_removeSpan_2 ?_
  refine k_istl (L2 := fun z14 => [some (.inr (3, some v0)), some (.inl v1), some (.inl v2), some (.inl v3), some (.inl z14), none, none, none, none, none]) dX3_removeSpan_5 (by decide) (fun _ => rfl) (fun z14 => ?_)
  refine k_iloadn (j := 1) dX3_removeSpan_7 rfl rfl ?_
  refine k_iloadn (j := 2) dX3_removeSpan_8 rfl rfl ?_
  refine k_max mw_max ml_3_27 (by decide) (Nat.le_of_ble_eq_true rfl) dX3_removeSpan_9 ?_
  refine k_istl (L2 := fun z15 => [some (.inr (3, some v0)), some (.inl v1), some (.inl v2), some (.inl v3), some (.inl z14), some (.inl z15), none, none, none, none]) dX3_removeSpan_12 (by decide) (fun _ => rfl) (fun z15 => ?_)
  refine k_iconst (v := (0 : Int32)) dX3_removeSpan_14 rfl ?_
  refine k_ist (L' := [some (.inr (3, some v0)), some (.inl v1), some (.inl v2), some (.inl v3), some (.inl z14), some (.inl z15), some (.inl (0 : Int32)), none, none, none]) dX3_removeSpan_15 (by decide) rfl ?_
  refine k_iconst (v := (0 : Int32)) dX3_removeSpan_17 rfl ?_
  refine k_ist (L' := [some (.inr (3, some v0)), some (.inl v1), some (.inl v2), some (.inl v3), some (.inl z14), some (.inl z15), some (.inl (0 : Int32)), some (.inl (0 : Int32)), none, none]) dX3_removeSpan_18 (by decide) rfl ?_
  refine k_msk (L' := [some (.inr (3, some v0)), none, none, some (.inl v3), some (.inl z14), some (.inl z15), some (.inl (0 : Int32)), some (.inl (0 : Int32)), none, none]) [true, false, false, true, true, true, true, true, true, true] rfl ?_
  exact t3_removeSpan_b20 FU_ v0 v3 z14 z15 (0 : Int32) (0 : Int32) g
theorem dX4_blankPositions_0 : decode cX4_blankPositions 0 = .ok (.aload_n 0, 1) := by decide +kernel
theorem dX4_blankPositions_1 : decode cX4_blankPositions 1 = .ok (.getfield 65, 3) := by decide +kernel
theorem dX4_blankPositions_4 : decode cX4_blankPositions 4 = .ok (.aload_n 0, 1) := by decide +kernel
theorem dX4_blankPositions_5 : decode cX4_blankPositions 5 = .ok (.getfield 59, 3) := by decide +kernel
theorem dX4_blankPositions_8 : decode cX4_blankPositions 8 = .ok (.ifCond .eq 7, 3) := by decide +kernel
theorem dX4_blankPositions_11 : decode cX4_blankPositions 11 = .ok (.iconst 2, 1) := by decide +kernel
theorem dX4_blankPositions_12 : decode cX4_blankPositions 12 = .ok (.goto 4, 3) := by decide +kernel
theorem dX4_blankPositions_15 : decode cX4_blankPositions 15 = .ok (.iconst 1, 1) := by decide +kernel
theorem dX4_blankPositions_16 : decode cX4_blankPositions 16 = .ok (.imul, 1) := by decide +kernel
theorem dX4_blankPositions_17 : decode cX4_blankPositions 17 = .ok (.aload_n 0, 1) := by decide +kernel
theorem dX4_blankPositions_18 : decode cX4_blankPositions 18 = .ok (.getfield 62, 3) := by decide +kernel
theorem dX4_blankPositions_21 : decode cX4_blankPositions 21 = .ok (.imul, 1) := by decide +kernel
theorem dX4_blankPositions_22 : decode cX4_blankPositions 22 = .ok (.aload_n 0, 1) := by decide +kernel
theorem dX4_blankPositions_23 : decode cX4_blankPositions 23 = .ok (.getfield 19, 3) := by decide +kernel
theorem dX4_blankPositions_26 : decode cX4_blankPositions 26 = .ok (.arraylength, 1) := by decide +kernel
theorem dX4_blankPositions_27 : decode cX4_blankPositions 27 = .ok (.isub, 1) := by decide +kernel
theorem dX4_blankPositions_28 : decode cX4_blankPositions 28 = .ok (.istore_n 1, 1) := by decide +kernel
theorem dX4_blankPositions_29 : decode cX4_blankPositions 29 = .ok (.aload_n 0, 1) := by decide +kernel
theorem dX4_blankPositions_30 : decode cX4_blankPositions 30 = .ok (.getfield 35, 3) := by decide +kernel
theorem dX4_blankPositions_33 : decode cX4_blankPositions 33 = .ok (.iload_n 1, 1) := by decide +kernel
theorem dX4_blankPositions_34 : decode cX4_blankPositions 34 = .ok (.imul, 1) := by decide +kernel
theorem dX4_blankPositions_35 : decode cX4_blankPositions 35 = .ok (.ireturn, 1) := by decide +kernel
def f4_blankPositions_b16 (v0 : Nat) (s0 : Int32) (s1 : Int32) (g : GS_) : Option (Int32 × GS_) :=
  lr_ (gfr g 130 v0) fun x1 => oc_ x1 none fun a2 => lr_ (((s0 * s1) * (gfi g 138 v0)) - (Int32.ofNat (gln g 20 a2))) fun z3 => some (((gfi g 131 v0) * z3), g)
theorem t4_blankPositions_b16 (v0 : Nat) (s0 : Int32) (s1 : Int32) (g : GS_) : K_ RX4 cX4_blankPositions 2 (some .int) 0 0 false EI_ 16 [some (.inr (4, some v0)), none] [.inl s1, .inl s0] g (f4_blankPositions_b16 v0 s0 s1 g) := by
  unfold f4_blankPositions_b16
  refine k_imul dX4_blankPositions_16 ?_
  refine k_aloadn (j := 0) dX4_blankPositions_17 rfl rfl ?_
  refine k_geti fg_4_62 rfl rfl dX4_blankPositions_18 ?_
  refine k_imul dX4_blankPositions_21 ?_
  refine k_aloadn (j := 0) dX4_blankPositions_22 rfl rfl ?_
  refine k_getr fg_4_19 rfl rfl dX4_blankPositions_23 (fun x1 => ?_)
  rcases x1 with _ | a2
  · exact k_ocn
  refine k_ocs ?_
  refine k_alen dX4_blankPositions_26 (by decide) ?_
  refine k_isub dX4_blankPositions_27 ?_
  refine k_istnl (j := 1) (L2 := fun z3 => [some (.inr (4, some v0)), some (.inl z3)]) dX4_blankPositions_28 rfl (by decide) (fun _ => rfl) (fun z3 => ?_)
  refine k_aloadn (j := 0) dX4_blankPositions_29 rfl rfl ?_
  refine k_geti fg_4_35 rfl rfl dX4_blankPositions_30 ?_
  refine k_iloadn (j := 1) dX4_blankPositions_33 rfl rfl ?_
  refine k_imul dX4_blankPositions_34 ?_
  exact k_ireturn rfl dX4_blankPositions_35
def f4_blankPositions (v0 : Nat) (g : GS_) : Option (Int32 × GS_) :=
  if (gfi g 137 v0) = 0 then f4_blankPositions_b16 v0 (gfi g 139 v0) (1 : Int32) g else f4_blankPositions_b16 v0 (gfi g 139 v0) (2 : Int32) g
theorem t4_blankPositions (v0 : Nat) (g : GS_) : Cn_ yX4_blankPositions cX4_blankPositions 2 (some .int) 0 0 EI_ [.inr (4, some v0)] g (f4_blankPositions v0 g) := by
  refine k_method (own := RX4) (ini := false) (L1 := [some (.inr (4, some v0)), none]) (by decide +kernel) rfl (fun h => by cases h) (Nat.le_of_ble_eq_true rfl) rfl ?_
  unfold f4_blankPositions
  refine k_aloadn (j := 0) dX4_blankPositions_0 rfl rfl ?_
  refine k_geti fg_4_65 rfl rfl dX4_blankPositions_1 ?_
  refine k_aloadn (j := 0) dX4_blankPositions_4 rfl rfl ?_
  refine k_geti fg_4_59 rfl rfl dX4_blankPositions_5 ?_
  refine k_ifeq (tgt := 15) dX4_blankPositions_8 (by decide) (fun _ => ?_) (fun _ => ?_)
  · refine k_iconst (v := (1 : Int32)) dX4_blankPositions_15 rfl ?_
    exact t4_blankPositions_b16 v0 (gfi g 139 v0) (1 : Int32) g
  refine k_iconst (v := (2 : Int32)) dX4_blankPositions_11 rfl ?_
  refine k_goto (tgt := 16) dX4_blankPositions_12 (by decide) ?_
  exact t4_blankPositions_b16 v0 (gfi g 139 v0) (2 : Int32) g
theorem dX4_hasSide_0 : decode cX4_hasSide 0 = .ok (.iload_n 1, 1) := by decide +kernel
theorem dX4_hasSide_1 : decode cX4_hasSide 1 = .ok (.ifCond .eq 15, 3) := by decide +kernel
theorem dX4_hasSide_4 : decode cX4_hasSide 4 = .ok (.iload_n 1, 1) := by decide +kernel
theorem dX4_hasSide_5 : decode cX4_hasSide 5 = .ok (.iconst 1, 1) := by decide +kernel
theorem dX4_hasSide_6 : decode cX4_hasSide 6 = .ok (.if_icmp .ne 14, 3) := by decide +kernel
theorem dX4_hasSide_9 : decode cX4_hasSide 9 = .ok (.aload_n 0, 1) := by decide +kernel
theorem dX4_hasSide_10 : decode cX4_hasSide 10 = .ok (.getfield 59, 3) := by decide +kernel
theorem dX4_hasSide_13 : decode cX4_hasSide 13 = .ok (.ifCond .eq 7, 3) := by decide +kernel
theorem dX4_hasSide_16 : decode cX4_hasSide 16 = .ok (.iconst 1, 1) := by decide +kernel
theorem dX4_hasSide_17 : decode cX4_hasSide 17 = .ok (.goto 4, 3) := by decide +kernel
theorem dX4_hasSide_20 : decode cX4_hasSide 20 = .ok (.iconst 0, 1) := by decide +kernel
theorem dX4_hasSide_21 : decode cX4_hasSide 21 = .ok (.ireturn, 1) := by decide +kernel
def f4_hasSide_b16 (g : GS_) : Option (Int32 × GS_) :=
  some ((1 : Int32), g)
theorem t4_hasSide_b16 (g : GS_) : K_ RX4 cX4_hasSide 2 (some .boolean) 0 0 false EI_ 16 [none, none] [] g (f4_hasSide_b16 g) := by
  unfold f4_hasSide_b16
  refine k_iconst (v := (1 : Int32)) dX4_hasSide_16 rfl ?_
  refine k_goto (tgt := 21) dX4_hasSide_17 (by decide) ?_
  exact k_zreturn rfl (by decide) dX4_hasSide_21
def f4_hasSide_b20 (g : GS_) : Option (Int32 × GS_) :=
  some ((0 : Int32), g)
theorem t4_hasSide_b20 (g : GS_) : K_ RX4 cX4_hasSide 2 (some .boolean) 0 0 false EI_ 20 [none, none] [] g (f4_hasSide_b20 g) := by
  unfold f4_hasSide_b20
  refine k_iconst (v := (0 : Int32)) dX4_hasSide_20 rfl ?_
  exact k_zreturn rfl (by decide) dX4_hasSide_21
def f4_hasSide (v0 : Nat) (v1 : Int32) (g : GS_) : Option (Int32 × GS_) :=
  if v1 = 0 then f4_hasSide_b16 g else if v1 = (1 : Int32) then if (gfi g 137 v0) = 0 then f4_hasSide_b20 g else f4_hasSide_b16 g else f4_hasSide_b20 g
theorem t4_hasSide (v0 : Nat) (v1 : Int32) (g : GS_) : Cn_ yX4_hasSide cX4_hasSide 2 (some .boolean) 0 0 EI_ [.inr (4, some v0), .inl v1] g (f4_hasSide v0 v1 g) := by
  refine k_method (own := RX4) (ini := false) (L1 := [some (.inr (4, some v0)), some (.inl v1)]) (by decide +kernel) rfl (fun h => by cases h) (Nat.le_of_ble_eq_true rfl) rfl ?_
  unfold f4_hasSide
  refine k_iloadn (j := 1) dX4_hasSide_0 rfl rfl ?_
  refine k_ifeq (tgt := 16) dX4_hasSide_1 (by decide) (fun _ => ?_) (fun _ => ?_)
  · refine k_msk (L' := [none, none]) [false, false] rfl ?_
    exact t4_hasSide_b16 g
  refine k_iloadn (j := 1) dX4_hasSide_4 rfl rfl ?_
  refine k_iconst (v := (1 : Int32)) dX4_hasSide_5 rfl ?_
  refine k_icmpne (tgt := 20) dX4_hasSide_6 (by decide) (fun _ => ?_) (fun _ => ?_)
  · refine k_aloadn (j := 0) dX4_hasSide_9 rfl rfl ?_
    refine k_geti fg_4_59 rfl rfl dX4_hasSide_10 ?_
    refine k_ifeq (tgt := 20) dX4_hasSide_13 (by decide) (fun _ => ?_) (fun _ => ?_)
    · refine k_msk (L' := [none, none]) [false, false] rfl ?_
      exact t4_hasSide_b20 g
    refine k_msk (L' := [none, none]) [false, false] rfl ?_
    exact t4_hasSide_b16 g
  refine k_msk (L' := [none, none]) [false, false] rfl ?_
  exact t4_hasSide_b20 g
theorem dX4_loadOn_0 : decode cX4_loadOn 0 = .ok (.aload_n 0, 1) := by decide +kernel
theorem dX4_loadOn_1 : decode cX4_loadOn 1 = .ok (.iload_n 2, 1) := by decide +kernel
theorem dX4_loadOn_2 : decode cX4_loadOn 2 = .ok (.invokevirtual 82, 3) := by decide +kernel
theorem dX4_loadOn_5 : decode cX4_loadOn 5 = .ok (.ifCond .ne 5, 3) := by decide +kernel
theorem dX4_loadOn_8 : decode cX4_loadOn 8 = .ok (.iconst (-1), 1) := by decide +kernel
theorem dX4_loadOn_9 : decode cX4_loadOn 9 = .ok (.ireturn, 1) := by decide +kernel
theorem dX4_loadOn_10 : decode cX4_loadOn 10 = .ok (.aload_n 0, 1) := by decide +kernel
theorem dX4_loadOn_11 : decode cX4_loadOn 11 = .ok (.getfield 59, 3) := by decide +kernel
theorem dX4_loadOn_14 : decode cX4_loadOn 14 = .ok (.ifCond .eq 11, 3) := by decide +kernel
theorem dX4_loadOn_17 : decode cX4_loadOn 17 = .ok (.iconst 2, 1) := by decide +kernel
theorem dX4_loadOn_18 : decode cX4_loadOn 18 = .ok (.iload_n 1, 1) := by decide +kernel
theorem dX4_loadOn_19 : decode cX4_loadOn 19 = .ok (.imul, 1) := by decide +kernel
theorem dX4_loadOn_20 : decode cX4_loadOn 20 = .ok (.iload_n 2, 1) := by decide +kernel
theorem dX4_loadOn_21 : decode cX4_loadOn 21 = .ok (.iadd, 1) := by decide +kernel
theorem dX4_loadOn_22 : decode cX4_loadOn 22 = .ok (.goto 4, 3) := by decide +kernel
theorem dX4_loadOn_25 : decode cX4_loadOn 25 = .ok (.iload_n 1, 1) := by decide +kernel
theorem dX4_loadOn_26 : decode cX4_loadOn 26 = .ok (.istore_n 3, 1) := by decide +kernel
theorem dX4_loadOn_27 : decode cX4_loadOn 27 = .ok (.iload_n 3, 1) := by decide +kernel
theorem dX4_loadOn_28 : decode cX4_loadOn 28 = .ok (.ifCond .lt 21, 3) := by decide +kernel
theorem dX4_loadOn_31 : decode cX4_loadOn 31 = .ok (.iload_n 3, 1) := by decide +kernel
theorem dX4_loadOn_32 : decode cX4_loadOn 32 = .ok (.aload_n 0, 1) := by decide +kernel
theorem dX4_loadOn_33 : decode cX4_loadOn 33 = .ok (.getfield 68, 3) := by decide +kernel
theorem dX4_loadOn_36 : decode cX4_loadOn 36 = .ok (.arraylength, 1) := by decide +kernel
theorem dX4_loadOn_37 : decode cX4_loadOn 37 = .ok (.if_icmp .ge 12, 3) := by decide +kernel
theorem dX4_loadOn_40 : decode cX4_loadOn 40 = .ok (.aload_n 0, 1) := by decide +kernel
theorem dX4_loadOn_41 : decode cX4_loadOn 41 = .ok (.getfield 68, 3) := by decide +kernel
theorem dX4_loadOn_44 : decode cX4_loadOn 44 = .ok (.iload_n 3, 1) := by decide +kernel
theorem dX4_loadOn_45 : decode cX4_loadOn 45 = .ok (.iaload, 1) := by decide +kernel
theorem dX4_loadOn_46 : decode cX4_loadOn 46 = .ok (.goto 4, 3) := by decide +kernel
theorem dX4_loadOn_49 : decode cX4_loadOn 49 = .ok (.iconst (-1), 1) := by decide +kernel
theorem dX4_loadOn_50 : decode cX4_loadOn 50 = .ok (.ireturn, 1) := by decide +kernel
def f4_loadOn_b49 (g : GS_) : Option (Int32 × GS_) :=
  some ((-1 : Int32), g)
theorem t4_loadOn_b49 (g : GS_) : K_ RX4 cX4_loadOn 4 (some .int) 1 21 false EI_ 49 [none, none, none, none] [] g (f4_loadOn_b49 g) := by
  unfold f4_loadOn_b49
  refine k_iconst (v := (-1 : Int32)) dX4_loadOn_49 rfl ?_
  exact k_ireturn rfl dX4_loadOn_50
def f4_loadOn_b26 (v0 : Nat) (s0 : Int32) (g : GS_) : Option (Int32 × GS_) :=
  if s0 < 0 then f4_loadOn_b49 g else lr_ (gfr g 140 v0) fun x1 => oc_ x1 none fun a2 => if (Int32.ofNat (gln g 20 a2)) ≤ s0 then f4_loadOn_b49 g else lr_ (gfr g 140 v0) fun x3 => oc_ x3 none fun a4 => if inb s0 (gln g 20 a4) then some ((gai g 20 a4 s0.toInt.toNat), g) else none
theorem t4_loadOn_b26 (v0 : Nat) (s0 : Int32) (g : GS_) : K_ RX4 cX4_loadOn 4 (some .int) 1 21 false EI_ 26 [some (.inr (4, some v0)), none, none, none] [.inl s0] g (f4_loadOn_b26 v0 s0 g) := by
  unfold f4_loadOn_b26
  refine k_istn (j := 3) (L' := [some (.inr (4, some v0)), none, none, some (.inl s0)]) dX4_loadOn_26 rfl (by decide) rfl ?_
  refine k_iloadn (j := 3) dX4_loadOn_27 rfl rfl ?_
  refine k_iflt (tgt := 49) dX4_loadOn_28 (by decide) (fun _ => ?_) (fun _ => ?_)
  · refine k_msk (L' := [none, none, none, none]) [false, true, true, false] rfl ?_
    exact t4_loadOn_b49 g
  refine k_iloadn (j := 3) dX4_loadOn_31 rfl rfl ?_
  refine k_aloadn (j := 0) dX4_loadOn_32 rfl rfl ?_
  refine k_getr fg_4_68 rfl rfl dX4_loadOn_33 (fun x1 => ?_)
  rcases x1 with _ | a2
  · exact k_ocn
  refine k_ocs ?_
  refine k_alen dX4_loadOn_36 (by decide) ?_
  refine k_icmpge (tgt := 49) dX4_loadOn_37 (by decide) (fun _ => ?_) (fun _ => ?_)
  · refine k_msk (L' := [none, none, none, none]) [false, true, true, false] rfl ?_
    exact t4_loadOn_b49 g
  refine k_aloadn (j := 0) dX4_loadOn_40 rfl rfl ?_
  refine k_getr fg_4_68 rfl rfl dX4_loadOn_41 (fun x3 => ?_)
  refine k_iloadn (j := 3) dX4_loadOn_44 rfl rfl ?_
  rcases x3 with _ | a4
  · exact k_ocn
  refine k_ocs ?_
  refine k_iald dX4_loadOn_45 ?_
  refine k_goto (tgt := 50) dX4_loadOn_46 (by decide) ?_
  exact k_ireturn rfl dX4_loadOn_50
def f4_loadOn (v0 : Nat) (v1 : Int32) (v2 : Int32) (g : GS_) : Option (Int32 × GS_) :=
  bd_ (f4_hasSide v0 v2 g) fun z6 g5 => if z6 = 0 then some ((-1 : Int32), g5) else if (gfi g5 137 v0) = 0 then f4_loadOn_b26 v0 v1 g5 else f4_loadOn_b26 v0 (((2 : Int32) * v1) + v2) g5
theorem t4_loadOn (v0 : Nat) (v1 : Int32) (v2 : Int32) (g : GS_) : Cn_ yX4_loadOn cX4_loadOn 4 (some .int) 1 21 EI_ [.inr (4, some v0), .inl v1, .inl v2] g (f4_loadOn v0 v1 v2 g) := by
  refine k_method (own := RX4) (ini := false) (L1 := [some (.inr (4, some v0)), some (.inl v1), some (.inl v2), none]) (by decide +kernel) rfl (fun h => by cases h) (Nat.le_of_ble_eq_true rfl) rfl ?_
  unfold f4_loadOn
  refine k_aloadn (j := 0) dX4_loadOn_0 rfl rfl ?_
  refine k_iloadn (j := 2) dX4_loadOn_1 rfl rfl ?_
  refine k_callVi [.inl v2] (t4_hasSide v0 v2 g) cw_cX4_hasSide (Or.inl ml_4_82) rfl rfl (by decide) (by decide) (Nat.le_of_ble_eq_true rfl) dX4_loadOn_2 (fun z6 g5 => ?_)
  refine k_ifne (tgt := 10) dX4_loadOn_5 (by decide) (fun _ => ?_) (fun _ => ?_)
  · refine k_iconst (v := (-1 : Int32)) dX4_loadOn_8 rfl ?_
    exact k_ireturn rfl dX4_loadOn_9
  refine k_aloadn (j := 0) dX4_loadOn_10 rfl rfl ?_
  refine k_geti fg_4_59 rfl rfl dX4_loadOn_11 ?_
  refine k_ifeq (tgt := 25) dX4_loadOn_14 (by decide) (fun _ => ?_) (fun _ => ?_)
  · refine k_iloadn (j := 1) dX4_loadOn_25 rfl rfl ?_
    refine k_msk (L' := [some (.inr (4, some v0)), none, none, none]) [true, false, false, true] rfl ?_
    exact t4_loadOn_b26 v0 v1 g5
  refine k_iconst (v := (2 : Int32)) dX4_loadOn_17 rfl ?_
  refine k_iloadn (j := 1) dX4_loadOn_18 rfl rfl ?_
  refine k_imul dX4_loadOn_19 ?_
  refine k_iloadn (j := 2) dX4_loadOn_20 rfl rfl ?_
  refine k_iadd dX4_loadOn_21 ?_
  refine k_goto (tgt := 26) dX4_loadOn_22 (by decide) ?_
  refine k_msk (L' := [some (.inr (4, some v0)), none, none, none]) [true, false, false, true] rfl ?_
  exact t4_loadOn_b26 v0 (((2 : Int32) * v1) + v2) g5
theorem dX4_indexOn_0 : decode cX4_indexOn 0 = .ok (.aload_n 0, 1) := by decide +kernel
theorem dX4_indexOn_1 : decode cX4_indexOn 1 = .ok (.getfield 55, 3) := by decide +kernel
theorem dX4_indexOn_4 : decode cX4_indexOn 4 = .ok (.ifCond .ne 27, 3) := by decide +kernel
theorem dX4_indexOn_7 : decode cX4_indexOn 7 = .ok (.aload_n 0, 1) := by decide +kernel
theorem dX4_indexOn_8 : decode cX4_indexOn 8 = .ok (.getfield 59, 3) := by decide +kernel
theorem dX4_indexOn_11 : decode cX4_indexOn 11 = .ok (.ifCond .eq 11, 3) := by decide +kernel
theorem dX4_indexOn_14 : decode cX4_indexOn 14 = .ok (.iconst 2, 1) := by decide +kernel
theorem dX4_indexOn_15 : decode cX4_indexOn 15 = .ok (.iload_n 1, 1) := by decide +kernel
theorem dX4_indexOn_16 : decode cX4_indexOn 16 = .ok (.imul, 1) := by decide +kernel
theorem dX4_indexOn_17 : decode cX4_indexOn 17 = .ok (.iload_n 2, 1) := by decide +kernel
theorem dX4_indexOn_18 : decode cX4_indexOn 18 = .ok (.iadd, 1) := by decide +kernel
theorem dX4_indexOn_19 : decode cX4_indexOn 19 = .ok (.goto 4, 3) := by decide +kernel
theorem dX4_indexOn_22 : decode cX4_indexOn 22 = .ok (.iload_n 1, 1) := by decide +kernel
theorem dX4_indexOn_23 : decode cX4_indexOn 23 = .ok (.aload_n 0, 1) := by decide +kernel
theorem dX4_indexOn_24 : decode cX4_indexOn 24 = .ok (.getfield 62, 3) := by decide +kernel
theorem dX4_indexOn_27 : decode cX4_indexOn 27 = .ok (.imul, 1) := by decide +kernel
theorem dX4_indexOn_28 : decode cX4_indexOn 28 = .ok (.iload_n 3, 1) := by decide +kernel
theorem dX4_indexOn_29 : decode cX4_indexOn 29 = .ok (.iadd, 1) := by decide +kernel
theorem dX4_indexOn_30 : decode cX4_indexOn 30 = .ok (.ireturn, 1) := by decide +kernel
theorem dX4_indexOn_31 : decode cX4_indexOn 31 = .ok (.iconst 2, 1) := by decide +kernel
theorem dX4_indexOn_32 : decode cX4_indexOn 32 = .ok (.iload_n 1, 1) := by decide +kernel
theorem dX4_indexOn_33 : decode cX4_indexOn 33 = .ok (.imul, 1) := by decide +kernel
theorem dX4_indexOn_34 : decode cX4_indexOn 34 = .ok (.iload_n 2, 1) := by decide +kernel
theorem dX4_indexOn_35 : decode cX4_indexOn 35 = .ok (.iadd, 1) := by decide +kernel
theorem dX4_indexOn_36 : decode cX4_indexOn 36 = .ok (.istore 4, 2) := by decide +kernel
theorem dX4_indexOn_38 : decode cX4_indexOn 38 = .ok (.iload_n 3, 1) := by decide +kernel
theorem dX4_indexOn_39 : decode cX4_indexOn 39 = .ok (.iconst 1, 1) := by decide +kernel
theorem dX4_indexOn_40 : decode cX4_indexOn 40 = .ok (.if_icmp .ne 7, 3) := by decide +kernel
theorem dX4_indexOn_43 : decode cX4_indexOn 43 = .ok (.iconst 1, 1) := by decide +kernel
theorem dX4_indexOn_44 : decode cX4_indexOn 44 = .ok (.goto 4, 3) := by decide +kernel
theorem dX4_indexOn_47 : decode cX4_indexOn 47 = .ok (.iconst 0, 1) := by decide +kernel
theorem dX4_indexOn_48 : decode cX4_indexOn 48 = .ok (.iload_n 2, 1) := by decide +kernel
theorem dX4_indexOn_49 : decode cX4_indexOn 49 = .ok (.ifCond .ne 7, 3) := by decide +kernel
theorem dX4_indexOn_52 : decode cX4_indexOn 52 = .ok (.iconst 1, 1) := by decide +kernel
theorem dX4_indexOn_53 : decode cX4_indexOn 53 = .ok (.goto 4, 3) := by decide +kernel
theorem dX4_indexOn_56 : decode cX4_indexOn 56 = .ok (.iconst 0, 1) := by decide +kernel
theorem dX4_indexOn_57 : decode cX4_indexOn 57 = .ok (.if_icmp .ne 7, 3) := by decide +kernel
theorem dX4_indexOn_60 : decode cX4_indexOn 60 = .ok (.iconst 1, 1) := by decide +kernel
theorem dX4_indexOn_61 : decode cX4_indexOn 61 = .ok (.goto 4, 3) := by decide +kernel
theorem dX4_indexOn_64 : decode cX4_indexOn 64 = .ok (.iconst 0, 1) := by decide +kernel
theorem dX4_indexOn_65 : decode cX4_indexOn 65 = .ok (.istore 5, 2) := by decide +kernel
theorem dX4_indexOn_67 : decode cX4_indexOn 67 = .ok (.iload 5, 2) := by decide +kernel
theorem dX4_indexOn_69 : decode cX4_indexOn 69 = .ok (.ifCond .eq 8, 3) := by decide +kernel
theorem dX4_indexOn_72 : decode cX4_indexOn 72 = .ok (.iload 4, 2) := by decide +kernel
theorem dX4_indexOn_74 : decode cX4_indexOn 74 = .ok (.goto 14, 3) := by decide +kernel
theorem dX4_indexOn_77 : decode cX4_indexOn 77 = .ok (.iconst 4, 1) := by decide +kernel
theorem dX4_indexOn_78 : decode cX4_indexOn 78 = .ok (.aload_n 0, 1) := by decide +kernel
theorem dX4_indexOn_79 : decode cX4_indexOn 79 = .ok (.getfield 65, 3) := by decide +kernel
theorem dX4_indexOn_82 : decode cX4_indexOn 82 = .ok (.imul, 1) := by decide +kernel
theorem dX4_indexOn_83 : decode cX4_indexOn 83 = .ok (.iconst 1, 1) := by decide +kernel
theorem dX4_indexOn_84 : decode cX4_indexOn 84 = .ok (.isub, 1) := by decide +kernel
theorem dX4_indexOn_85 : decode cX4_indexOn 85 = .ok (.iload 4, 2) := by decide +kernel
theorem dX4_indexOn_87 : decode cX4_indexOn 87 = .ok (.isub, 1) := by decide +kernel
theorem dX4_indexOn_88 : decode cX4_indexOn 88 = .ok (.ireturn, 1) := by decide +kernel
def f4_indexOn_b65 (v0 : Nat) (v4 : Int32) (s0 : Int32) (g : GS_) : Option (Int32 × GS_) :=
  if s0 = 0 then some (((((4 : Int32) * (gfi g 139 v0)) - (1 : Int32)) - v4), g) else some (v4, g)
theorem t4_indexOn_b65 (v0 : Nat) (v4 : Int32) (s0 : Int32) (g : GS_) : K_ RX4 cX4_indexOn 6 (some .int) 0 0 false EI_ 65 [some (.inr (4, some v0)), none, none, none, some (.inl v4), none] [.inl s0] g (f4_indexOn_b65 v0 v4 s0 g) := by
  unfold f4_indexOn_b65
  refine k_ist (L' := [some (.inr (4, some v0)), none, none, none, some (.inl v4), some (.inl s0)]) dX4_indexOn_65 (by decide) rfl ?_
  refine k_iload dX4_indexOn_67 rfl ?_
  refine k_ifeq (tgt := 77) dX4_indexOn_69 (by decide) (fun _ => ?_) (fun _ => ?_)
  · refine k_iconst (v := (4 : Int32)) dX4_indexOn_77 rfl ?_
    refine k_aloadn (j := 0) dX4_indexOn_78 rfl rfl ?_
    refine k_geti fg_4_65 rfl rfl dX4_indexOn_79 ?_
    refine k_imul dX4_indexOn_82 ?_
    refine k_iconst (v := (1 : Int32)) dX4_indexOn_83 rfl ?_
    refine k_isub dX4_indexOn_84 ?_
    refine k_iload dX4_indexOn_85 rfl ?_
    refine k_isub dX4_indexOn_87 ?_
    exact k_ireturn rfl dX4_indexOn_88
  refine k_iload dX4_indexOn_72 rfl ?_
  refine k_goto (tgt := 88) dX4_indexOn_74 (by decide) ?_
  exact k_ireturn rfl dX4_indexOn_88
def f4_indexOn_b57 (v0 : Nat) (v4 : Int32) (s0 : Int32) (s1 : Int32) (g : GS_) : Option (Int32 × GS_) :=
  if s0 = s1 then f4_indexOn_b65 v0 v4 (1 : Int32) g else f4_indexOn_b65 v0 v4 (0 : Int32) g
theorem t4_indexOn_b57 (v0 : Nat) (v4 : Int32) (s0 : Int32) (s1 : Int32) (g : GS_) : K_ RX4 cX4_indexOn 6 (some .int) 0 0 false EI_ 57 [some (.inr (4, some v0)), none, none, none, some (.inl v4), none] [.inl s1, .inl s0] g (f4_indexOn_b57 v0 v4 s0 s1 g) := by
  unfold f4_indexOn_b57
  refine k_icmpne (tgt := 64) dX4_indexOn_57 (by decide) (fun _ => ?_) (fun _ => ?_)
  · refine k_iconst (v := (1 : Int32)) dX4_indexOn_60 rfl ?_
    refine k_goto (tgt := 65) dX4_indexOn_61 (by decide) ?_
    exact t4_indexOn_b65 v0 v4 (1 : Int32) g
  refine k_iconst (v := (0 : Int32)) dX4_indexOn_64 rfl ?_
  exact t4_indexOn_b65 v0 v4 (0 : Int32) g
def f4_indexOn_b48 (v0 : Nat) (v2 : Int32) (v4 : Int32) (s0 : Int32) (g : GS_) : Option (Int32 × GS_) :=
  if v2 = 0 then f4_indexOn_b57 v0 v4 s0 (1 : Int32) g else f4_indexOn_b57 v0 v4 s0 (0 : Int32) g
theorem t4_indexOn_b48 (v0 : Nat) (v2 : Int32) (v4 : Int32) (s0 : Int32) (g : GS_) : K_ RX4 cX4_indexOn 6 (some .int) 0 0 false EI_ 48 [some (.inr (4, some v0)), none, some (.inl v2), none, some (.inl v4), none] [.inl s0] g (f4_indexOn_b48 v0 v2 v4 s0 g) := by
  unfold f4_indexOn_b48
  refine k_iloadn (j := 2) dX4_indexOn_48 rfl rfl ?_
  refine k_ifne (tgt := 56) dX4_indexOn_49 (by decide) (fun _ => ?_) (fun _ => ?_)
  · refine k_iconst (v := (1 : Int32)) dX4_indexOn_52 rfl ?_
    refine k_goto (tgt := 57) dX4_indexOn_53 (by decide) ?_
    refine k_msk (L' := [some (.inr (4, some v0)), none, none, none, some (.inl v4), none]) [true, true, false, true, true, true] rfl ?_
    exact t4_indexOn_b57 v0 v4 s0 (1 : Int32) g
  refine k_iconst (v := (0 : Int32)) dX4_indexOn_56 rfl ?_
  refine k_msk (L' := [some (.inr (4, some v0)), none, none, none, some (.inl v4), none]) [true, true, false, true, true, true] rfl ?_
  exact t4_indexOn_b57 v0 v4 s0 (0 : Int32) g
def f4_indexOn_b23 (v0 : Nat) (v3 : Int32) (s0 : Int32) (g : GS_) : Option (Int32 × GS_) :=
  some (((s0 * (gfi g 138 v0)) + v3), g)
theorem t4_indexOn_b23 (v0 : Nat) (v3 : Int32) (s0 : Int32) (g : GS_) : K_ RX4 cX4_indexOn 6 (some .int) 0 0 false EI_ 23 [some (.inr (4, some v0)), none, none, some (.inl v3), none, none] [.inl s0] g (f4_indexOn_b23 v0 v3 s0 g) := by
  unfold f4_indexOn_b23
  refine k_aloadn (j := 0) dX4_indexOn_23 rfl rfl ?_
  refine k_geti fg_4_62 rfl rfl dX4_indexOn_24 ?_
  refine k_imul dX4_indexOn_27 ?_
  refine k_iloadn (j := 3) dX4_indexOn_28 rfl rfl ?_
  refine k_iadd dX4_indexOn_29 ?_
  exact k_ireturn rfl dX4_indexOn_30
def f4_indexOn (v0 : Nat) (v1 : Int32) (v2 : Int32) (v3 : Int32) (g : GS_) : Option (Int32 × GS_) :=
  if (gfi g 136 v0) = 0 then if (gfi g 137 v0) = 0 then f4_indexOn_b23 v0 v3 v1 g else f4_indexOn_b23 v0 v3 (((2 : Int32) * v1) + v2) g else lr_ (((2 : Int32) * v1) + v2) fun z1 => if v3 = (1 : Int32) then f4_indexOn_b48 v0 v2 z1 (1 : Int32) g else f4_indexOn_b48 v0 v2 z1 (0 : Int32) g
theorem t4_indexOn (v0 : Nat) (v1 : Int32) (v2 : Int32) (v3 : Int32) (g : GS_) : Cn_ yX4_indexOn cX4_indexOn 6 (some .int) 0 0 EI_ [.inr (4, some v0), .inl v1, .inl v2, .inl v3] g (f4_indexOn v0 v1 v2 v3 g) := by
  refine k_method (own := RX4) (ini := false) (L1 := [some (.inr (4, some v0)), some (.inl v1), some (.inl v2), some (.inl v3), none, none]) (by decide +kernel) rfl (fun h => by cases h) (Nat.le_of_ble_eq_true rfl) rfl ?_
  unfold f4_indexOn
  refine k_aloadn (j := 0) dX4_indexOn_0 rfl rfl ?_
  refine k_geti fg_4_55 rfl rfl dX4_indexOn_1 ?_
  refine k_ifne (tgt := 31) dX4_indexOn_4 (by decide) (fun _ => ?_) (fun _ => ?_)
  · refine k_aloadn (j := 0) dX4_indexOn_7 rfl rfl ?_
    refine k_geti fg_4_59 rfl rfl dX4_indexOn_8 ?_
    refine k_ifeq (tgt := 22) dX4_indexOn_11 (by decide) (fun _ => ?_) (fun _ => ?_)
    · refine k_iloadn (j := 1) dX4_indexOn_22 rfl rfl ?_
      refine k_msk (L' := [some (.inr (4, some v0)), none, none, some (.inl v3), none, none]) [true, false, false, true, true, true] rfl ?_
      exact t4_indexOn_b23 v0 v3 v1 g
    refine k_iconst (v := (2 : Int32)) dX4_indexOn_14 rfl ?_
    refine k_iloadn (j := 1) dX4_indexOn_15 rfl rfl ?_
    refine k_imul dX4_indexOn_16 ?_
    refine k_iloadn (j := 2) dX4_indexOn_17 rfl rfl ?_
    refine k_iadd dX4_indexOn_18 ?_
    refine k_goto (tgt := 23) dX4_indexOn_19 (by decide) ?_
    refine k_msk (L' := [some (.inr (4, some v0)), none, none, some (.inl v3), none, none]) [true, false, false, true, true, true] rfl ?_
    exact t4_indexOn_b23 v0 v3 (((2 : Int32) * v1) + v2) g
  refine k_iconst (v := (2 : Int32)) dX4_indexOn_31 rfl ?_
  refine k_iloadn (j := 1) dX4_indexOn_32 rfl rfl ?_
  refine k_imul dX4_indexOn_33 ?_
  refine k_iloadn (j := 2) dX4_indexOn_34 rfl rfl ?_
  refine k_iadd dX4_indexOn_35 ?_
  refine k_istl (L2 := fun z1 => [some (.inr (4, some v0)), some (.inl v1), some (.inl v2), some (.inl v3), some (.inl z1), none]) dX4_indexOn_36 (by decide) (fun _ => rfl) (fun z1 => ?_)
  refine k_iloadn (j := 3) dX4_indexOn_38 rfl rfl ?_
  refine k_iconst (v := (1 : Int32)) dX4_indexOn_39 rfl ?_
  refine k_icmpne (tgt := 47) dX4_indexOn_40 (by decide) (fun _ => ?_) (fun _ => ?_)
  · refine k_iconst (v := (1 : Int32)) dX4_indexOn_43 rfl ?_
    refine k_goto (tgt := 48) dX4_indexOn_44 (by decide) ?_
    refine k_msk (L' := [some (.inr (4, some v0)), none, some (.inl v2), none, some (.inl z1), none]) [true, false, true, false, true, true] rfl ?_
    exact t4_indexOn_b48 v0 v2 z1 (1 : Int32) g
  refine k_iconst (v := (0 : Int32)) dX4_indexOn_47 rfl ?_
  refine k_msk (L' := [some (.inr (4, some v0)), none, some (.inl v2), none, some (.inl z1), none]) [true, false, true, false, true, true] rfl ?_
  exact t4_indexOn_b48 v0 v2 z1 (0 : Int32) g
theorem dX4_pageOn_0 : decode cX4_pageOn 0 = .ok (.aload_n 0, 1) := by decide +kernel
theorem dX4_pageOn_1 : decode cX4_pageOn 1 = .ok (.iload_n 1, 1) := by decide +kernel
theorem dX4_pageOn_2 : decode cX4_pageOn 2 = .ok (.iload_n 2, 1) := by decide +kernel
theorem dX4_pageOn_3 : decode cX4_pageOn 3 = .ok (.iload_n 3, 1) := by decide +kernel
theorem dX4_pageOn_4 : decode cX4_pageOn 4 = .ok (.invokevirtual 78, 3) := by decide +kernel
theorem dX4_pageOn_7 : decode cX4_pageOn 7 = .ok (.istore 4, 2) := by decide +kernel
theorem dX4_pageOn_9 : decode cX4_pageOn 9 = .ok (.iload 4, 2) := by decide +kernel
theorem dX4_pageOn_11 : decode cX4_pageOn 11 = .ok (.ifCond .lt 23, 3) := by decide +kernel
theorem dX4_pageOn_14 : decode cX4_pageOn 14 = .ok (.iload 4, 2) := by decide +kernel
theorem dX4_pageOn_16 : decode cX4_pageOn 16 = .ok (.aload_n 0, 1) := by decide +kernel
theorem dX4_pageOn_17 : decode cX4_pageOn 17 = .ok (.getfield 19, 3) := by decide +kernel
theorem dX4_pageOn_20 : decode cX4_pageOn 20 = .ok (.arraylength, 1) := by decide +kernel
theorem dX4_pageOn_21 : decode cX4_pageOn 21 = .ok (.if_icmp .ge 13, 3) := by decide +kernel
theorem dX4_pageOn_24 : decode cX4_pageOn 24 = .ok (.aload_n 0, 1) := by decide +kernel
theorem dX4_pageOn_25 : decode cX4_pageOn 25 = .ok (.getfield 19, 3) := by decide +kernel
theorem dX4_pageOn_28 : decode cX4_pageOn 28 = .ok (.iload 4, 2) := by decide +kernel
theorem dX4_pageOn_30 : decode cX4_pageOn 30 = .ok (.iaload, 1) := by decide +kernel
theorem dX4_pageOn_31 : decode cX4_pageOn 31 = .ok (.goto 4, 3) := by decide +kernel
theorem dX4_pageOn_34 : decode cX4_pageOn 34 = .ok (.iconst 0, 1) := by decide +kernel
theorem dX4_pageOn_35 : decode cX4_pageOn 35 = .ok (.ireturn, 1) := by decide +kernel
def f4_pageOn_b34 (g : GS_) : Option (Int32 × GS_) :=
  some ((0 : Int32), g)
theorem t4_pageOn_b34 (g : GS_) : K_ RX4 cX4_pageOn 5 (some .int) 1 25 false EI_ 34 [none, none, none, none, none] [] g (f4_pageOn_b34 g) := by
  unfold f4_pageOn_b34
  refine k_iconst (v := (0 : Int32)) dX4_pageOn_34 rfl ?_
  exact k_ireturn rfl dX4_pageOn_35
def f4_pageOn (v0 : Nat) (v1 : Int32) (v2 : Int32) (v3 : Int32) (g : GS_) : Option (Int32 × GS_) :=
  bd_ (f4_indexOn v0 v1 v2 v3 g) fun z2 g1 => if z2 < 0 then f4_pageOn_b34 g1 else lr_ (gfr g1 130 v0) fun x3 => oc_ x3 none fun a4 => if (Int32.ofNat (gln g1 20 a4)) ≤ z2 then f4_pageOn_b34 g1 else lr_ (gfr g1 130 v0) fun x5 => oc_ x5 none fun a6 => if inb z2 (gln g1 20 a6) then some ((gai g1 20 a6 z2.toInt.toNat), g1) else none
theorem t4_pageOn (v0 : Nat) (v1 : Int32) (v2 : Int32) (v3 : Int32) (g : GS_) : Cn_ yX4_pageOn cX4_pageOn 5 (some .int) 1 25 EI_ [.inr (4, some v0), .inl v1, .inl v2, .inl v3] g (f4_pageOn v0 v1 v2 v3 g) := by
  refine k_method (own := RX4) (ini := false) (L1 := [some (.inr (4, some v0)), some (.inl v1), some (.inl v2), some (.inl v3), none]) (by decide +kernel) rfl (fun h => by cases h) (Nat.le_of_ble_eq_true rfl) rfl ?_
  unfold f4_pageOn
  refine k_aloadn (j := 0) dX4_pageOn_0 rfl rfl ?_
  refine k_iloadn (j := 1) dX4_pageOn_1 rfl rfl ?_
  refine k_iloadn (j := 2) dX4_pageOn_2 rfl rfl ?_
  refine k_iloadn (j := 3) dX4_pageOn_3 rfl rfl ?_
  refine k_callVi [.inl v1, .inl v2, .inl v3] (t4_indexOn v0 v1 v2 v3 g) cw_cX4_indexOn (Or.inl ml_4_78) rfl rfl (by decide) (by decide) (Nat.le_of_ble_eq_true rfl) dX4_pageOn_4 (fun z2 g1 => ?_)
  refine k_ist (L' := [some (.inr (4, some v0)), some (.inl v1), some (.inl v2), some (.inl v3), some (.inl z2)]) dX4_pageOn_7 (by decide) rfl ?_
  refine k_iload dX4_pageOn_9 rfl ?_
  refine k_iflt (tgt := 34) dX4_pageOn_11 (by decide) (fun _ => ?_) (fun _ => ?_)
  · refine k_msk (L' := [none, none, none, none, none]) [false, false, false, false, false] rfl ?_
    exact t4_pageOn_b34 g1
  refine k_iload dX4_pageOn_14 rfl ?_
  refine k_aloadn (j := 0) dX4_pageOn_16 rfl rfl ?_
  refine k_getr fg_4_19 rfl rfl dX4_pageOn_17 (fun x3 => ?_)
  rcases x3 with _ | a4
  · exact k_ocn
  refine k_ocs ?_
  refine k_alen dX4_pageOn_20 (by decide) ?_
  refine k_icmpge (tgt := 34) dX4_pageOn_21 (by decide) (fun _ => ?_) (fun _ => ?_)
  · refine k_msk (L' := [none, none, none, none, none]) [false, false, false, false, false] rfl ?_
    exact t4_pageOn_b34 g1
  refine k_aloadn (j := 0) dX4_pageOn_24 rfl rfl ?_
  refine k_getr fg_4_19 rfl rfl dX4_pageOn_25 (fun x5 => ?_)
  refine k_iload dX4_pageOn_28 rfl ?_
  rcases x5 with _ | a6
  · exact k_ocn
  refine k_ocs ?_
  refine k_iald dX4_pageOn_30 ?_
  refine k_goto (tgt := 35) dX4_pageOn_31 (by decide) ?_
  exact k_ireturn rfl dX4_pageOn_35
theorem dX4_loadOfPages_0 : decode cX4_loadOfPages 0 = .ok (.iconst 0, 1) := by decide +kernel
theorem dX4_loadOfPages_1 : decode cX4_loadOfPages 1 = .ok (.istore_n 3, 1) := by decide +kernel
theorem dX4_loadOfPages_2 : decode cX4_loadOfPages 2 = .ok (.iconst 1, 1) := by decide +kernel
theorem dX4_loadOfPages_3 : decode cX4_loadOfPages 3 = .ok (.istore 4, 2) := by decide +kernel
theorem dX4_loadOfPages_5 : decode cX4_loadOfPages 5 = .ok (.iconst 0, 1) := by decide +kernel
theorem dX4_loadOfPages_6 : decode cX4_loadOfPages 6 = .ok (.istore 5, 2) := by decide +kernel
theorem dX4_loadOfPages_8 : decode cX4_loadOfPages 8 = .ok (.iload 5, 2) := by decide +kernel
theorem dX4_loadOfPages_10 : decode cX4_loadOfPages 10 = .ok (.aload_n 0, 1) := by decide +kernel
theorem dX4_loadOfPages_11 : decode cX4_loadOfPages 11 = .ok (.getfield 62, 3) := by decide +kernel
theorem dX4_loadOfPages_14 : decode cX4_loadOfPages 14 = .ok (.if_icmp .ge 51, 3) := by decide +kernel
theorem dX4_loadOfPages_17 : decode cX4_loadOfPages 17 = .ok (.aload_n 0, 1) := by decide +kernel
theorem dX4_loadOfPages_18 : decode cX4_loadOfPages 18 = .ok (.iload_n 1, 1) := by decide +kernel
theorem dX4_loadOfPages_19 : decode cX4_loadOfPages 19 = .ok (.iload_n 2, 1) := by decide +kernel
theorem dX4_loadOfPages_20 : decode cX4_loadOfPages 20 = .ok (.iload 5, 2) := by decide +kernel
theorem dX4_loadOfPages_22 : decode cX4_loadOfPages 22 = .ok (.invokevirtual 86, 3) := by decide +kernel
theorem dX4_loadOfPages_25 : decode cX4_loadOfPages 25 = .ok (.istore 6, 2) := by decide +kernel
theorem dX4_loadOfPages_27 : decode cX4_loadOfPages 27 = .ok (.iload 6, 2) := by decide +kernel
theorem dX4_loadOfPages_29 : decode cX4_loadOfPages 29 = .ok (.ifCond .eq 30, 3) := by decide +kernel
theorem dX4_loadOfPages_32 : decode cX4_loadOfPages 32 = .ok (.aload_n 0, 1) := by decide +kernel
theorem dX4_loadOfPages_33 : decode cX4_loadOfPages 33 = .ok (.getfield 62, 3) := by decide +kernel
theorem dX4_loadOfPages_36 : decode cX4_loadOfPages 36 = .ok (.ifCond .le 23, 3) := by decide +kernel
theorem dX4_loadOfPages_39 : decode cX4_loadOfPages 39 = .ok (.iconst 0, 1) := by decide +kernel
theorem dX4_loadOfPages_40 : decode cX4_loadOfPages 40 = .ok (.istore 4, 2) := by decide +kernel
theorem dX4_loadOfPages_42 : decode cX4_loadOfPages 42 = .ok (.iload_n 3, 1) := by decide +kernel
theorem dX4_loadOfPages_43 : decode cX4_loadOfPages 43 = .ok (.aload_n 0, 1) := by decide +kernel
theorem dX4_loadOfPages_44 : decode cX4_loadOfPages 44 = .ok (.getfield 9, 3) := by decide +kernel
theorem dX4_loadOfPages_47 : decode cX4_loadOfPages 47 = .ok (.iload 6, 2) := by decide +kernel
theorem dX4_loadOfPages_49 : decode cX4_loadOfPages 49 = .ok (.invokevirtual 89, 3) := by decide +kernel
theorem dX4_loadOfPages_52 : decode cX4_loadOfPages 52 = .ok (.aload_n 0, 1) := by decide +kernel
theorem dX4_loadOfPages_53 : decode cX4_loadOfPages 53 = .ok (.getfield 62, 3) := by decide +kernel
theorem dX4_loadOfPages_56 : decode cX4_loadOfPages 56 = .ok (.idiv, 1) := by decide +kernel
theorem dX4_loadOfPages_57 : decode cX4_loadOfPages 57 = .ok (.iadd, 1) := by decide +kernel
theorem dX4_loadOfPages_58 : decode cX4_loadOfPages 58 = .ok (.istore_n 3, 1) := by decide +kernel
theorem dX4_loadOfPages_59 : decode cX4_loadOfPages 59 = .ok (.iinc 5 1, 3) := by decide +kernel
theorem dX4_loadOfPages_62 : decode cX4_loadOfPages 62 = .ok (.goto (-54), 3) := by decide +kernel
theorem dX4_loadOfPages_65 : decode cX4_loadOfPages 65 = .ok (.iload 4, 2) := by decide +kernel
theorem dX4_loadOfPages_67 : decode cX4_loadOfPages 67 = .ok (.ifCond .eq 7, 3) := by decide +kernel
theorem dX4_loadOfPages_70 : decode cX4_loadOfPages 70 = .ok (.iconst (-1), 1) := by decide +kernel
theorem dX4_loadOfPages_71 : decode cX4_loadOfPages 71 = .ok (.goto 4, 3) := by decide +kernel
theorem dX4_loadOfPages_74 : decode cX4_loadOfPages 74 = .ok (.iload_n 3, 1) := by decide +kernel
theorem dX4_loadOfPages_75 : decode cX4_loadOfPages 75 = .ok (.ireturn, 1) := by decide +kernel
def f4_loadOfPages_b59 (c8 : Nat → Int32 → Int32 → Int32 → Int32 → Int32 → GS_ → Option (Int32 × GS_)) (v0 : Nat) (v1 : Int32) (v2 : Int32) (v3 : Int32) (v4 : Int32) (v5 : Int32) (g : GS_) : Option (Int32 × GS_) :=
  c8 v0 v1 v2 v3 v4 (v5 + (1 : Int32)) g
theorem t4_loadOfPages_b59 (c8 : Nat → Int32 → Int32 → Int32 → Int32 → Int32 → GS_ → Option (Int32 × GS_)) (h8 : ∀ (v0 : Nat) (v1 : Int32) (v2 : Int32) (v3 : Int32) (v4 : Int32) (v5 : Int32) (g : GS_), K_ RX4 cX4_loadOfPages 7 (some .int) 2 49 false EI_ 8 [some (.inr (4, some v0)), some (.inl v1), some (.inl v2), some (.inl v3), some (.inl v4), some (.inl v5), none] [] g (c8 v0 v1 v2 v3 v4 v5 g)) (v0 : Nat) (v1 : Int32) (v2 : Int32) (v3 : Int32) (v4 : Int32) (v5 : Int32) (g : GS_) : K_ RX4 cX4_loadOfPages 7 (some .int) 2 49 false EI_ 59 [some (.inr (4, some v0)), some (.inl v1), some (.inl v2), some (.inl v3), some (.inl v4), some (.inl v5), none] [] g (f4_loadOfPages_b59 c8 v0 v1 v2 v3 v4 v5 g) := by
  unfold f4_loadOfPages_b59
  refine k_iinc (v := (v5 + (1 : Int32))) (L' := [some (.inr (4, some v0)), some (.inl v1), some (.inl v2), some (.inl v3), some (.inl v4), some (.inl (v5 + (1 : Int32))), none]) dX4_loadOfPages_59 rfl rfl (by decide) rfl ?_
  refine k_goto (tgt := 8) dX4_loadOfPages_62 (by decide) ?_
  exact h8 v0 v1 v2 v3 v4 (v5 + (1 : Int32)) g
def f4_loadOfPages_b8 : Nat → Nat → Int32 → Int32 → Int32 → Int32 → Int32 → GS_ → Option (Int32 × GS_)
  | 0, _, _, _, _, _, _, _ => none
  | n + 1, v0, v1, v2, v3, v4, v5, g =>
    if (gfi g 138 v0) ≤ v5 then if v4 = 0 then some (v3, g) else some ((-1 : Int32), g) else bd_ (f4_pageOn v0 v1 v2 v5 g) fun z2 g1 => if z2 = 0 then f4_loadOfPages_b59 (f4_loadOfPages_b8 n) v0 v1 v2 v3 v4 v5 g1 else if (gfi g1 138 v0) ≤ 0 then f4_loadOfPages_b59 (f4_loadOfPages_b8 n) v0 v1 v2 v3 v4 v5 g1 else lr_ (gfr g1 128 v0) fun x3 => oc_ x3 none fun a4 => bd_ (f0_weightOf a4 z2 g1) fun z6 g5 => if (gfi g5 138 v0) = 0 then none else lr_ (v3 + (z6 / (gfi g5 138 v0))) fun z7 => f4_loadOfPages_b59 (f4_loadOfPages_b8 n) v0 v1 v2 z7 (0 : Int32) v5 g5
theorem t4_loadOfPages_b8 : ∀ (n : Nat) (v0 : Nat) (v1 : Int32) (v2 : Int32) (v3 : Int32) (v4 : Int32) (v5 : Int32) (g : GS_), K_ RX4 cX4_loadOfPages 7 (some .int) 2 49 false EI_ 8 [some (.inr (4, some v0)), some (.inl v1), some (.inl v2), some (.inl v3), some (.inl v4), some (.inl v5), none] [] g (f4_loadOfPages_b8 n v0 v1 v2 v3 v4 v5 g) := by
  intro n
  induction n with
  | zero =>
    intro v0 v1 v2 v3 v4 v5 g
    exact k_fail
  | succ n ih =>
    intro v0 v1 v2 v3 v4 v5 g
    show K_ RX4 cX4_loadOfPages 7 (some .int) 2 49 false EI_ 8 [some (.inr (4, some v0)), some (.inl v1), some (.inl v2), some (.inl v3), some (.inl v4), some (.inl v5), none] [] g (if (gfi g 138 v0) ≤ v5 then if v4 = 0 then some (v3, g) else some ((-1 : Int32), g) else bd_ (f4_pageOn v0 v1 v2 v5 g) fun z2 g1 => if z2 = 0 then f4_loadOfPages_b59 (f4_loadOfPages_b8 n) v0 v1 v2 v3 v4 v5 g1 else if (gfi g1 138 v0) ≤ 0 then f4_loadOfPages_b59 (f4_loadOfPages_b8 n) v0 v1 v2 v3 v4 v5 g1 else lr_ (gfr g1 128 v0) fun x3 => oc_ x3 none fun a4 => bd_ (f0_weightOf a4 z2 g1) fun z6 g5 => if (gfi g5 138 v0) = 0 then none else lr_ (v3 + (z6 / (gfi g5 138 v0))) fun z7 => f4_loadOfPages_b59 (f4_loadOfPages_b8 n) v0 v1 v2 z7 (0 : Int32) v5 g5)
    refine k_iload dX4_loadOfPages_8 rfl ?_
    refine k_aloadn (j := 0) dX4_loadOfPages_10 rfl rfl ?_
    refine k_geti fg_4_62 rfl rfl dX4_loadOfPages_11 ?_
    refine k_icmpge (tgt := 65) dX4_loadOfPages_14 (by decide) (fun _ => ?_) (fun _ => ?_)
    · refine k_iload dX4_loadOfPages_65 rfl ?_
      refine k_ifeq (tgt := 74) dX4_loadOfPages_67 (by decide) (fun _ => ?_) (fun _ => ?_)
      · refine k_iloadn (j := 3) dX4_loadOfPages_74 rfl rfl ?_
        exact k_ireturn rfl dX4_loadOfPages_75
      refine k_iconst (v := (-1 : Int32)) dX4_loadOfPages_70 rfl ?_
      refine k_goto (tgt := 75) dX4_loadOfPages_71 (by decide) ?_
      exact k_ireturn rfl dX4_loadOfPages_75
    refine k_aloadn (j := 0) dX4_loadOfPages_17 rfl rfl ?_
    refine k_iloadn (j := 1) dX4_loadOfPages_18 rfl rfl ?_
    refine k_iloadn (j := 2) dX4_loadOfPages_19 rfl rfl ?_
    refine k_iload dX4_loadOfPages_20 rfl ?_
    refine k_callVi [.inl v1, .inl v2, .inl v5] (t4_pageOn v0 v1 v2 v5 g) cw_cX4_pageOn (Or.inl ml_4_86) rfl rfl (by decide) (by decide) (Nat.le_of_ble_eq_true rfl) dX4_loadOfPages_22 (fun z2 g1 => ?_)
    refine k_ist (L' := [some (.inr (4, some v0)), some (.inl v1), some (.inl v2), some (.inl v3), some (.inl v4), some (.inl v5), some (.inl z2)]) dX4_loadOfPages_25 (by decide) rfl ?_
    refine k_iload dX4_loadOfPages_27 rfl ?_
    refine k_ifeq (tgt := 59) dX4_loadOfPages_29 (by decide) (fun _ => ?_) (fun _ => ?_)
    · refine k_msk (L' := [some (.inr (4, some v0)), some (.inl v1), some (.inl v2), some (.inl v3), some (.inl v4), some (.inl v5), none]) [true, true, true, true, true, true, false] rfl ?_
      exact t4_loadOfPages_b59 (f4_loadOfPages_b8 n) ih v0 v1 v2 v3 v4 v5 g1
    refine k_aloadn (j := 0) dX4_loadOfPages_32 rfl rfl ?_
    refine k_geti fg_4_62 rfl rfl dX4_loadOfPages_33 ?_
    refine k_ifle (tgt := 59) dX4_loadOfPages_36 (by decide) (fun _ => ?_) (fun _ => ?_)
    · refine k_msk (L' := [some (.inr (4, some v0)), some (.inl v1), some (.inl v2), some (.inl v3), some (.inl v4), some (.inl v5), none]) [true, true, true, true, true, true, false] rfl ?_
      exact t4_loadOfPages_b59 (f4_loadOfPages_b8 n) ih v0 v1 v2 v3 v4 v5 g1
    refine k_iconst (v := (0 : Int32)) dX4_loadOfPages_39 rfl ?_
    refine k_ist (L' := [some (.inr (4, some v0)), some (.inl v1), some (.inl v2), some (.inl v3), some (.inl (0 : Int32)), some (.inl v5), some (.inl z2)]) dX4_loadOfPages_40 (by decide) rfl ?_
    refine k_iloadn (j := 3) dX4_loadOfPages_42 rfl rfl ?_
    refine k_aloadn (j := 0) dX4_loadOfPages_43 rfl rfl ?_
    refine k_getr fg_4_9 rfl rfl dX4_loadOfPages_44 (fun x3 => ?_)
    refine k_iload dX4_loadOfPages_47 rfl ?_
    rcases x3 with _ | a4
    · exact k_ocn
    refine k_ocs ?_
    refine k_callVi [.inl z2] (t0_weightOf a4 z2 g1) cw_cX0_weightOf (Or.inl ml_4_89) rfl rfl (by decide) (by decide) (Nat.le_of_ble_eq_true rfl) dX4_loadOfPages_49 (fun z6 g5 => ?_)
    refine k_aloadn (j := 0) dX4_loadOfPages_52 rfl rfl ?_
    refine k_geti fg_4_62 rfl rfl dX4_loadOfPages_53 ?_
    refine k_idiv dX4_loadOfPages_56 (fun _ => ?_)
    refine k_iadd dX4_loadOfPages_57 ?_
    refine k_istnl (j := 3) (L2 := fun z7 => [some (.inr (4, some v0)), some (.inl v1), some (.inl v2), some (.inl z7), some (.inl (0 : Int32)), some (.inl v5), some (.inl z2)]) dX4_loadOfPages_58 rfl (by decide) (fun _ => rfl) (fun z7 => ?_)
    refine k_msk (L' := [some (.inr (4, some v0)), some (.inl v1), some (.inl v2), some (.inl z7), some (.inl (0 : Int32)), some (.inl v5), none]) [true, true, true, true, true, true, false] rfl ?_
    exact t4_loadOfPages_b59 (f4_loadOfPages_b8 n) ih v0 v1 v2 z7 (0 : Int32) v5 g5
def f4_loadOfPages (v0 : Nat) (v1 : Int32) (v2 : Int32) (g : GS_) : Option (Int32 × GS_) :=
  f4_loadOfPages_b8 FU_ v0 v1 v2 (0 : Int32) (1 : Int32) (0 : Int32) g
theorem t4_loadOfPages (v0 : Nat) (v1 : Int32) (v2 : Int32) (g : GS_) : Cn_ yX4_loadOfPages cX4_loadOfPages 7 (some .int) 2 49 EI_ [.inr (4, some v0), .inl v1, .inl v2] g (f4_loadOfPages v0 v1 v2 g) := by
  refine k_method (own := RX4) (ini := false) (L1 := [some (.inr (4, some v0)), some (.inl v1), some (.inl v2), none, none, none, none]) (by decide +kernel) rfl (fun h => by cases h) (Nat.le_of_ble_eq_true rfl) rfl ?_
  unfold f4_loadOfPages
  refine k_iconst (v := (0 : Int32)) dX4_loadOfPages_0 rfl ?_
  refine k_istn (j := 3) (L' := [some (.inr (4, some v0)), some (.inl v1), some (.inl v2), some (.inl (0 : Int32)), none, none, none]) dX4_loadOfPages_1 rfl (by decide) rfl ?_
  refine k_iconst (v := (1 : Int32)) dX4_loadOfPages_2 rfl ?_
  refine k_ist (L' := [some (.inr (4, some v0)), some (.inl v1), some (.inl v2), some (.inl (0 : Int32)), some (.inl (1 : Int32)), none, none]) dX4_loadOfPages_3 (by decide) rfl ?_
  refine k_iconst (v := (0 : Int32)) dX4_loadOfPages_5 rfl ?_
  refine k_ist (L' := [some (.inr (4, some v0)), some (.inl v1), some (.inl v2), some (.inl (0 : Int32)), some (.inl (1 : Int32)), some (.inl (0 : Int32)), none]) dX4_loadOfPages_6 (by decide) rfl ?_
  exact t4_loadOfPages_b8 FU_ v0 v1 v2 (0 : Int32) (1 : Int32) (0 : Int32) g
theorem dX8_settingAt_0 : decode cX8_settingAt 0 = .ok (.iload_n 1, 1) := by decide +kernel
theorem dX8_settingAt_1 : decode cX8_settingAt 1 = .ok (.ifCond .lt 21, 3) := by decide +kernel
theorem dX8_settingAt_4 : decode cX8_settingAt 4 = .ok (.iload_n 1, 1) := by decide +kernel
theorem dX8_settingAt_5 : decode cX8_settingAt 5 = .ok (.aload_n 0, 1) := by decide +kernel
theorem dX8_settingAt_6 : decode cX8_settingAt 6 = .ok (.getfield 46, 3) := by decide +kernel
theorem dX8_settingAt_9 : decode cX8_settingAt 9 = .ok (.arraylength, 1) := by decide +kernel
theorem dX8_settingAt_10 : decode cX8_settingAt 10 = .ok (.if_icmp .ge 12, 3) := by decide +kernel
theorem dX8_settingAt_13 : decode cX8_settingAt 13 = .ok (.aload_n 0, 1) := by decide +kernel
theorem dX8_settingAt_14 : decode cX8_settingAt 14 = .ok (.getfield 46, 3) := by decide +kernel
theorem dX8_settingAt_17 : decode cX8_settingAt 17 = .ok (.iload_n 1, 1) := by decide +kernel
theorem dX8_settingAt_18 : decode cX8_settingAt 18 = .ok (.iaload, 1) := by decide +kernel
theorem dX8_settingAt_19 : decode cX8_settingAt 19 = .ok (.goto 4, 3) := by decide +kernel
theorem dX8_settingAt_22 : decode cX8_settingAt 22 = .ok (.iconst 0, 1) := by decide +kernel
theorem dX8_settingAt_23 : decode cX8_settingAt 23 = .ok (.ireturn, 1) := by decide +kernel
def f8_settingAt_b22 (g : GS_) : Option (Int32 × GS_) :=
  some ((0 : Int32), g)
theorem t8_settingAt_b22 (g : GS_) : K_ RX8 cX8_settingAt 2 (some .int) 0 0 false EI_ 22 [none, none] [] g (f8_settingAt_b22 g) := by
  unfold f8_settingAt_b22
  refine k_iconst (v := (0 : Int32)) dX8_settingAt_22 rfl ?_
  exact k_ireturn rfl dX8_settingAt_23
def f8_settingAt (v0 : Nat) (v1 : Int32) (g : GS_) : Option (Int32 × GS_) :=
  if v1 < 0 then f8_settingAt_b22 g else lr_ (gfr g 263 v0) fun x1 => oc_ x1 none fun a2 => if (Int32.ofNat (gln g 20 a2)) ≤ v1 then f8_settingAt_b22 g else lr_ (gfr g 263 v0) fun x3 => oc_ x3 none fun a4 => if inb v1 (gln g 20 a4) then some ((gai g 20 a4 v1.toInt.toNat), g) else none
theorem t8_settingAt (v0 : Nat) (v1 : Int32) (g : GS_) : Cn_ yX8_settingAt cX8_settingAt 2 (some .int) 0 0 EI_ [.inr (8, some v0), .inl v1] g (f8_settingAt v0 v1 g) := by
  refine k_method (own := RX8) (ini := false) (L1 := [some (.inr (8, some v0)), some (.inl v1)]) (by decide +kernel) rfl (fun h => by cases h) (Nat.le_of_ble_eq_true rfl) rfl ?_
  unfold f8_settingAt
  refine k_iloadn (j := 1) dX8_settingAt_0 rfl rfl ?_
  refine k_iflt (tgt := 22) dX8_settingAt_1 (by decide) (fun _ => ?_) (fun _ => ?_)
  · refine k_msk (L' := [none, none]) [false, false] rfl ?_
    exact t8_settingAt_b22 g
  refine k_iloadn (j := 1) dX8_settingAt_4 rfl rfl ?_
  refine k_aloadn (j := 0) dX8_settingAt_5 rfl rfl ?_
  refine k_getr fg_8_46 rfl rfl dX8_settingAt_6 (fun x1 => ?_)
  rcases x1 with _ | a2
  · exact k_ocn
  refine k_ocs ?_
  refine k_alen dX8_settingAt_9 (by decide) ?_
  refine k_icmpge (tgt := 22) dX8_settingAt_10 (by decide) (fun _ => ?_) (fun _ => ?_)
  · refine k_msk (L' := [none, none]) [false, false] rfl ?_
    exact t8_settingAt_b22 g
  refine k_aloadn (j := 0) dX8_settingAt_13 rfl rfl ?_
  refine k_getr fg_8_46 rfl rfl dX8_settingAt_14 (fun x3 => ?_)
  refine k_iloadn (j := 1) dX8_settingAt_17 rfl rfl ?_
  rcases x3 with _ | a4
  · exact k_ocn
  refine k_ocs ?_
  refine k_iald dX8_settingAt_18 ?_
  refine k_goto (tgt := 23) dX8_settingAt_19 (by decide) ?_
  exact k_ireturn rfl dX8_settingAt_23
theorem dX4_init_0 : decode cX4_init 0 = .ok (.aload_n 0, 1) := by decide +kernel
theorem dX4_init_1 : decode cX4_init 1 = .ok (.invokespecial 3, 3) := by decide +kernel
theorem dX4_init_4 : decode cX4_init 4 = .ok (.aload_n 0, 1) := by decide +kernel
theorem dX4_init_5 : decode cX4_init 5 = .ok (.aload_n 1, 1) := by decide +kernel
theorem dX4_init_6 : decode cX4_init 6 = .ok (.putfield 9, 3) := by decide +kernel
theorem dX4_init_9 : decode cX4_init 9 = .ok (.aload_n 0, 1) := by decide +kernel
theorem dX4_init_10 : decode cX4_init 10 = .ok (.iload_n 2, 1) := by decide +kernel
theorem dX4_init_11 : decode cX4_init 11 = .ok (.putfield 15, 3) := by decide +kernel
theorem dX4_init_14 : decode cX4_init 14 = .ok (.aload_n 0, 1) := by decide +kernel
theorem dX4_init_15 : decode cX4_init 15 = .ok (.aload_n 3, 1) := by decide +kernel
theorem dX4_init_16 : decode cX4_init 16 = .ok (.putfield 19, 3) := by decide +kernel
theorem dX4_init_19 : decode cX4_init 19 = .ok (.aload_n 0, 1) := by decide +kernel
theorem dX4_init_20 : decode cX4_init 20 = .ok (.iconst 1, 1) := by decide +kernel
theorem dX4_init_21 : decode cX4_init 21 = .ok (.aload 4, 2) := by decide +kernel
theorem dX4_init_23 : decode cX4_init 23 = .ok (.iconst 0, 1) := by decide +kernel
theorem dX4_init_24 : decode cX4_init 24 = .ok (.invokevirtual 23, 3) := by decide +kernel
theorem dX4_init_27 : decode cX4_init 27 = .ok (.invokestatic 29, 3) := by decide +kernel
theorem dX4_init_30 : decode cX4_init 30 = .ok (.putfield 35, 3) := by decide +kernel
theorem dX4_init_33 : decode cX4_init 33 = .ok (.aload_n 0, 1) := by decide +kernel
theorem dX4_init_34 : decode cX4_init 34 = .ok (.aload 4, 2) := by decide +kernel
theorem dX4_init_36 : decode cX4_init 36 = .ok (.iconst 1, 1) := by decide +kernel
theorem dX4_init_37 : decode cX4_init 37 = .ok (.invokevirtual 23, 3) := by decide +kernel
theorem dX4_init_40 : decode cX4_init 40 = .ok (.putfield 38, 3) := by decide +kernel
theorem dX4_init_43 : decode cX4_init 43 = .ok (.aload_n 0, 1) := by decide +kernel
theorem dX4_init_44 : decode cX4_init 44 = .ok (.aload_n 1, 1) := by decide +kernel
theorem dX4_init_45 : decode cX4_init 45 = .ok (.getfield 41, 3) := by decide +kernel
theorem dX4_init_48 : decode cX4_init 48 = .ok (.iconst 2, 1) := by decide +kernel
theorem dX4_init_49 : decode cX4_init 49 = .ok (.if_icmp .ne 7, 3) := by decide +kernel
theorem dX4_init_52 : decode cX4_init 52 = .ok (.iconst 0, 1) := by decide +kernel
theorem dX4_init_53 : decode cX4_init 53 = .ok (.goto 9, 3) := by decide +kernel
theorem dX4_init_56 : decode cX4_init 56 = .ok (.aload 4, 2) := by decide +kernel
theorem dX4_init_58 : decode cX4_init 58 = .ok (.iconst 2, 1) := by decide +kernel
theorem dX4_init_59 : decode cX4_init 59 = .ok (.invokevirtual 23, 3) := by decide +kernel
theorem dX4_init_62 : decode cX4_init 62 = .ok (.putfield 46, 3) := by decide +kernel
theorem dX4_init_65 : decode cX4_init 65 = .ok (.aload_n 0, 1) := by decide +kernel
theorem dX4_init_66 : decode cX4_init 66 = .ok (.aload 4, 2) := by decide +kernel
theorem dX4_init_68 : decode cX4_init 68 = .ok (.iconst 3, 1) := by decide +kernel
theorem dX4_init_69 : decode cX4_init 69 = .ok (.invokevirtual 23, 3) := by decide +kernel
theorem dX4_init_72 : decode cX4_init 72 = .ok (.putfield 49, 3) := by decide +kernel
theorem dX4_init_75 : decode cX4_init 75 = .ok (.aload_n 0, 1) := by decide +kernel
theorem dX4_init_76 : decode cX4_init 76 = .ok (.aload 4, 2) := by decide +kernel
theorem dX4_init_78 : decode cX4_init 78 = .ok (.iconst 5, 1) := by decide +kernel
theorem dX4_init_79 : decode cX4_init 79 = .ok (.invokevirtual 23, 3) := by decide +kernel
theorem dX4_init_82 : decode cX4_init 82 = .ok (.putfield 52, 3) := by decide +kernel
theorem dX4_init_85 : decode cX4_init 85 = .ok (.aload_n 0, 1) := by decide +kernel
theorem dX4_init_86 : decode cX4_init 86 = .ok (.aload_n 0, 1) := by decide +kernel
theorem dX4_init_87 : decode cX4_init 87 = .ok (.getfield 49, 3) := by decide +kernel
theorem dX4_init_90 : decode cX4_init 90 = .ok (.ifCond .ne 7, 3) := by decide +kernel
theorem dX4_init_93 : decode cX4_init 93 = .ok (.iconst 1, 1) := by decide +kernel
theorem dX4_init_94 : decode cX4_init 94 = .ok (.goto 4, 3) := by decide +kernel
theorem dX4_init_97 : decode cX4_init 97 = .ok (.iconst 0, 1) := by decide +kernel
theorem dX4_init_98 : decode cX4_init 98 = .ok (.putfield 55, 3) := by decide +kernel
theorem dX4_init_101 : decode cX4_init 101 = .ok (.aload_n 0, 1) := by decide +kernel
theorem dX4_init_102 : decode cX4_init 102 = .ok (.aload_n 0, 1) := by decide +kernel
theorem dX4_init_103 : decode cX4_init 103 = .ok (.getfield 55, 3) := by decide +kernel
theorem dX4_init_106 : decode cX4_init 106 = .ok (.ifCond .ne 10, 3) := by decide +kernel
theorem dX4_init_109 : decode cX4_init 109 = .ok (.aload_n 0, 1) := by decide +kernel
theorem dX4_init_110 : decode cX4_init 110 = .ok (.getfield 46, 3) := by decide +kernel
theorem dX4_init_113 : decode cX4_init 113 = .ok (.ifCond .eq 7, 3) := by decide +kernel
theorem dX4_init_116 : decode cX4_init 116 = .ok (.iconst 1, 1) := by decide +kernel
theorem dX4_init_117 : decode cX4_init 117 = .ok (.goto 4, 3) := by decide +kernel
theorem dX4_init_120 : decode cX4_init 120 = .ok (.iconst 0, 1) := by decide +kernel
theorem dX4_init_121 : decode cX4_init 121 = .ok (.putfield 59, 3) := by decide +kernel
theorem dX4_init_124 : decode cX4_init 124 = .ok (.aload_n 0, 1) := by decide +kernel
theorem dX4_init_125 : decode cX4_init 125 = .ok (.aload_n 0, 1) := by decide +kernel
theorem dX4_init_126 : decode cX4_init 126 = .ok (.getfield 55, 3) := by decide +kernel
theorem dX4_init_129 : decode cX4_init 129 = .ok (.ifCond .eq 7, 3) := by decide +kernel
theorem dX4_init_132 : decode cX4_init 132 = .ok (.iconst 2, 1) := by decide +kernel
theorem dX4_init_133 : decode cX4_init 133 = .ok (.goto 11, 3) := by decide +kernel
theorem dX4_init_136 : decode cX4_init 136 = .ok (.iconst 1, 1) := by decide +kernel
theorem dX4_init_137 : decode cX4_init 137 = .ok (.aload_n 0, 1) := by decide +kernel
theorem dX4_init_138 : decode cX4_init 138 = .ok (.getfield 49, 3) := by decide +kernel
theorem dX4_init_141 : decode cX4_init 141 = .ok (.invokestatic 29, 3) := by decide +kernel
theorem dX4_init_144 : decode cX4_init 144 = .ok (.putfield 62, 3) := by decide +kernel
theorem dX4_init_147 : decode cX4_init 147 = .ok (.aload_n 3, 1) := by decide +kernel
theorem dX4_init_148 : decode cX4_init 148 = .ok (.arraylength, 1) := by decide +kernel
theorem dX4_init_149 : decode cX4_init 149 = .ok (.aload_n 0, 1) := by decide +kernel
theorem dX4_init_150 : decode cX4_init 150 = .ok (.getfield 62, 3) := by decide +kernel
theorem dX4_init_153 : decode cX4_init 153 = .ok (.iadd, 1) := by decide +kernel
theorem dX4_init_154 : decode cX4_init 154 = .ok (.iconst 1, 1) := by decide +kernel
theorem dX4_init_155 : decode cX4_init 155 = .ok (.isub, 1) := by decide +kernel
theorem dX4_init_156 : decode cX4_init 156 = .ok (.aload_n 0, 1) := by decide +kernel
theorem dX4_init_157 : decode cX4_init 157 = .ok (.getfield 62, 3) := by decide +kernel
theorem dX4_init_160 : decode cX4_init 160 = .ok (.idiv, 1) := by decide +kernel
theorem dX4_init_161 : decode cX4_init 161 = .ok (.istore 5, 2) := by decide +kernel
theorem dX4_init_163 : decode cX4_init 163 = .ok (.aload_n 0, 1) := by decide +kernel
theorem dX4_init_164 : decode cX4_init 164 = .ok (.aload_n 0, 1) := by decide +kernel
theorem dX4_init_165 : decode cX4_init 165 = .ok (.getfield 55, 3) := by decide +kernel
theorem dX4_init_168 : decode cX4_init 168 = .ok (.ifCond .eq 12, 3) := by decide +kernel
theorem dX4_init_171 : decode cX4_init 171 = .ok (.aload_n 3, 1) := by decide +kernel
theorem dX4_init_172 : decode cX4_init 172 = .ok (.arraylength, 1) := by decide +kernel
theorem dX4_init_173 : decode cX4_init 173 = .ok (.iconst 3, 1) := by decide +kernel
theorem dX4_init_174 : decode cX4_init 174 = .ok (.iadd, 1) := by decide +kernel
theorem dX4_init_175 : decode cX4_init 175 = .ok (.iconst 4, 1) := by decide +kernel
theorem dX4_init_176 : decode cX4_init 176 = .ok (.idiv, 1) := by decide +kernel
theorem dX4_init_177 : decode cX4_init 177 = .ok (.goto 21, 3) := by decide +kernel
theorem dX4_init_180 : decode cX4_init 180 = .ok (.aload_n 0, 1) := by decide +kernel
theorem dX4_init_181 : decode cX4_init 181 = .ok (.getfield 59, 3) := by decide +kernel
theorem dX4_init_184 : decode cX4_init 184 = .ok (.ifCond .eq 12, 3) := by decide +kernel
theorem dX4_init_187 : decode cX4_init 187 = .ok (.iload 5, 2) := by decide +kernel
theorem dX4_init_189 : decode cX4_init 189 = .ok (.iconst 1, 1) := by decide +kernel
theorem dX4_init_190 : decode cX4_init 190 = .ok (.iadd, 1) := by decide +kernel
theorem dX4_init_191 : decode cX4_init 191 = .ok (.iconst 2, 1) := by decide +kernel
theorem dX4_init_192 : decode cX4_init 192 = .ok (.idiv, 1) := by decide +kernel
theorem dX4_init_193 : decode cX4_init 193 = .ok (.goto 5, 3) := by decide +kernel
theorem dX4_init_196 : decode cX4_init 196 = .ok (.iload 5, 2) := by decide +kernel
theorem dX4_init_198 : decode cX4_init 198 = .ok (.putfield 65, 3) := by decide +kernel
theorem dX4_init_201 : decode cX4_init 201 = .ok (.aload_n 0, 1) := by decide +kernel
theorem dX4_init_202 : decode cX4_init 202 = .ok (.iconst 0, 1) := by decide +kernel
theorem dX4_init_203 : decode cX4_init 203 = .ok (.aload_n 0, 1) := by decide +kernel
theorem dX4_init_204 : decode cX4_init 204 = .ok (.getfield 59, 3) := by decide +kernel
theorem dX4_init_207 : decode cX4_init 207 = .ok (.ifCond .eq 12, 3) := by decide +kernel
theorem dX4_init_210 : decode cX4_init 210 = .ok (.iconst 2, 1) := by decide +kernel
theorem dX4_init_211 : decode cX4_init 211 = .ok (.aload_n 0, 1) := by decide +kernel
theorem dX4_init_212 : decode cX4_init 212 = .ok (.getfield 65, 3) := by decide +kernel
theorem dX4_init_215 : decode cX4_init 215 = .ok (.imul, 1) := by decide +kernel
theorem dX4_init_216 : decode cX4_init 216 = .ok (.goto 7, 3) := by decide +kernel
theorem dX4_init_219 : decode cX4_init 219 = .ok (.aload_n 0, 1) := by decide +kernel
theorem dX4_init_220 : decode cX4_init 220 = .ok (.getfield 65, 3) := by decide +kernel
theorem dX4_init_223 : decode cX4_init 223 = .ok (.invokestatic 29, 3) := by decide +kernel
theorem dX4_init_226 : decode cX4_init 226 = .ok (.newarray .int, 2) := by decide +kernel
theorem dX4_init_228 : decode cX4_init 228 = .ok (.putfield 68, 3) := by decide +kernel
theorem dX4_init_231 : decode cX4_init 231 = .ok (.iconst 0, 1) := by decide +kernel
theorem dX4_init_232 : decode cX4_init 232 = .ok (.istore 6, 2) := by decide +kernel
theorem dX4_init_234 : decode cX4_init 234 = .ok (.iload 6, 2) := by decide +kernel
theorem dX4_init_236 : decode cX4_init 236 = .ok (.aload_n 0, 1) := by decide +kernel
theorem dX4_init_237 : decode cX4_init 237 = .ok (.getfield 68, 3) := by decide +kernel
theorem dX4_init_240 : decode cX4_init 240 = .ok (.arraylength, 1) := by decide +kernel
theorem dX4_init_241 : decode cX4_init 241 = .ok (.if_icmp .ge 45, 3) := by decide +kernel
theorem dX4_init_244 : decode cX4_init 244 = .ok (.aload_n 0, 1) := by decide +kernel
theorem dX4_init_245 : decode cX4_init 245 = .ok (.getfield 68, 3) := by decide +kernel
theorem dX4_init_248 : decode cX4_init 248 = .ok (.iload 6, 2) := by decide +kernel
theorem dX4_init_250 : decode cX4_init 250 = .ok (.aload_n 0, 1) := by decide +kernel
theorem dX4_init_251 : decode cX4_init 251 = .ok (.getfield 59, 3) := by decide +kernel
theorem dX4_init_254 : decode cX4_init 254 = .ok (.ifCond .eq 18, 3) := by decide +kernel
theorem dX4_init_257 : decode cX4_init 257 = .ok (.aload_n 0, 1) := by decide +kernel
theorem dX4_init_258 : decode cX4_init 258 = .ok (.iload 6, 2) := by decide +kernel
theorem dX4_init_260 : decode cX4_init 260 = .ok (.iconst 2, 1) := by decide +kernel
theorem dX4_init_261 : decode cX4_init 261 = .ok (.idiv, 1) := by decide +kernel
theorem dX4_init_262 : decode cX4_init 262 = .ok (.iload 6, 2) := by decide +kernel
theorem dX4_init_264 : decode cX4_init 264 = .ok (.iconst 2, 1) := by decide +kernel
theorem dX4_init_265 : decode cX4_init 265 = .ok (.irem, 1) := by decide +kernel
theorem dX4_init_266 : decode cX4_init 266 = .ok (.invokevirtual 71, 3) := by decide +kernel
theorem dX4_init_269 : decode cX4_init 269 = .ok (.goto 10, 3) := by decide +kernel
theorem dX4_init_272 : decode cX4_init 272 = .ok (.aload_n 0, 1) := by decide +kernel
theorem dX4_init_273 : decode cX4_init 273 = .ok (.iload 6, 2) := by decide +kernel
theorem dX4_init_275 : decode cX4_init 275 = .ok (.iconst 0, 1) := by decide +kernel
theorem dX4_init_276 : decode cX4_init 276 = .ok (.invokevirtual 71, 3) := by decide +kernel
theorem dX4_init_279 : decode cX4_init 279 = .ok (.iastore, 1) := by decide +kernel
theorem dX4_init_280 : decode cX4_init 280 = .ok (.iinc 6 1, 3) := by decide +kernel
theorem dX4_init_283 : decode cX4_init 283 = .ok (.goto (-49), 3) := by decide +kernel
theorem dX4_init_286 : decode cX4_init 286 = .ok (.return_, 1) := by decide +kernel
def f4_init_b279 (c234 : Nat → Int32 → GS_ → Option (Unit × GS_)) (v0 : Nat) (v6 : Int32) (s0 : Option Nat) (s1 : Int32) (s2 : Int32) (g : GS_) : Option (Unit × GS_) :=
  oc_ s0 none fun a1 => if inb s1 (gln g 20 a1) then lr_ (sai g 20 a1 s1.toInt.toNat s2) (fun g2 => c234 v0 (v6 + (1 : Int32)) g2) else none
theorem t4_init_b279 (c234 : Nat → Int32 → GS_ → Option (Unit × GS_)) (h234 : ∀ (v0 : Nat) (v6 : Int32) (g : GS_), K_ RX4 cX4_init 7 none 3 75 true EV_ 234 [some (.inr (4, some v0)), none, none, none, none, none, some (.inl v6)] [] g (c234 v0 v6 g)) (v0 : Nat) (v6 : Int32) (s0 : Option Nat) (s1 : Int32) (s2 : Int32) (g : GS_) : K_ RX4 cX4_init 7 none 3 75 true EV_ 279 [some (.inr (4, some v0)), none, none, none, none, none, some (.inl v6)] [.inl s2, .inl s1, .inr (20, s0)] g (f4_init_b279 c234 v0 v6 s0 s1 s2 g) := by
  unfold f4_init_b279
  rcases s0 with _ | a1
  · exact k_ocn
  refine k_ocs ?_
  refine k_iast dX4_init_279 (fun g2 => ?_)
  refine k_iinc (v := (v6 + (1 : Int32))) (L' := [some (.inr (4, some v0)), none, none, none, none, none, some (.inl (v6 + (1 : Int32)))]) dX4_init_280 rfl rfl (by decide) rfl ?_
  refine k_goto (tgt := 234) dX4_init_283 (by decide) ?_
  exact h234 v0 (v6 + (1 : Int32)) g2
def f4_init_b234 : Nat → Nat → Int32 → GS_ → Option (Unit × GS_)
  | 0, _, _, _ => none
  | n + 1, v0, v6, g =>
    lr_ (gfr g 140 v0) fun x3 => oc_ x3 none fun a4 => if (Int32.ofNat (gln g 20 a4)) ≤ v6 then some ((), g) else lr_ (gfr g 140 v0) fun x5 => if (gfi g 137 v0) = 0 then bd_ (f4_loadOfPages v0 v6 (0 : Int32) g) fun z7 g6 => f4_init_b279 (f4_init_b234 n) v0 v6 x5 v6 z7 g6 else bd_ (f4_loadOfPages v0 (v6 / (2 : Int32)) (jrem v6 (2 : Int32)) g) fun z9 g8 => f4_init_b279 (f4_init_b234 n) v0 v6 x5 v6 z9 g8
theorem t4_init_b234 : ∀ (n : Nat) (v0 : Nat) (v6 : Int32) (g : GS_), K_ RX4 cX4_init 7 none 3 75 true EV_ 234 [some (.inr (4, some v0)), none, none, none, none, none, some (.inl v6)] [] g (f4_init_b234 n v0 v6 g) := by
  intro n
  induction n with
  | zero =>
    intro v0 v6 g
    exact k_fail
  | succ n ih =>
    intro v0 v6 g
    show K_ RX4 cX4_init 7 none 3 75 true EV_ 234 [some (.inr (4, some v0)), none, none, none, none, none, some (.inl v6)] [] g (lr_ (gfr g 140 v0) fun x3 => oc_ x3 none fun a4 => if (Int32.ofNat (gln g 20 a4)) ≤ v6 then some ((), g) else lr_ (gfr g 140 v0) fun x5 => if (gfi g 137 v0) = 0 then bd_ (f4_loadOfPages v0 v6 (0 : Int32) g) fun z7 g6 => f4_init_b279 (f4_init_b234 n) v0 v6 x5 v6 z7 g6 else bd_ (f4_loadOfPages v0 (v6 / (2 : Int32)) (jrem v6 (2 : Int32)) g) fun z9 g8 => f4_init_b279 (f4_init_b234 n) v0 v6 x5 v6 z9 g8)
    refine k_iload dX4_init_234 rfl ?_
    refine k_aloadn (j := 0) dX4_init_236 rfl rfl ?_
    refine k_getr fg_4_68 rfl rfl dX4_init_237 (fun x3 => ?_)
    rcases x3 with _ | a4
    · exact k_ocn
    refine k_ocs ?_
    refine k_alen dX4_init_240 (by decide) ?_
    refine k_icmpge (tgt := 286) dX4_init_241 (by decide) (fun _ => ?_) (fun _ => ?_)
    · exact k_return rfl dX4_init_286
    refine k_aloadn (j := 0) dX4_init_244 rfl rfl ?_
    refine k_getr fg_4_68 rfl rfl dX4_init_245 (fun x5 => ?_)
    refine k_iload dX4_init_248 rfl ?_
    refine k_aloadn (j := 0) dX4_init_250 rfl rfl ?_
    refine k_geti fg_4_59 rfl rfl dX4_init_251 ?_
    refine k_ifeq (tgt := 272) dX4_init_254 (by decide) (fun _ => ?_) (fun _ => ?_)
    · refine k_aloadn (j := 0) dX4_init_272 rfl rfl ?_
      refine k_iload dX4_init_273 rfl ?_
      refine k_iconst (v := (0 : Int32)) dX4_init_275 rfl ?_
      refine k_callVi [.inl v6, .inl (0 : Int32)] (t4_loadOfPages v0 v6 (0 : Int32) g) cw_cX4_loadOfPages (Or.inl ml_4_71) rfl rfl (by decide) (by decide) (Nat.le_of_ble_eq_true rfl) dX4_init_276 (fun z7 g6 => ?_)
      exact t4_init_b279 (f4_init_b234 n) ih v0 v6 x5 v6 z7 g6
    refine k_aloadn (j := 0) dX4_init_257 rfl rfl ?_
    refine k_iload dX4_init_258 rfl ?_
    refine k_iconst (v := (2 : Int32)) dX4_init_260 rfl ?_
    refine k_idivc (by decide) dX4_init_261 ?_
    refine k_iload dX4_init_262 rfl ?_
    refine k_iconst (v := (2 : Int32)) dX4_init_264 rfl ?_
    refine k_iremc (by decide) dX4_init_265 ?_
    refine k_callVi [.inl (v6 / (2 : Int32)), .inl (jrem v6 (2 : Int32))] (t4_loadOfPages v0 (v6 / (2 : Int32)) (jrem v6 (2 : Int32)) g) cw_cX4_loadOfPages (Or.inl ml_4_71) rfl rfl (by decide) (by decide) (Nat.le_of_ble_eq_true rfl) dX4_init_266 (fun z9 g8 => ?_)
    refine k_goto (tgt := 279) dX4_init_269 (by decide) ?_
    exact t4_init_b279 (f4_init_b234 n) ih v0 v6 x5 v6 z9 g8
def f4_init_b223 (v0 : Nat) (s0 : Nat) (s1 : Int32) (s2 : Int32) (g : GS_) : Option (Unit × GS_) :=
  na_ g 20 (jmax s1 s2) fun a10 g11 => lr_ (sfr g11 140 s0 (some a10)) fun g12 => f4_init_b234 FU_ v0 (0 : Int32) g12
theorem t4_init_b223 (v0 : Nat) (s0 : Nat) (s1 : Int32) (s2 : Int32) (g : GS_) : K_ RX4 cX4_init 7 none 3 75 true EV_ 223 [some (.inr (4, some v0)), none, none, none, none, none, none] [.inl s2, .inl s1, .inr (4, some s0)] g (f4_init_b223 v0 s0 s1 s2 g) := by
  unfold f4_init_b223
  refine k_max mw_max ml_4_29 (by decide) (Nat.le_of_ble_eq_true rfl) dX4_init_223 ?_
  refine k_newa ac_20 dX4_init_226 (fun a10 g11 => ?_)
  refine k_putfr fp_4_68 ty_arr rfl rfl rfl dX4_init_228 (fun g12 => ?_)
  refine k_iconst (v := (0 : Int32)) dX4_init_231 rfl ?_
  refine k_ist (L' := [some (.inr (4, some v0)), none, none, none, none, none, some (.inl (0 : Int32))]) dX4_init_232 (by decide) rfl ?_
  exact t4_init_b234 FU_ v0 (0 : Int32) g12
def f4_init_b198 (v0 : Nat) (s0 : Nat) (s1 : Int32) (g : GS_) : Option (Unit × GS_) :=
  lr_ (sfi g 139 s0 s1) fun g13 => if (gfi g13 137 v0) = 0 then f4_init_b223 v0 v0 (0 : Int32) (gfi g13 139 v0) g13 else f4_init_b223 v0 v0 (0 : Int32) ((2 : Int32) * (gfi g13 139 v0)) g13
theorem t4_init_b198 (v0 : Nat) (s0 : Nat) (s1 : Int32) (g : GS_) : K_ RX4 cX4_init 7 none 3 75 true EV_ 198 [some (.inr (4, some v0)), none, none, none, none, none, none] [.inl s1, .inr (4, some s0)] g (f4_init_b198 v0 s0 s1 g) := by
  unfold f4_init_b198
  refine k_putfi fp_4_65 rfl rfl rfl dX4_init_198 (fun g13 => ?_)
  refine k_aloadn (j := 0) dX4_init_201 rfl rfl ?_
  refine k_iconst (v := (0 : Int32)) dX4_init_202 rfl ?_
  refine k_aloadn (j := 0) dX4_init_203 rfl rfl ?_
  refine k_geti fg_4_59 rfl rfl dX4_init_204 ?_
  refine k_ifeq (tgt := 219) dX4_init_207 (by decide) (fun _ => ?_) (fun _ => ?_)
  · refine k_aloadn (j := 0) dX4_init_219 rfl rfl ?_
    refine k_geti fg_4_65 rfl rfl dX4_init_220 ?_
    exact t4_init_b223 v0 v0 (0 : Int32) (gfi g13 139 v0) g13
  refine k_iconst (v := (2 : Int32)) dX4_init_210 rfl ?_
  refine k_aloadn (j := 0) dX4_init_211 rfl rfl ?_
  refine k_geti fg_4_65 rfl rfl dX4_init_212 ?_
  refine k_imul dX4_init_215 ?_
  refine k_goto (tgt := 223) dX4_init_216 (by decide) ?_
  exact t4_init_b223 v0 v0 (0 : Int32) ((2 : Int32) * (gfi g13 139 v0)) g13
def f4_init_b144 (v0 : Nat) (v3 : Option Nat) (s0 : Nat) (s1 : Int32) (g : GS_) : Option (Unit × GS_) :=
  lr_ (sfi g 138 s0 s1) fun g14 => oc_ v3 none fun a15 => if (gfi g14 138 v0) = 0 then none else lr_ ((((Int32.ofNat (gln g14 20 a15)) + (gfi g14 138 v0)) - (1 : Int32)) / (gfi g14 138 v0)) fun z16 => if (gfi g14 136 v0) = 0 then if (gfi g14 137 v0) = 0 then f4_init_b198 v0 v0 z16 g14 else f4_init_b198 v0 v0 ((z16 + (1 : Int32)) / (2 : Int32)) g14 else f4_init_b198 v0 v0 (((Int32.ofNat (gln g14 20 a15)) + (3 : Int32)) / (4 : Int32)) g14
theorem t4_init_b144 (v0 : Nat) (v3 : Option Nat) (s0 : Nat) (s1 : Int32) (g : GS_) : K_ RX4 cX4_init 7 none 3 75 true EV_ 144 [some (.inr (4, some v0)), none, none, some (.inr (20, v3)), none, none, none] [.inl s1, .inr (4, some s0)] g (f4_init_b144 v0 v3 s0 s1 g) := by
  unfold f4_init_b144
  refine k_putfi fp_4_62 rfl rfl rfl dX4_init_144 (fun g14 => ?_)
  refine k_aloadn (j := 3) dX4_init_147 rfl rfl ?_
  rcases v3 with _ | a15
  · exact k_ocn
  refine k_ocs ?_
  refine k_alen dX4_init_148 (by decide) ?_
  refine k_aloadn (j := 0) dX4_init_149 rfl rfl ?_
  refine k_geti fg_4_62 rfl rfl dX4_init_150 ?_
  refine k_iadd dX4_init_153 ?_
  refine k_iconst (v := (1 : Int32)) dX4_init_154 rfl ?_
  refine k_isub dX4_init_155 ?_
  refine k_aloadn (j := 0) dX4_init_156 rfl rfl ?_
  refine k_geti fg_4_62 rfl rfl dX4_init_157 ?_
  refine k_idiv dX4_init_160 (fun _ => ?_)
  refine k_istl (L2 := fun z16 => [some (.inr (4, some v0)), none, none, some (.inr (20, some a15)), none, some (.inl z16), none]) dX4_init_161 (by decide) (fun _ => rfl) (fun z16 => ?_)
  refine k_aloadn (j := 0) dX4_init_163 rfl rfl ?_
  refine k_aloadn (j := 0) dX4_init_164 rfl rfl ?_
  refine k_geti fg_4_55 rfl rfl dX4_init_165 ?_
  refine k_ifeq (tgt := 180) dX4_init_168 (by decide) (fun _ => ?_) (fun _ => ?_)
  · refine k_aloadn (j := 0) dX4_init_180 rfl rfl ?_
    refine k_geti fg_4_59 rfl rfl dX4_init_181 ?_
    refine k_ifeq (tgt := 196) dX4_init_184 (by decide) (fun _ => ?_) (fun _ => ?_)
    · refine k_iload dX4_init_196 rfl ?_
      refine k_msk (L' := [some (.inr (4, some v0)), none, none, none, none, none, none]) [true, true, true, false, true, false, true] rfl ?_
      exact t4_init_b198 v0 v0 z16 g14
    refine k_iload dX4_init_187 rfl ?_
    refine k_iconst (v := (1 : Int32)) dX4_init_189 rfl ?_
    refine k_iadd dX4_init_190 ?_
    refine k_iconst (v := (2 : Int32)) dX4_init_191 rfl ?_
    refine k_idivc (by decide) dX4_init_192 ?_
    refine k_goto (tgt := 198) dX4_init_193 (by decide) ?_
    refine k_msk (L' := [some (.inr (4, some v0)), none, none, none, none, none, none]) [true, true, true, false, true, false, true] rfl ?_
    exact t4_init_b198 v0 v0 ((z16 + (1 : Int32)) / (2 : Int32)) g14
  refine k_aloadn (j := 3) dX4_init_171 rfl rfl ?_
  refine k_alen dX4_init_172 (by decide) ?_
  refine k_iconst (v := (3 : Int32)) dX4_init_173 rfl ?_
  refine k_iadd dX4_init_174 ?_
  refine k_iconst (v := (4 : Int32)) dX4_init_175 rfl ?_
  refine k_idivc (by decide) dX4_init_176 ?_
  refine k_goto (tgt := 198) dX4_init_177 (by decide) ?_
  refine k_msk (L' := [some (.inr (4, some v0)), none, none, none, none, none, none]) [true, true, true, false, true, false, true] rfl ?_
  exact t4_init_b198 v0 v0 (((Int32.ofNat (gln g14 20 a15)) + (3 : Int32)) / (4 : Int32)) g14
def f4_init_b121 (v0 : Nat) (v3 : Option Nat) (s0 : Nat) (s1 : Int32) (g : GS_) : Option (Unit × GS_) :=
  if s1 = 0 ∨ s1 = 1 then lr_ (sfi g 137 s0 s1) (fun g17 => if (gfi g17 136 v0) = 0 then f4_init_b144 v0 v3 v0 (jmax (1 : Int32) (gfi g17 134 v0)) g17 else f4_init_b144 v0 v3 v0 (2 : Int32) g17) else none
theorem t4_init_b121 (v0 : Nat) (v3 : Option Nat) (s0 : Nat) (s1 : Int32) (g : GS_) : K_ RX4 cX4_init 7 none 3 75 true EV_ 121 [some (.inr (4, some v0)), none, none, some (.inr (20, v3)), none, none, none] [.inl s1, .inr (4, some s0)] g (f4_init_b121 v0 v3 s0 s1 g) := by
  unfold f4_init_b121
  refine k_putfzc fp_4_59 rfl rfl rfl dX4_init_121 (fun g17 => ?_)
  refine k_aloadn (j := 0) dX4_init_124 rfl rfl ?_
  refine k_aloadn (j := 0) dX4_init_125 rfl rfl ?_
  refine k_geti fg_4_55 rfl rfl dX4_init_126 ?_
  refine k_ifeq (tgt := 136) dX4_init_129 (by decide) (fun _ => ?_) (fun _ => ?_)
  · refine k_iconst (v := (1 : Int32)) dX4_init_136 rfl ?_
    refine k_aloadn (j := 0) dX4_init_137 rfl rfl ?_
    refine k_geti fg_4_49 rfl rfl dX4_init_138 ?_
    refine k_max mw_max ml_4_29 (by decide) (Nat.le_of_ble_eq_true rfl) dX4_init_141 ?_
    exact t4_init_b144 v0 v3 v0 (jmax (1 : Int32) (gfi g17 134 v0)) g17
  refine k_iconst (v := (2 : Int32)) dX4_init_132 rfl ?_
  refine k_goto (tgt := 144) dX4_init_133 (by decide) ?_
  exact t4_init_b144 v0 v3 v0 (2 : Int32) g17
def f4_init_b116 (v0 : Nat) (v3 : Option Nat) (s0 : Nat) (g : GS_) : Option (Unit × GS_) :=
  f4_init_b121 v0 v3 s0 (1 : Int32) g
theorem t4_init_b116 (v0 : Nat) (v3 : Option Nat) (s0 : Nat) (g : GS_) : K_ RX4 cX4_init 7 none 3 75 true EV_ 116 [some (.inr (4, some v0)), none, none, some (.inr (20, v3)), none, none, none] [.inr (4, some s0)] g (f4_init_b116 v0 v3 s0 g) := by
  unfold f4_init_b116
  refine k_iconst (v := (1 : Int32)) dX4_init_116 rfl ?_
  refine k_goto (tgt := 121) dX4_init_117 (by decide) ?_
  exact t4_init_b121 v0 v3 s0 (1 : Int32) g
def f4_init_b98 (v0 : Nat) (v3 : Option Nat) (s0 : Nat) (s1 : Int32) (g : GS_) : Option (Unit × GS_) :=
  if s1 = 0 ∨ s1 = 1 then lr_ (sfi g 136 s0 s1) (fun g18 => if (gfi g18 136 v0) = 0 then if (gfi g18 133 v0) = 0 then f4_init_b121 v0 v3 v0 (0 : Int32) g18 else f4_init_b116 v0 v3 v0 g18 else f4_init_b116 v0 v3 v0 g18) else none
theorem t4_init_b98 (v0 : Nat) (v3 : Option Nat) (s0 : Nat) (s1 : Int32) (g : GS_) : K_ RX4 cX4_init 7 none 3 75 true EV_ 98 [some (.inr (4, some v0)), none, none, some (.inr (20, v3)), none, none, none] [.inl s1, .inr (4, some s0)] g (f4_init_b98 v0 v3 s0 s1 g) := by
  unfold f4_init_b98
  refine k_putfzc fp_4_55 rfl rfl rfl dX4_init_98 (fun g18 => ?_)
  refine k_aloadn (j := 0) dX4_init_101 rfl rfl ?_
  refine k_aloadn (j := 0) dX4_init_102 rfl rfl ?_
  refine k_geti fg_4_55 rfl rfl dX4_init_103 ?_
  refine k_ifne (tgt := 116) dX4_init_106 (by decide) (fun _ => ?_) (fun _ => ?_)
  · refine k_aloadn (j := 0) dX4_init_109 rfl rfl ?_
    refine k_geti fg_4_46 rfl rfl dX4_init_110 ?_
    refine k_ifeq (tgt := 120) dX4_init_113 (by decide) (fun _ => ?_) (fun _ => ?_)
    · refine k_iconst (v := (0 : Int32)) dX4_init_120 rfl ?_
      exact t4_init_b121 v0 v3 v0 (0 : Int32) g18
    exact t4_init_b116 v0 v3 v0 g18
  exact t4_init_b116 v0 v3 v0 g18
def f4_init_b62 (v0 : Nat) (v3 : Option Nat) (v4 : Option Nat) (s0 : Nat) (s1 : Int32) (g : GS_) : Option (Unit × GS_) :=
  lr_ (sfi g 133 s0 s1) fun g19 => oc_ v4 none fun a20 => bd_ (f8_settingAt a20 (3 : Int32) g19) fun z22 g21 => lr_ (sfi g21 134 v0 z22) fun g23 => bd_ (f8_settingAt a20 (5 : Int32) g23) fun z25 g24 => lr_ (sfi g24 135 v0 z25) fun g26 => if (gfi g26 134 v0) = 0 then f4_init_b98 v0 v3 v0 (1 : Int32) g26 else f4_init_b98 v0 v3 v0 (0 : Int32) g26
theorem t4_init_b62 (v0 : Nat) (v3 : Option Nat) (v4 : Option Nat) (s0 : Nat) (s1 : Int32) (g : GS_) : K_ RX4 cX4_init 7 none 3 75 true EV_ 62 [some (.inr (4, some v0)), none, none, some (.inr (20, v3)), some (.inr (8, v4)), none, none] [.inl s1, .inr (4, some s0)] g (f4_init_b62 v0 v3 v4 s0 s1 g) := by
  unfold f4_init_b62
  refine k_putfi fp_4_46 rfl rfl rfl dX4_init_62 (fun g19 => ?_)
  refine k_aloadn (j := 0) dX4_init_65 rfl rfl ?_
  refine k_aload dX4_init_66 rfl ?_
  refine k_iconst (v := (3 : Int32)) dX4_init_68 rfl ?_
  rcases v4 with _ | a20
  · exact k_ocn
  refine k_ocs ?_
  refine k_callVi [.inl (3 : Int32)] (t8_settingAt a20 (3 : Int32) g19) cw_cX8_settingAt (Or.inl ml_4_23) rfl rfl (by decide) (by decide) (Nat.le_of_ble_eq_true rfl) dX4_init_69 (fun z22 g21 => ?_)
  refine k_putfi fp_4_49 rfl rfl rfl dX4_init_72 (fun g23 => ?_)
  refine k_aloadn (j := 0) dX4_init_75 rfl rfl ?_
  refine k_aload dX4_init_76 rfl ?_
  refine k_iconst (v := (5 : Int32)) dX4_init_78 rfl ?_
  refine k_callVi [.inl (5 : Int32)] (t8_settingAt a20 (5 : Int32) g23) cw_cX8_settingAt (Or.inl ml_4_23) rfl rfl (by decide) (by decide) (Nat.le_of_ble_eq_true rfl) dX4_init_79 (fun z25 g24 => ?_)
  refine k_putfi fp_4_52 rfl rfl rfl dX4_init_82 (fun g26 => ?_)
  refine k_aloadn (j := 0) dX4_init_85 rfl rfl ?_
  refine k_aloadn (j := 0) dX4_init_86 rfl rfl ?_
  refine k_geti fg_4_49 rfl rfl dX4_init_87 ?_
  refine k_ifne (tgt := 97) dX4_init_90 (by decide) (fun _ => ?_) (fun _ => ?_)
  · refine k_iconst (v := (1 : Int32)) dX4_init_93 rfl ?_
    refine k_goto (tgt := 98) dX4_init_94 (by decide) ?_
    refine k_msk (L' := [some (.inr (4, some v0)), none, none, some (.inr (20, v3)), none, none, none]) [true, true, true, true, false, true, true] rfl ?_
    exact t4_init_b98 v0 v3 v0 (1 : Int32) g26
  refine k_iconst (v := (0 : Int32)) dX4_init_97 rfl ?_
  refine k_msk (L' := [some (.inr (4, some v0)), none, none, some (.inr (20, v3)), none, none, none]) [true, true, true, true, false, true, true] rfl ?_
  exact t4_init_b98 v0 v3 v0 (0 : Int32) g26
def f4_init (v0 : Nat) (v1 : Option Nat) (v2 : Int32) (v3 : Option Nat) (v4 : Option Nat) (g : GS_) : Option (Unit × GS_) :=
  lr_ (sfr g 128 v0 v1) fun g27 => lr_ (sfi g27 129 v0 v2) fun g28 => lr_ (sfr g28 130 v0 v3) fun g29 => oc_ v4 none fun a30 => bd_ (f8_settingAt a30 (0 : Int32) g29) fun z32 g31 => lr_ (sfi g31 131 v0 (jmax (1 : Int32) z32)) fun g33 => bd_ (f8_settingAt a30 (1 : Int32) g33) fun z35 g34 => lr_ (sfi g34 132 v0 z35) fun g36 => oc_ v1 none fun a37 => if (gfi g36 1 a37) = (2 : Int32) then f4_init_b62 v0 v3 (some a30) v0 (0 : Int32) g36 else bd_ (f8_settingAt a30 (2 : Int32) g36) fun z39 g38 => f4_init_b62 v0 v3 (some a30) v0 z39 g38
theorem t4_init (v0 : Nat) (v1 : Option Nat) (v2 : Int32) (v3 : Option Nat) (v4 : Option Nat) (g : GS_) : Cn_ yX4_init cX4_init 7 none 3 75 EV_ [.inr (4, some v0), .inr (0, v1), .inl v2, .inr (20, v3), .inr (8, v4)] g (f4_init v0 v1 v2 v3 v4 g) := by
  refine k_method (own := RX4) (ini := true) (L1 := [some (.inr (4, some v0)), some (.inr (0, v1)), some (.inl v2), some (.inr (20, v3)), some (.inr (8, v4)), none, none]) (by decide +kernel) rfl (fun _ => rfl) (Nat.le_of_ble_eq_true rfl) rfl ?_
  unfold f4_init
  refine k_aloadn (j := 0) dX4_init_0 rfl rfl ?_
  refine k_objInit ml_4_3 oi_.1 oi_.2 (by decide) (Nat.le_of_ble_eq_true rfl) dX4_init_1 ?_
  refine k_aloadn (j := 0) dX4_init_4 rfl rfl ?_
  refine k_aloadn (j := 1) dX4_init_5 rfl rfl ?_
  refine k_putfr fp_4_9 ty_obj rfl rfl rfl dX4_init_6 (fun g27 => ?_)
  refine k_aloadn (j := 0) dX4_init_9 rfl rfl ?_
  refine k_iloadn (j := 2) dX4_init_10 rfl rfl ?_
  refine k_putfi fp_4_15 rfl rfl rfl dX4_init_11 (fun g28 => ?_)
  refine k_aloadn (j := 0) dX4_init_14 rfl rfl ?_
  refine k_aloadn (j := 3) dX4_init_15 rfl rfl ?_
  refine k_putfr fp_4_19 ty_arr rfl rfl rfl dX4_init_16 (fun g29 => ?_)
  refine k_aloadn (j := 0) dX4_init_19 rfl rfl ?_
  refine k_iconst (v := (1 : Int32)) dX4_init_20 rfl ?_
  refine k_aload dX4_init_21 rfl ?_
  refine k_iconst (v := (0 : Int32)) dX4_init_23 rfl ?_
  rcases v4 with _ | a30
  · exact k_ocn
  refine k_ocs ?_
  refine k_callVi [.inl (0 : Int32)] (t8_settingAt a30 (0 : Int32) g29) cw_cX8_settingAt (Or.inl ml_4_23) rfl rfl (by decide) (by decide) (Nat.le_of_ble_eq_true rfl) dX4_init_24 (fun z32 g31 => ?_)
  refine k_max mw_max ml_4_29 (by decide) (Nat.le_of_ble_eq_true rfl) dX4_init_27 ?_
  refine k_putfi fp_4_35 rfl rfl rfl dX4_init_30 (fun g33 => ?_)
  refine k_aloadn (j := 0) dX4_init_33 rfl rfl ?_
  refine k_aload dX4_init_34 rfl ?_
  refine k_iconst (v := (1 : Int32)) dX4_init_36 rfl ?_
  refine k_callVi [.inl (1 : Int32)] (t8_settingAt a30 (1 : Int32) g33) cw_cX8_settingAt (Or.inl ml_4_23) rfl rfl (by decide) (by decide) (Nat.le_of_ble_eq_true rfl) dX4_init_37 (fun z35 g34 => ?_)
  refine k_putfi fp_4_38 rfl rfl rfl dX4_init_40 (fun g36 => ?_)
  refine k_aloadn (j := 0) dX4_init_43 rfl rfl ?_
  refine k_aloadn (j := 1) dX4_init_44 rfl rfl ?_
  rcases v1 with _ | a37
  · exact k_ocn
  refine k_ocs ?_
  refine k_geti fg_4_41 rfl rfl dX4_init_45 ?_
  refine k_iconst (v := (2 : Int32)) dX4_init_48 rfl ?_
  refine k_icmpne (tgt := 56) dX4_init_49 (by decide) (fun _ => ?_) (fun _ => ?_)
  · refine k_iconst (v := (0 : Int32)) dX4_init_52 rfl ?_
    refine k_goto (tgt := 62) dX4_init_53 (by decide) ?_
    refine k_msk (L' := [some (.inr (4, some v0)), none, none, some (.inr (20, v3)), some (.inr (8, some a30)), none, none]) [true, false, false, true, true, true, true] rfl ?_
    exact t4_init_b62 v0 v3 (some a30) v0 (0 : Int32) g36
  refine k_aload dX4_init_56 rfl ?_
  refine k_iconst (v := (2 : Int32)) dX4_init_58 rfl ?_
  refine k_callVi [.inl (2 : Int32)] (t8_settingAt a30 (2 : Int32) g36) cw_cX8_settingAt (Or.inl ml_4_23) rfl rfl (by decide) (by decide) (Nat.le_of_ble_eq_true rfl) dX4_init_59 (fun z39 g38 => ?_)
  refine k_msk (L' := [some (.inr (4, some v0)), none, none, some (.inr (20, v3)), some (.inr (8, some a30)), none, none]) [true, false, false, true, true, true, true] rfl ?_
  exact t4_init_b62 v0 v3 (some a30) v0 z39 g38
theorem dX4_sheets_0 : decode cX4_sheets 0 = .ok (.aload_n 0, 1) := by decide +kernel
theorem dX4_sheets_1 : decode cX4_sheets 1 = .ok (.getfield 35, 3) := by decide +kernel
theorem dX4_sheets_4 : decode cX4_sheets 4 = .ok (.aload_n 0, 1) := by decide +kernel
theorem dX4_sheets_5 : decode cX4_sheets 5 = .ok (.getfield 65, 3) := by decide +kernel
theorem dX4_sheets_8 : decode cX4_sheets 8 = .ok (.imul, 1) := by decide +kernel
theorem dX4_sheets_9 : decode cX4_sheets 9 = .ok (.ireturn, 1) := by decide +kernel
def f4_sheets (v0 : Nat) (g : GS_) : Option (Int32 × GS_) :=
  some (((gfi g 131 v0) * (gfi g 139 v0)), g)
theorem t4_sheets (v0 : Nat) (g : GS_) : Cn_ yX4_sheets cX4_sheets 1 (some .int) 0 0 EI_ [.inr (4, some v0)] g (f4_sheets v0 g) := by
  refine k_method (own := RX4) (ini := false) (L1 := [some (.inr (4, some v0))]) (by decide +kernel) rfl (fun h => by cases h) (Nat.le_of_ble_eq_true rfl) rfl ?_
  unfold f4_sheets
  refine k_aloadn (j := 0) dX4_sheets_0 rfl rfl ?_
  refine k_geti fg_4_35 rfl rfl dX4_sheets_1 ?_
  refine k_aloadn (j := 0) dX4_sheets_4 rfl rfl ?_
  refine k_geti fg_4_65 rfl rfl dX4_sheets_5 ?_
  refine k_imul dX4_sheets_8 ?_
  exact k_ireturn rfl dX4_sheets_9
theorem dX4_hasSheet_0 : decode cX4_hasSheet 0 = .ok (.iload_n 1, 1) := by decide +kernel
theorem dX4_hasSheet_1 : decode cX4_hasSheet 1 = .ok (.ifCond .lt 15, 3) := by decide +kernel
theorem dX4_hasSheet_4 : decode cX4_hasSheet 4 = .ok (.iload_n 1, 1) := by decide +kernel
theorem dX4_hasSheet_5 : decode cX4_hasSheet 5 = .ok (.aload_n 0, 1) := by decide +kernel
theorem dX4_hasSheet_6 : decode cX4_hasSheet 6 = .ok (.invokevirtual 74, 3) := by decide +kernel
theorem dX4_hasSheet_9 : decode cX4_hasSheet 9 = .ok (.if_icmp .ge 7, 3) := by decide +kernel
theorem dX4_hasSheet_12 : decode cX4_hasSheet 12 = .ok (.iconst 1, 1) := by decide +kernel
theorem dX4_hasSheet_13 : decode cX4_hasSheet 13 = .ok (.goto 4, 3) := by decide +kernel
theorem dX4_hasSheet_16 : decode cX4_hasSheet 16 = .ok (.iconst 0, 1) := by decide +kernel
theorem dX4_hasSheet_17 : decode cX4_hasSheet 17 = .ok (.ireturn, 1) := by decide +kernel
def f4_hasSheet_b16 (g : GS_) : Option (Int32 × GS_) :=
  some ((0 : Int32), g)
theorem t4_hasSheet_b16 (g : GS_) : K_ RX4 cX4_hasSheet 2 (some .boolean) 1 20 false EI_ 16 [none, none] [] g (f4_hasSheet_b16 g) := by
  unfold f4_hasSheet_b16
  refine k_iconst (v := (0 : Int32)) dX4_hasSheet_16 rfl ?_
  exact k_zreturn rfl (by decide) dX4_hasSheet_17
def f4_hasSheet (v0 : Nat) (v1 : Int32) (g : GS_) : Option (Int32 × GS_) :=
  if v1 < 0 then f4_hasSheet_b16 g else bd_ (f4_sheets v0 g) fun z2 g1 => if z2 ≤ v1 then f4_hasSheet_b16 g1 else some ((1 : Int32), g1)
theorem t4_hasSheet (v0 : Nat) (v1 : Int32) (g : GS_) : Cn_ yX4_hasSheet cX4_hasSheet 2 (some .boolean) 1 20 EI_ [.inr (4, some v0), .inl v1] g (f4_hasSheet v0 v1 g) := by
  refine k_method (own := RX4) (ini := false) (L1 := [some (.inr (4, some v0)), some (.inl v1)]) (by decide +kernel) rfl (fun h => by cases h) (Nat.le_of_ble_eq_true rfl) rfl ?_
  unfold f4_hasSheet
  refine k_iloadn (j := 1) dX4_hasSheet_0 rfl rfl ?_
  refine k_iflt (tgt := 16) dX4_hasSheet_1 (by decide) (fun _ => ?_) (fun _ => ?_)
  · refine k_msk (L' := [none, none]) [false, false] rfl ?_
    exact t4_hasSheet_b16 g
  refine k_iloadn (j := 1) dX4_hasSheet_4 rfl rfl ?_
  refine k_aloadn (j := 0) dX4_hasSheet_5 rfl rfl ?_
  refine k_callVi [] (t4_sheets v0 g) cw_cX4_sheets (Or.inl ml_4_74) rfl rfl (by decide) (by decide) (Nat.le_of_ble_eq_true rfl) dX4_hasSheet_6 (fun z2 g1 => ?_)
  refine k_icmpge (tgt := 16) dX4_hasSheet_9 (by decide) (fun _ => ?_) (fun _ => ?_)
  · refine k_msk (L' := [none, none]) [false, false] rfl ?_
    exact t4_hasSheet_b16 g1
  refine k_iconst (v := (1 : Int32)) dX4_hasSheet_12 rfl ?_
  refine k_goto (tgt := 17) dX4_hasSheet_13 (by decide) ?_
  exact k_zreturn rfl (by decide) dX4_hasSheet_17
theorem dX4_sheetOfCopy_0 : decode cX4_sheetOfCopy 0 = .ok (.aload_n 0, 1) := by decide +kernel
theorem dX4_sheetOfCopy_1 : decode cX4_sheetOfCopy 1 = .ok (.getfield 65, 3) := by decide +kernel
theorem dX4_sheetOfCopy_4 : decode cX4_sheetOfCopy 4 = .ok (.iconst 1, 1) := by decide +kernel
theorem dX4_sheetOfCopy_5 : decode cX4_sheetOfCopy 5 = .ok (.if_icmp .lt 11, 3) := by decide +kernel
theorem dX4_sheetOfCopy_8 : decode cX4_sheetOfCopy 8 = .ok (.aload_n 0, 1) := by decide +kernel
theorem dX4_sheetOfCopy_9 : decode cX4_sheetOfCopy 9 = .ok (.getfield 35, 3) := by decide +kernel
theorem dX4_sheetOfCopy_12 : decode cX4_sheetOfCopy 12 = .ok (.iconst 1, 1) := by decide +kernel
theorem dX4_sheetOfCopy_13 : decode cX4_sheetOfCopy 13 = .ok (.if_icmp .ge 5, 3) := by decide +kernel
theorem dX4_sheetOfCopy_16 : decode cX4_sheetOfCopy 16 = .ok (.iconst 0, 1) := by decide +kernel
theorem dX4_sheetOfCopy_17 : decode cX4_sheetOfCopy 17 = .ok (.ireturn, 1) := by decide +kernel
theorem dX4_sheetOfCopy_18 : decode cX4_sheetOfCopy 18 = .ok (.aload_n 0, 1) := by decide +kernel
theorem dX4_sheetOfCopy_19 : decode cX4_sheetOfCopy 19 = .ok (.getfield 38, 3) := by decide +kernel
theorem dX4_sheetOfCopy_22 : decode cX4_sheetOfCopy 22 = .ok (.iconst 1, 1) := by decide +kernel
theorem dX4_sheetOfCopy_23 : decode cX4_sheetOfCopy 23 = .ok (.if_icmp .ne 12, 3) := by decide +kernel
theorem dX4_sheetOfCopy_26 : decode cX4_sheetOfCopy 26 = .ok (.iload_n 1, 1) := by decide +kernel
theorem dX4_sheetOfCopy_27 : decode cX4_sheetOfCopy 27 = .ok (.aload_n 0, 1) := by decide +kernel
theorem dX4_sheetOfCopy_28 : decode cX4_sheetOfCopy 28 = .ok (.getfield 65, 3) := by decide +kernel
theorem dX4_sheetOfCopy_31 : decode cX4_sheetOfCopy 31 = .ok (.irem, 1) := by decide +kernel
theorem dX4_sheetOfCopy_32 : decode cX4_sheetOfCopy 32 = .ok (.goto 9, 3) := by decide +kernel
theorem dX4_sheetOfCopy_35 : decode cX4_sheetOfCopy 35 = .ok (.iload_n 1, 1) := by decide +kernel
theorem dX4_sheetOfCopy_36 : decode cX4_sheetOfCopy 36 = .ok (.aload_n 0, 1) := by decide +kernel
theorem dX4_sheetOfCopy_37 : decode cX4_sheetOfCopy 37 = .ok (.getfield 35, 3) := by decide +kernel
theorem dX4_sheetOfCopy_40 : decode cX4_sheetOfCopy 40 = .ok (.idiv, 1) := by decide +kernel
theorem dX4_sheetOfCopy_41 : decode cX4_sheetOfCopy 41 = .ok (.ireturn, 1) := by decide +kernel
def f4_sheetOfCopy (v0 : Nat) (v1 : Int32) (g : GS_) : Option (Int32 × GS_) :=
  if (gfi g 139 v0) < (1 : Int32) then some ((0 : Int32), g) else if (1 : Int32) ≤ (gfi g 131 v0) then if (gfi g 132 v0) = (1 : Int32) then if (gfi g 139 v0) = 0 then none else some ((jrem v1 (gfi g 139 v0)), g) else if (gfi g 131 v0) = 0 then none else some ((v1 / (gfi g 131 v0)), g) else some ((0 : Int32), g)
theorem t4_sheetOfCopy (v0 : Nat) (v1 : Int32) (g : GS_) : Cn_ yX4_sheetOfCopy cX4_sheetOfCopy 2 (some .int) 0 0 EI_ [.inr (4, some v0), .inl v1] g (f4_sheetOfCopy v0 v1 g) := by
  refine k_method (own := RX4) (ini := false) (L1 := [some (.inr (4, some v0)), some (.inl v1)]) (by decide +kernel) rfl (fun h => by cases h) (Nat.le_of_ble_eq_true rfl) rfl ?_
  unfold f4_sheetOfCopy
  refine k_aloadn (j := 0) dX4_sheetOfCopy_0 rfl rfl ?_
  refine k_geti fg_4_65 rfl rfl dX4_sheetOfCopy_1 ?_
  refine k_iconst (v := (1 : Int32)) dX4_sheetOfCopy_4 rfl ?_
  refine k_icmplt (tgt := 16) dX4_sheetOfCopy_5 (by decide) (fun _ => ?_) (fun _ => ?_)
  · refine k_iconst (v := (0 : Int32)) dX4_sheetOfCopy_16 rfl ?_
    exact k_ireturn rfl dX4_sheetOfCopy_17
  refine k_aloadn (j := 0) dX4_sheetOfCopy_8 rfl rfl ?_
  refine k_geti fg_4_35 rfl rfl dX4_sheetOfCopy_9 ?_
  refine k_iconst (v := (1 : Int32)) dX4_sheetOfCopy_12 rfl ?_
  refine k_icmpge (tgt := 18) dX4_sheetOfCopy_13 (by decide) (fun _ => ?_) (fun _ => ?_)
  · refine k_aloadn (j := 0) dX4_sheetOfCopy_18 rfl rfl ?_
    refine k_geti fg_4_38 rfl rfl dX4_sheetOfCopy_19 ?_
    refine k_iconst (v := (1 : Int32)) dX4_sheetOfCopy_22 rfl ?_
    refine k_icmpne (tgt := 35) dX4_sheetOfCopy_23 (by decide) (fun _ => ?_) (fun _ => ?_)
    · refine k_iloadn (j := 1) dX4_sheetOfCopy_26 rfl rfl ?_
      refine k_aloadn (j := 0) dX4_sheetOfCopy_27 rfl rfl ?_
      refine k_geti fg_4_65 rfl rfl dX4_sheetOfCopy_28 ?_
      refine k_irem dX4_sheetOfCopy_31 (fun _ => ?_)
      refine k_goto (tgt := 41) dX4_sheetOfCopy_32 (by decide) ?_
      exact k_ireturn rfl dX4_sheetOfCopy_41
    refine k_iloadn (j := 1) dX4_sheetOfCopy_35 rfl rfl ?_
    refine k_aloadn (j := 0) dX4_sheetOfCopy_36 rfl rfl ?_
    refine k_geti fg_4_35 rfl rfl dX4_sheetOfCopy_37 ?_
    refine k_idiv dX4_sheetOfCopy_40 (fun _ => ?_)
    exact k_ireturn rfl dX4_sheetOfCopy_41
  refine k_iconst (v := (0 : Int32)) dX4_sheetOfCopy_16 rfl ?_
  exact k_ireturn rfl dX4_sheetOfCopy_17
