/-! methods as functions over numbers, and that the machine does them: written by wip/whole/gen/mkparts.py (decode rows: printed names) -/
theorem dX10_hasQuota_0 : decode cX10_hasQuota 0 = .ok (.aload_n 0, 1) := by decide +kernel
theorem dX10_hasQuota_1 : decode cX10_hasQuota 1 = .ok (.getfield 7, 3) := by decide +kernel
theorem dX10_hasQuota_4 : decode cX10_hasQuota 4 = .ok (.bipush 20, 2) := by decide +kernel
theorem dX10_hasQuota_6 : decode cX10_hasQuota 6 = .ok (.aload_n 0, 1) := by decide +kernel
theorem dX10_hasQuota_7 : decode cX10_hasQuota 7 = .ok (.iload_n 1, 1) := by decide +kernel
theorem dX10_hasQuota_8 : decode cX10_hasQuota 8 = .ok (.iconst 5, 1) := by decide +kernel
theorem dX10_hasQuota_9 : decode cX10_hasQuota 9 = .ok (.invokevirtual 133, 3) := by decide +kernel
theorem dX10_hasQuota_12 : decode cX10_hasQuota 12 = .ok (.iadd, 1) := by decide +kernel
theorem dX10_hasQuota_13 : decode cX10_hasQuota 13 = .ok (.iaload, 1) := by decide +kernel
theorem dX10_hasQuota_14 : decode cX10_hasQuota 14 = .ok (.aload_n 0, 1) := by decide +kernel
theorem dX10_hasQuota_15 : decode cX10_hasQuota 15 = .ok (.getfield 7, 3) := by decide +kernel
theorem dX10_hasQuota_18 : decode cX10_hasQuota 18 = .ok (.bipush 14, 2) := by decide +kernel
theorem dX10_hasQuota_20 : decode cX10_hasQuota 20 = .ok (.aload_n 0, 1) := by decide +kernel
theorem dX10_hasQuota_21 : decode cX10_hasQuota 21 = .ok (.iload_n 1, 1) := by decide +kernel
theorem dX10_hasQuota_22 : decode cX10_hasQuota 22 = .ok (.iconst 5, 1) := by decide +kernel
theorem dX10_hasQuota_23 : decode cX10_hasQuota 23 = .ok (.invokevirtual 133, 3) := by decide +kernel
theorem dX10_hasQuota_26 : decode cX10_hasQuota 26 = .ok (.iadd, 1) := by decide +kernel
theorem dX10_hasQuota_27 : decode cX10_hasQuota 27 = .ok (.iaload, 1) := by decide +kernel
theorem dX10_hasQuota_28 : decode cX10_hasQuota 28 = .ok (.if_icmp .ge 7, 3) := by decide +kernel
theorem dX10_hasQuota_31 : decode cX10_hasQuota 31 = .ok (.iconst 1, 1) := by decide +kernel
theorem dX10_hasQuota_32 : decode cX10_hasQuota 32 = .ok (.goto 4, 3) := by decide +kernel
theorem dX10_hasQuota_35 : decode cX10_hasQuota 35 = .ok (.iconst 0, 1) := by decide +kernel
theorem dX10_hasQuota_36 : decode cX10_hasQuota 36 = .ok (.ireturn, 1) := by decide +kernel
def f10_hasQuota (v0 : Nat) (v1 : Int32) (g : GS_) : Option (Int32 × GS_) :=
  lr_ (gfr g 320 v0) fun x1 => bd_ (f10_ofJob v0 v1 (5 : Int32) g) fun z3 g2 => oc_ x1 none fun a4 => if inb ((20 : Int32) + z3) (gln g2 20 a4) then lr_ (gfr g2 320 v0) fun x5 => bd_ (f10_ofJob v0 v1 (5 : Int32) g2) fun z7 g6 => oc_ x5 none fun a8 => if inb ((14 : Int32) + z7) (gln g6 20 a8) then if (gai g6 20 a8 ((14 : Int32) + z7).toInt.toNat) ≤ (gai g2 20 a4 ((20 : Int32) + z3).toInt.toNat) then some ((0 : Int32), g6) else some ((1 : Int32), g6) else none else none
theorem t10_hasQuota (v0 : Nat) (v1 : Int32) (g : GS_) : Cn_ yX10_hasQuota cX10_hasQuota 2 (some .boolean) 1 22 EI_ [.inr (10, some v0), .inl v1] g (f10_hasQuota v0 v1 g) := by
  refine k_method (own := RX10) (ini := false) (L1 := [some (.inr (10, some v0)), some (.inl v1)]) (by decide +kernel) rfl (fun h => by cases h) (Nat.le_of_ble_eq_true rfl) rfl ?_
  unfold f10_hasQuota
  refine k_aloadn (j := 0) dX10_hasQuota_0 rfl rfl ?_
  refine k_getr fg_10_7 rfl rfl dX10_hasQuota_1 (fun x1 => ?_)
  refine k_bipush (v := (20 : Int32)) dX10_hasQuota_4 rfl ?_
  refine k_aloadn (j := 0) dX10_hasQuota_6 rfl rfl ?_
  refine k_iloadn (j := 1) dX10_hasQuota_7 rfl rfl ?_
  refine k_iconst (v := (5 : Int32)) dX10_hasQuota_8 rfl ?_
  refine k_callVi [.inl v1, .inl (5 : Int32)] (t10_ofJob v0 v1 (5 : Int32) g) cw_cX10_ofJob (Or.inl ml_10_133) rfl rfl (by decide) (by decide) (Nat.le_of_ble_eq_true rfl) dX10_hasQuota_9 (fun z3 g2 => ?_)
  refine k_iadd dX10_hasQuota_12 ?_
  rcases x1 with _ | a4
  · exact k_ocn
  refine k_ocs ?_
  refine k_iald dX10_hasQuota_13 ?_
  refine k_aloadn (j := 0) dX10_hasQuota_14 rfl rfl ?_
  refine k_getr fg_10_7 rfl rfl dX10_hasQuota_15 (fun x5 => ?_)
  refine k_bipush (v := (14 : Int32)) dX10_hasQuota_18 rfl ?_
  refine k_aloadn (j := 0) dX10_hasQuota_20 rfl rfl ?_
  refine k_iloadn (j := 1) dX10_hasQuota_21 rfl rfl ?_
  refine k_iconst (v := (5 : Int32)) dX10_hasQuota_22 rfl ?_
  refine k_callVi [.inl v1, .inl (5 : Int32)] (t10_ofJob v0 v1 (5 : Int32) g2) cw_cX10_ofJob (Or.inl ml_10_133) rfl rfl (by decide) (by decide) (Nat.le_of_ble_eq_true rfl) dX10_hasQuota_23 (fun z7 g6 => ?_)
  refine k_iadd dX10_hasQuota_26 ?_
  rcases x5 with _ | a8
  · exact k_ocn
  refine k_ocs ?_
  refine k_iald dX10_hasQuota_27 ?_
  refine k_icmpge (tgt := 35) dX10_hasQuota_28 (by decide) (fun _ => ?_) (fun _ => ?_)
  · refine k_iconst (v := (0 : Int32)) dX10_hasQuota_35 rfl ?_
    exact k_zreturn rfl (by decide) dX10_hasQuota_36
  refine k_iconst (v := (1 : Int32)) dX10_hasQuota_31 rfl ?_
  refine k_goto (tgt := 36) dX10_hasQuota_32 (by decide) ?_
  exact k_zreturn rfl (by decide) dX10_hasQuota_36
theorem dX10_isPrintable_0 : decode cX10_isPrintable 0 = .ok (.aload_n 0, 1) := by decide +kernel
theorem dX10_isPrintable_1 : decode cX10_isPrintable 1 = .ok (.iload_n 2, 1) := by decide +kernel
theorem dX10_isPrintable_2 : decode cX10_isPrintable 2 = .ok (.iconst 2, 1) := by decide +kernel
theorem dX10_isPrintable_3 : decode cX10_isPrintable 3 = .ok (.invokevirtual 190, 3) := by decide +kernel
theorem dX10_isPrintable_6 : decode cX10_isPrintable 6 = .ok (.iconst 1, 1) := by decide +kernel
theorem dX10_isPrintable_7 : decode cX10_isPrintable 7 = .ok (.if_icmp .eq 12, 3) := by decide +kernel
theorem dX10_isPrintable_10 : decode cX10_isPrintable 10 = .ok (.aload_n 0, 1) := by decide +kernel
theorem dX10_isPrintable_11 : decode cX10_isPrintable 11 = .ok (.iload_n 1, 1) := by decide +kernel
theorem dX10_isPrintable_12 : decode cX10_isPrintable 12 = .ok (.invokevirtual 142, 3) := by decide +kernel
theorem dX10_isPrintable_15 : decode cX10_isPrintable 15 = .ok (.iconst 1, 1) := by decide +kernel
theorem dX10_isPrintable_16 : decode cX10_isPrintable 16 = .ok (.if_icmp .ne 7, 3) := by decide +kernel
theorem dX10_isPrintable_19 : decode cX10_isPrintable 19 = .ok (.iconst 1, 1) := by decide +kernel
theorem dX10_isPrintable_20 : decode cX10_isPrintable 20 = .ok (.goto 4, 3) := by decide +kernel
theorem dX10_isPrintable_23 : decode cX10_isPrintable 23 = .ok (.iconst 0, 1) := by decide +kernel
theorem dX10_isPrintable_24 : decode cX10_isPrintable 24 = .ok (.istore_n 3, 1) := by decide +kernel
theorem dX10_isPrintable_25 : decode cX10_isPrintable 25 = .ok (.iload_n 3, 1) := by decide +kernel
theorem dX10_isPrintable_26 : decode cX10_isPrintable 26 = .ok (.ifCond .eq 34, 3) := by decide +kernel
theorem dX10_isPrintable_29 : decode cX10_isPrintable 29 = .ok (.aload_n 0, 1) := by decide +kernel
theorem dX10_isPrintable_30 : decode cX10_isPrintable 30 = .ok (.iload_n 1, 1) := by decide +kernel
theorem dX10_isPrintable_31 : decode cX10_isPrintable 31 = .ok (.bipush 9, 2) := by decide +kernel
theorem dX10_isPrintable_33 : decode cX10_isPrintable 33 = .ok (.invokevirtual 133, 3) := by decide +kernel
theorem dX10_isPrintable_36 : decode cX10_isPrintable 36 = .ok (.ifCond .ne 24, 3) := by decide +kernel
theorem dX10_isPrintable_39 : decode cX10_isPrintable 39 = .ok (.aload_n 0, 1) := by decide +kernel
theorem dX10_isPrintable_40 : decode cX10_isPrintable 40 = .ok (.iload_n 1, 1) := by decide +kernel
theorem dX10_isPrintable_41 : decode cX10_isPrintable 41 = .ok (.iload_n 2, 1) := by decide +kernel
theorem dX10_isPrintable_42 : decode cX10_isPrintable 42 = .ok (.invokevirtual 220, 3) := by decide +kernel
theorem dX10_isPrintable_45 : decode cX10_isPrintable 45 = .ok (.ifCond .le 15, 3) := by decide +kernel
theorem dX10_isPrintable_48 : decode cX10_isPrintable 48 = .ok (.aload_n 0, 1) := by decide +kernel
theorem dX10_isPrintable_49 : decode cX10_isPrintable 49 = .ok (.iload_n 1, 1) := by decide +kernel
theorem dX10_isPrintable_50 : decode cX10_isPrintable 50 = .ok (.invokevirtual 223, 3) := by decide +kernel
theorem dX10_isPrintable_53 : decode cX10_isPrintable 53 = .ok (.ifCond .eq 7, 3) := by decide +kernel
theorem dX10_isPrintable_56 : decode cX10_isPrintable 56 = .ok (.iconst 1, 1) := by decide +kernel
theorem dX10_isPrintable_57 : decode cX10_isPrintable 57 = .ok (.goto 4, 3) := by decide +kernel
theorem dX10_isPrintable_60 : decode cX10_isPrintable 60 = .ok (.iconst 0, 1) := by decide +kernel
theorem dX10_isPrintable_61 : decode cX10_isPrintable 61 = .ok (.ireturn, 1) := by decide +kernel
def f10_isPrintable_b60 (g : GS_) : Option (Int32 × GS_) :=
  some ((0 : Int32), g)
theorem t10_isPrintable_b60 (g : GS_) : K_ RX10 cX10_isPrintable 4 (some .boolean) 3 64 false EI_ 60 [none, none, none, none] [] g (f10_isPrintable_b60 g) := by
  unfold f10_isPrintable_b60
  refine k_iconst (v := (0 : Int32)) dX10_isPrintable_60 rfl ?_
  exact k_zreturn rfl (by decide) dX10_isPrintable_61
def f10_isPrintable_b24 (v0 : Nat) (v1 : Int32) (v2 : Int32) (s0 : Int32) (g : GS_) : Option (Int32 × GS_) :=
  if s0 = 0 then f10_isPrintable_b60 g else bd_ (f10_ofJob v0 v1 (9 : Int32) g) fun z2 g1 => if z2 = 0 then bd_ (f10_trayFor v0 v1 v2 g1) fun z4 g3 => if z4 ≤ 0 then f10_isPrintable_b60 g3 else bd_ (f10_hasQuota v0 v1 g3) fun z6 g5 => if z6 = 0 then f10_isPrintable_b60 g5 else some ((1 : Int32), g5) else f10_isPrintable_b60 g1
theorem t10_isPrintable_b24 (v0 : Nat) (v1 : Int32) (v2 : Int32) (s0 : Int32) (g : GS_) : K_ RX10 cX10_isPrintable 4 (some .boolean) 3 64 false EI_ 24 [some (.inr (10, some v0)), some (.inl v1), some (.inl v2), none] [.inl s0] g (f10_isPrintable_b24 v0 v1 v2 s0 g) := by
  unfold f10_isPrintable_b24
  refine k_istn (j := 3) (L' := [some (.inr (10, some v0)), some (.inl v1), some (.inl v2), some (.inl s0)]) dX10_isPrintable_24 rfl (by decide) rfl ?_
  refine k_iloadn (j := 3) dX10_isPrintable_25 rfl rfl ?_
  refine k_ifeq (tgt := 60) dX10_isPrintable_26 (by decide) (fun _ => ?_) (fun _ => ?_)
  · refine k_msk (L' := [none, none, none, none]) [false, false, false, false] rfl ?_
    exact t10_isPrintable_b60 g
  refine k_aloadn (j := 0) dX10_isPrintable_29 rfl rfl ?_
  refine k_iloadn (j := 1) dX10_isPrintable_30 rfl rfl ?_
  refine k_bipush (v := (9 : Int32)) dX10_isPrintable_31 rfl ?_
  refine k_callVi [.inl v1, .inl (9 : Int32)] (t10_ofJob v0 v1 (9 : Int32) g) cw_cX10_ofJob (Or.inl ml_10_133) rfl rfl (by decide) (by decide) (Nat.le_of_ble_eq_true rfl) dX10_isPrintable_33 (fun z2 g1 => ?_)
  refine k_ifne (tgt := 60) dX10_isPrintable_36 (by decide) (fun _ => ?_) (fun _ => ?_)
  · refine k_aloadn (j := 0) dX10_isPrintable_39 rfl rfl ?_
    refine k_iloadn (j := 1) dX10_isPrintable_40 rfl rfl ?_
    refine k_iloadn (j := 2) dX10_isPrintable_41 rfl rfl ?_
    refine k_callVi [.inl v1, .inl v2] (t10_trayFor v0 v1 v2 g1) cw_cX10_trayFor (Or.inl ml_10_220) rfl rfl (by decide) (by decide) (Nat.le_of_ble_eq_true rfl) dX10_isPrintable_42 (fun z4 g3 => ?_)
    refine k_ifle (tgt := 60) dX10_isPrintable_45 (by decide) (fun _ => ?_) (fun _ => ?_)
    · refine k_msk (L' := [none, none, none, none]) [false, false, false, false] rfl ?_
      exact t10_isPrintable_b60 g3
    refine k_aloadn (j := 0) dX10_isPrintable_48 rfl rfl ?_
    refine k_iloadn (j := 1) dX10_isPrintable_49 rfl rfl ?_
    refine k_callVi [.inl v1] (t10_hasQuota v0 v1 g3) cw_cX10_hasQuota (Or.inl ml_10_223) rfl rfl (by decide) (by decide) (Nat.le_of_ble_eq_true rfl) dX10_isPrintable_50 (fun z6 g5 => ?_)
    refine k_ifeq (tgt := 60) dX10_isPrintable_53 (by decide) (fun _ => ?_) (fun _ => ?_)
    · refine k_msk (L' := [none, none, none, none]) [false, false, false, false] rfl ?_
      exact t10_isPrintable_b60 g5
    refine k_iconst (v := (1 : Int32)) dX10_isPrintable_56 rfl ?_
    refine k_goto (tgt := 61) dX10_isPrintable_57 (by decide) ?_
    exact k_zreturn rfl (by decide) dX10_isPrintable_61
  refine k_msk (L' := [none, none, none, none]) [false, false, false, false] rfl ?_
  exact t10_isPrintable_b60 g1
def f10_isPrintable_b19 (v0 : Nat) (v1 : Int32) (v2 : Int32) (g : GS_) : Option (Int32 × GS_) :=
  f10_isPrintable_b24 v0 v1 v2 (1 : Int32) g
theorem t10_isPrintable_b19 (v0 : Nat) (v1 : Int32) (v2 : Int32) (g : GS_) : K_ RX10 cX10_isPrintable 4 (some .boolean) 3 64 false EI_ 19 [some (.inr (10, some v0)), some (.inl v1), some (.inl v2), none] [] g (f10_isPrintable_b19 v0 v1 v2 g) := by
  unfold f10_isPrintable_b19
  refine k_iconst (v := (1 : Int32)) dX10_isPrintable_19 rfl ?_
  refine k_goto (tgt := 24) dX10_isPrintable_20 (by decide) ?_
  exact t10_isPrintable_b24 v0 v1 v2 (1 : Int32) g
def f10_isPrintable (v0 : Nat) (v1 : Int32) (v2 : Int32) (g : GS_) : Option (Int32 × GS_) :=
  bd_ (f10_ofPrinter v0 v2 (2 : Int32) g) fun z8 g7 => if z8 = (1 : Int32) then f10_isPrintable_b19 v0 v1 v2 g7 else bd_ (f10_sidesOf v0 v1 g7) fun z10 g9 => if z10 = (1 : Int32) then f10_isPrintable_b19 v0 v1 v2 g9 else f10_isPrintable_b24 v0 v1 v2 (0 : Int32) g9
theorem t10_isPrintable (v0 : Nat) (v1 : Int32) (v2 : Int32) (g : GS_) : Cn_ yX10_isPrintable cX10_isPrintable 4 (some .boolean) 3 64 EI_ [.inr (10, some v0), .inl v1, .inl v2] g (f10_isPrintable v0 v1 v2 g) := by
  refine k_method (own := RX10) (ini := false) (L1 := [some (.inr (10, some v0)), some (.inl v1), some (.inl v2), none]) (by decide +kernel) rfl (fun h => by cases h) (Nat.le_of_ble_eq_true rfl) rfl ?_
  unfold f10_isPrintable
  refine k_aloadn (j := 0) dX10_isPrintable_0 rfl rfl ?_
  refine k_iloadn (j := 2) dX10_isPrintable_1 rfl rfl ?_
  refine k_iconst (v := (2 : Int32)) dX10_isPrintable_2 rfl ?_
  refine k_callVi [.inl v2, .inl (2 : Int32)] (t10_ofPrinter v0 v2 (2 : Int32) g) cw_cX10_ofPrinter (Or.inl ml_10_190) rfl rfl (by decide) (by decide) (Nat.le_of_ble_eq_true rfl) dX10_isPrintable_3 (fun z8 g7 => ?_)
  refine k_iconst (v := (1 : Int32)) dX10_isPrintable_6 rfl ?_
  refine k_icmpeq (tgt := 19) dX10_isPrintable_7 (by decide) (fun _ => ?_) (fun _ => ?_)
  · exact t10_isPrintable_b19 v0 v1 v2 g7
  refine k_aloadn (j := 0) dX10_isPrintable_10 rfl rfl ?_
  refine k_iloadn (j := 1) dX10_isPrintable_11 rfl rfl ?_
  refine k_callVi [.inl v1] (t10_sidesOf v0 v1 g7) cw_cX10_sidesOf (Or.inl ml_10_142) rfl rfl (by decide) (by decide) (Nat.le_of_ble_eq_true rfl) dX10_isPrintable_12 (fun z10 g9 => ?_)
  refine k_iconst (v := (1 : Int32)) dX10_isPrintable_15 rfl ?_
  refine k_icmpne (tgt := 23) dX10_isPrintable_16 (by decide) (fun _ => ?_) (fun _ => ?_)
  · exact t10_isPrintable_b19 v0 v1 v2 g9
  refine k_iconst (v := (0 : Int32)) dX10_isPrintable_23 rfl ?_
  exact t10_isPrintable_b24 v0 v1 v2 (0 : Int32) g9
theorem dX10_bestFor_0 : decode cX10_bestFor 0 = .ok (.bipush (-6), 2) := by decide +kernel
theorem dX10_bestFor_2 : decode cX10_bestFor 2 = .ok (.istore_n 2, 1) := by decide +kernel
theorem dX10_bestFor_3 : decode cX10_bestFor 3 = .ok (.iconst 0, 1) := by decide +kernel
theorem dX10_bestFor_4 : decode cX10_bestFor 4 = .ok (.istore_n 3, 1) := by decide +kernel
theorem dX10_bestFor_5 : decode cX10_bestFor 5 = .ok (.iload_n 3, 1) := by decide +kernel
theorem dX10_bestFor_6 : decode cX10_bestFor 6 = .ok (.aload_n 0, 1) := by decide +kernel
theorem dX10_bestFor_7 : decode cX10_bestFor 7 = .ok (.getfield 7, 3) := by decide +kernel
theorem dX10_bestFor_10 : decode cX10_bestFor 10 = .ok (.iconst 4, 1) := by decide +kernel
theorem dX10_bestFor_11 : decode cX10_bestFor 11 = .ok (.iaload, 1) := by decide +kernel
theorem dX10_bestFor_12 : decode cX10_bestFor 12 = .ok (.if_icmp .ge 37, 3) := by decide +kernel
theorem dX10_bestFor_15 : decode cX10_bestFor 15 = .ok (.aload_n 0, 1) := by decide +kernel
theorem dX10_bestFor_16 : decode cX10_bestFor 16 = .ok (.iload_n 3, 1) := by decide +kernel
theorem dX10_bestFor_17 : decode cX10_bestFor 17 = .ok (.iload_n 1, 1) := by decide +kernel
theorem dX10_bestFor_18 : decode cX10_bestFor 18 = .ok (.invokevirtual 226, 3) := by decide +kernel
theorem dX10_bestFor_21 : decode cX10_bestFor 21 = .ok (.ifCond .eq 22, 3) := by decide +kernel
theorem dX10_bestFor_24 : decode cX10_bestFor 24 = .ok (.iload_n 2, 1) := by decide +kernel
theorem dX10_bestFor_25 : decode cX10_bestFor 25 = .ok (.ifCond .lt 16, 3) := by decide +kernel
theorem dX10_bestFor_28 : decode cX10_bestFor 28 = .ok (.aload_n 0, 1) := by decide +kernel
theorem dX10_bestFor_29 : decode cX10_bestFor 29 = .ok (.iload_n 3, 1) := by decide +kernel
theorem dX10_bestFor_30 : decode cX10_bestFor 30 = .ok (.invokevirtual 152, 3) := by decide +kernel
theorem dX10_bestFor_33 : decode cX10_bestFor 33 = .ok (.aload_n 0, 1) := by decide +kernel
theorem dX10_bestFor_34 : decode cX10_bestFor 34 = .ok (.iload_n 2, 1) := by decide +kernel
theorem dX10_bestFor_35 : decode cX10_bestFor 35 = .ok (.invokevirtual 152, 3) := by decide +kernel
theorem dX10_bestFor_38 : decode cX10_bestFor 38 = .ok (.if_icmp .le 5, 3) := by decide +kernel
theorem dX10_bestFor_41 : decode cX10_bestFor 41 = .ok (.iload_n 3, 1) := by decide +kernel
theorem dX10_bestFor_42 : decode cX10_bestFor 42 = .ok (.istore_n 2, 1) := by decide +kernel
theorem dX10_bestFor_43 : decode cX10_bestFor 43 = .ok (.iinc 3 1, 3) := by decide +kernel
theorem dX10_bestFor_46 : decode cX10_bestFor 46 = .ok (.goto (-41), 3) := by decide +kernel
theorem dX10_bestFor_49 : decode cX10_bestFor 49 = .ok (.iload_n 2, 1) := by decide +kernel
theorem dX10_bestFor_50 : decode cX10_bestFor 50 = .ok (.ireturn, 1) := by decide +kernel
def f10_bestFor_b43 (c5 : Nat → Int32 → Int32 → Int32 → GS_ → Option (Int32 × GS_)) (v0 : Nat) (v1 : Int32) (v2 : Int32) (v3 : Int32) (g : GS_) : Option (Int32 × GS_) :=
  c5 v0 v1 v2 (v3 + (1 : Int32)) g
theorem t10_bestFor_b43 (c5 : Nat → Int32 → Int32 → Int32 → GS_ → Option (Int32 × GS_)) (h5 : ∀ (v0 : Nat) (v1 : Int32) (v2 : Int32) (v3 : Int32) (g : GS_), K_ RX10 cX10_bestFor 4 (some .int) 4 87 false EI_ 5 [some (.inr (10, some v0)), some (.inl v1), some (.inl v2), some (.inl v3)] [] g (c5 v0 v1 v2 v3 g)) (v0 : Nat) (v1 : Int32) (v2 : Int32) (v3 : Int32) (g : GS_) : K_ RX10 cX10_bestFor 4 (some .int) 4 87 false EI_ 43 [some (.inr (10, some v0)), some (.inl v1), some (.inl v2), some (.inl v3)] [] g (f10_bestFor_b43 c5 v0 v1 v2 v3 g) := by
  unfold f10_bestFor_b43
  refine k_iinc (v := (v3 + (1 : Int32))) (L' := [some (.inr (10, some v0)), some (.inl v1), some (.inl v2), some (.inl (v3 + (1 : Int32)))]) dX10_bestFor_43 rfl rfl (by decide) rfl ?_
  refine k_goto (tgt := 5) dX10_bestFor_46 (by decide) ?_
  exact h5 v0 v1 v2 (v3 + (1 : Int32)) g
def f10_bestFor_b41 (c5 : Nat → Int32 → Int32 → Int32 → GS_ → Option (Int32 × GS_)) (v0 : Nat) (v1 : Int32) (v3 : Int32) (g : GS_) : Option (Int32 × GS_) :=
  f10_bestFor_b43 c5 v0 v1 v3 v3 g
theorem t10_bestFor_b41 (c5 : Nat → Int32 → Int32 → Int32 → GS_ → Option (Int32 × GS_)) (h5 : ∀ (v0 : Nat) (v1 : Int32) (v2 : Int32) (v3 : Int32) (g : GS_), K_ RX10 cX10_bestFor 4 (some .int) 4 87 false EI_ 5 [some (.inr (10, some v0)), some (.inl v1), some (.inl v2), some (.inl v3)] [] g (c5 v0 v1 v2 v3 g)) (v0 : Nat) (v1 : Int32) (v3 : Int32) (g : GS_) : K_ RX10 cX10_bestFor 4 (some .int) 4 87 false EI_ 41 [some (.inr (10, some v0)), some (.inl v1), none, some (.inl v3)] [] g (f10_bestFor_b41 c5 v0 v1 v3 g) := by
  unfold f10_bestFor_b41
  refine k_iloadn (j := 3) dX10_bestFor_41 rfl rfl ?_
  refine k_istn (j := 2) (L' := [some (.inr (10, some v0)), some (.inl v1), some (.inl v3), some (.inl v3)]) dX10_bestFor_42 rfl (by decide) rfl ?_
  exact t10_bestFor_b43 c5 h5 v0 v1 v3 v3 g
def f10_bestFor_b5 : Nat → Nat → Int32 → Int32 → Int32 → GS_ → Option (Int32 × GS_)
  | 0, _, _, _, _, _ => none
  | n + 1, v0, v1, v2, v3, g =>
    lr_ (gfr g 320 v0) fun x1 => oc_ x1 none fun a2 => if inb (4 : Int32) (gln g 20 a2) then if (gai g 20 a2 (4 : Int32).toInt.toNat) ≤ v3 then some (v2, g) else bd_ (f10_isPrintable v0 v3 v1 g) fun z4 g3 => if z4 = 0 then f10_bestFor_b43 (f10_bestFor_b5 n) v0 v1 v2 v3 g3 else if v2 < 0 then f10_bestFor_b41 (f10_bestFor_b5 n) v0 v1 v3 g3 else bd_ (f10_rankOf v0 v3 g3) fun z6 g5 => bd_ (f10_rankOf v0 v2 g5) fun z8 g7 => if z6 ≤ z8 then f10_bestFor_b43 (f10_bestFor_b5 n) v0 v1 v2 v3 g7 else f10_bestFor_b41 (f10_bestFor_b5 n) v0 v1 v3 g7 else none
theorem t10_bestFor_b5 : ∀ (n : Nat) (v0 : Nat) (v1 : Int32) (v2 : Int32) (v3 : Int32) (g : GS_), K_ RX10 cX10_bestFor 4 (some .int) 4 87 false EI_ 5 [some (.inr (10, some v0)), some (.inl v1), some (.inl v2), some (.inl v3)] [] g (f10_bestFor_b5 n v0 v1 v2 v3 g) := by
  intro n
  induction n with
  | zero =>
    intro v0 v1 v2 v3 g
    exact k_fail
  | succ n ih =>
    intro v0 v1 v2 v3 g
    show K_ RX10 cX10_bestFor 4 (some .int) 4 87 false EI_ 5 [some (.inr (10, some v0)), some (.inl v1), some (.inl v2), some (.inl v3)] [] g (lr_ (gfr g 320 v0) fun x1 => oc_ x1 none fun a2 => if inb (4 : Int32) (gln g 20 a2) then if (gai g 20 a2 (4 : Int32).toInt.toNat) ≤ v3 then some (v2, g) else bd_ (f10_isPrintable v0 v3 v1 g) fun z4 g3 => if z4 = 0 then f10_bestFor_b43 (f10_bestFor_b5 n) v0 v1 v2 v3 g3 else if v2 < 0 then f10_bestFor_b41 (f10_bestFor_b5 n) v0 v1 v3 g3 else bd_ (f10_rankOf v0 v3 g3) fun z6 g5 => bd_ (f10_rankOf v0 v2 g5) fun z8 g7 => if z6 ≤ z8 then f10_bestFor_b43 (f10_bestFor_b5 n) v0 v1 v2 v3 g7 else f10_bestFor_b41 (f10_bestFor_b5 n) v0 v1 v3 g7 else none)
    refine k_iloadn (j := 3) dX10_bestFor_5 rfl rfl ?_
    refine k_aloadn (j := 0) dX10_bestFor_6 rfl rfl ?_
    refine k_getr fg_10_7 rfl rfl dX10_bestFor_7 (fun x1 => ?_)
    refine k_iconst (v := (4 : Int32)) dX10_bestFor_10 rfl ?_
    rcases x1 with _ | a2
    · exact k_ocn
    refine k_ocs ?_
    refine k_iald dX10_bestFor_11 ?_
    refine k_icmpge (tgt := 49) dX10_bestFor_12 (by decide) (fun _ => ?_) (fun _ => ?_)
    · refine k_iloadn (j := 2) dX10_bestFor_49 rfl rfl ?_
      exact k_ireturn rfl dX10_bestFor_50
    refine k_aloadn (j := 0) dX10_bestFor_15 rfl rfl ?_
    refine k_iloadn (j := 3) dX10_bestFor_16 rfl rfl ?_
    refine k_iloadn (j := 1) dX10_bestFor_17 rfl rfl ?_
    refine k_callVi [.inl v3, .inl v1] (t10_isPrintable v0 v3 v1 g) cw_cX10_isPrintable (Or.inl ml_10_226) rfl rfl (by decide) (by decide) (Nat.le_of_ble_eq_true rfl) dX10_bestFor_18 (fun z4 g3 => ?_)
    refine k_ifeq (tgt := 43) dX10_bestFor_21 (by decide) (fun _ => ?_) (fun _ => ?_)
    · exact t10_bestFor_b43 (f10_bestFor_b5 n) ih v0 v1 v2 v3 g3
    refine k_iloadn (j := 2) dX10_bestFor_24 rfl rfl ?_
    refine k_iflt (tgt := 41) dX10_bestFor_25 (by decide) (fun _ => ?_) (fun _ => ?_)
    · refine k_msk (L' := [some (.inr (10, some v0)), some (.inl v1), none, some (.inl v3)]) [true, true, false, true] rfl ?_
      exact t10_bestFor_b41 (f10_bestFor_b5 n) ih v0 v1 v3 g3
    refine k_aloadn (j := 0) dX10_bestFor_28 rfl rfl ?_
    refine k_iloadn (j := 3) dX10_bestFor_29 rfl rfl ?_
    refine k_callVi [.inl v3] (t10_rankOf v0 v3 g3) cw_cX10_rankOf (Or.inl ml_10_152) rfl rfl (by decide) (by decide) (Nat.le_of_ble_eq_true rfl) dX10_bestFor_30 (fun z6 g5 => ?_)
    refine k_aloadn (j := 0) dX10_bestFor_33 rfl rfl ?_
    refine k_iloadn (j := 2) dX10_bestFor_34 rfl rfl ?_
    refine k_callVi [.inl v2] (t10_rankOf v0 v2 g5) cw_cX10_rankOf (Or.inl ml_10_152) rfl rfl (by decide) (by decide) (Nat.le_of_ble_eq_true rfl) dX10_bestFor_35 (fun z8 g7 => ?_)
    refine k_icmple (tgt := 43) dX10_bestFor_38 (by decide) (fun _ => ?_) (fun _ => ?_)
    · exact t10_bestFor_b43 (f10_bestFor_b5 n) ih v0 v1 v2 v3 g7
    refine k_msk (L' := [some (.inr (10, some v0)), some (.inl v1), none, some (.inl v3)]) [true, true, false, true] rfl ?_
    exact t10_bestFor_b41 (f10_bestFor_b5 n) ih v0 v1 v3 g7
def f10_bestFor (v0 : Nat) (v1 : Int32) (g : GS_) : Option (Int32 × GS_) :=
  f10_bestFor_b5 FU_ v0 v1 (-6 : Int32) (0 : Int32) g
theorem t10_bestFor (v0 : Nat) (v1 : Int32) (g : GS_) : Cn_ yX10_bestFor cX10_bestFor 4 (some .int) 4 87 EI_ [.inr (10, some v0), .inl v1] g (f10_bestFor v0 v1 g) := by
  refine k_method (own := RX10) (ini := false) (L1 := [some (.inr (10, some v0)), some (.inl v1), none, none]) (by decide +kernel) rfl (fun h => by cases h) (Nat.le_of_ble_eq_true rfl) rfl ?_
  unfold f10_bestFor
  refine k_bipush (v := (-6 : Int32)) dX10_bestFor_0 rfl ?_
  refine k_istn (j := 2) (L' := [some (.inr (10, some v0)), some (.inl v1), some (.inl (-6 : Int32)), none]) dX10_bestFor_2 rfl (by decide) rfl ?_
  refine k_iconst (v := (0 : Int32)) dX10_bestFor_3 rfl ?_
  refine k_istn (j := 3) (L' := [some (.inr (10, some v0)), some (.inl v1), some (.inl (-6 : Int32)), some (.inl (0 : Int32))]) dX10_bestFor_4 rfl (by decide) rfl ?_
  exact t10_bestFor_b5 FU_ v0 v1 (-6 : Int32) (0 : Int32) g
theorem dX10_begin_0 : decode cX10_begin 0 = .ok (.iconst 3, 1) := by decide +kernel
theorem dX10_begin_1 : decode cX10_begin 1 = .ok (.aload_n 0, 1) := by decide +kernel
theorem dX10_begin_2 : decode cX10_begin 2 = .ok (.aload_n 0, 1) := by decide +kernel
theorem dX10_begin_3 : decode cX10_begin 3 = .ok (.iload_n 1, 1) := by decide +kernel
theorem dX10_begin_4 : decode cX10_begin 4 = .ok (.bipush 6, 2) := by decide +kernel
theorem dX10_begin_6 : decode cX10_begin 6 = .ok (.invokevirtual 133, 3) := by decide +kernel
theorem dX10_begin_9 : decode cX10_begin 9 = .ok (.iconst 1, 1) := by decide +kernel
theorem dX10_begin_10 : decode cX10_begin 10 = .ok (.invokevirtual 48, 3) := by decide +kernel
theorem dX10_begin_13 : decode cX10_begin 13 = .ok (.iadd, 1) := by decide +kernel
theorem dX10_begin_14 : decode cX10_begin 14 = .ok (.istore_n 3, 1) := by decide +kernel
theorem dX10_begin_15 : decode cX10_begin 15 = .ok (.aload_n 0, 1) := by decide +kernel
theorem dX10_begin_16 : decode cX10_begin 16 = .ok (.iload_n 2, 1) := by decide +kernel
theorem dX10_begin_17 : decode cX10_begin 17 = .ok (.iload_n 3, 1) := by decide +kernel
theorem dX10_begin_18 : decode cX10_begin 18 = .ok (.aload_n 0, 1) := by decide +kernel
theorem dX10_begin_19 : decode cX10_begin 19 = .ok (.iload_n 2, 1) := by decide +kernel
theorem dX10_begin_20 : decode cX10_begin 20 = .ok (.iload_n 3, 1) := by decide +kernel
theorem dX10_begin_21 : decode cX10_begin 21 = .ok (.invokevirtual 190, 3) := by decide +kernel
theorem dX10_begin_24 : decode cX10_begin 24 = .ok (.iconst 1, 1) := by decide +kernel
theorem dX10_begin_25 : decode cX10_begin 25 = .ok (.isub, 1) := by decide +kernel
theorem dX10_begin_26 : decode cX10_begin 26 = .ok (.invokevirtual 184, 3) := by decide +kernel
theorem dX10_begin_29 : decode cX10_begin 29 = .ok (.aload_n 0, 1) := by decide +kernel
theorem dX10_begin_30 : decode cX10_begin 30 = .ok (.iload_n 2, 1) := by decide +kernel
theorem dX10_begin_31 : decode cX10_begin 31 = .ok (.bipush 8, 2) := by decide +kernel
theorem dX10_begin_33 : decode cX10_begin 33 = .ok (.aload_n 0, 1) := by decide +kernel
theorem dX10_begin_34 : decode cX10_begin 34 = .ok (.iload_n 1, 1) := by decide +kernel
theorem dX10_begin_35 : decode cX10_begin 35 = .ok (.aload_n 0, 1) := by decide +kernel
theorem dX10_begin_36 : decode cX10_begin 36 = .ok (.iload_n 1, 1) := by decide +kernel
theorem dX10_begin_37 : decode cX10_begin 37 = .ok (.bipush 10, 2) := by decide +kernel
theorem dX10_begin_39 : decode cX10_begin 39 = .ok (.invokevirtual 133, 3) := by decide +kernel
theorem dX10_begin_42 : decode cX10_begin 42 = .ok (.iload_n 2, 1) := by decide +kernel
theorem dX10_begin_43 : decode cX10_begin 43 = .ok (.invokevirtual 208, 3) := by decide +kernel
theorem dX10_begin_46 : decode cX10_begin 46 = .ok (.invokevirtual 184, 3) := by decide +kernel
theorem dX10_begin_49 : decode cX10_begin 49 = .ok (.return_, 1) := by decide +kernel
def f10_begin (v0 : Nat) (v1 : Int32) (v2 : Int32) (g : GS_) : Option (Unit × GS_) :=
  bd_ (f10_ofJob v0 v1 (6 : Int32) g) fun z2 g1 => bd_ (f10_ofDocument v0 z2 (1 : Int32) g1) fun z4 g3 => lr_ ((3 : Int32) + z4) fun z5 => bd_ (f10_ofPrinter v0 v2 z5 g3) fun z7 g6 => bd_ (f10_setPrinter v0 v2 z5 (z7 - (1 : Int32)) g6) fun _ g8 => bd_ (f10_ofJob v0 v1 (10 : Int32) g8) fun z10 g9 => bd_ (f10_ticksFor v0 v1 z10 v2 g9) fun z12 g11 => bd_ (f10_setPrinter v0 v2 (8 : Int32) z12 g11) fun _ g13 => some ((), g13)
theorem t10_begin (v0 : Nat) (v1 : Int32) (v2 : Int32) (g : GS_) : Cn_ yX10_begin cX10_begin 4 none 8 190 EV_ [.inr (10, some v0), .inl v1, .inl v2] g (f10_begin v0 v1 v2 g) := by
  refine k_method (own := RX10) (ini := false) (L1 := [some (.inr (10, some v0)), some (.inl v1), some (.inl v2), none]) (by decide +kernel) rfl (fun h => by cases h) (Nat.le_of_ble_eq_true rfl) rfl ?_
  unfold f10_begin
  refine k_iconst (v := (3 : Int32)) dX10_begin_0 rfl ?_
  refine k_aloadn (j := 0) dX10_begin_1 rfl rfl ?_
  refine k_aloadn (j := 0) dX10_begin_2 rfl rfl ?_
  refine k_iloadn (j := 1) dX10_begin_3 rfl rfl ?_
  refine k_bipush (v := (6 : Int32)) dX10_begin_4 rfl ?_
  refine k_callVi [.inl v1, .inl (6 : Int32)] (t10_ofJob v0 v1 (6 : Int32) g) cw_cX10_ofJob (Or.inl ml_10_133) rfl rfl (by decide) (by decide) (Nat.le_of_ble_eq_true rfl) dX10_begin_6 (fun z2 g1 => ?_)
  refine k_iconst (v := (1 : Int32)) dX10_begin_9 rfl ?_
  refine k_callVi [.inl z2, .inl (1 : Int32)] (t10_ofDocument v0 z2 (1 : Int32) g1) cw_cX10_ofDocument (Or.inl ml_10_48) rfl rfl (by decide) (by decide) (Nat.le_of_ble_eq_true rfl) dX10_begin_10 (fun z4 g3 => ?_)
  refine k_iadd dX10_begin_13 ?_
  refine k_istnl (j := 3) (L2 := fun z5 => [some (.inr (10, some v0)), some (.inl v1), some (.inl v2), some (.inl z5)]) dX10_begin_14 rfl (by decide) (fun _ => rfl) (fun z5 => ?_)
  refine k_aloadn (j := 0) dX10_begin_15 rfl rfl ?_
  refine k_iloadn (j := 2) dX10_begin_16 rfl rfl ?_
  refine k_iloadn (j := 3) dX10_begin_17 rfl rfl ?_
  refine k_aloadn (j := 0) dX10_begin_18 rfl rfl ?_
  refine k_iloadn (j := 2) dX10_begin_19 rfl rfl ?_
  refine k_iloadn (j := 3) dX10_begin_20 rfl rfl ?_
  refine k_callVi [.inl v2, .inl z5] (t10_ofPrinter v0 v2 z5 g3) cw_cX10_ofPrinter (Or.inl ml_10_190) rfl rfl (by decide) (by decide) (Nat.le_of_ble_eq_true rfl) dX10_begin_21 (fun z7 g6 => ?_)
  refine k_iconst (v := (1 : Int32)) dX10_begin_24 rfl ?_
  refine k_isub dX10_begin_25 ?_
  refine k_callVv [.inl v2, .inl z5, .inl (z7 - (1 : Int32))] (t10_setPrinter v0 v2 z5 (z7 - (1 : Int32)) g6) cw_cX10_setPrinter (Or.inl ml_10_184) rfl rfl (by decide) (by decide) (Nat.le_of_ble_eq_true rfl) dX10_begin_26 (fun _ g8 => ?_)
  refine k_aloadn (j := 0) dX10_begin_29 rfl rfl ?_
  refine k_iloadn (j := 2) dX10_begin_30 rfl rfl ?_
  refine k_bipush (v := (8 : Int32)) dX10_begin_31 rfl ?_
  refine k_aloadn (j := 0) dX10_begin_33 rfl rfl ?_
  refine k_iloadn (j := 1) dX10_begin_34 rfl rfl ?_
  refine k_aloadn (j := 0) dX10_begin_35 rfl rfl ?_
  refine k_iloadn (j := 1) dX10_begin_36 rfl rfl ?_
  refine k_bipush (v := (10 : Int32)) dX10_begin_37 rfl ?_
  refine k_callVi [.inl v1, .inl (10 : Int32)] (t10_ofJob v0 v1 (10 : Int32) g8) cw_cX10_ofJob (Or.inl ml_10_133) rfl rfl (by decide) (by decide) (Nat.le_of_ble_eq_true rfl) dX10_begin_39 (fun z10 g9 => ?_)
  refine k_iloadn (j := 2) dX10_begin_42 rfl rfl ?_
  refine k_callVi [.inl v1, .inl z10, .inl v2] (t10_ticksFor v0 v1 z10 v2 g9) cw_cX10_ticksFor (Or.inl ml_10_208) rfl rfl (by decide) (by decide) (Nat.le_of_ble_eq_true rfl) dX10_begin_43 (fun z12 g11 => ?_)
  refine k_callVv [.inl v2, .inl (8 : Int32), .inl z12] (t10_setPrinter v0 v2 (8 : Int32) z12 g11) cw_cX10_setPrinter (Or.inl ml_10_184) rfl rfl (by decide) (by decide) (Nat.le_of_ble_eq_true rfl) dX10_begin_46 (fun _ g13 => ?_)
  exact k_return rfl dX10_begin_49
theorem dX10_record_0 : decode cX10_record 0 = .ok (.sipush 458, 3) := by decide +kernel
theorem dX10_record_3 : decode cX10_record 3 = .ok (.iconst 4, 1) := by decide +kernel
theorem dX10_record_4 : decode cX10_record 4 = .ok (.aload_n 0, 1) := by decide +kernel
theorem dX10_record_5 : decode cX10_record 5 = .ok (.getfield 7, 3) := by decide +kernel
theorem dX10_record_8 : decode cX10_record 8 = .ok (.bipush 6, 2) := by decide +kernel
theorem dX10_record_10 : decode cX10_record 10 = .ok (.iaload, 1) := by decide +kernel
theorem dX10_record_11 : decode cX10_record 11 = .ok (.bipush 100, 2) := by decide +kernel
theorem dX10_record_13 : decode cX10_record 13 = .ok (.irem, 1) := by decide +kernel
theorem dX10_record_14 : decode cX10_record 14 = .ok (.imul, 1) := by decide +kernel
theorem dX10_record_15 : decode cX10_record 15 = .ok (.iadd, 1) := by decide +kernel
theorem dX10_record_16 : decode cX10_record 16 = .ok (.istore_n 3, 1) := by decide +kernel
theorem dX10_record_17 : decode cX10_record 17 = .ok (.aload_n 0, 1) := by decide +kernel
theorem dX10_record_18 : decode cX10_record 18 = .ok (.getfield 7, 3) := by decide +kernel
theorem dX10_record_21 : decode cX10_record 21 = .ok (.iload_n 3, 1) := by decide +kernel
theorem dX10_record_22 : decode cX10_record 22 = .ok (.aload_n 0, 1) := by decide +kernel
theorem dX10_record_23 : decode cX10_record 23 = .ok (.getfield 7, 3) := by decide +kernel
theorem dX10_record_26 : decode cX10_record 26 = .ok (.iconst 0, 1) := by decide +kernel
theorem dX10_record_27 : decode cX10_record 27 = .ok (.iaload, 1) := by decide +kernel
theorem dX10_record_28 : decode cX10_record 28 = .ok (.iastore, 1) := by decide +kernel
theorem dX10_record_29 : decode cX10_record 29 = .ok (.aload_n 0, 1) := by decide +kernel
theorem dX10_record_30 : decode cX10_record 30 = .ok (.getfield 7, 3) := by decide +kernel
theorem dX10_record_33 : decode cX10_record 33 = .ok (.iload_n 3, 1) := by decide +kernel
theorem dX10_record_34 : decode cX10_record 34 = .ok (.iconst 1, 1) := by decide +kernel
theorem dX10_record_35 : decode cX10_record 35 = .ok (.iadd, 1) := by decide +kernel
theorem dX10_record_36 : decode cX10_record 36 = .ok (.iload_n 2, 1) := by decide +kernel
theorem dX10_record_37 : decode cX10_record 37 = .ok (.iastore, 1) := by decide +kernel
theorem dX10_record_38 : decode cX10_record 38 = .ok (.aload_n 0, 1) := by decide +kernel
theorem dX10_record_39 : decode cX10_record 39 = .ok (.getfield 7, 3) := by decide +kernel
theorem dX10_record_42 : decode cX10_record 42 = .ok (.iload_n 3, 1) := by decide +kernel
theorem dX10_record_43 : decode cX10_record 43 = .ok (.iconst 2, 1) := by decide +kernel
theorem dX10_record_44 : decode cX10_record 44 = .ok (.iadd, 1) := by decide +kernel
theorem dX10_record_45 : decode cX10_record 45 = .ok (.iload_n 1, 1) := by decide +kernel
theorem dX10_record_46 : decode cX10_record 46 = .ok (.iastore, 1) := by decide +kernel
theorem dX10_record_47 : decode cX10_record 47 = .ok (.aload_n 0, 1) := by decide +kernel
theorem dX10_record_48 : decode cX10_record 48 = .ok (.getfield 7, 3) := by decide +kernel
theorem dX10_record_51 : decode cX10_record 51 = .ok (.iload_n 3, 1) := by decide +kernel
theorem dX10_record_52 : decode cX10_record 52 = .ok (.iconst 3, 1) := by decide +kernel
theorem dX10_record_53 : decode cX10_record 53 = .ok (.iadd, 1) := by decide +kernel
theorem dX10_record_54 : decode cX10_record 54 = .ok (.aload_n 0, 1) := by decide +kernel
theorem dX10_record_55 : decode cX10_record 55 = .ok (.iload_n 1, 1) := by decide +kernel
theorem dX10_record_56 : decode cX10_record 56 = .ok (.bipush 10, 2) := by decide +kernel
theorem dX10_record_58 : decode cX10_record 58 = .ok (.invokevirtual 133, 3) := by decide +kernel
theorem dX10_record_61 : decode cX10_record 61 = .ok (.iastore, 1) := by decide +kernel
theorem dX10_record_62 : decode cX10_record 62 = .ok (.aload_n 0, 1) := by decide +kernel
theorem dX10_record_63 : decode cX10_record 63 = .ok (.getfield 7, 3) := by decide +kernel
theorem dX10_record_66 : decode cX10_record 66 = .ok (.bipush 6, 2) := by decide +kernel
theorem dX10_record_68 : decode cX10_record 68 = .ok (.dup2, 1) := by decide +kernel
theorem dX10_record_69 : decode cX10_record 69 = .ok (.iaload, 1) := by decide +kernel
theorem dX10_record_70 : decode cX10_record 70 = .ok (.iconst 1, 1) := by decide +kernel
theorem dX10_record_71 : decode cX10_record 71 = .ok (.iadd, 1) := by decide +kernel
theorem dX10_record_72 : decode cX10_record 72 = .ok (.iastore, 1) := by decide +kernel
theorem dX10_record_73 : decode cX10_record 73 = .ok (.aload_n 0, 1) := by decide +kernel
theorem dX10_record_74 : decode cX10_record 74 = .ok (.getfield 7, 3) := by decide +kernel
theorem dX10_record_77 : decode cX10_record 77 = .ok (.bipush 20, 2) := by decide +kernel
theorem dX10_record_79 : decode cX10_record 79 = .ok (.aload_n 0, 1) := by decide +kernel
theorem dX10_record_80 : decode cX10_record 80 = .ok (.iload_n 1, 1) := by decide +kernel
theorem dX10_record_81 : decode cX10_record 81 = .ok (.iconst 5, 1) := by decide +kernel
theorem dX10_record_82 : decode cX10_record 82 = .ok (.invokevirtual 133, 3) := by decide +kernel
theorem dX10_record_85 : decode cX10_record 85 = .ok (.iadd, 1) := by decide +kernel
theorem dX10_record_86 : decode cX10_record 86 = .ok (.dup2, 1) := by decide +kernel
theorem dX10_record_87 : decode cX10_record 87 = .ok (.iaload, 1) := by decide +kernel
theorem dX10_record_88 : decode cX10_record 88 = .ok (.iconst 1, 1) := by decide +kernel
theorem dX10_record_89 : decode cX10_record 89 = .ok (.iadd, 1) := by decide +kernel
theorem dX10_record_90 : decode cX10_record 90 = .ok (.iastore, 1) := by decide +kernel
theorem dX10_record_91 : decode cX10_record 91 = .ok (.aload_n 0, 1) := by decide +kernel
theorem dX10_record_92 : decode cX10_record 92 = .ok (.iload_n 1, 1) := by decide +kernel
theorem dX10_record_93 : decode cX10_record 93 = .ok (.bipush 10, 2) := by decide +kernel
theorem dX10_record_95 : decode cX10_record 95 = .ok (.aload_n 0, 1) := by decide +kernel
theorem dX10_record_96 : decode cX10_record 96 = .ok (.iload_n 1, 1) := by decide +kernel
theorem dX10_record_97 : decode cX10_record 97 = .ok (.bipush 10, 2) := by decide +kernel
theorem dX10_record_99 : decode cX10_record 99 = .ok (.invokevirtual 133, 3) := by decide +kernel
theorem dX10_record_102 : decode cX10_record 102 = .ok (.iconst 1, 1) := by decide +kernel
theorem dX10_record_103 : decode cX10_record 103 = .ok (.iadd, 1) := by decide +kernel
theorem dX10_record_104 : decode cX10_record 104 = .ok (.invokevirtual 126, 3) := by decide +kernel
theorem dX10_record_107 : decode cX10_record 107 = .ok (.return_, 1) := by decide +kernel
def f10_record (v0 : Nat) (v1 : Int32) (v2 : Int32) (g : GS_) : Option (Unit × GS_) :=
  lr_ (gfr g 320 v0) fun x1 => oc_ x1 none fun a2 => if inb (6 : Int32) (gln g 20 a2) then lr_ ((458 : Int32) + ((4 : Int32) * (jrem (gai g 20 a2 (6 : Int32).toInt.toNat) (100 : Int32)))) fun z3 => lr_ (gfr g 320 v0) fun x4 => lr_ (gfr g 320 v0) fun x5 => oc_ x5 none fun a6 => if inb (0 : Int32) (gln g 20 a6) then oc_ x4 none fun a7 => if inb z3 (gln g 20 a7) then lr_ (sai g 20 a7 z3.toInt.toNat (gai g 20 a6 (0 : Int32).toInt.toNat)) (fun g8 => lr_ (gfr g8 320 v0) fun x9 => oc_ x9 none fun a10 => if inb (z3 + (1 : Int32)) (gln g8 20 a10) then lr_ (sai g8 20 a10 (z3 + (1 : Int32)).toInt.toNat v2) (fun g11 => lr_ (gfr g11 320 v0) fun x12 => oc_ x12 none fun a13 => if inb (z3 + (2 : Int32)) (gln g11 20 a13) then lr_ (sai g11 20 a13 (z3 + (2 : Int32)).toInt.toNat v1) (fun g14 => lr_ (gfr g14 320 v0) fun x15 => bd_ (f10_ofJob v0 v1 (10 : Int32) g14) fun z17 g16 => oc_ x15 none fun a18 => if inb (z3 + (3 : Int32)) (gln g16 20 a18) then lr_ (sai g16 20 a18 (z3 + (3 : Int32)).toInt.toNat z17) (fun g19 => lr_ (gfr g19 320 v0) fun x20 => oc_ x20 none fun a21 => if inb (6 : Int32) (gln g19 20 a21) then if inb (6 : Int32) (gln g19 20 a21) then lr_ (sai g19 20 a21 (6 : Int32).toInt.toNat ((gai g19 20 a21 (6 : Int32).toInt.toNat) + (1 : Int32))) (fun g22 => lr_ (gfr g22 320 v0) fun x23 => bd_ (f10_ofJob v0 v1 (5 : Int32) g22) fun z25 g24 => oc_ x23 none fun a26 => if inb ((20 : Int32) + z25) (gln g24 20 a26) then if inb ((20 : Int32) + z25) (gln g24 20 a26) then lr_ (sai g24 20 a26 ((20 : Int32) + z25).toInt.toNat ((gai g24 20 a26 ((20 : Int32) + z25).toInt.toNat) + (1 : Int32))) (fun g27 => bd_ (f10_ofJob v0 v1 (10 : Int32) g27) fun z29 g28 => bd_ (f10_setJob v0 v1 (10 : Int32) (z29 + (1 : Int32)) g28) fun _ g30 => some ((), g30)) else none else none) else none else none) else none) else none) else none) else none else none else none
theorem t10_record (v0 : Nat) (v1 : Int32) (v2 : Int32) (g : GS_) : Cn_ yX10_record cX10_record 4 none 1 23 EV_ [.inr (10, some v0), .inl v1, .inl v2] g (f10_record v0 v1 v2 g) := by
  refine k_method (own := RX10) (ini := false) (L1 := [some (.inr (10, some v0)), some (.inl v1), some (.inl v2), none]) (by decide +kernel) rfl (fun h => by cases h) (Nat.le_of_ble_eq_true rfl) rfl ?_
  unfold f10_record
  refine k_sipush (v := (458 : Int32)) dX10_record_0 rfl ?_
  refine k_iconst (v := (4 : Int32)) dX10_record_3 rfl ?_
  refine k_aloadn (j := 0) dX10_record_4 rfl rfl ?_
  refine k_getr fg_10_7 rfl rfl dX10_record_5 (fun x1 => ?_)
  refine k_bipush (v := (6 : Int32)) dX10_record_8 rfl ?_
  rcases x1 with _ | a2
  · exact k_ocn
  refine k_ocs ?_
  refine k_iald dX10_record_10 ?_
  refine k_bipush (v := (100 : Int32)) dX10_record_11 rfl ?_
  refine k_iremc (by decide) dX10_record_13 ?_
  refine k_imul dX10_record_14 ?_
  refine k_iadd dX10_record_15 ?_
  refine k_istnl (j := 3) (L2 := fun z3 => [some (.inr (10, some v0)), some (.inl v1), some (.inl v2), some (.inl z3)]) dX10_record_16 rfl (by decide) (fun _ => rfl) (fun z3 => ?_)
  refine k_aloadn (j := 0) dX10_record_17 rfl rfl ?_
  refine k_getr fg_10_7 rfl rfl dX10_record_18 (fun x4 => ?_)
  refine k_iloadn (j := 3) dX10_record_21 rfl rfl ?_
  refine k_aloadn (j := 0) dX10_record_22 rfl rfl ?_
  refine k_getr fg_10_7 rfl rfl dX10_record_23 (fun x5 => ?_)
  refine k_iconst (v := (0 : Int32)) dX10_record_26 rfl ?_
  rcases x5 with _ | a6
  · exact k_ocn
  refine k_ocs ?_
  refine k_iald dX10_record_27 ?_
  rcases x4 with _ | a7
  · exact k_ocn
  refine k_ocs ?_
  refine k_iast dX10_record_28 (fun g8 => ?_)
  refine k_aloadn (j := 0) dX10_record_29 rfl rfl ?_
  refine k_getr fg_10_7 rfl rfl dX10_record_30 (fun x9 => ?_)
  refine k_iloadn (j := 3) dX10_record_33 rfl rfl ?_
  refine k_iconst (v := (1 : Int32)) dX10_record_34 rfl ?_
  refine k_iadd dX10_record_35 ?_
  refine k_iloadn (j := 2) dX10_record_36 rfl rfl ?_
  rcases x9 with _ | a10
  · exact k_ocn
  refine k_ocs ?_
  refine k_iast dX10_record_37 (fun g11 => ?_)
  refine k_aloadn (j := 0) dX10_record_38 rfl rfl ?_
  refine k_getr fg_10_7 rfl rfl dX10_record_39 (fun x12 => ?_)
  refine k_iloadn (j := 3) dX10_record_42 rfl rfl ?_
  refine k_iconst (v := (2 : Int32)) dX10_record_43 rfl ?_
  refine k_iadd dX10_record_44 ?_
  refine k_iloadn (j := 1) dX10_record_45 rfl rfl ?_
  rcases x12 with _ | a13
  · exact k_ocn
  refine k_ocs ?_
  refine k_iast dX10_record_46 (fun g14 => ?_)
  refine k_aloadn (j := 0) dX10_record_47 rfl rfl ?_
  refine k_getr fg_10_7 rfl rfl dX10_record_48 (fun x15 => ?_)
  refine k_iloadn (j := 3) dX10_record_51 rfl rfl ?_
  refine k_iconst (v := (3 : Int32)) dX10_record_52 rfl ?_
  refine k_iadd dX10_record_53 ?_
  refine k_aloadn (j := 0) dX10_record_54 rfl rfl ?_
  refine k_iloadn (j := 1) dX10_record_55 rfl rfl ?_
  refine k_bipush (v := (10 : Int32)) dX10_record_56 rfl ?_
  refine k_callVi [.inl v1, .inl (10 : Int32)] (t10_ofJob v0 v1 (10 : Int32) g14) cw_cX10_ofJob (Or.inl ml_10_133) rfl rfl (by decide) (by decide) (Nat.le_of_ble_eq_true rfl) dX10_record_58 (fun z17 g16 => ?_)
  rcases x15 with _ | a18
  · exact k_ocn
  refine k_ocs ?_
  refine k_iast dX10_record_61 (fun g19 => ?_)
  refine k_aloadn (j := 0) dX10_record_62 rfl rfl ?_
  refine k_getr fg_10_7 rfl rfl dX10_record_63 (fun x20 => ?_)
  refine k_bipush (v := (6 : Int32)) dX10_record_66 rfl ?_
  refine k_dup2 dX10_record_68 ?_
  rcases x20 with _ | a21
  · exact k_ocn
  refine k_ocs ?_
  refine k_iald dX10_record_69 ?_
  refine k_iconst (v := (1 : Int32)) dX10_record_70 rfl ?_
  refine k_iadd dX10_record_71 ?_
  refine k_iast dX10_record_72 (fun g22 => ?_)
  refine k_aloadn (j := 0) dX10_record_73 rfl rfl ?_
  refine k_getr fg_10_7 rfl rfl dX10_record_74 (fun x23 => ?_)
  refine k_bipush (v := (20 : Int32)) dX10_record_77 rfl ?_
  refine k_aloadn (j := 0) dX10_record_79 rfl rfl ?_
  refine k_iloadn (j := 1) dX10_record_80 rfl rfl ?_
  refine k_iconst (v := (5 : Int32)) dX10_record_81 rfl ?_
  refine k_callVi [.inl v1, .inl (5 : Int32)] (t10_ofJob v0 v1 (5 : Int32) g22) cw_cX10_ofJob (Or.inl ml_10_133) rfl rfl (by decide) (by decide) (Nat.le_of_ble_eq_true rfl) dX10_record_82 (fun z25 g24 => ?_)
  refine k_iadd dX10_record_85 ?_
  refine k_dup2 dX10_record_86 ?_
  rcases x23 with _ | a26
  · exact k_ocn
  refine k_ocs ?_
  refine k_iald dX10_record_87 ?_
  refine k_iconst (v := (1 : Int32)) dX10_record_88 rfl ?_
  refine k_iadd dX10_record_89 ?_
  refine k_iast dX10_record_90 (fun g27 => ?_)
  refine k_aloadn (j := 0) dX10_record_91 rfl rfl ?_
  refine k_iloadn (j := 1) dX10_record_92 rfl rfl ?_
  refine k_bipush (v := (10 : Int32)) dX10_record_93 rfl ?_
  refine k_aloadn (j := 0) dX10_record_95 rfl rfl ?_
  refine k_iloadn (j := 1) dX10_record_96 rfl rfl ?_
  refine k_bipush (v := (10 : Int32)) dX10_record_97 rfl ?_
  refine k_callVi [.inl v1, .inl (10 : Int32)] (t10_ofJob v0 v1 (10 : Int32) g27) cw_cX10_ofJob (Or.inl ml_10_133) rfl rfl (by decide) (by decide) (Nat.le_of_ble_eq_true rfl) dX10_record_99 (fun z29 g28 => ?_)
  refine k_iconst (v := (1 : Int32)) dX10_record_102 rfl ?_
  refine k_iadd dX10_record_103 ?_
  refine k_callVv [.inl v1, .inl (10 : Int32), .inl (z29 + (1 : Int32))] (t10_setJob v0 v1 (10 : Int32) (z29 + (1 : Int32)) g28) cw_cX10_setJob (Or.inl ml_10_126) rfl rfl (by decide) (by decide) (Nat.le_of_ble_eq_true rfl) dX10_record_104 (fun _ g30 => ?_)
  exact k_return rfl dX10_record_107
theorem dX10_endSheet_0 : decode cX10_endSheet 0 = .ok (.aload_n 0, 1) := by decide +kernel
theorem dX10_endSheet_1 : decode cX10_endSheet 1 = .ok (.iload_n 1, 1) := by decide +kernel
theorem dX10_endSheet_2 : decode cX10_endSheet 2 = .ok (.iload_n 2, 1) := by decide +kernel
theorem dX10_endSheet_3 : decode cX10_endSheet 3 = .ok (.invokevirtual 229, 3) := by decide +kernel
theorem dX10_endSheet_6 : decode cX10_endSheet 6 = .ok (.aload_n 0, 1) := by decide +kernel
theorem dX10_endSheet_7 : decode cX10_endSheet 7 = .ok (.iload_n 1, 1) := by decide +kernel
theorem dX10_endSheet_8 : decode cX10_endSheet 8 = .ok (.bipush 10, 2) := by decide +kernel
theorem dX10_endSheet_10 : decode cX10_endSheet 10 = .ok (.invokevirtual 133, 3) := by decide +kernel
theorem dX10_endSheet_13 : decode cX10_endSheet 13 = .ok (.aload_n 0, 1) := by decide +kernel
theorem dX10_endSheet_14 : decode cX10_endSheet 14 = .ok (.iload_n 1, 1) := by decide +kernel
theorem dX10_endSheet_15 : decode cX10_endSheet 15 = .ok (.bipush 8, 2) := by decide +kernel
theorem dX10_endSheet_17 : decode cX10_endSheet 17 = .ok (.invokevirtual 133, 3) := by decide +kernel
theorem dX10_endSheet_20 : decode cX10_endSheet 20 = .ok (.if_icmp .ne 45, 3) := by decide +kernel
theorem dX10_endSheet_23 : decode cX10_endSheet 23 = .ok (.aload_n 0, 1) := by decide +kernel
theorem dX10_endSheet_24 : decode cX10_endSheet 24 = .ok (.iload_n 1, 1) := by decide +kernel
theorem dX10_endSheet_25 : decode cX10_endSheet 25 = .ok (.bipush 9, 2) := by decide +kernel
theorem dX10_endSheet_27 : decode cX10_endSheet 27 = .ok (.iconst 3, 1) := by decide +kernel
theorem dX10_endSheet_28 : decode cX10_endSheet 28 = .ok (.invokevirtual 126, 3) := by decide +kernel
theorem dX10_endSheet_31 : decode cX10_endSheet 31 = .ok (.aload_n 0, 1) := by decide +kernel
theorem dX10_endSheet_32 : decode cX10_endSheet 32 = .ok (.iload_n 1, 1) := by decide +kernel
theorem dX10_endSheet_33 : decode cX10_endSheet 33 = .ok (.bipush 12, 2) := by decide +kernel
theorem dX10_endSheet_35 : decode cX10_endSheet 35 = .ok (.iconst 0, 1) := by decide +kernel
theorem dX10_endSheet_36 : decode cX10_endSheet 36 = .ok (.invokevirtual 126, 3) := by decide +kernel
theorem dX10_endSheet_39 : decode cX10_endSheet 39 = .ok (.aload_n 0, 1) := by decide +kernel
theorem dX10_endSheet_40 : decode cX10_endSheet 40 = .ok (.getfield 41, 3) := by decide +kernel
theorem dX10_endSheet_43 : decode cX10_endSheet 43 = .ok (.aload_n 0, 1) := by decide +kernel
theorem dX10_endSheet_44 : decode cX10_endSheet 44 = .ok (.getfield 232, 3) := by decide +kernel
theorem dX10_endSheet_47 : decode cX10_endSheet 47 = .ok (.bipush 24, 2) := by decide +kernel
theorem dX10_endSheet_49 : decode cX10_endSheet 49 = .ok (.irem, 1) := by decide +kernel
theorem dX10_endSheet_50 : decode cX10_endSheet 50 = .ok (.iload_n 1, 1) := by decide +kernel
theorem dX10_endSheet_51 : decode cX10_endSheet 51 = .ok (.iastore, 1) := by decide +kernel
theorem dX10_endSheet_52 : decode cX10_endSheet 52 = .ok (.aload_n 0, 1) := by decide +kernel
theorem dX10_endSheet_53 : decode cX10_endSheet 53 = .ok (.dup, 1) := by decide +kernel
theorem dX10_endSheet_54 : decode cX10_endSheet 54 = .ok (.getfield 232, 3) := by decide +kernel
theorem dX10_endSheet_57 : decode cX10_endSheet 57 = .ok (.iconst 1, 1) := by decide +kernel
theorem dX10_endSheet_58 : decode cX10_endSheet 58 = .ok (.iadd, 1) := by decide +kernel
theorem dX10_endSheet_59 : decode cX10_endSheet 59 = .ok (.putfield 232, 3) := by decide +kernel
theorem dX10_endSheet_62 : decode cX10_endSheet 62 = .ok (.goto 95, 3) := by decide +kernel
theorem dX10_endSheet_65 : decode cX10_endSheet 65 = .ok (.aload_n 0, 1) := by decide +kernel
theorem dX10_endSheet_66 : decode cX10_endSheet 66 = .ok (.iload_n 1, 1) := by decide +kernel
theorem dX10_endSheet_67 : decode cX10_endSheet 67 = .ok (.bipush 12, 2) := by decide +kernel
theorem dX10_endSheet_69 : decode cX10_endSheet 69 = .ok (.invokevirtual 133, 3) := by decide +kernel
theorem dX10_endSheet_72 : decode cX10_endSheet 72 = .ok (.ifCond .eq 11, 3) := by decide +kernel
theorem dX10_endSheet_75 : decode cX10_endSheet 75 = .ok (.aload_n 0, 1) := by decide +kernel
theorem dX10_endSheet_76 : decode cX10_endSheet 76 = .ok (.iload_n 1, 1) := by decide +kernel
theorem dX10_endSheet_77 : decode cX10_endSheet 77 = .ok (.invokevirtual 217, 3) := by decide +kernel
theorem dX10_endSheet_80 : decode cX10_endSheet 80 = .ok (.goto 77, 3) := by decide +kernel
theorem dX10_endSheet_83 : decode cX10_endSheet 83 = .ok (.aload_n 0, 1) := by decide +kernel
theorem dX10_endSheet_84 : decode cX10_endSheet 84 = .ok (.iload_n 1, 1) := by decide +kernel
theorem dX10_endSheet_85 : decode cX10_endSheet 85 = .ok (.iload_n 2, 1) := by decide +kernel
theorem dX10_endSheet_86 : decode cX10_endSheet 86 = .ok (.invokevirtual 220, 3) := by decide +kernel
theorem dX10_endSheet_89 : decode cX10_endSheet 89 = .ok (.ifCond .eq 11, 3) := by decide +kernel
theorem dX10_endSheet_92 : decode cX10_endSheet 92 = .ok (.aload_n 0, 1) := by decide +kernel
theorem dX10_endSheet_93 : decode cX10_endSheet 93 = .ok (.iload_n 1, 1) := by decide +kernel
theorem dX10_endSheet_94 : decode cX10_endSheet 94 = .ok (.invokevirtual 223, 3) := by decide +kernel
theorem dX10_endSheet_97 : decode cX10_endSheet 97 = .ok (.ifCond .ne 11, 3) := by decide +kernel
theorem dX10_endSheet_100 : decode cX10_endSheet 100 = .ok (.aload_n 0, 1) := by decide +kernel
theorem dX10_endSheet_101 : decode cX10_endSheet 101 = .ok (.iload_n 1, 1) := by decide +kernel
theorem dX10_endSheet_102 : decode cX10_endSheet 102 = .ok (.invokevirtual 214, 3) := by decide +kernel
theorem dX10_endSheet_105 : decode cX10_endSheet 105 = .ok (.goto 52, 3) := by decide +kernel
theorem dX10_endSheet_108 : decode cX10_endSheet 108 = .ok (.aload_n 0, 1) := by decide +kernel
theorem dX10_endSheet_109 : decode cX10_endSheet 109 = .ok (.iload_n 2, 1) := by decide +kernel
theorem dX10_endSheet_110 : decode cX10_endSheet 110 = .ok (.invokevirtual 235, 3) := by decide +kernel
theorem dX10_endSheet_113 : decode cX10_endSheet 113 = .ok (.istore_n 3, 1) := by decide +kernel
theorem dX10_endSheet_114 : decode cX10_endSheet 114 = .ok (.iload_n 3, 1) := by decide +kernel
theorem dX10_endSheet_115 : decode cX10_endSheet 115 = .ok (.ifCond .lt 35, 3) := by decide +kernel
theorem dX10_endSheet_118 : decode cX10_endSheet 118 = .ok (.aload_n 0, 1) := by decide +kernel
theorem dX10_endSheet_119 : decode cX10_endSheet 119 = .ok (.iload_n 3, 1) := by decide +kernel
theorem dX10_endSheet_120 : decode cX10_endSheet 120 = .ok (.invokevirtual 152, 3) := by decide +kernel
theorem dX10_endSheet_123 : decode cX10_endSheet 123 = .ok (.bipush 10, 2) := by decide +kernel
theorem dX10_endSheet_125 : decode cX10_endSheet 125 = .ok (.aload_n 0, 1) := by decide +kernel
theorem dX10_endSheet_126 : decode cX10_endSheet 126 = .ok (.iload_n 1, 1) := by decide +kernel
theorem dX10_endSheet_127 : decode cX10_endSheet 127 = .ok (.iconst 4, 1) := by decide +kernel
theorem dX10_endSheet_128 : decode cX10_endSheet 128 = .ok (.invokevirtual 133, 3) := by decide +kernel
theorem dX10_endSheet_131 : decode cX10_endSheet 131 = .ok (.imul, 1) := by decide +kernel
theorem dX10_endSheet_132 : decode cX10_endSheet 132 = .ok (.aload_n 0, 1) := by decide +kernel
theorem dX10_endSheet_133 : decode cX10_endSheet 133 = .ok (.getfield 7, 3) := by decide +kernel
theorem dX10_endSheet_136 : decode cX10_endSheet 136 = .ok (.iconst 2, 1) := by decide +kernel
theorem dX10_endSheet_137 : decode cX10_endSheet 137 = .ok (.iaload, 1) := by decide +kernel
theorem dX10_endSheet_138 : decode cX10_endSheet 138 = .ok (.iadd, 1) := by decide +kernel
theorem dX10_endSheet_139 : decode cX10_endSheet 139 = .ok (.if_icmp .le 11, 3) := by decide +kernel
theorem dX10_endSheet_142 : decode cX10_endSheet 142 = .ok (.aload_n 0, 1) := by decide +kernel
theorem dX10_endSheet_143 : decode cX10_endSheet 143 = .ok (.iload_n 1, 1) := by decide +kernel
theorem dX10_endSheet_144 : decode cX10_endSheet 144 = .ok (.invokevirtual 214, 3) := by decide +kernel
theorem dX10_endSheet_147 : decode cX10_endSheet 147 = .ok (.goto 10, 3) := by decide +kernel
theorem dX10_endSheet_150 : decode cX10_endSheet 150 = .ok (.aload_n 0, 1) := by decide +kernel
theorem dX10_endSheet_151 : decode cX10_endSheet 151 = .ok (.iload_n 1, 1) := by decide +kernel
theorem dX10_endSheet_152 : decode cX10_endSheet 152 = .ok (.iload_n 2, 1) := by decide +kernel
theorem dX10_endSheet_153 : decode cX10_endSheet 153 = .ok (.invokevirtual 238, 3) := by decide +kernel
theorem dX10_endSheet_156 : decode cX10_endSheet 156 = .ok (.return_, 1) := by decide +kernel
theorem dX10_endSheet_157 : decode cX10_endSheet 157 = .ok (.aload_n 0, 1) := by decide +kernel
theorem dX10_endSheet_158 : decode cX10_endSheet 158 = .ok (.iload_n 2, 1) := by decide +kernel
theorem dX10_endSheet_159 : decode cX10_endSheet 159 = .ok (.bipush 6, 2) := by decide +kernel
theorem dX10_endSheet_161 : decode cX10_endSheet 161 = .ok (.iconst 0, 1) := by decide +kernel
theorem dX10_endSheet_162 : decode cX10_endSheet 162 = .ok (.invokevirtual 184, 3) := by decide +kernel
theorem dX10_endSheet_165 : decode cX10_endSheet 165 = .ok (.return_, 1) := by decide +kernel
def f10_endSheet_b157 (v0 : Nat) (v2 : Int32) (g : GS_) : Option (Unit × GS_) :=
  bd_ (f10_setPrinter v0 v2 (6 : Int32) (0 : Int32) g) fun _ g1 => some ((), g1)
theorem t10_endSheet_b157 (v0 : Nat) (v2 : Int32) (g : GS_) : K_ RX10 cX10_endSheet 4 none 9 213 false EV_ 157 [some (.inr (10, some v0)), none, some (.inl v2), none] [] g (f10_endSheet_b157 v0 v2 g) := by
  unfold f10_endSheet_b157
  refine k_aloadn (j := 0) dX10_endSheet_157 rfl rfl ?_
  refine k_iloadn (j := 2) dX10_endSheet_158 rfl rfl ?_
  refine k_bipush (v := (6 : Int32)) dX10_endSheet_159 rfl ?_
  refine k_iconst (v := (0 : Int32)) dX10_endSheet_161 rfl ?_
  refine k_callVv [.inl v2, .inl (6 : Int32), .inl (0 : Int32)] (t10_setPrinter v0 v2 (6 : Int32) (0 : Int32) g) cw_cX10_setPrinter (Or.inl ml_10_184) rfl rfl (by decide) (by decide) (Nat.le_of_ble_eq_true rfl) dX10_endSheet_162 (fun _ g1 => ?_)
  exact k_return rfl dX10_endSheet_165
def f10_endSheet_b100 (v0 : Nat) (v1 : Int32) (v2 : Int32) (g : GS_) : Option (Unit × GS_) :=
  bd_ (f10_becomeWaiting v0 v1 g) fun _ g2 => f10_endSheet_b157 v0 v2 g2
theorem t10_endSheet_b100 (v0 : Nat) (v1 : Int32) (v2 : Int32) (g : GS_) : K_ RX10 cX10_endSheet 4 none 9 213 false EV_ 100 [some (.inr (10, some v0)), some (.inl v1), some (.inl v2), none] [] g (f10_endSheet_b100 v0 v1 v2 g) := by
  unfold f10_endSheet_b100
  refine k_aloadn (j := 0) dX10_endSheet_100 rfl rfl ?_
  refine k_iloadn (j := 1) dX10_endSheet_101 rfl rfl ?_
  refine k_callVv [.inl v1] (t10_becomeWaiting v0 v1 g) cw_cX10_becomeWaiting (Or.inl ml_10_214) rfl rfl (by decide) (by decide) (Nat.le_of_ble_eq_true rfl) dX10_endSheet_102 (fun _ g2 => ?_)
  refine k_goto (tgt := 157) dX10_endSheet_105 (by decide) ?_
  refine k_msk (L' := [some (.inr (10, some v0)), none, some (.inl v2), none]) [true, false, true, true] rfl ?_
  exact t10_endSheet_b157 v0 v2 g2
def f10_endSheet_b150 (v0 : Nat) (v1 : Int32) (v2 : Int32) (g : GS_) : Option (Unit × GS_) :=
  bd_ (f10_begin v0 v1 v2 g) fun _ g3 => some ((), g3)
theorem t10_endSheet_b150 (v0 : Nat) (v1 : Int32) (v2 : Int32) (g : GS_) : K_ RX10 cX10_endSheet 4 none 9 213 false EV_ 150 [some (.inr (10, some v0)), some (.inl v1), some (.inl v2), none] [] g (f10_endSheet_b150 v0 v1 v2 g) := by
  unfold f10_endSheet_b150
  refine k_aloadn (j := 0) dX10_endSheet_150 rfl rfl ?_
  refine k_iloadn (j := 1) dX10_endSheet_151 rfl rfl ?_
  refine k_iloadn (j := 2) dX10_endSheet_152 rfl rfl ?_
  refine k_callVv [.inl v1, .inl v2] (t10_begin v0 v1 v2 g) cw_cX10_begin (Or.inl ml_10_238) rfl rfl (by decide) (by decide) (Nat.le_of_ble_eq_true rfl) dX10_endSheet_153 (fun _ g3 => ?_)
  exact k_return rfl dX10_endSheet_156
def f10_endSheet (v0 : Nat) (v1 : Int32) (v2 : Int32) (g : GS_) : Option (Unit × GS_) :=
  bd_ (f10_record v0 v1 v2 g) fun _ g4 => bd_ (f10_ofJob v0 v1 (10 : Int32) g4) fun z6 g5 => bd_ (f10_ofJob v0 v1 (8 : Int32) g5) fun z8 g7 => if z6 = z8 then bd_ (f10_setJob v0 v1 (9 : Int32) (3 : Int32) g7) fun _ g9 => bd_ (f10_setJob v0 v1 (12 : Int32) (0 : Int32) g9) fun _ g10 => lr_ (gfr g10 340 v0) fun x11 => oc_ x11 none fun a12 => if inb (jrem (gfi g10 341 v0) (24 : Int32)) (gln g10 20 a12) then lr_ (sai g10 20 a12 (jrem (gfi g10 341 v0) (24 : Int32)).toInt.toNat v1) (fun g13 => lr_ (sfi g13 341 v0 ((gfi g13 341 v0) + (1 : Int32))) fun g14 => f10_endSheet_b157 v0 v2 g14) else none else bd_ (f10_ofJob v0 v1 (12 : Int32) g7) fun z16 g15 => if z16 = 0 then bd_ (f10_trayFor v0 v1 v2 g15) fun z18 g17 => if z18 = 0 then f10_endSheet_b100 v0 v1 v2 g17 else bd_ (f10_hasQuota v0 v1 g17) fun z20 g19 => if z20 = 0 then f10_endSheet_b100 v0 v1 v2 g19 else bd_ (f10_bestFor v0 v2 g19) fun z22 g21 => if z22 < 0 then f10_endSheet_b150 v0 v1 v2 g21 else bd_ (f10_rankOf v0 z22 g21) fun z24 g23 => bd_ (f10_ofJob v0 v1 (4 : Int32) g23) fun z26 g25 => lr_ (gfr g25 320 v0) fun x27 => oc_ x27 none fun a28 => if inb (2 : Int32) (gln g25 20 a28) then if z24 ≤ (((10 : Int32) * z26) + (gai g25 20 a28 (2 : Int32).toInt.toNat)) then f10_endSheet_b150 v0 v1 v2 g25 else bd_ (f10_becomeWaiting v0 v1 g25) fun _ g29 => f10_endSheet_b157 v0 v2 g29 else none else bd_ (f10_leave v0 v1 g15) fun _ g30 => f10_endSheet_b157 v0 v2 g30
theorem t10_endSheet (v0 : Nat) (v1 : Int32) (v2 : Int32) (g : GS_) : Cn_ yX10_endSheet cX10_endSheet 4 none 9 213 EV_ [.inr (10, some v0), .inl v1, .inl v2] g (f10_endSheet v0 v1 v2 g) := by
  refine k_method (own := RX10) (ini := false) (L1 := [some (.inr (10, some v0)), some (.inl v1), some (.inl v2), none]) (by decide +kernel) rfl (fun h => by cases h) (Nat.le_of_ble_eq_true rfl) rfl ?_
  unfold f10_endSheet
  refine k_aloadn (j := 0) dX10_endSheet_0 rfl rfl ?_
  refine k_iloadn (j := 1) dX10_endSheet_1 rfl rfl ?_
  refine k_iloadn (j := 2) dX10_endSheet_2 rfl rfl ?_
  refine k_callVv [.inl v1, .inl v2] (t10_record v0 v1 v2 g) cw_cX10_record (Or.inl ml_10_229) rfl rfl (by decide) (by decide) (Nat.le_of_ble_eq_true rfl) dX10_endSheet_3 (fun _ g4 => ?_)
  refine k_aloadn (j := 0) dX10_endSheet_6 rfl rfl ?_
  refine k_iloadn (j := 1) dX10_endSheet_7 rfl rfl ?_
  refine k_bipush (v := (10 : Int32)) dX10_endSheet_8 rfl ?_
  refine k_callVi [.inl v1, .inl (10 : Int32)] (t10_ofJob v0 v1 (10 : Int32) g4) cw_cX10_ofJob (Or.inl ml_10_133) rfl rfl (by decide) (by decide) (Nat.le_of_ble_eq_true rfl) dX10_endSheet_10 (fun z6 g5 => ?_)
  refine k_aloadn (j := 0) dX10_endSheet_13 rfl rfl ?_
  refine k_iloadn (j := 1) dX10_endSheet_14 rfl rfl ?_
  refine k_bipush (v := (8 : Int32)) dX10_endSheet_15 rfl ?_
  refine k_callVi [.inl v1, .inl (8 : Int32)] (t10_ofJob v0 v1 (8 : Int32) g5) cw_cX10_ofJob (Or.inl ml_10_133) rfl rfl (by decide) (by decide) (Nat.le_of_ble_eq_true rfl) dX10_endSheet_17 (fun z8 g7 => ?_)
  refine k_icmpne (tgt := 65) dX10_endSheet_20 (by decide) (fun _ => ?_) (fun _ => ?_)
  · refine k_aloadn (j := 0) dX10_endSheet_23 rfl rfl ?_
    refine k_iloadn (j := 1) dX10_endSheet_24 rfl rfl ?_
    refine k_bipush (v := (9 : Int32)) dX10_endSheet_25 rfl ?_
    refine k_iconst (v := (3 : Int32)) dX10_endSheet_27 rfl ?_
    refine k_callVv [.inl v1, .inl (9 : Int32), .inl (3 : Int32)] (t10_setJob v0 v1 (9 : Int32) (3 : Int32) g7) cw_cX10_setJob (Or.inl ml_10_126) rfl rfl (by decide) (by decide) (Nat.le_of_ble_eq_true rfl) dX10_endSheet_28 (fun _ g9 => ?_)
    refine k_aloadn (j := 0) dX10_endSheet_31 rfl rfl ?_
    refine k_iloadn (j := 1) dX10_endSheet_32 rfl rfl ?_
    refine k_bipush (v := (12 : Int32)) dX10_endSheet_33 rfl ?_
    refine k_iconst (v := (0 : Int32)) dX10_endSheet_35 rfl ?_
    refine k_callVv [.inl v1, .inl (12 : Int32), .inl (0 : Int32)] (t10_setJob v0 v1 (12 : Int32) (0 : Int32) g9) cw_cX10_setJob (Or.inl ml_10_126) rfl rfl (by decide) (by decide) (Nat.le_of_ble_eq_true rfl) dX10_endSheet_36 (fun _ g10 => ?_)
    refine k_aloadn (j := 0) dX10_endSheet_39 rfl rfl ?_
    refine k_getr fg_10_41 rfl rfl dX10_endSheet_40 (fun x11 => ?_)
    refine k_aloadn (j := 0) dX10_endSheet_43 rfl rfl ?_
    refine k_geti fg_10_232 rfl rfl dX10_endSheet_44 ?_
    refine k_bipush (v := (24 : Int32)) dX10_endSheet_47 rfl ?_
    refine k_iremc (by decide) dX10_endSheet_49 ?_
    refine k_iloadn (j := 1) dX10_endSheet_50 rfl rfl ?_
    rcases x11 with _ | a12
    · exact k_ocn
    refine k_ocs ?_
    refine k_iast dX10_endSheet_51 (fun g13 => ?_)
    refine k_aloadn (j := 0) dX10_endSheet_52 rfl rfl ?_
    refine k_dup dX10_endSheet_53 ?_
    refine k_geti fg_10_232 rfl rfl dX10_endSheet_54 ?_
    refine k_iconst (v := (1 : Int32)) dX10_endSheet_57 rfl ?_
    refine k_iadd dX10_endSheet_58 ?_
    refine k_puti fp_10_232 rfl rfl dX10_endSheet_59 (fun g14 => ?_)
    refine k_goto (tgt := 157) dX10_endSheet_62 (by decide) ?_
    refine k_msk (L' := [some (.inr (10, some v0)), none, some (.inl v2), none]) [true, false, true, true] rfl ?_
    exact t10_endSheet_b157 v0 v2 g14
  refine k_aloadn (j := 0) dX10_endSheet_65 rfl rfl ?_
  refine k_iloadn (j := 1) dX10_endSheet_66 rfl rfl ?_
  refine k_bipush (v := (12 : Int32)) dX10_endSheet_67 rfl ?_
  refine k_callVi [.inl v1, .inl (12 : Int32)] (t10_ofJob v0 v1 (12 : Int32) g7) cw_cX10_ofJob (Or.inl ml_10_133) rfl rfl (by decide) (by decide) (Nat.le_of_ble_eq_true rfl) dX10_endSheet_69 (fun z16 g15 => ?_)
  refine k_ifeq (tgt := 83) dX10_endSheet_72 (by decide) (fun _ => ?_) (fun _ => ?_)
  · refine k_aloadn (j := 0) dX10_endSheet_83 rfl rfl ?_
    refine k_iloadn (j := 1) dX10_endSheet_84 rfl rfl ?_
    refine k_iloadn (j := 2) dX10_endSheet_85 rfl rfl ?_
    refine k_callVi [.inl v1, .inl v2] (t10_trayFor v0 v1 v2 g15) cw_cX10_trayFor (Or.inl ml_10_220) rfl rfl (by decide) (by decide) (Nat.le_of_ble_eq_true rfl) dX10_endSheet_86 (fun z18 g17 => ?_)
    refine k_ifeq (tgt := 100) dX10_endSheet_89 (by decide) (fun _ => ?_) (fun _ => ?_)
    · exact t10_endSheet_b100 v0 v1 v2 g17
    refine k_aloadn (j := 0) dX10_endSheet_92 rfl rfl ?_
    refine k_iloadn (j := 1) dX10_endSheet_93 rfl rfl ?_
    refine k_callVi [.inl v1] (t10_hasQuota v0 v1 g17) cw_cX10_hasQuota (Or.inl ml_10_223) rfl rfl (by decide) (by decide) (Nat.le_of_ble_eq_true rfl) dX10_endSheet_94 (fun z20 g19 => ?_)
    refine k_ifne (tgt := 108) dX10_endSheet_97 (by decide) (fun _ => ?_) (fun _ => ?_)
    · exact t10_endSheet_b100 v0 v1 v2 g19
    refine k_aloadn (j := 0) dX10_endSheet_108 rfl rfl ?_
    refine k_iloadn (j := 2) dX10_endSheet_109 rfl rfl ?_
    refine k_callVi [.inl v2] (t10_bestFor v0 v2 g19) cw_cX10_bestFor (Or.inl ml_10_235) rfl rfl (by decide) (by decide) (Nat.le_of_ble_eq_true rfl) dX10_endSheet_110 (fun z22 g21 => ?_)
    refine k_istn (j := 3) (L' := [some (.inr (10, some v0)), some (.inl v1), some (.inl v2), some (.inl z22)]) dX10_endSheet_113 rfl (by decide) rfl ?_
    refine k_iloadn (j := 3) dX10_endSheet_114 rfl rfl ?_
    refine k_iflt (tgt := 150) dX10_endSheet_115 (by decide) (fun _ => ?_) (fun _ => ?_)
    · refine k_msk (L' := [some (.inr (10, some v0)), some (.inl v1), some (.inl v2), none]) [true, true, true, false] rfl ?_
      exact t10_endSheet_b150 v0 v1 v2 g21
    refine k_aloadn (j := 0) dX10_endSheet_118 rfl rfl ?_
    refine k_iloadn (j := 3) dX10_endSheet_119 rfl rfl ?_
    refine k_callVi [.inl z22] (t10_rankOf v0 z22 g21) cw_cX10_rankOf (Or.inl ml_10_152) rfl rfl (by decide) (by decide) (Nat.le_of_ble_eq_true rfl) dX10_endSheet_120 (fun z24 g23 => ?_)
    refine k_bipush (v := (10 : Int32)) dX10_endSheet_123 rfl ?_
    refine k_aloadn (j := 0) dX10_endSheet_125 rfl rfl ?_
    refine k_iloadn (j := 1) dX10_endSheet_126 rfl rfl ?_
    refine k_iconst (v := (4 : Int32)) dX10_endSheet_127 rfl ?_
    refine k_callVi [.inl v1, .inl (4 : Int32)] (t10_ofJob v0 v1 (4 : Int32) g23) cw_cX10_ofJob (Or.inl ml_10_133) rfl rfl (by decide) (by decide) (Nat.le_of_ble_eq_true rfl) dX10_endSheet_128 (fun z26 g25 => ?_)
    refine k_imul dX10_endSheet_131 ?_
    refine k_aloadn (j := 0) dX10_endSheet_132 rfl rfl ?_
    refine k_getr fg_10_7 rfl rfl dX10_endSheet_133 (fun x27 => ?_)
    refine k_iconst (v := (2 : Int32)) dX10_endSheet_136 rfl ?_
    rcases x27 with _ | a28
    · exact k_ocn
    refine k_ocs ?_
    refine k_iald dX10_endSheet_137 ?_
    refine k_iadd dX10_endSheet_138 ?_
    refine k_icmple (tgt := 150) dX10_endSheet_139 (by decide) (fun _ => ?_) (fun _ => ?_)
    · refine k_msk (L' := [some (.inr (10, some v0)), some (.inl v1), some (.inl v2), none]) [true, true, true, false] rfl ?_
      exact t10_endSheet_b150 v0 v1 v2 g25
    refine k_aloadn (j := 0) dX10_endSheet_142 rfl rfl ?_
    refine k_iloadn (j := 1) dX10_endSheet_143 rfl rfl ?_
    refine k_callVv [.inl v1] (t10_becomeWaiting v0 v1 g25) cw_cX10_becomeWaiting (Or.inl ml_10_214) rfl rfl (by decide) (by decide) (Nat.le_of_ble_eq_true rfl) dX10_endSheet_144 (fun _ g29 => ?_)
    refine k_goto (tgt := 157) dX10_endSheet_147 (by decide) ?_
    refine k_msk (L' := [some (.inr (10, some v0)), none, some (.inl v2), none]) [true, false, true, false] rfl ?_
    exact t10_endSheet_b157 v0 v2 g29
  refine k_aloadn (j := 0) dX10_endSheet_75 rfl rfl ?_
  refine k_iloadn (j := 1) dX10_endSheet_76 rfl rfl ?_
  refine k_callVv [.inl v1] (t10_leave v0 v1 g15) cw_cX10_leave (Or.inl ml_10_217) rfl rfl (by decide) (by decide) (Nat.le_of_ble_eq_true rfl) dX10_endSheet_77 (fun _ g30 => ?_)
  refine k_goto (tgt := 157) dX10_endSheet_80 (by decide) ?_
  refine k_msk (L' := [some (.inr (10, some v0)), none, some (.inl v2), none]) [true, false, true, true] rfl ?_
  exact t10_endSheet_b157 v0 v2 g30
theorem dX10_tick_0 : decode cX10_tick 0 = .ok (.aload_n 0, 1) := by decide +kernel
theorem dX10_tick_1 : decode cX10_tick 1 = .ok (.getfield 7, 3) := by decide +kernel
theorem dX10_tick_4 : decode cX10_tick 4 = .ok (.iconst 0, 1) := by decide +kernel
theorem dX10_tick_5 : decode cX10_tick 5 = .ok (.dup2, 1) := by decide +kernel
theorem dX10_tick_6 : decode cX10_tick 6 = .ok (.iaload, 1) := by decide +kernel
theorem dX10_tick_7 : decode cX10_tick 7 = .ok (.iconst 1, 1) := by decide +kernel
theorem dX10_tick_8 : decode cX10_tick 8 = .ok (.iadd, 1) := by decide +kernel
theorem dX10_tick_9 : decode cX10_tick 9 = .ok (.iastore, 1) := by decide +kernel
theorem dX10_tick_10 : decode cX10_tick 10 = .ok (.iconst 0, 1) := by decide +kernel
theorem dX10_tick_11 : decode cX10_tick 11 = .ok (.istore_n 1, 1) := by decide +kernel
theorem dX10_tick_12 : decode cX10_tick 12 = .ok (.iload_n 1, 1) := by decide +kernel
theorem dX10_tick_13 : decode cX10_tick 13 = .ok (.aload_n 0, 1) := by decide +kernel
theorem dX10_tick_14 : decode cX10_tick 14 = .ok (.getfield 7, 3) := by decide +kernel
theorem dX10_tick_17 : decode cX10_tick 17 = .ok (.iconst 5, 1) := by decide +kernel
theorem dX10_tick_18 : decode cX10_tick 18 = .ok (.iaload, 1) := by decide +kernel
theorem dX10_tick_19 : decode cX10_tick 19 = .ok (.if_icmp .ge 58, 3) := by decide +kernel
theorem dX10_tick_22 : decode cX10_tick 22 = .ok (.aload_n 0, 1) := by decide +kernel
theorem dX10_tick_23 : decode cX10_tick 23 = .ok (.iload_n 1, 1) := by decide +kernel
theorem dX10_tick_24 : decode cX10_tick 24 = .ok (.bipush 6, 2) := by decide +kernel
theorem dX10_tick_26 : decode cX10_tick 26 = .ok (.invokevirtual 190, 3) := by decide +kernel
theorem dX10_tick_29 : decode cX10_tick 29 = .ok (.iconst 1, 1) := by decide +kernel
theorem dX10_tick_30 : decode cX10_tick 30 = .ok (.if_icmp .ne 41, 3) := by decide +kernel
theorem dX10_tick_33 : decode cX10_tick 33 = .ok (.aload_n 0, 1) := by decide +kernel
theorem dX10_tick_34 : decode cX10_tick 34 = .ok (.iload_n 1, 1) := by decide +kernel
theorem dX10_tick_35 : decode cX10_tick 35 = .ok (.bipush 8, 2) := by decide +kernel
theorem dX10_tick_37 : decode cX10_tick 37 = .ok (.aload_n 0, 1) := by decide +kernel
theorem dX10_tick_38 : decode cX10_tick 38 = .ok (.iload_n 1, 1) := by decide +kernel
theorem dX10_tick_39 : decode cX10_tick 39 = .ok (.bipush 8, 2) := by decide +kernel
theorem dX10_tick_41 : decode cX10_tick 41 = .ok (.invokevirtual 190, 3) := by decide +kernel
theorem dX10_tick_44 : decode cX10_tick 44 = .ok (.iconst 1, 1) := by decide +kernel
theorem dX10_tick_45 : decode cX10_tick 45 = .ok (.isub, 1) := by decide +kernel
theorem dX10_tick_46 : decode cX10_tick 46 = .ok (.invokevirtual 184, 3) := by decide +kernel
theorem dX10_tick_49 : decode cX10_tick 49 = .ok (.aload_n 0, 1) := by decide +kernel
theorem dX10_tick_50 : decode cX10_tick 50 = .ok (.iload_n 1, 1) := by decide +kernel
theorem dX10_tick_51 : decode cX10_tick 51 = .ok (.bipush 8, 2) := by decide +kernel
theorem dX10_tick_53 : decode cX10_tick 53 = .ok (.invokevirtual 190, 3) := by decide +kernel
theorem dX10_tick_56 : decode cX10_tick 56 = .ok (.ifCond .ne 15, 3) := by decide +kernel
theorem dX10_tick_59 : decode cX10_tick 59 = .ok (.aload_n 0, 1) := by decide +kernel
theorem dX10_tick_60 : decode cX10_tick 60 = .ok (.aload_n 0, 1) := by decide +kernel
theorem dX10_tick_61 : decode cX10_tick 61 = .ok (.iload_n 1, 1) := by decide +kernel
theorem dX10_tick_62 : decode cX10_tick 62 = .ok (.bipush 7, 2) := by decide +kernel
theorem dX10_tick_64 : decode cX10_tick 64 = .ok (.invokevirtual 190, 3) := by decide +kernel
theorem dX10_tick_67 : decode cX10_tick 67 = .ok (.iload_n 1, 1) := by decide +kernel
theorem dX10_tick_68 : decode cX10_tick 68 = .ok (.invokevirtual 241, 3) := by decide +kernel
theorem dX10_tick_71 : decode cX10_tick 71 = .ok (.iinc 1 1, 3) := by decide +kernel
theorem dX10_tick_74 : decode cX10_tick 74 = .ok (.goto (-62), 3) := by decide +kernel
theorem dX10_tick_77 : decode cX10_tick 77 = .ok (.iconst 0, 1) := by decide +kernel
theorem dX10_tick_78 : decode cX10_tick 78 = .ok (.istore_n 1, 1) := by decide +kernel
theorem dX10_tick_79 : decode cX10_tick 79 = .ok (.iload_n 1, 1) := by decide +kernel
theorem dX10_tick_80 : decode cX10_tick 80 = .ok (.aload_n 0, 1) := by decide +kernel
theorem dX10_tick_81 : decode cX10_tick 81 = .ok (.getfield 7, 3) := by decide +kernel
theorem dX10_tick_84 : decode cX10_tick 84 = .ok (.iconst 5, 1) := by decide +kernel
theorem dX10_tick_85 : decode cX10_tick 85 = .ok (.iaload, 1) := by decide +kernel
theorem dX10_tick_86 : decode cX10_tick 86 = .ok (.if_icmp .ge 64, 3) := by decide +kernel
theorem dX10_tick_89 : decode cX10_tick 89 = .ok (.aload_n 0, 1) := by decide +kernel
theorem dX10_tick_90 : decode cX10_tick 90 = .ok (.iload_n 1, 1) := by decide +kernel
theorem dX10_tick_91 : decode cX10_tick 91 = .ok (.bipush 6, 2) := by decide +kernel
theorem dX10_tick_93 : decode cX10_tick 93 = .ok (.invokevirtual 190, 3) := by decide +kernel
theorem dX10_tick_96 : decode cX10_tick 96 = .ok (.ifCond .ne 11, 3) := by decide +kernel
theorem dX10_tick_99 : decode cX10_tick 99 = .ok (.aload_n 0, 1) := by decide +kernel
theorem dX10_tick_100 : decode cX10_tick 100 = .ok (.iload_n 1, 1) := by decide +kernel
theorem dX10_tick_101 : decode cX10_tick 101 = .ok (.invokevirtual 235, 3) := by decide +kernel
theorem dX10_tick_104 : decode cX10_tick 104 = .ok (.goto 5, 3) := by decide +kernel
theorem dX10_tick_107 : decode cX10_tick 107 = .ok (.bipush (-6), 2) := by decide +kernel
theorem dX10_tick_109 : decode cX10_tick 109 = .ok (.istore_n 2, 1) := by decide +kernel
theorem dX10_tick_110 : decode cX10_tick 110 = .ok (.iload_n 2, 1) := by decide +kernel
theorem dX10_tick_111 : decode cX10_tick 111 = .ok (.ifCond .lt 33, 3) := by decide +kernel
theorem dX10_tick_114 : decode cX10_tick 114 = .ok (.aload_n 0, 1) := by decide +kernel
theorem dX10_tick_115 : decode cX10_tick 115 = .ok (.iload_n 2, 1) := by decide +kernel
theorem dX10_tick_116 : decode cX10_tick 116 = .ok (.bipush 9, 2) := by decide +kernel
theorem dX10_tick_118 : decode cX10_tick 118 = .ok (.iconst 1, 1) := by decide +kernel
theorem dX10_tick_119 : decode cX10_tick 119 = .ok (.invokevirtual 126, 3) := by decide +kernel
theorem dX10_tick_122 : decode cX10_tick 122 = .ok (.aload_n 0, 1) := by decide +kernel
theorem dX10_tick_123 : decode cX10_tick 123 = .ok (.iload_n 1, 1) := by decide +kernel
theorem dX10_tick_124 : decode cX10_tick 124 = .ok (.bipush 6, 2) := by decide +kernel
theorem dX10_tick_126 : decode cX10_tick 126 = .ok (.iconst 1, 1) := by decide +kernel
theorem dX10_tick_127 : decode cX10_tick 127 = .ok (.invokevirtual 184, 3) := by decide +kernel
theorem dX10_tick_130 : decode cX10_tick 130 = .ok (.aload_n 0, 1) := by decide +kernel
theorem dX10_tick_131 : decode cX10_tick 131 = .ok (.iload_n 1, 1) := by decide +kernel
theorem dX10_tick_132 : decode cX10_tick 132 = .ok (.bipush 7, 2) := by decide +kernel
theorem dX10_tick_134 : decode cX10_tick 134 = .ok (.iload_n 2, 1) := by decide +kernel
theorem dX10_tick_135 : decode cX10_tick 135 = .ok (.invokevirtual 184, 3) := by decide +kernel
theorem dX10_tick_138 : decode cX10_tick 138 = .ok (.aload_n 0, 1) := by decide +kernel
theorem dX10_tick_139 : decode cX10_tick 139 = .ok (.iload_n 2, 1) := by decide +kernel
theorem dX10_tick_140 : decode cX10_tick 140 = .ok (.iload_n 1, 1) := by decide +kernel
theorem dX10_tick_141 : decode cX10_tick 141 = .ok (.invokevirtual 238, 3) := by decide +kernel
theorem dX10_tick_144 : decode cX10_tick 144 = .ok (.iinc 1 1, 3) := by decide +kernel
theorem dX10_tick_147 : decode cX10_tick 147 = .ok (.goto (-68), 3) := by decide +kernel
theorem dX10_tick_150 : decode cX10_tick 150 = .ok (.return_, 1) := by decide +kernel
def f10_tick_b144 (c79 : Nat → Int32 → GS_ → Option (Unit × GS_)) (v0 : Nat) (v1 : Int32) (g : GS_) : Option (Unit × GS_) :=
  c79 v0 (v1 + (1 : Int32)) g
theorem t10_tick_b144 (c79 : Nat → Int32 → GS_ → Option (Unit × GS_)) (h79 : ∀ (v0 : Nat) (v1 : Int32) (g : GS_), K_ RX10 cX10_tick 3 none 10 236 false EV_ 79 [some (.inr (10, some v0)), some (.inl v1), none] [] g (c79 v0 v1 g)) (v0 : Nat) (v1 : Int32) (g : GS_) : K_ RX10 cX10_tick 3 none 10 236 false EV_ 144 [some (.inr (10, some v0)), some (.inl v1), none] [] g (f10_tick_b144 c79 v0 v1 g) := by
  unfold f10_tick_b144
  refine k_iinc (v := (v1 + (1 : Int32))) (L' := [some (.inr (10, some v0)), some (.inl (v1 + (1 : Int32))), none]) dX10_tick_144 rfl rfl (by decide) rfl ?_
  refine k_goto (tgt := 79) dX10_tick_147 (by decide) ?_
  exact h79 v0 (v1 + (1 : Int32)) g
def f10_tick_b109 (c79 : Nat → Int32 → GS_ → Option (Unit × GS_)) (v0 : Nat) (v1 : Int32) (s0 : Int32) (g : GS_) : Option (Unit × GS_) :=
  if s0 < 0 then f10_tick_b144 c79 v0 v1 g else bd_ (f10_setJob v0 s0 (9 : Int32) (1 : Int32) g) fun _ g1 => bd_ (f10_setPrinter v0 v1 (6 : Int32) (1 : Int32) g1) fun _ g2 => bd_ (f10_setPrinter v0 v1 (7 : Int32) s0 g2) fun _ g3 => bd_ (f10_begin v0 s0 v1 g3) fun _ g4 => f10_tick_b144 c79 v0 v1 g4
theorem t10_tick_b109 (c79 : Nat → Int32 → GS_ → Option (Unit × GS_)) (h79 : ∀ (v0 : Nat) (v1 : Int32) (g : GS_), K_ RX10 cX10_tick 3 none 10 236 false EV_ 79 [some (.inr (10, some v0)), some (.inl v1), none] [] g (c79 v0 v1 g)) (v0 : Nat) (v1 : Int32) (s0 : Int32) (g : GS_) : K_ RX10 cX10_tick 3 none 10 236 false EV_ 109 [some (.inr (10, some v0)), some (.inl v1), none] [.inl s0] g (f10_tick_b109 c79 v0 v1 s0 g) := by
  unfold f10_tick_b109
  refine k_istn (j := 2) (L' := [some (.inr (10, some v0)), some (.inl v1), some (.inl s0)]) dX10_tick_109 rfl (by decide) rfl ?_
  refine k_iloadn (j := 2) dX10_tick_110 rfl rfl ?_
  refine k_iflt (tgt := 144) dX10_tick_111 (by decide) (fun _ => ?_) (fun _ => ?_)
  · refine k_msk (L' := [some (.inr (10, some v0)), some (.inl v1), none]) [true, true, false] rfl ?_
    exact t10_tick_b144 c79 h79 v0 v1 g
  refine k_aloadn (j := 0) dX10_tick_114 rfl rfl ?_
  refine k_iloadn (j := 2) dX10_tick_115 rfl rfl ?_
  refine k_bipush (v := (9 : Int32)) dX10_tick_116 rfl ?_
  refine k_iconst (v := (1 : Int32)) dX10_tick_118 rfl ?_
  refine k_callVv [.inl s0, .inl (9 : Int32), .inl (1 : Int32)] (t10_setJob v0 s0 (9 : Int32) (1 : Int32) g) cw_cX10_setJob (Or.inl ml_10_126) rfl rfl (by decide) (by decide) (Nat.le_of_ble_eq_true rfl) dX10_tick_119 (fun _ g1 => ?_)
  refine k_aloadn (j := 0) dX10_tick_122 rfl rfl ?_
  refine k_iloadn (j := 1) dX10_tick_123 rfl rfl ?_
  refine k_bipush (v := (6 : Int32)) dX10_tick_124 rfl ?_
  refine k_iconst (v := (1 : Int32)) dX10_tick_126 rfl ?_
  refine k_callVv [.inl v1, .inl (6 : Int32), .inl (1 : Int32)] (t10_setPrinter v0 v1 (6 : Int32) (1 : Int32) g1) cw_cX10_setPrinter (Or.inl ml_10_184) rfl rfl (by decide) (by decide) (Nat.le_of_ble_eq_true rfl) dX10_tick_127 (fun _ g2 => ?_)
  refine k_aloadn (j := 0) dX10_tick_130 rfl rfl ?_
  refine k_iloadn (j := 1) dX10_tick_131 rfl rfl ?_
  refine k_bipush (v := (7 : Int32)) dX10_tick_132 rfl ?_
  refine k_iloadn (j := 2) dX10_tick_134 rfl rfl ?_
  refine k_callVv [.inl v1, .inl (7 : Int32), .inl s0] (t10_setPrinter v0 v1 (7 : Int32) s0 g2) cw_cX10_setPrinter (Or.inl ml_10_184) rfl rfl (by decide) (by decide) (Nat.le_of_ble_eq_true rfl) dX10_tick_135 (fun _ g3 => ?_)
  refine k_aloadn (j := 0) dX10_tick_138 rfl rfl ?_
  refine k_iloadn (j := 2) dX10_tick_139 rfl rfl ?_
  refine k_iloadn (j := 1) dX10_tick_140 rfl rfl ?_
  refine k_callVv [.inl s0, .inl v1] (t10_begin v0 s0 v1 g3) cw_cX10_begin (Or.inl ml_10_238) rfl rfl (by decide) (by decide) (Nat.le_of_ble_eq_true rfl) dX10_tick_141 (fun _ g4 => ?_)
  refine k_msk (L' := [some (.inr (10, some v0)), some (.inl v1), none]) [true, true, false] rfl ?_
  exact t10_tick_b144 c79 h79 v0 v1 g4
def f10_tick_b79 : Nat → Nat → Int32 → GS_ → Option (Unit × GS_)
  | 0, _, _, _ => none
  | n + 1, v0, v1, g =>
    lr_ (gfr g 320 v0) fun x5 => oc_ x5 none fun a6 => if inb (5 : Int32) (gln g 20 a6) then if (gai g 20 a6 (5 : Int32).toInt.toNat) ≤ v1 then some ((), g) else bd_ (f10_ofPrinter v0 v1 (6 : Int32) g) fun z8 g7 => if z8 = 0 then bd_ (f10_bestFor v0 v1 g7) fun z10 g9 => f10_tick_b109 (f10_tick_b79 n) v0 v1 z10 g9 else f10_tick_b109 (f10_tick_b79 n) v0 v1 (-6 : Int32) g7 else none
theorem t10_tick_b79 : ∀ (n : Nat) (v0 : Nat) (v1 : Int32) (g : GS_), K_ RX10 cX10_tick 3 none 10 236 false EV_ 79 [some (.inr (10, some v0)), some (.inl v1), none] [] g (f10_tick_b79 n v0 v1 g) := by
  intro n
  induction n with
  | zero =>
    intro v0 v1 g
    exact k_fail
  | succ n ih =>
    intro v0 v1 g
    show K_ RX10 cX10_tick 3 none 10 236 false EV_ 79 [some (.inr (10, some v0)), some (.inl v1), none] [] g (lr_ (gfr g 320 v0) fun x5 => oc_ x5 none fun a6 => if inb (5 : Int32) (gln g 20 a6) then if (gai g 20 a6 (5 : Int32).toInt.toNat) ≤ v1 then some ((), g) else bd_ (f10_ofPrinter v0 v1 (6 : Int32) g) fun z8 g7 => if z8 = 0 then bd_ (f10_bestFor v0 v1 g7) fun z10 g9 => f10_tick_b109 (f10_tick_b79 n) v0 v1 z10 g9 else f10_tick_b109 (f10_tick_b79 n) v0 v1 (-6 : Int32) g7 else none)
    refine k_iloadn (j := 1) dX10_tick_79 rfl rfl ?_
    refine k_aloadn (j := 0) dX10_tick_80 rfl rfl ?_
    refine k_getr fg_10_7 rfl rfl dX10_tick_81 (fun x5 => ?_)
    refine k_iconst (v := (5 : Int32)) dX10_tick_84 rfl ?_
    rcases x5 with _ | a6
    · exact k_ocn
    refine k_ocs ?_
    refine k_iald dX10_tick_85 ?_
    refine k_icmpge (tgt := 150) dX10_tick_86 (by decide) (fun _ => ?_) (fun _ => ?_)
    · exact k_return rfl dX10_tick_150
    refine k_aloadn (j := 0) dX10_tick_89 rfl rfl ?_
    refine k_iloadn (j := 1) dX10_tick_90 rfl rfl ?_
    refine k_bipush (v := (6 : Int32)) dX10_tick_91 rfl ?_
    refine k_callVi [.inl v1, .inl (6 : Int32)] (t10_ofPrinter v0 v1 (6 : Int32) g) cw_cX10_ofPrinter (Or.inl ml_10_190) rfl rfl (by decide) (by decide) (Nat.le_of_ble_eq_true rfl) dX10_tick_93 (fun z8 g7 => ?_)
    refine k_ifne (tgt := 107) dX10_tick_96 (by decide) (fun _ => ?_) (fun _ => ?_)
    · refine k_aloadn (j := 0) dX10_tick_99 rfl rfl ?_
      refine k_iloadn (j := 1) dX10_tick_100 rfl rfl ?_
      refine k_callVi [.inl v1] (t10_bestFor v0 v1 g7) cw_cX10_bestFor (Or.inl ml_10_235) rfl rfl (by decide) (by decide) (Nat.le_of_ble_eq_true rfl) dX10_tick_101 (fun z10 g9 => ?_)
      refine k_goto (tgt := 109) dX10_tick_104 (by decide) ?_
      exact t10_tick_b109 (f10_tick_b79 n) ih v0 v1 z10 g9
    refine k_bipush (v := (-6 : Int32)) dX10_tick_107 rfl ?_
    exact t10_tick_b109 (f10_tick_b79 n) ih v0 v1 (-6 : Int32) g7
def f10_tick_b71 (c12 : Nat → Int32 → GS_ → Option (Unit × GS_)) (v0 : Nat) (v1 : Int32) (g : GS_) : Option (Unit × GS_) :=
  c12 v0 (v1 + (1 : Int32)) g
theorem t10_tick_b71 (c12 : Nat → Int32 → GS_ → Option (Unit × GS_)) (h12 : ∀ (v0 : Nat) (v1 : Int32) (g : GS_), K_ RX10 cX10_tick 3 none 10 236 false EV_ 12 [some (.inr (10, some v0)), some (.inl v1), none] [] g (c12 v0 v1 g)) (v0 : Nat) (v1 : Int32) (g : GS_) : K_ RX10 cX10_tick 3 none 10 236 false EV_ 71 [some (.inr (10, some v0)), some (.inl v1), none] [] g (f10_tick_b71 c12 v0 v1 g) := by
  unfold f10_tick_b71
  refine k_iinc (v := (v1 + (1 : Int32))) (L' := [some (.inr (10, some v0)), some (.inl (v1 + (1 : Int32))), none]) dX10_tick_71 rfl rfl (by decide) rfl ?_
  refine k_goto (tgt := 12) dX10_tick_74 (by decide) ?_
  exact h12 v0 (v1 + (1 : Int32)) g
def f10_tick_b12 : Nat → Nat → Int32 → GS_ → Option (Unit × GS_)
  | 0, _, _, _ => none
  | n + 1, v0, v1, g =>
    lr_ (gfr g 320 v0) fun x11 => oc_ x11 none fun a12 => if inb (5 : Int32) (gln g 20 a12) then if (gai g 20 a12 (5 : Int32).toInt.toNat) ≤ v1 then f10_tick_b79 FU_ v0 (0 : Int32) g else bd_ (f10_ofPrinter v0 v1 (6 : Int32) g) fun z14 g13 => if z14 = (1 : Int32) then bd_ (f10_ofPrinter v0 v1 (8 : Int32) g13) fun z16 g15 => bd_ (f10_setPrinter v0 v1 (8 : Int32) (z16 - (1 : Int32)) g15) fun _ g17 => bd_ (f10_ofPrinter v0 v1 (8 : Int32) g17) fun z19 g18 => if z19 = 0 then bd_ (f10_ofPrinter v0 v1 (7 : Int32) g18) fun z21 g20 => bd_ (f10_endSheet v0 z21 v1 g20) fun _ g22 => f10_tick_b71 (f10_tick_b12 n) v0 v1 g22 else f10_tick_b71 (f10_tick_b12 n) v0 v1 g18 else f10_tick_b71 (f10_tick_b12 n) v0 v1 g13 else none
theorem t10_tick_b12 : ∀ (n : Nat) (v0 : Nat) (v1 : Int32) (g : GS_), K_ RX10 cX10_tick 3 none 10 236 false EV_ 12 [some (.inr (10, some v0)), some (.inl v1), none] [] g (f10_tick_b12 n v0 v1 g) := by
  intro n
  induction n with
  | zero =>
    intro v0 v1 g
    exact k_fail
  | succ n ih =>
    intro v0 v1 g
    show K_ RX10 cX10_tick 3 none 10 236 false EV_ 12 [some (.inr (10, some v0)), some (.inl v1), none] [] g (lr_ (gfr g 320 v0) fun x11 => oc_ x11 none fun a12 => if inb (5 : Int32) (gln g 20 a12) then if (gai g 20 a12 (5 : Int32).toInt.toNat) ≤ v1 then f10_tick_b79 FU_ v0 (0 : Int32) g else bd_ (f10_ofPrinter v0 v1 (6 : Int32) g) fun z14 g13 => if z14 = (1 : Int32) then bd_ (f10_ofPrinter v0 v1 (8 : Int32) g13) fun z16 g15 => bd_ (f10_setPrinter v0 v1 (8 : Int32) (z16 - (1 : Int32)) g15) fun _ g17 => bd_ (f10_ofPrinter v0 v1 (8 : Int32) g17) fun z19 g18 => if z19 = 0 then bd_ (f10_ofPrinter v0 v1 (7 : Int32) g18) fun z21 g20 => bd_ (f10_endSheet v0 z21 v1 g20) fun _ g22 => f10_tick_b71 (f10_tick_b12 n) v0 v1 g22 else f10_tick_b71 (f10_tick_b12 n) v0 v1 g18 else f10_tick_b71 (f10_tick_b12 n) v0 v1 g13 else none)
    refine k_iloadn (j := 1) dX10_tick_12 rfl rfl ?_
    refine k_aloadn (j := 0) dX10_tick_13 rfl rfl ?_
    refine k_getr fg_10_7 rfl rfl dX10_tick_14 (fun x11 => ?_)
    refine k_iconst (v := (5 : Int32)) dX10_tick_17 rfl ?_
    rcases x11 with _ | a12
    · exact k_ocn
    refine k_ocs ?_
    refine k_iald dX10_tick_18 ?_
    refine k_icmpge (tgt := 77) dX10_tick_19 (by decide) (fun _ => ?_) (fun _ => ?_)
    · refine k_iconst (v := (0 : Int32)) dX10_tick_77 rfl ?_
      refine k_istn (j := 1) (L' := [some (.inr (10, some v0)), some (.inl (0 : Int32)), none]) dX10_tick_78 rfl (by decide) rfl ?_
      exact t10_tick_b79 FU_ v0 (0 : Int32) g
    refine k_aloadn (j := 0) dX10_tick_22 rfl rfl ?_
    refine k_iloadn (j := 1) dX10_tick_23 rfl rfl ?_
    refine k_bipush (v := (6 : Int32)) dX10_tick_24 rfl ?_
    refine k_callVi [.inl v1, .inl (6 : Int32)] (t10_ofPrinter v0 v1 (6 : Int32) g) cw_cX10_ofPrinter (Or.inl ml_10_190) rfl rfl (by decide) (by decide) (Nat.le_of_ble_eq_true rfl) dX10_tick_26 (fun z14 g13 => ?_)
    refine k_iconst (v := (1 : Int32)) dX10_tick_29 rfl ?_
    refine k_icmpne (tgt := 71) dX10_tick_30 (by decide) (fun _ => ?_) (fun _ => ?_)
    · refine k_aloadn (j := 0) dX10_tick_33 rfl rfl ?_
      refine k_iloadn (j := 1) dX10_tick_34 rfl rfl ?_
      refine k_bipush (v := (8 : Int32)) dX10_tick_35 rfl ?_
      refine k_aloadn (j := 0) dX10_tick_37 rfl rfl ?_
      refine k_iloadn (j := 1) dX10_tick_38 rfl rfl ?_
      refine k_bipush (v := (8 : Int32)) dX10_tick_39 rfl ?_
      refine k_callVi [.inl v1, .inl (8 : Int32)] (t10_ofPrinter v0 v1 (8 : Int32) g13) cw_cX10_ofPrinter (Or.inl ml_10_190) rfl rfl (by decide) (by decide) (Nat.le_of_ble_eq_true rfl) dX10_tick_41 (fun z16 g15 => ?_)
      refine k_iconst (v := (1 : Int32)) dX10_tick_44 rfl ?_
      refine k_isub dX10_tick_45 ?_
      refine k_callVv [.inl v1, .inl (8 : Int32), .inl (z16 - (1 : Int32))] (t10_setPrinter v0 v1 (8 : Int32) (z16 - (1 : Int32)) g15) cw_cX10_setPrinter (Or.inl ml_10_184) rfl rfl (by decide) (by decide) (Nat.le_of_ble_eq_true rfl) dX10_tick_46 (fun _ g17 => ?_)
      refine k_aloadn (j := 0) dX10_tick_49 rfl rfl ?_
      refine k_iloadn (j := 1) dX10_tick_50 rfl rfl ?_
      refine k_bipush (v := (8 : Int32)) dX10_tick_51 rfl ?_
      refine k_callVi [.inl v1, .inl (8 : Int32)] (t10_ofPrinter v0 v1 (8 : Int32) g17) cw_cX10_ofPrinter (Or.inl ml_10_190) rfl rfl (by decide) (by decide) (Nat.le_of_ble_eq_true rfl) dX10_tick_53 (fun z19 g18 => ?_)
      refine k_ifne (tgt := 71) dX10_tick_56 (by decide) (fun _ => ?_) (fun _ => ?_)
      · refine k_aloadn (j := 0) dX10_tick_59 rfl rfl ?_
        refine k_aloadn (j := 0) dX10_tick_60 rfl rfl ?_
        refine k_iloadn (j := 1) dX10_tick_61 rfl rfl ?_
        refine k_bipush (v := (7 : Int32)) dX10_tick_62 rfl ?_
        refine k_callVi [.inl v1, .inl (7 : Int32)] (t10_ofPrinter v0 v1 (7 : Int32) g18) cw_cX10_ofPrinter (Or.inl ml_10_190) rfl rfl (by decide) (by decide) (Nat.le_of_ble_eq_true rfl) dX10_tick_64 (fun z21 g20 => ?_)
        refine k_iloadn (j := 1) dX10_tick_67 rfl rfl ?_
        refine k_callVv [.inl z21, .inl v1] (t10_endSheet v0 z21 v1 g20) cw_cX10_endSheet (Or.inl ml_10_241) rfl rfl (by decide) (by decide) (Nat.le_of_ble_eq_true rfl) dX10_tick_68 (fun _ g22 => ?_)
        exact t10_tick_b71 (f10_tick_b12 n) ih v0 v1 g22
      exact t10_tick_b71 (f10_tick_b12 n) ih v0 v1 g18
    exact t10_tick_b71 (f10_tick_b12 n) ih v0 v1 g13
def f10_tick (v0 : Nat) (g : GS_) : Option (Unit × GS_) :=
  lr_ (gfr g 320 v0) fun x23 => oc_ x23 none fun a24 => if inb (0 : Int32) (gln g 20 a24) then if inb (0 : Int32) (gln g 20 a24) then lr_ (sai g 20 a24 (0 : Int32).toInt.toNat ((gai g 20 a24 (0 : Int32).toInt.toNat) + (1 : Int32))) (fun g25 => f10_tick_b12 FU_ v0 (0 : Int32) g25) else none else none
theorem t10_tick (v0 : Nat) (g : GS_) : Cn_ yX10_tick cX10_tick 3 none 10 236 EV_ [.inr (10, some v0)] g (f10_tick v0 g) := by
  refine k_method (own := RX10) (ini := false) (L1 := [some (.inr (10, some v0)), none, none]) (by decide +kernel) rfl (fun h => by cases h) (Nat.le_of_ble_eq_true rfl) rfl ?_
  unfold f10_tick
  refine k_aloadn (j := 0) dX10_tick_0 rfl rfl ?_
  refine k_getr fg_10_7 rfl rfl dX10_tick_1 (fun x23 => ?_)
  refine k_iconst (v := (0 : Int32)) dX10_tick_4 rfl ?_
  refine k_dup2 dX10_tick_5 ?_
  rcases x23 with _ | a24
  · exact k_ocn
  refine k_ocs ?_
  refine k_iald dX10_tick_6 ?_
  refine k_iconst (v := (1 : Int32)) dX10_tick_7 rfl ?_
  refine k_iadd dX10_tick_8 ?_
  refine k_iast dX10_tick_9 (fun g25 => ?_)
  refine k_iconst (v := (0 : Int32)) dX10_tick_10 rfl ?_
  refine k_istn (j := 1) (L' := [some (.inr (10, some v0)), some (.inl (0 : Int32)), none]) dX10_tick_11 rfl (by decide) rfl ?_
  exact t10_tick_b12 FU_ v0 (0 : Int32) g25
theorem dX10_advance_0 : decode cX10_advance 0 = .ok (.iload_n 1, 1) := by decide +kernel
theorem dX10_advance_1 : decode cX10_advance 1 = .ok (.iconst 1, 1) := by decide +kernel
theorem dX10_advance_2 : decode cX10_advance 2 = .ok (.sipush 1000, 3) := by decide +kernel
theorem dX10_advance_5 : decode cX10_advance 5 = .ok (.invokestatic 44, 3) := by decide +kernel
theorem dX10_advance_8 : decode cX10_advance 8 = .ok (.ifCond .ne 6, 3) := by decide +kernel
theorem dX10_advance_11 : decode cX10_advance 11 = .ok (.bipush (-2), 2) := by decide +kernel
theorem dX10_advance_13 : decode cX10_advance 13 = .ok (.ireturn, 1) := by decide +kernel
theorem dX10_advance_14 : decode cX10_advance 14 = .ok (.iconst 0, 1) := by decide +kernel
theorem dX10_advance_15 : decode cX10_advance 15 = .ok (.istore_n 2, 1) := by decide +kernel
theorem dX10_advance_16 : decode cX10_advance 16 = .ok (.iload_n 2, 1) := by decide +kernel
theorem dX10_advance_17 : decode cX10_advance 17 = .ok (.iload_n 1, 1) := by decide +kernel
theorem dX10_advance_18 : decode cX10_advance 18 = .ok (.if_icmp .ge 13, 3) := by decide +kernel
theorem dX10_advance_21 : decode cX10_advance 21 = .ok (.aload_n 0, 1) := by decide +kernel
theorem dX10_advance_22 : decode cX10_advance 22 = .ok (.invokevirtual 244, 3) := by decide +kernel
theorem dX10_advance_25 : decode cX10_advance 25 = .ok (.iinc 2 1, 3) := by decide +kernel
theorem dX10_advance_28 : decode cX10_advance 28 = .ok (.goto (-12), 3) := by decide +kernel
theorem dX10_advance_31 : decode cX10_advance 31 = .ok (.aload_n 0, 1) := by decide +kernel
theorem dX10_advance_32 : decode cX10_advance 32 = .ok (.getfield 7, 3) := by decide +kernel
theorem dX10_advance_35 : decode cX10_advance 35 = .ok (.iconst 0, 1) := by decide +kernel
theorem dX10_advance_36 : decode cX10_advance 36 = .ok (.iaload, 1) := by decide +kernel
theorem dX10_advance_37 : decode cX10_advance 37 = .ok (.ireturn, 1) := by decide +kernel
def f10_advance_b16 : Nat → Nat → Int32 → Int32 → GS_ → Option (Int32 × GS_)
  | 0, _, _, _, _ => none
  | n + 1, v0, v1, v2, g =>
    if v1 ≤ v2 then lr_ (gfr g 320 v0) fun x1 => oc_ x1 none fun a2 => if inb (0 : Int32) (gln g 20 a2) then some ((gai g 20 a2 (0 : Int32).toInt.toNat), g) else none else bd_ (f10_tick v0 g) fun _ g3 => (f10_advance_b16 n) v0 v1 (v2 + (1 : Int32)) g3
theorem t10_advance_b16 : ∀ (n : Nat) (v0 : Nat) (v1 : Int32) (v2 : Int32) (g : GS_), K_ RX10 cX10_advance 3 (some .int) 11 258 false EI_ 16 [some (.inr (10, some v0)), some (.inl v1), some (.inl v2)] [] g (f10_advance_b16 n v0 v1 v2 g) := by
  intro n
  induction n with
  | zero =>
    intro v0 v1 v2 g
    exact k_fail
  | succ n ih =>
    intro v0 v1 v2 g
    show K_ RX10 cX10_advance 3 (some .int) 11 258 false EI_ 16 [some (.inr (10, some v0)), some (.inl v1), some (.inl v2)] [] g (if v1 ≤ v2 then lr_ (gfr g 320 v0) fun x1 => oc_ x1 none fun a2 => if inb (0 : Int32) (gln g 20 a2) then some ((gai g 20 a2 (0 : Int32).toInt.toNat), g) else none else bd_ (f10_tick v0 g) fun _ g3 => (f10_advance_b16 n) v0 v1 (v2 + (1 : Int32)) g3)
    refine k_iloadn (j := 2) dX10_advance_16 rfl rfl ?_
    refine k_iloadn (j := 1) dX10_advance_17 rfl rfl ?_
    refine k_icmpge (tgt := 31) dX10_advance_18 (by decide) (fun _ => ?_) (fun _ => ?_)
    · refine k_aloadn (j := 0) dX10_advance_31 rfl rfl ?_
      refine k_getr fg_10_7 rfl rfl dX10_advance_32 (fun x1 => ?_)
      refine k_iconst (v := (0 : Int32)) dX10_advance_35 rfl ?_
      rcases x1 with _ | a2
      · exact k_ocn
      refine k_ocs ?_
      refine k_iald dX10_advance_36 ?_
      exact k_ireturn rfl dX10_advance_37
    refine k_aloadn (j := 0) dX10_advance_21 rfl rfl ?_
    refine k_callVv [] (t10_tick v0 g) cw_cX10_tick (Or.inl ml_10_244) rfl rfl (by decide) (by decide) (Nat.le_of_ble_eq_true rfl) dX10_advance_22 (fun _ g3 => ?_)
    refine k_iinc (v := (v2 + (1 : Int32))) (L' := [some (.inr (10, some v0)), some (.inl v1), some (.inl (v2 + (1 : Int32)))]) dX10_advance_25 rfl rfl (by decide) rfl ?_
    refine k_goto (tgt := 16) dX10_advance_28 (by decide) ?_
    exact ih v0 v1 (v2 + (1 : Int32)) g3
def f10_advance (v0 : Nat) (v1 : Int32) (g : GS_) : Option (Int32 × GS_) :=
  bd_ (f10_in v1 (1 : Int32) (1000 : Int32) g) fun z5 g4 => if z5 = 0 then some ((-2 : Int32), g4) else f10_advance_b16 FU_ v0 v1 (0 : Int32) g4
theorem t10_advance (v0 : Nat) (v1 : Int32) (g : GS_) : Cn_ yX10_advance cX10_advance 3 (some .int) 11 258 EI_ [.inr (10, some v0), .inl v1] g (f10_advance v0 v1 g) := by
  refine k_method (own := RX10) (ini := false) (L1 := [some (.inr (10, some v0)), some (.inl v1), none]) (by decide +kernel) rfl (fun h => by cases h) (Nat.le_of_ble_eq_true rfl) rfl ?_
  unfold f10_advance
  refine k_iloadn (j := 1) dX10_advance_0 rfl rfl ?_
  refine k_iconst (v := (1 : Int32)) dX10_advance_1 rfl ?_
  refine k_sipush (v := (1000 : Int32)) dX10_advance_2 rfl ?_
  refine k_callSi [.inl v1, .inl (1 : Int32), .inl (1000 : Int32)] (t10_in v1 (1 : Int32) (1000 : Int32) g) cw_cX10_in ml_10_44 rfl rfl (by decide) (by decide) (Nat.le_of_ble_eq_true rfl) dX10_advance_5 (fun z5 g4 => ?_)
  refine k_ifne (tgt := 14) dX10_advance_8 (by decide) (fun _ => ?_) (fun _ => ?_)
  · refine k_bipush (v := (-2 : Int32)) dX10_advance_11 rfl ?_
    exact k_ireturn rfl dX10_advance_13
  refine k_iconst (v := (0 : Int32)) dX10_advance_14 rfl ?_
  refine k_istn (j := 2) (L' := [some (.inr (10, some v0)), some (.inl v1), some (.inl (0 : Int32))]) dX10_advance_15 rfl (by decide) rfl ?_
  exact t10_advance_b16 FU_ v0 v1 (0 : Int32) g4
theorem dX10_log_0 : decode cX10_log 0 = .ok (.iload_n 2, 1) := by decide +kernel
theorem dX10_log_1 : decode cX10_log 1 = .ok (.iconst 0, 1) := by decide +kernel
theorem dX10_log_2 : decode cX10_log 2 = .ok (.iconst 3, 1) := by decide +kernel
theorem dX10_log_3 : decode cX10_log 3 = .ok (.invokestatic 44, 3) := by decide +kernel
theorem dX10_log_6 : decode cX10_log 6 = .ok (.ifCond .ne 6, 3) := by decide +kernel
theorem dX10_log_9 : decode cX10_log 9 = .ok (.bipush (-2), 2) := by decide +kernel
theorem dX10_log_11 : decode cX10_log 11 = .ok (.ireturn, 1) := by decide +kernel
theorem dX10_log_12 : decode cX10_log 12 = .ok (.iload_n 1, 1) := by decide +kernel
theorem dX10_log_13 : decode cX10_log 13 = .ok (.iconst 0, 1) := by decide +kernel
theorem dX10_log_14 : decode cX10_log 14 = .ok (.aload_n 0, 1) := by decide +kernel
theorem dX10_log_15 : decode cX10_log 15 = .ok (.getfield 7, 3) := by decide +kernel
theorem dX10_log_18 : decode cX10_log 18 = .ok (.bipush 6, 2) := by decide +kernel
theorem dX10_log_20 : decode cX10_log 20 = .ok (.iaload, 1) := by decide +kernel
theorem dX10_log_21 : decode cX10_log 21 = .ok (.iconst 1, 1) := by decide +kernel
theorem dX10_log_22 : decode cX10_log 22 = .ok (.isub, 1) := by decide +kernel
theorem dX10_log_23 : decode cX10_log 23 = .ok (.invokestatic 44, 3) := by decide +kernel
theorem dX10_log_26 : decode cX10_log 26 = .ok (.ifCond .eq 17, 3) := by decide +kernel
theorem dX10_log_29 : decode cX10_log 29 = .ok (.iload_n 1, 1) := by decide +kernel
theorem dX10_log_30 : decode cX10_log 30 = .ok (.aload_n 0, 1) := by decide +kernel
theorem dX10_log_31 : decode cX10_log 31 = .ok (.getfield 7, 3) := by decide +kernel
theorem dX10_log_34 : decode cX10_log 34 = .ok (.bipush 6, 2) := by decide +kernel
theorem dX10_log_36 : decode cX10_log 36 = .ok (.iaload, 1) := by decide +kernel
theorem dX10_log_37 : decode cX10_log 37 = .ok (.bipush 100, 2) := by decide +kernel
theorem dX10_log_39 : decode cX10_log 39 = .ok (.isub, 1) := by decide +kernel
theorem dX10_log_40 : decode cX10_log 40 = .ok (.if_icmp .ge 6, 3) := by decide +kernel
theorem dX10_log_43 : decode cX10_log 43 = .ok (.bipush (-6), 2) := by decide +kernel
theorem dX10_log_45 : decode cX10_log 45 = .ok (.ireturn, 1) := by decide +kernel
theorem dX10_log_46 : decode cX10_log 46 = .ok (.aload_n 0, 1) := by decide +kernel
theorem dX10_log_47 : decode cX10_log 47 = .ok (.getfield 7, 3) := by decide +kernel
theorem dX10_log_50 : decode cX10_log 50 = .ok (.sipush 458, 3) := by decide +kernel
theorem dX10_log_53 : decode cX10_log 53 = .ok (.iconst 4, 1) := by decide +kernel
theorem dX10_log_54 : decode cX10_log 54 = .ok (.iload_n 1, 1) := by decide +kernel
theorem dX10_log_55 : decode cX10_log 55 = .ok (.bipush 100, 2) := by decide +kernel
theorem dX10_log_57 : decode cX10_log 57 = .ok (.irem, 1) := by decide +kernel
theorem dX10_log_58 : decode cX10_log 58 = .ok (.imul, 1) := by decide +kernel
theorem dX10_log_59 : decode cX10_log 59 = .ok (.iadd, 1) := by decide +kernel
theorem dX10_log_60 : decode cX10_log 60 = .ok (.iload_n 2, 1) := by decide +kernel
theorem dX10_log_61 : decode cX10_log 61 = .ok (.iadd, 1) := by decide +kernel
theorem dX10_log_62 : decode cX10_log 62 = .ok (.iaload, 1) := by decide +kernel
theorem dX10_log_63 : decode cX10_log 63 = .ok (.ireturn, 1) := by decide +kernel
def f10_log (v0 : Nat) (v1 : Int32) (v2 : Int32) (g : GS_) : Option (Int32 × GS_) :=
  bd_ (f10_in v2 (0 : Int32) (3 : Int32) g) fun z2 g1 => if z2 = 0 then some ((-2 : Int32), g1) else lr_ (gfr g1 320 v0) fun x3 => oc_ x3 none fun a4 => if inb (6 : Int32) (gln g1 20 a4) then bd_ (f10_in v1 (0 : Int32) ((gai g1 20 a4 (6 : Int32).toInt.toNat) - (1 : Int32)) g1) fun z6 g5 => if z6 = 0 then some ((-6 : Int32), g5) else lr_ (gfr g5 320 v0) fun x7 => oc_ x7 none fun a8 => if inb (6 : Int32) (gln g5 20 a8) then if ((gai g5 20 a8 (6 : Int32).toInt.toNat) - (100 : Int32)) ≤ v1 then lr_ (gfr g5 320 v0) fun x9 => oc_ x9 none fun a10 => if inb (((458 : Int32) + ((4 : Int32) * (jrem v1 (100 : Int32)))) + v2) (gln g5 20 a10) then some ((gai g5 20 a10 (((458 : Int32) + ((4 : Int32) * (jrem v1 (100 : Int32)))) + v2).toInt.toNat), g5) else none else some ((-6 : Int32), g5) else none else none
theorem t10_log (v0 : Nat) (v1 : Int32) (v2 : Int32) (g : GS_) : Cn_ yX10_log cX10_log 3 (some .int) 1 22 EI_ [.inr (10, some v0), .inl v1, .inl v2] g (f10_log v0 v1 v2 g) := by
  refine k_method (own := RX10) (ini := false) (L1 := [some (.inr (10, some v0)), some (.inl v1), some (.inl v2)]) (by decide +kernel) rfl (fun h => by cases h) (Nat.le_of_ble_eq_true rfl) rfl ?_
  unfold f10_log
  refine k_iloadn (j := 2) dX10_log_0 rfl rfl ?_
  refine k_iconst (v := (0 : Int32)) dX10_log_1 rfl ?_
  refine k_iconst (v := (3 : Int32)) dX10_log_2 rfl ?_
  refine k_callSi [.inl v2, .inl (0 : Int32), .inl (3 : Int32)] (t10_in v2 (0 : Int32) (3 : Int32) g) cw_cX10_in ml_10_44 rfl rfl (by decide) (by decide) (Nat.le_of_ble_eq_true rfl) dX10_log_3 (fun z2 g1 => ?_)
  refine k_ifne (tgt := 12) dX10_log_6 (by decide) (fun _ => ?_) (fun _ => ?_)
  · refine k_bipush (v := (-2 : Int32)) dX10_log_9 rfl ?_
    exact k_ireturn rfl dX10_log_11
  refine k_iloadn (j := 1) dX10_log_12 rfl rfl ?_
  refine k_iconst (v := (0 : Int32)) dX10_log_13 rfl ?_
  refine k_aloadn (j := 0) dX10_log_14 rfl rfl ?_
  refine k_getr fg_10_7 rfl rfl dX10_log_15 (fun x3 => ?_)
  refine k_bipush (v := (6 : Int32)) dX10_log_18 rfl ?_
  rcases x3 with _ | a4
  · exact k_ocn
  refine k_ocs ?_
  refine k_iald dX10_log_20 ?_
  refine k_iconst (v := (1 : Int32)) dX10_log_21 rfl ?_
  refine k_isub dX10_log_22 ?_
  refine k_callSi [.inl v1, .inl (0 : Int32), .inl ((gai g1 20 a4 (6 : Int32).toInt.toNat) - (1 : Int32))] (t10_in v1 (0 : Int32) ((gai g1 20 a4 (6 : Int32).toInt.toNat) - (1 : Int32)) g1) cw_cX10_in ml_10_44 rfl rfl (by decide) (by decide) (Nat.le_of_ble_eq_true rfl) dX10_log_23 (fun z6 g5 => ?_)
  refine k_ifeq (tgt := 43) dX10_log_26 (by decide) (fun _ => ?_) (fun _ => ?_)
  · refine k_bipush (v := (-6 : Int32)) dX10_log_43 rfl ?_
    exact k_ireturn rfl dX10_log_45
  refine k_iloadn (j := 1) dX10_log_29 rfl rfl ?_
  refine k_aloadn (j := 0) dX10_log_30 rfl rfl ?_
  refine k_getr fg_10_7 rfl rfl dX10_log_31 (fun x7 => ?_)
  refine k_bipush (v := (6 : Int32)) dX10_log_34 rfl ?_
  rcases x7 with _ | a8
  · exact k_ocn
  refine k_ocs ?_
  refine k_iald dX10_log_36 ?_
  refine k_bipush (v := (100 : Int32)) dX10_log_37 rfl ?_
  refine k_isub dX10_log_39 ?_
  refine k_icmpge (tgt := 46) dX10_log_40 (by decide) (fun _ => ?_) (fun _ => ?_)
  · refine k_aloadn (j := 0) dX10_log_46 rfl rfl ?_
    refine k_getr fg_10_7 rfl rfl dX10_log_47 (fun x9 => ?_)
    refine k_sipush (v := (458 : Int32)) dX10_log_50 rfl ?_
    refine k_iconst (v := (4 : Int32)) dX10_log_53 rfl ?_
    refine k_iloadn (j := 1) dX10_log_54 rfl rfl ?_
    refine k_bipush (v := (100 : Int32)) dX10_log_55 rfl ?_
    refine k_iremc (by decide) dX10_log_57 ?_
    refine k_imul dX10_log_58 ?_
    refine k_iadd dX10_log_59 ?_
    refine k_iloadn (j := 2) dX10_log_60 rfl rfl ?_
    refine k_iadd dX10_log_61 ?_
    rcases x9 with _ | a10
    · exact k_ocn
    refine k_ocs ?_
    refine k_iald dX10_log_62 ?_
    exact k_ireturn rfl dX10_log_63
  refine k_bipush (v := (-6 : Int32)) dX10_log_43 rfl ?_
  exact k_ireturn rfl dX10_log_45
theorem dX10_printed_0 : decode cX10_printed 0 = .ok (.iload_n 1, 1) := by decide +kernel
theorem dX10_printed_1 : decode cX10_printed 1 = .ok (.invokestatic 120, 3) := by decide +kernel
theorem dX10_printed_4 : decode cX10_printed 4 = .ok (.ifCond .eq 15, 3) := by decide +kernel
theorem dX10_printed_7 : decode cX10_printed 7 = .ok (.aload_n 0, 1) := by decide +kernel
theorem dX10_printed_8 : decode cX10_printed 8 = .ok (.getfield 7, 3) := by decide +kernel
theorem dX10_printed_11 : decode cX10_printed 11 = .ok (.bipush 20, 2) := by decide +kernel
theorem dX10_printed_13 : decode cX10_printed 13 = .ok (.iload_n 1, 1) := by decide +kernel
theorem dX10_printed_14 : decode cX10_printed 14 = .ok (.iadd, 1) := by decide +kernel
theorem dX10_printed_15 : decode cX10_printed 15 = .ok (.iaload, 1) := by decide +kernel
theorem dX10_printed_16 : decode cX10_printed 16 = .ok (.goto 4, 3) := by decide +kernel
theorem dX10_printed_19 : decode cX10_printed 19 = .ok (.iconst (-1), 1) := by decide +kernel
theorem dX10_printed_20 : decode cX10_printed 20 = .ok (.ireturn, 1) := by decide +kernel
def f10_printed (v0 : Nat) (v1 : Int32) (g : GS_) : Option (Int32 × GS_) :=
  bd_ (f10_isUser v1 g) fun z2 g1 => if z2 = 0 then some ((-1 : Int32), g1) else lr_ (gfr g1 320 v0) fun x3 => oc_ x3 none fun a4 => if inb ((20 : Int32) + v1) (gln g1 20 a4) then some ((gai g1 20 a4 ((20 : Int32) + v1).toInt.toNat), g1) else none
theorem t10_printed (v0 : Nat) (v1 : Int32) (g : GS_) : Cn_ yX10_printed cX10_printed 2 (some .int) 2 42 EI_ [.inr (10, some v0), .inl v1] g (f10_printed v0 v1 g) := by
  refine k_method (own := RX10) (ini := false) (L1 := [some (.inr (10, some v0)), some (.inl v1)]) (by decide +kernel) rfl (fun h => by cases h) (Nat.le_of_ble_eq_true rfl) rfl ?_
  unfold f10_printed
  refine k_iloadn (j := 1) dX10_printed_0 rfl rfl ?_
  refine k_callSi [.inl v1] (t10_isUser v1 g) cw_cX10_isUser ml_10_120 rfl rfl (by decide) (by decide) (Nat.le_of_ble_eq_true rfl) dX10_printed_1 (fun z2 g1 => ?_)
  refine k_ifeq (tgt := 19) dX10_printed_4 (by decide) (fun _ => ?_) (fun _ => ?_)
  · refine k_iconst (v := (-1 : Int32)) dX10_printed_19 rfl ?_
    exact k_ireturn rfl dX10_printed_20
  refine k_aloadn (j := 0) dX10_printed_7 rfl rfl ?_
  refine k_getr fg_10_7 rfl rfl dX10_printed_8 (fun x3 => ?_)
  refine k_bipush (v := (20 : Int32)) dX10_printed_11 rfl ?_
  refine k_iloadn (j := 1) dX10_printed_13 rfl rfl ?_
  refine k_iadd dX10_printed_14 ?_
  rcases x3 with _ | a4
  · exact k_ocn
  refine k_ocs ?_
  refine k_iald dX10_printed_15 ?_
  refine k_goto (tgt := 20) dX10_printed_16 (by decide) ?_
  exact k_ireturn rfl dX10_printed_20
theorem dX10_putAside_0 : decode cX10_putAside 0 = .ok (.iconst 0, 1) := by decide +kernel
theorem dX10_putAside_1 : decode cX10_putAside 1 = .ok (.istore_n 1, 1) := by decide +kernel
theorem dX10_putAside_2 : decode cX10_putAside 2 = .ok (.iload_n 1, 1) := by decide +kernel
theorem dX10_putAside_3 : decode cX10_putAside 3 = .ok (.sipush 858, 3) := by decide +kernel
theorem dX10_putAside_6 : decode cX10_putAside 6 = .ok (.if_icmp .ge 21, 3) := by decide +kernel
theorem dX10_putAside_9 : decode cX10_putAside 9 = .ok (.aload_n 0, 1) := by decide +kernel
theorem dX10_putAside_10 : decode cX10_putAside 10 = .ok (.getfield 13, 3) := by decide +kernel
theorem dX10_putAside_13 : decode cX10_putAside 13 = .ok (.iload_n 1, 1) := by decide +kernel
theorem dX10_putAside_14 : decode cX10_putAside 14 = .ok (.aload_n 0, 1) := by decide +kernel
theorem dX10_putAside_15 : decode cX10_putAside 15 = .ok (.getfield 7, 3) := by decide +kernel
theorem dX10_putAside_18 : decode cX10_putAside 18 = .ok (.iload_n 1, 1) := by decide +kernel
theorem dX10_putAside_19 : decode cX10_putAside 19 = .ok (.iaload, 1) := by decide +kernel
theorem dX10_putAside_20 : decode cX10_putAside 20 = .ok (.iastore, 1) := by decide +kernel
theorem dX10_putAside_21 : decode cX10_putAside 21 = .ok (.iinc 1 1, 3) := by decide +kernel
theorem dX10_putAside_24 : decode cX10_putAside 24 = .ok (.goto (-22), 3) := by decide +kernel
theorem dX10_putAside_27 : decode cX10_putAside 27 = .ok (.aload_n 0, 1) := by decide +kernel
theorem dX10_putAside_28 : decode cX10_putAside 28 = .ok (.iconst 0, 1) := by decide +kernel
theorem dX10_putAside_29 : decode cX10_putAside 29 = .ok (.putfield 232, 3) := by decide +kernel
theorem dX10_putAside_32 : decode cX10_putAside 32 = .ok (.return_, 1) := by decide +kernel
def f10_putAside_b2 : Nat → Nat → Int32 → GS_ → Option (Unit × GS_)
  | 0, _, _, _ => none
  | n + 1, v0, v1, g =>
    if (858 : Int32) ≤ v1 then lr_ (sfi g 341 v0 (0 : Int32)) fun g1 => some ((), g1) else lr_ (gfr g 321 v0) fun x2 => lr_ (gfr g 320 v0) fun x3 => oc_ x3 none fun a4 => if inb v1 (gln g 20 a4) then oc_ x2 none fun a5 => if inb v1 (gln g 20 a5) then lr_ (sai g 20 a5 v1.toInt.toNat (gai g 20 a4 v1.toInt.toNat)) (fun g6 => (f10_putAside_b2 n) v0 (v1 + (1 : Int32)) g6) else none else none
theorem t10_putAside_b2 : ∀ (n : Nat) (v0 : Nat) (v1 : Int32) (g : GS_), K_ RX10 cX10_putAside 2 none 0 0 false EV_ 2 [some (.inr (10, some v0)), some (.inl v1)] [] g (f10_putAside_b2 n v0 v1 g) := by
  intro n
  induction n with
  | zero =>
    intro v0 v1 g
    exact k_fail
  | succ n ih =>
    intro v0 v1 g
    show K_ RX10 cX10_putAside 2 none 0 0 false EV_ 2 [some (.inr (10, some v0)), some (.inl v1)] [] g (if (858 : Int32) ≤ v1 then lr_ (sfi g 341 v0 (0 : Int32)) fun g1 => some ((), g1) else lr_ (gfr g 321 v0) fun x2 => lr_ (gfr g 320 v0) fun x3 => oc_ x3 none fun a4 => if inb v1 (gln g 20 a4) then oc_ x2 none fun a5 => if inb v1 (gln g 20 a5) then lr_ (sai g 20 a5 v1.toInt.toNat (gai g 20 a4 v1.toInt.toNat)) (fun g6 => (f10_putAside_b2 n) v0 (v1 + (1 : Int32)) g6) else none else none)
    refine k_iloadn (j := 1) dX10_putAside_2 rfl rfl ?_
    refine k_sipush (v := (858 : Int32)) dX10_putAside_3 rfl ?_
    refine k_icmpge (tgt := 27) dX10_putAside_6 (by decide) (fun _ => ?_) (fun _ => ?_)
    · refine k_aloadn (j := 0) dX10_putAside_27 rfl rfl ?_
      refine k_iconst (v := (0 : Int32)) dX10_putAside_28 rfl ?_
      refine k_puti fp_10_232 rfl rfl dX10_putAside_29 (fun g1 => ?_)
      exact k_return rfl dX10_putAside_32
    refine k_aloadn (j := 0) dX10_putAside_9 rfl rfl ?_
    refine k_getr fg_10_13 rfl rfl dX10_putAside_10 (fun x2 => ?_)
    refine k_iloadn (j := 1) dX10_putAside_13 rfl rfl ?_
    refine k_aloadn (j := 0) dX10_putAside_14 rfl rfl ?_
    refine k_getr fg_10_7 rfl rfl dX10_putAside_15 (fun x3 => ?_)
    refine k_iloadn (j := 1) dX10_putAside_18 rfl rfl ?_
    rcases x3 with _ | a4
    · exact k_ocn
    refine k_ocs ?_
    refine k_iald dX10_putAside_19 ?_
    rcases x2 with _ | a5
    · exact k_ocn
    refine k_ocs ?_
    refine k_iast dX10_putAside_20 (fun g6 => ?_)
    refine k_iinc (v := (v1 + (1 : Int32))) (L' := [some (.inr (10, some v0)), some (.inl (v1 + (1 : Int32)))]) dX10_putAside_21 rfl rfl (by decide) rfl ?_
    refine k_goto (tgt := 2) dX10_putAside_24 (by decide) ?_
    exact ih v0 (v1 + (1 : Int32)) g6
def f10_putAside (v0 : Nat) (g : GS_) : Option (Unit × GS_) :=
  f10_putAside_b2 FU_ v0 (0 : Int32) g
theorem t10_putAside (v0 : Nat) (g : GS_) : Cn_ yX10_putAside cX10_putAside 2 none 0 0 EV_ [.inr (10, some v0)] g (f10_putAside v0 g) := by
  refine k_method (own := RX10) (ini := false) (L1 := [some (.inr (10, some v0)), none]) (by decide +kernel) rfl (fun h => by cases h) (Nat.le_of_ble_eq_true rfl) rfl ?_
  unfold f10_putAside
  refine k_iconst (v := (0 : Int32)) dX10_putAside_0 rfl ?_
  refine k_istn (j := 1) (L' := [some (.inr (10, some v0)), some (.inl (0 : Int32))]) dX10_putAside_1 rfl (by decide) rfl ?_
  exact t10_putAside_b2 FU_ v0 (0 : Int32) g
theorem dX10_putBack_0 : decode cX10_putBack 0 = .ok (.iconst 0, 1) := by decide +kernel
theorem dX10_putBack_1 : decode cX10_putBack 1 = .ok (.istore_n 1, 1) := by decide +kernel
theorem dX10_putBack_2 : decode cX10_putBack 2 = .ok (.iload_n 1, 1) := by decide +kernel
theorem dX10_putBack_3 : decode cX10_putBack 3 = .ok (.sipush 858, 3) := by decide +kernel
theorem dX10_putBack_6 : decode cX10_putBack 6 = .ok (.if_icmp .ge 21, 3) := by decide +kernel
theorem dX10_putBack_9 : decode cX10_putBack 9 = .ok (.aload_n 0, 1) := by decide +kernel
theorem dX10_putBack_10 : decode cX10_putBack 10 = .ok (.getfield 7, 3) := by decide +kernel
theorem dX10_putBack_13 : decode cX10_putBack 13 = .ok (.iload_n 1, 1) := by decide +kernel
theorem dX10_putBack_14 : decode cX10_putBack 14 = .ok (.aload_n 0, 1) := by decide +kernel
theorem dX10_putBack_15 : decode cX10_putBack 15 = .ok (.getfield 13, 3) := by decide +kernel
theorem dX10_putBack_18 : decode cX10_putBack 18 = .ok (.iload_n 1, 1) := by decide +kernel
theorem dX10_putBack_19 : decode cX10_putBack 19 = .ok (.iaload, 1) := by decide +kernel
theorem dX10_putBack_20 : decode cX10_putBack 20 = .ok (.iastore, 1) := by decide +kernel
theorem dX10_putBack_21 : decode cX10_putBack 21 = .ok (.iinc 1 1, 3) := by decide +kernel
theorem dX10_putBack_24 : decode cX10_putBack 24 = .ok (.goto (-22), 3) := by decide +kernel
theorem dX10_putBack_27 : decode cX10_putBack 27 = .ok (.return_, 1) := by decide +kernel
def f10_putBack_b2 : Nat → Nat → Int32 → GS_ → Option (Unit × GS_)
  | 0, _, _, _ => none
  | n + 1, v0, v1, g =>
    if (858 : Int32) ≤ v1 then some ((), g) else lr_ (gfr g 320 v0) fun x1 => lr_ (gfr g 321 v0) fun x2 => oc_ x2 none fun a3 => if inb v1 (gln g 20 a3) then oc_ x1 none fun a4 => if inb v1 (gln g 20 a4) then lr_ (sai g 20 a4 v1.toInt.toNat (gai g 20 a3 v1.toInt.toNat)) (fun g5 => (f10_putBack_b2 n) v0 (v1 + (1 : Int32)) g5) else none else none
theorem t10_putBack_b2 : ∀ (n : Nat) (v0 : Nat) (v1 : Int32) (g : GS_), K_ RX10 cX10_putBack 2 none 0 0 false EV_ 2 [some (.inr (10, some v0)), some (.inl v1)] [] g (f10_putBack_b2 n v0 v1 g) := by
  intro n
  induction n with
  | zero =>
    intro v0 v1 g
    exact k_fail
  | succ n ih =>
    intro v0 v1 g
    show K_ RX10 cX10_putBack 2 none 0 0 false EV_ 2 [some (.inr (10, some v0)), some (.inl v1)] [] g (if (858 : Int32) ≤ v1 then some ((), g) else lr_ (gfr g 320 v0) fun x1 => lr_ (gfr g 321 v0) fun x2 => oc_ x2 none fun a3 => if inb v1 (gln g 20 a3) then oc_ x1 none fun a4 => if inb v1 (gln g 20 a4) then lr_ (sai g 20 a4 v1.toInt.toNat (gai g 20 a3 v1.toInt.toNat)) (fun g5 => (f10_putBack_b2 n) v0 (v1 + (1 : Int32)) g5) else none else none)
    refine k_iloadn (j := 1) dX10_putBack_2 rfl rfl ?_
    refine k_sipush (v := (858 : Int32)) dX10_putBack_3 rfl ?_
    refine k_icmpge (tgt := 27) dX10_putBack_6 (by decide) (fun _ => ?_) (fun _ => ?_)
    · exact k_return rfl dX10_putBack_27
    refine k_aloadn (j := 0) dX10_putBack_9 rfl rfl ?_
    refine k_getr fg_10_7 rfl rfl dX10_putBack_10 (fun x1 => ?_)
    refine k_iloadn (j := 1) dX10_putBack_13 rfl rfl ?_
    refine k_aloadn (j := 0) dX10_putBack_14 rfl rfl ?_
    refine k_getr fg_10_13 rfl rfl dX10_putBack_15 (fun x2 => ?_)
    refine k_iloadn (j := 1) dX10_putBack_18 rfl rfl ?_
    rcases x2 with _ | a3
    · exact k_ocn
    refine k_ocs ?_
    refine k_iald dX10_putBack_19 ?_
    rcases x1 with _ | a4
    · exact k_ocn
    refine k_ocs ?_
    refine k_iast dX10_putBack_20 (fun g5 => ?_)
    refine k_iinc (v := (v1 + (1 : Int32))) (L' := [some (.inr (10, some v0)), some (.inl (v1 + (1 : Int32)))]) dX10_putBack_21 rfl rfl (by decide) rfl ?_
    refine k_goto (tgt := 2) dX10_putBack_24 (by decide) ?_
    exact ih v0 (v1 + (1 : Int32)) g5
def f10_putBack (v0 : Nat) (g : GS_) : Option (Unit × GS_) :=
  f10_putBack_b2 FU_ v0 (0 : Int32) g
theorem t10_putBack (v0 : Nat) (g : GS_) : Cn_ yX10_putBack cX10_putBack 2 none 0 0 EV_ [.inr (10, some v0)] g (f10_putBack v0 g) := by
  refine k_method (own := RX10) (ini := false) (L1 := [some (.inr (10, some v0)), none]) (by decide +kernel) rfl (fun h => by cases h) (Nat.le_of_ble_eq_true rfl) rfl ?_
  unfold f10_putBack
  refine k_iconst (v := (0 : Int32)) dX10_putBack_0 rfl ?_
  refine k_istn (j := 1) (L' := [some (.inr (10, some v0)), some (.inl (0 : Int32))]) dX10_putBack_1 rfl (by decide) rfl ?_
  exact t10_putBack_b2 FU_ v0 (0 : Int32) g
theorem dX10_finish_0 : decode cX10_finish 0 = .ok (.aload_n 0, 1) := by decide +kernel
theorem dX10_finish_1 : decode cX10_finish 1 = .ok (.iload_n 1, 1) := by decide +kernel
theorem dX10_finish_2 : decode cX10_finish 2 = .ok (.invokevirtual 149, 3) := by decide +kernel
theorem dX10_finish_5 : decode cX10_finish 5 = .ok (.ifCond .ne 5, 3) := by decide +kernel
theorem dX10_finish_8 : decode cX10_finish 8 = .ok (.iconst (-1), 1) := by decide +kernel
theorem dX10_finish_9 : decode cX10_finish 9 = .ok (.ireturn, 1) := by decide +kernel
theorem dX10_finish_10 : decode cX10_finish 10 = .ok (.iload_n 2, 1) := by decide +kernel
theorem dX10_finish_11 : decode cX10_finish 11 = .ok (.iconst 1, 1) := by decide +kernel
theorem dX10_finish_12 : decode cX10_finish 12 = .ok (.sipush 3000, 3) := by decide +kernel
theorem dX10_finish_15 : decode cX10_finish 15 = .ok (.invokestatic 44, 3) := by decide +kernel
theorem dX10_finish_18 : decode cX10_finish 18 = .ok (.ifCond .ne 6, 3) := by decide +kernel
theorem dX10_finish_21 : decode cX10_finish 21 = .ok (.bipush (-2), 2) := by decide +kernel
theorem dX10_finish_23 : decode cX10_finish 23 = .ok (.ireturn, 1) := by decide +kernel
theorem dX10_finish_24 : decode cX10_finish 24 = .ok (.aload_n 0, 1) := by decide +kernel
theorem dX10_finish_25 : decode cX10_finish 25 = .ok (.invokevirtual 247, 3) := by decide +kernel
theorem dX10_finish_28 : decode cX10_finish 28 = .ok (.iconst 0, 1) := by decide +kernel
theorem dX10_finish_29 : decode cX10_finish 29 = .ok (.istore_n 3, 1) := by decide +kernel
theorem dX10_finish_30 : decode cX10_finish 30 = .ok (.iload_n 3, 1) := by decide +kernel
theorem dX10_finish_31 : decode cX10_finish 31 = .ok (.iload_n 2, 1) := by decide +kernel
theorem dX10_finish_32 : decode cX10_finish 32 = .ok (.if_icmp .ge 24, 3) := by decide +kernel
theorem dX10_finish_35 : decode cX10_finish 35 = .ok (.aload_n 0, 1) := by decide +kernel
theorem dX10_finish_36 : decode cX10_finish 36 = .ok (.iload_n 1, 1) := by decide +kernel
theorem dX10_finish_37 : decode cX10_finish 37 = .ok (.bipush 9, 2) := by decide +kernel
theorem dX10_finish_39 : decode cX10_finish 39 = .ok (.invokevirtual 133, 3) := by decide +kernel
theorem dX10_finish_42 : decode cX10_finish 42 = .ok (.iconst 3, 1) := by decide +kernel
theorem dX10_finish_43 : decode cX10_finish 43 = .ok (.if_icmp .eq 13, 3) := by decide +kernel
theorem dX10_finish_46 : decode cX10_finish 46 = .ok (.aload_n 0, 1) := by decide +kernel
theorem dX10_finish_47 : decode cX10_finish 47 = .ok (.invokevirtual 244, 3) := by decide +kernel
theorem dX10_finish_50 : decode cX10_finish 50 = .ok (.iinc 3 1, 3) := by decide +kernel
theorem dX10_finish_53 : decode cX10_finish 53 = .ok (.goto (-23), 3) := by decide +kernel
theorem dX10_finish_56 : decode cX10_finish 56 = .ok (.aload_n 0, 1) := by decide +kernel
theorem dX10_finish_57 : decode cX10_finish 57 = .ok (.iload_n 1, 1) := by decide +kernel
theorem dX10_finish_58 : decode cX10_finish 58 = .ok (.bipush 9, 2) := by decide +kernel
theorem dX10_finish_60 : decode cX10_finish 60 = .ok (.invokevirtual 133, 3) := by decide +kernel
theorem dX10_finish_63 : decode cX10_finish 63 = .ok (.iconst 3, 1) := by decide +kernel
theorem dX10_finish_64 : decode cX10_finish 64 = .ok (.if_icmp .ne 7, 3) := by decide +kernel
theorem dX10_finish_67 : decode cX10_finish 67 = .ok (.iload_n 3, 1) := by decide +kernel
theorem dX10_finish_68 : decode cX10_finish 68 = .ok (.goto 5, 3) := by decide +kernel
theorem dX10_finish_71 : decode cX10_finish 71 = .ok (.bipush (-6), 2) := by decide +kernel
theorem dX10_finish_73 : decode cX10_finish 73 = .ok (.istore 4, 2) := by decide +kernel
theorem dX10_finish_75 : decode cX10_finish 75 = .ok (.aload_n 0, 1) := by decide +kernel
theorem dX10_finish_76 : decode cX10_finish 76 = .ok (.invokevirtual 250, 3) := by decide +kernel
theorem dX10_finish_79 : decode cX10_finish 79 = .ok (.iload 4, 2) := by decide +kernel
theorem dX10_finish_81 : decode cX10_finish 81 = .ok (.ireturn, 1) := by decide +kernel
def f10_finish_b73 (v0 : Nat) (s0 : Int32) (g : GS_) : Option (Int32 × GS_) :=
  bd_ (f10_putBack v0 g) fun _ g1 => some (s0, g1)
theorem t10_finish_b73 (v0 : Nat) (s0 : Int32) (g : GS_) : K_ RX10 cX10_finish 5 (some .int) 11 258 false EI_ 73 [some (.inr (10, some v0)), none, none, none, none] [.inl s0] g (f10_finish_b73 v0 s0 g) := by
  unfold f10_finish_b73
  refine k_ist (L' := [some (.inr (10, some v0)), none, none, none, some (.inl s0)]) dX10_finish_73 (by decide) rfl ?_
  refine k_aloadn (j := 0) dX10_finish_75 rfl rfl ?_
  refine k_callVv [] (t10_putBack v0 g) cw_cX10_putBack (Or.inl ml_10_250) rfl rfl (by decide) (by decide) (Nat.le_of_ble_eq_true rfl) dX10_finish_76 (fun _ g1 => ?_)
  refine k_iload dX10_finish_79 rfl ?_
  exact k_ireturn rfl dX10_finish_81
def f10_finish_b56 (v0 : Nat) (v1 : Int32) (v3 : Int32) (g : GS_) : Option (Int32 × GS_) :=
  bd_ (f10_ofJob v0 v1 (9 : Int32) g) fun z3 g2 => if z3 = (3 : Int32) then f10_finish_b73 v0 v3 g2 else f10_finish_b73 v0 (-6 : Int32) g2
theorem t10_finish_b56 (v0 : Nat) (v1 : Int32) (v3 : Int32) (g : GS_) : K_ RX10 cX10_finish 5 (some .int) 11 258 false EI_ 56 [some (.inr (10, some v0)), some (.inl v1), none, some (.inl v3), none] [] g (f10_finish_b56 v0 v1 v3 g) := by
  unfold f10_finish_b56
  refine k_aloadn (j := 0) dX10_finish_56 rfl rfl ?_
  refine k_iloadn (j := 1) dX10_finish_57 rfl rfl ?_
  refine k_bipush (v := (9 : Int32)) dX10_finish_58 rfl ?_
  refine k_callVi [.inl v1, .inl (9 : Int32)] (t10_ofJob v0 v1 (9 : Int32) g) cw_cX10_ofJob (Or.inl ml_10_133) rfl rfl (by decide) (by decide) (Nat.le_of_ble_eq_true rfl) dX10_finish_60 (fun z3 g2 => ?_)
  refine k_iconst (v := (3 : Int32)) dX10_finish_63 rfl ?_
  refine k_icmpne (tgt := 71) dX10_finish_64 (by decide) (fun _ => ?_) (fun _ => ?_)
  · refine k_iloadn (j := 3) dX10_finish_67 rfl rfl ?_
    refine k_goto (tgt := 73) dX10_finish_68 (by decide) ?_
    refine k_msk (L' := [some (.inr (10, some v0)), none, none, none, none]) [true, false, true, false, true] rfl ?_
    exact t10_finish_b73 v0 v3 g2
  refine k_bipush (v := (-6 : Int32)) dX10_finish_71 rfl ?_
  refine k_msk (L' := [some (.inr (10, some v0)), none, none, none, none]) [true, false, true, false, true] rfl ?_
  exact t10_finish_b73 v0 (-6 : Int32) g2
def f10_finish_b30 : Nat → Nat → Int32 → Int32 → Int32 → GS_ → Option (Int32 × GS_)
  | 0, _, _, _, _, _ => none
  | n + 1, v0, v1, v2, v3, g =>
    if v2 ≤ v3 then f10_finish_b56 v0 v1 v3 g else bd_ (f10_ofJob v0 v1 (9 : Int32) g) fun z5 g4 => if z5 = (3 : Int32) then f10_finish_b56 v0 v1 v3 g4 else bd_ (f10_tick v0 g4) fun _ g6 => (f10_finish_b30 n) v0 v1 v2 (v3 + (1 : Int32)) g6
theorem t10_finish_b30 : ∀ (n : Nat) (v0 : Nat) (v1 : Int32) (v2 : Int32) (v3 : Int32) (g : GS_), K_ RX10 cX10_finish 5 (some .int) 11 258 false EI_ 30 [some (.inr (10, some v0)), some (.inl v1), some (.inl v2), some (.inl v3), none] [] g (f10_finish_b30 n v0 v1 v2 v3 g) := by
  intro n
  induction n with
  | zero =>
    intro v0 v1 v2 v3 g
    exact k_fail
  | succ n ih =>
    intro v0 v1 v2 v3 g
    show K_ RX10 cX10_finish 5 (some .int) 11 258 false EI_ 30 [some (.inr (10, some v0)), some (.inl v1), some (.inl v2), some (.inl v3), none] [] g (if v2 ≤ v3 then f10_finish_b56 v0 v1 v3 g else bd_ (f10_ofJob v0 v1 (9 : Int32) g) fun z5 g4 => if z5 = (3 : Int32) then f10_finish_b56 v0 v1 v3 g4 else bd_ (f10_tick v0 g4) fun _ g6 => (f10_finish_b30 n) v0 v1 v2 (v3 + (1 : Int32)) g6)
    refine k_iloadn (j := 3) dX10_finish_30 rfl rfl ?_
    refine k_iloadn (j := 2) dX10_finish_31 rfl rfl ?_
    refine k_icmpge (tgt := 56) dX10_finish_32 (by decide) (fun _ => ?_) (fun _ => ?_)
    · refine k_msk (L' := [some (.inr (10, some v0)), some (.inl v1), none, some (.inl v3), none]) [true, true, false, true, true] rfl ?_
      exact t10_finish_b56 v0 v1 v3 g
    refine k_aloadn (j := 0) dX10_finish_35 rfl rfl ?_
    refine k_iloadn (j := 1) dX10_finish_36 rfl rfl ?_
    refine k_bipush (v := (9 : Int32)) dX10_finish_37 rfl ?_
    refine k_callVi [.inl v1, .inl (9 : Int32)] (t10_ofJob v0 v1 (9 : Int32) g) cw_cX10_ofJob (Or.inl ml_10_133) rfl rfl (by decide) (by decide) (Nat.le_of_ble_eq_true rfl) dX10_finish_39 (fun z5 g4 => ?_)
    refine k_iconst (v := (3 : Int32)) dX10_finish_42 rfl ?_
    refine k_icmpeq (tgt := 56) dX10_finish_43 (by decide) (fun _ => ?_) (fun _ => ?_)
    · refine k_msk (L' := [some (.inr (10, some v0)), some (.inl v1), none, some (.inl v3), none]) [true, true, false, true, true] rfl ?_
      exact t10_finish_b56 v0 v1 v3 g4
    refine k_aloadn (j := 0) dX10_finish_46 rfl rfl ?_
    refine k_callVv [] (t10_tick v0 g4) cw_cX10_tick (Or.inl ml_10_244) rfl rfl (by decide) (by decide) (Nat.le_of_ble_eq_true rfl) dX10_finish_47 (fun _ g6 => ?_)
    refine k_iinc (v := (v3 + (1 : Int32))) (L' := [some (.inr (10, some v0)), some (.inl v1), some (.inl v2), some (.inl (v3 + (1 : Int32))), none]) dX10_finish_50 rfl rfl (by decide) rfl ?_
    refine k_goto (tgt := 30) dX10_finish_53 (by decide) ?_
    exact ih v0 v1 v2 (v3 + (1 : Int32)) g6
def f10_finish (v0 : Nat) (v1 : Int32) (v2 : Int32) (g : GS_) : Option (Int32 × GS_) :=
  bd_ (f10_isJob v0 v1 g) fun z8 g7 => if z8 = 0 then some ((-1 : Int32), g7) else bd_ (f10_in v2 (1 : Int32) (3000 : Int32) g7) fun z10 g9 => if z10 = 0 then some ((-2 : Int32), g9) else bd_ (f10_putAside v0 g9) fun _ g11 => f10_finish_b30 FU_ v0 v1 v2 (0 : Int32) g11
theorem t10_finish (v0 : Nat) (v1 : Int32) (v2 : Int32) (g : GS_) : Cn_ yX10_finish cX10_finish 5 (some .int) 11 258 EI_ [.inr (10, some v0), .inl v1, .inl v2] g (f10_finish v0 v1 v2 g) := by
  refine k_method (own := RX10) (ini := false) (L1 := [some (.inr (10, some v0)), some (.inl v1), some (.inl v2), none, none]) (by decide +kernel) rfl (fun h => by cases h) (Nat.le_of_ble_eq_true rfl) rfl ?_
  unfold f10_finish
  refine k_aloadn (j := 0) dX10_finish_0 rfl rfl ?_
  refine k_iloadn (j := 1) dX10_finish_1 rfl rfl ?_
  refine k_callVi [.inl v1] (t10_isJob v0 v1 g) cw_cX10_isJob (Or.inl ml_10_149) rfl rfl (by decide) (by decide) (Nat.le_of_ble_eq_true rfl) dX10_finish_2 (fun z8 g7 => ?_)
  refine k_ifne (tgt := 10) dX10_finish_5 (by decide) (fun _ => ?_) (fun _ => ?_)
  · refine k_iconst (v := (-1 : Int32)) dX10_finish_8 rfl ?_
    exact k_ireturn rfl dX10_finish_9
  refine k_iloadn (j := 2) dX10_finish_10 rfl rfl ?_
  refine k_iconst (v := (1 : Int32)) dX10_finish_11 rfl ?_
  refine k_sipush (v := (3000 : Int32)) dX10_finish_12 rfl ?_
  refine k_callSi [.inl v2, .inl (1 : Int32), .inl (3000 : Int32)] (t10_in v2 (1 : Int32) (3000 : Int32) g7) cw_cX10_in ml_10_44 rfl rfl (by decide) (by decide) (Nat.le_of_ble_eq_true rfl) dX10_finish_15 (fun z10 g9 => ?_)
  refine k_ifne (tgt := 24) dX10_finish_18 (by decide) (fun _ => ?_) (fun _ => ?_)
  · refine k_bipush (v := (-2 : Int32)) dX10_finish_21 rfl ?_
    exact k_ireturn rfl dX10_finish_23
  refine k_aloadn (j := 0) dX10_finish_24 rfl rfl ?_
  refine k_callVv [] (t10_putAside v0 g9) cw_cX10_putAside (Or.inl ml_10_247) rfl rfl (by decide) (by decide) (Nat.le_of_ble_eq_true rfl) dX10_finish_25 (fun _ g11 => ?_)
  refine k_iconst (v := (0 : Int32)) dX10_finish_28 rfl ?_
  refine k_istn (j := 3) (L' := [some (.inr (10, some v0)), some (.inl v1), some (.inl v2), some (.inl (0 : Int32)), none]) dX10_finish_29 rfl (by decide) rfl ?_
  exact t10_finish_b30 FU_ v0 v1 v2 (0 : Int32) g11
theorem dX10_isInTime_0 : decode cX10_isInTime 0 = .ok (.aload_n 0, 1) := by decide +kernel
theorem dX10_isInTime_1 : decode cX10_isInTime 1 = .ok (.invokevirtual 247, 3) := by decide +kernel
theorem dX10_isInTime_4 : decode cX10_isInTime 4 = .ok (.aload_n 0, 1) := by decide +kernel
theorem dX10_isInTime_5 : decode cX10_isInTime 5 = .ok (.iload_n 1, 1) := by decide +kernel
theorem dX10_isInTime_6 : decode cX10_isInTime 6 = .ok (.iconst 4, 1) := by decide +kernel
theorem dX10_isInTime_7 : decode cX10_isInTime 7 = .ok (.iload_n 2, 1) := by decide +kernel
theorem dX10_isInTime_8 : decode cX10_isInTime 8 = .ok (.invokevirtual 126, 3) := by decide +kernel
theorem dX10_isInTime_11 : decode cX10_isInTime 11 = .ok (.iconst 0, 1) := by decide +kernel
theorem dX10_isInTime_12 : decode cX10_isInTime 12 = .ok (.istore 4, 2) := by decide +kernel
theorem dX10_isInTime_14 : decode cX10_isInTime 14 = .ok (.iload 4, 2) := by decide +kernel
theorem dX10_isInTime_16 : decode cX10_isInTime 16 = .ok (.iload_n 3, 1) := by decide +kernel
theorem dX10_isInTime_17 : decode cX10_isInTime 17 = .ok (.if_icmp .ge 13, 3) := by decide +kernel
theorem dX10_isInTime_20 : decode cX10_isInTime 20 = .ok (.aload_n 0, 1) := by decide +kernel
theorem dX10_isInTime_21 : decode cX10_isInTime 21 = .ok (.invokevirtual 244, 3) := by decide +kernel
theorem dX10_isInTime_24 : decode cX10_isInTime 24 = .ok (.iinc 4 1, 3) := by decide +kernel
theorem dX10_isInTime_27 : decode cX10_isInTime 27 = .ok (.goto (-13), 3) := by decide +kernel
theorem dX10_isInTime_30 : decode cX10_isInTime 30 = .ok (.aload_n 0, 1) := by decide +kernel
theorem dX10_isInTime_31 : decode cX10_isInTime 31 = .ok (.iload_n 1, 1) := by decide +kernel
theorem dX10_isInTime_32 : decode cX10_isInTime 32 = .ok (.bipush 9, 2) := by decide +kernel
theorem dX10_isInTime_34 : decode cX10_isInTime 34 = .ok (.invokevirtual 133, 3) := by decide +kernel
theorem dX10_isInTime_37 : decode cX10_isInTime 37 = .ok (.iconst 3, 1) := by decide +kernel
theorem dX10_isInTime_38 : decode cX10_isInTime 38 = .ok (.if_icmp .ne 7, 3) := by decide +kernel
theorem dX10_isInTime_41 : decode cX10_isInTime 41 = .ok (.iconst 1, 1) := by decide +kernel
theorem dX10_isInTime_42 : decode cX10_isInTime 42 = .ok (.goto 4, 3) := by decide +kernel
theorem dX10_isInTime_45 : decode cX10_isInTime 45 = .ok (.iconst 0, 1) := by decide +kernel
theorem dX10_isInTime_46 : decode cX10_isInTime 46 = .ok (.istore 4, 2) := by decide +kernel
theorem dX10_isInTime_48 : decode cX10_isInTime 48 = .ok (.aload_n 0, 1) := by decide +kernel
theorem dX10_isInTime_49 : decode cX10_isInTime 49 = .ok (.invokevirtual 250, 3) := by decide +kernel
theorem dX10_isInTime_52 : decode cX10_isInTime 52 = .ok (.iload 4, 2) := by decide +kernel
theorem dX10_isInTime_54 : decode cX10_isInTime 54 = .ok (.ireturn, 1) := by decide +kernel
def f10_isInTime_b46 (v0 : Nat) (s0 : Int32) (g : GS_) : Option (Int32 × GS_) :=
  bd_ (f10_putBack v0 g) fun _ g1 => if s0 = 0 ∨ s0 = 1 then some (s0, g1) else none
theorem t10_isInTime_b46 (v0 : Nat) (s0 : Int32) (g : GS_) : K_ RX10 cX10_isInTime 5 (some .boolean) 11 258 false EI_ 46 [some (.inr (10, some v0)), none, none, none, none] [.inl s0] g (f10_isInTime_b46 v0 s0 g) := by
  unfold f10_isInTime_b46
  refine k_ist (L' := [some (.inr (10, some v0)), none, none, none, some (.inl s0)]) dX10_isInTime_46 (by decide) rfl ?_
  refine k_aloadn (j := 0) dX10_isInTime_48 rfl rfl ?_
  refine k_callVv [] (t10_putBack v0 g) cw_cX10_putBack (Or.inl ml_10_250) rfl rfl (by decide) (by decide) (Nat.le_of_ble_eq_true rfl) dX10_isInTime_49 (fun _ g1 => ?_)
  refine k_iload dX10_isInTime_52 rfl ?_
  exact k_zreturnc rfl dX10_isInTime_54
def f10_isInTime_b14 : Nat → Nat → Int32 → Int32 → Int32 → GS_ → Option (Int32 × GS_)
  | 0, _, _, _, _, _ => none
  | n + 1, v0, v1, v3, v4, g =>
    if v3 ≤ v4 then bd_ (f10_ofJob v0 v1 (9 : Int32) g) fun z3 g2 => if z3 = (3 : Int32) then f10_isInTime_b46 v0 (1 : Int32) g2 else f10_isInTime_b46 v0 (0 : Int32) g2 else bd_ (f10_tick v0 g) fun _ g4 => (f10_isInTime_b14 n) v0 v1 v3 (v4 + (1 : Int32)) g4
theorem t10_isInTime_b14 : ∀ (n : Nat) (v0 : Nat) (v1 : Int32) (v3 : Int32) (v4 : Int32) (g : GS_), K_ RX10 cX10_isInTime 5 (some .boolean) 11 258 false EI_ 14 [some (.inr (10, some v0)), some (.inl v1), none, some (.inl v3), some (.inl v4)] [] g (f10_isInTime_b14 n v0 v1 v3 v4 g) := by
  intro n
  induction n with
  | zero =>
    intro v0 v1 v3 v4 g
    exact k_fail
  | succ n ih =>
    intro v0 v1 v3 v4 g
    show K_ RX10 cX10_isInTime 5 (some .boolean) 11 258 false EI_ 14 [some (.inr (10, some v0)), some (.inl v1), none, some (.inl v3), some (.inl v4)] [] g (if v3 ≤ v4 then bd_ (f10_ofJob v0 v1 (9 : Int32) g) fun z3 g2 => if z3 = (3 : Int32) then f10_isInTime_b46 v0 (1 : Int32) g2 else f10_isInTime_b46 v0 (0 : Int32) g2 else bd_ (f10_tick v0 g) fun _ g4 => (f10_isInTime_b14 n) v0 v1 v3 (v4 + (1 : Int32)) g4)
    refine k_iload dX10_isInTime_14 rfl ?_
    refine k_iloadn (j := 3) dX10_isInTime_16 rfl rfl ?_
    refine k_icmpge (tgt := 30) dX10_isInTime_17 (by decide) (fun _ => ?_) (fun _ => ?_)
    · refine k_aloadn (j := 0) dX10_isInTime_30 rfl rfl ?_
      refine k_iloadn (j := 1) dX10_isInTime_31 rfl rfl ?_
      refine k_bipush (v := (9 : Int32)) dX10_isInTime_32 rfl ?_
      refine k_callVi [.inl v1, .inl (9 : Int32)] (t10_ofJob v0 v1 (9 : Int32) g) cw_cX10_ofJob (Or.inl ml_10_133) rfl rfl (by decide) (by decide) (Nat.le_of_ble_eq_true rfl) dX10_isInTime_34 (fun z3 g2 => ?_)
      refine k_iconst (v := (3 : Int32)) dX10_isInTime_37 rfl ?_
      refine k_icmpne (tgt := 45) dX10_isInTime_38 (by decide) (fun _ => ?_) (fun _ => ?_)
      · refine k_iconst (v := (1 : Int32)) dX10_isInTime_41 rfl ?_
        refine k_goto (tgt := 46) dX10_isInTime_42 (by decide) ?_
        refine k_msk (L' := [some (.inr (10, some v0)), none, none, none, none]) [true, false, true, false, false] rfl ?_
        exact t10_isInTime_b46 v0 (1 : Int32) g2
      refine k_iconst (v := (0 : Int32)) dX10_isInTime_45 rfl ?_
      refine k_msk (L' := [some (.inr (10, some v0)), none, none, none, none]) [true, false, true, false, false] rfl ?_
      exact t10_isInTime_b46 v0 (0 : Int32) g2
    refine k_aloadn (j := 0) dX10_isInTime_20 rfl rfl ?_
    refine k_callVv [] (t10_tick v0 g) cw_cX10_tick (Or.inl ml_10_244) rfl rfl (by decide) (by decide) (Nat.le_of_ble_eq_true rfl) dX10_isInTime_21 (fun _ g4 => ?_)
    refine k_iinc (v := (v4 + (1 : Int32))) (L' := [some (.inr (10, some v0)), some (.inl v1), none, some (.inl v3), some (.inl (v4 + (1 : Int32)))]) dX10_isInTime_24 rfl rfl (by decide) rfl ?_
    refine k_goto (tgt := 14) dX10_isInTime_27 (by decide) ?_
    exact ih v0 v1 v3 (v4 + (1 : Int32)) g4
def f10_isInTime (v0 : Nat) (v1 : Int32) (v2 : Int32) (v3 : Int32) (g : GS_) : Option (Int32 × GS_) :=
  bd_ (f10_putAside v0 g) fun _ g5 => bd_ (f10_setJob v0 v1 (4 : Int32) v2 g5) fun _ g6 => f10_isInTime_b14 FU_ v0 v1 v3 (0 : Int32) g6
theorem t10_isInTime (v0 : Nat) (v1 : Int32) (v2 : Int32) (v3 : Int32) (g : GS_) : Cn_ yX10_isInTime cX10_isInTime 5 (some .boolean) 11 258 EI_ [.inr (10, some v0), .inl v1, .inl v2, .inl v3] g (f10_isInTime v0 v1 v2 v3 g) := by
  refine k_method (own := RX10) (ini := false) (L1 := [some (.inr (10, some v0)), some (.inl v1), some (.inl v2), some (.inl v3), none]) (by decide +kernel) rfl (fun h => by cases h) (Nat.le_of_ble_eq_true rfl) rfl ?_
  unfold f10_isInTime
  refine k_aloadn (j := 0) dX10_isInTime_0 rfl rfl ?_
  refine k_callVv [] (t10_putAside v0 g) cw_cX10_putAside (Or.inl ml_10_247) rfl rfl (by decide) (by decide) (Nat.le_of_ble_eq_true rfl) dX10_isInTime_1 (fun _ g5 => ?_)
  refine k_aloadn (j := 0) dX10_isInTime_4 rfl rfl ?_
  refine k_iloadn (j := 1) dX10_isInTime_5 rfl rfl ?_
  refine k_iconst (v := (4 : Int32)) dX10_isInTime_6 rfl ?_
  refine k_iloadn (j := 2) dX10_isInTime_7 rfl rfl ?_
  refine k_callVv [.inl v1, .inl (4 : Int32), .inl v2] (t10_setJob v0 v1 (4 : Int32) v2 g5) cw_cX10_setJob (Or.inl ml_10_126) rfl rfl (by decide) (by decide) (Nat.le_of_ble_eq_true rfl) dX10_isInTime_8 (fun _ g6 => ?_)
  refine k_iconst (v := (0 : Int32)) dX10_isInTime_11 rfl ?_
  refine k_ist (L' := [some (.inr (10, some v0)), some (.inl v1), some (.inl v2), some (.inl v3), some (.inl (0 : Int32))]) dX10_isInTime_12 (by decide) rfl ?_
  refine k_msk (L' := [some (.inr (10, some v0)), some (.inl v1), none, some (.inl v3), some (.inl (0 : Int32))]) [true, true, false, true, true] rfl ?_
  exact t10_isInTime_b14 FU_ v0 v1 v3 (0 : Int32) g6
theorem dX10_urgency_0 : decode cX10_urgency 0 = .ok (.aload_n 0, 1) := by decide +kernel
theorem dX10_urgency_1 : decode cX10_urgency 1 = .ok (.iload_n 1, 1) := by decide +kernel
theorem dX10_urgency_2 : decode cX10_urgency 2 = .ok (.invokevirtual 149, 3) := by decide +kernel
theorem dX10_urgency_5 : decode cX10_urgency 5 = .ok (.ifCond .ne 5, 3) := by decide +kernel
theorem dX10_urgency_8 : decode cX10_urgency 8 = .ok (.iconst (-1), 1) := by decide +kernel
theorem dX10_urgency_9 : decode cX10_urgency 9 = .ok (.ireturn, 1) := by decide +kernel
theorem dX10_urgency_10 : decode cX10_urgency 10 = .ok (.iload_n 2, 1) := by decide +kernel
theorem dX10_urgency_11 : decode cX10_urgency 11 = .ok (.iconst 1, 1) := by decide +kernel
theorem dX10_urgency_12 : decode cX10_urgency 12 = .ok (.sipush 1000, 3) := by decide +kernel
theorem dX10_urgency_15 : decode cX10_urgency 15 = .ok (.invokestatic 44, 3) := by decide +kernel
theorem dX10_urgency_18 : decode cX10_urgency 18 = .ok (.ifCond .ne 6, 3) := by decide +kernel
theorem dX10_urgency_21 : decode cX10_urgency 21 = .ok (.bipush (-2), 2) := by decide +kernel
theorem dX10_urgency_23 : decode cX10_urgency 23 = .ok (.ireturn, 1) := by decide +kernel
theorem dX10_urgency_24 : decode cX10_urgency 24 = .ok (.aload_n 0, 1) := by decide +kernel
theorem dX10_urgency_25 : decode cX10_urgency 25 = .ok (.iload_n 1, 1) := by decide +kernel
theorem dX10_urgency_26 : decode cX10_urgency 26 = .ok (.invokevirtual 211, 3) := by decide +kernel
theorem dX10_urgency_29 : decode cX10_urgency 29 = .ok (.ifCond .eq 6, 3) := by decide +kernel
theorem dX10_urgency_32 : decode cX10_urgency 32 = .ok (.bipush (-5), 2) := by decide +kernel
theorem dX10_urgency_34 : decode cX10_urgency 34 = .ok (.ireturn, 1) := by decide +kernel
theorem dX10_urgency_35 : decode cX10_urgency 35 = .ok (.iconst 0, 1) := by decide +kernel
theorem dX10_urgency_36 : decode cX10_urgency 36 = .ok (.istore_n 3, 1) := by decide +kernel
theorem dX10_urgency_37 : decode cX10_urgency 37 = .ok (.iload_n 3, 1) := by decide +kernel
theorem dX10_urgency_38 : decode cX10_urgency 38 = .ok (.bipush 10, 2) := by decide +kernel
theorem dX10_urgency_40 : decode cX10_urgency 40 = .ok (.if_icmp .ge 21, 3) := by decide +kernel
theorem dX10_urgency_43 : decode cX10_urgency 43 = .ok (.aload_n 0, 1) := by decide +kernel
theorem dX10_urgency_44 : decode cX10_urgency 44 = .ok (.iload_n 1, 1) := by decide +kernel
theorem dX10_urgency_45 : decode cX10_urgency 45 = .ok (.iload_n 3, 1) := by decide +kernel
theorem dX10_urgency_46 : decode cX10_urgency 46 = .ok (.iload_n 2, 1) := by decide +kernel
theorem dX10_urgency_47 : decode cX10_urgency 47 = .ok (.invokevirtual 253, 3) := by decide +kernel
theorem dX10_urgency_50 : decode cX10_urgency 50 = .ok (.ifCond .eq 5, 3) := by decide +kernel
theorem dX10_urgency_53 : decode cX10_urgency 53 = .ok (.iload_n 3, 1) := by decide +kernel
theorem dX10_urgency_54 : decode cX10_urgency 54 = .ok (.ireturn, 1) := by decide +kernel
theorem dX10_urgency_55 : decode cX10_urgency 55 = .ok (.iinc 3 1, 3) := by decide +kernel
theorem dX10_urgency_58 : decode cX10_urgency 58 = .ok (.goto (-21), 3) := by decide +kernel
theorem dX10_urgency_61 : decode cX10_urgency 61 = .ok (.bipush (-6), 2) := by decide +kernel
theorem dX10_urgency_63 : decode cX10_urgency 63 = .ok (.ireturn, 1) := by decide +kernel
def f10_urgency_b37 : Nat → Nat → Int32 → Int32 → Int32 → GS_ → Option (Int32 × GS_)
  | 0, _, _, _, _, _ => none
  | n + 1, v0, v1, v2, v3, g =>
    if (10 : Int32) ≤ v3 then some ((-6 : Int32), g) else bd_ (f10_isInTime v0 v1 v3 v2 g) fun z2 g1 => if z2 = 0 then (f10_urgency_b37 n) v0 v1 v2 (v3 + (1 : Int32)) g1 else some (v3, g1)
theorem t10_urgency_b37 : ∀ (n : Nat) (v0 : Nat) (v1 : Int32) (v2 : Int32) (v3 : Int32) (g : GS_), K_ RX10 cX10_urgency 4 (some .int) 12 282 false EI_ 37 [some (.inr (10, some v0)), some (.inl v1), some (.inl v2), some (.inl v3)] [] g (f10_urgency_b37 n v0 v1 v2 v3 g) := by
  intro n
  induction n with
  | zero =>
    intro v0 v1 v2 v3 g
    exact k_fail
  | succ n ih =>
    intro v0 v1 v2 v3 g
    show K_ RX10 cX10_urgency 4 (some .int) 12 282 false EI_ 37 [some (.inr (10, some v0)), some (.inl v1), some (.inl v2), some (.inl v3)] [] g (if (10 : Int32) ≤ v3 then some ((-6 : Int32), g) else bd_ (f10_isInTime v0 v1 v3 v2 g) fun z2 g1 => if z2 = 0 then (f10_urgency_b37 n) v0 v1 v2 (v3 + (1 : Int32)) g1 else some (v3, g1))
    refine k_iloadn (j := 3) dX10_urgency_37 rfl rfl ?_
    refine k_bipush (v := (10 : Int32)) dX10_urgency_38 rfl ?_
    refine k_icmpge (tgt := 61) dX10_urgency_40 (by decide) (fun _ => ?_) (fun _ => ?_)
    · refine k_bipush (v := (-6 : Int32)) dX10_urgency_61 rfl ?_
      exact k_ireturn rfl dX10_urgency_63
    refine k_aloadn (j := 0) dX10_urgency_43 rfl rfl ?_
    refine k_iloadn (j := 1) dX10_urgency_44 rfl rfl ?_
    refine k_iloadn (j := 3) dX10_urgency_45 rfl rfl ?_
    refine k_iloadn (j := 2) dX10_urgency_46 rfl rfl ?_
    refine k_callVi [.inl v1, .inl v3, .inl v2] (t10_isInTime v0 v1 v3 v2 g) cw_cX10_isInTime (Or.inl ml_10_253) rfl rfl (by decide) (by decide) (Nat.le_of_ble_eq_true rfl) dX10_urgency_47 (fun z2 g1 => ?_)
    refine k_ifeq (tgt := 55) dX10_urgency_50 (by decide) (fun _ => ?_) (fun _ => ?_)
    · refine k_iinc (v := (v3 + (1 : Int32))) (L' := [some (.inr (10, some v0)), some (.inl v1), some (.inl v2), some (.inl (v3 + (1 : Int32)))]) dX10_urgency_55 rfl rfl (by decide) rfl ?_
      refine k_goto (tgt := 37) dX10_urgency_58 (by decide) ?_
      exact ih v0 v1 v2 (v3 + (1 : Int32)) g1
    refine k_iloadn (j := 3) dX10_urgency_53 rfl rfl ?_
    exact k_ireturn rfl dX10_urgency_54
def f10_urgency (v0 : Nat) (v1 : Int32) (v2 : Int32) (g : GS_) : Option (Int32 × GS_) :=
  bd_ (f10_isJob v0 v1 g) fun z4 g3 => if z4 = 0 then some ((-1 : Int32), g3) else bd_ (f10_in v2 (1 : Int32) (1000 : Int32) g3) fun z6 g5 => if z6 = 0 then some ((-2 : Int32), g5) else bd_ (f10_isOver v0 v1 g5) fun z8 g7 => if z8 = 0 then f10_urgency_b37 FU_ v0 v1 v2 (0 : Int32) g7 else some ((-5 : Int32), g7)
theorem t10_urgency (v0 : Nat) (v1 : Int32) (v2 : Int32) (g : GS_) : Cn_ yX10_urgency cX10_urgency 4 (some .int) 12 282 EI_ [.inr (10, some v0), .inl v1, .inl v2] g (f10_urgency v0 v1 v2 g) := by
  refine k_method (own := RX10) (ini := false) (L1 := [some (.inr (10, some v0)), some (.inl v1), some (.inl v2), none]) (by decide +kernel) rfl (fun h => by cases h) (Nat.le_of_ble_eq_true rfl) rfl ?_
  unfold f10_urgency
  refine k_aloadn (j := 0) dX10_urgency_0 rfl rfl ?_
  refine k_iloadn (j := 1) dX10_urgency_1 rfl rfl ?_
  refine k_callVi [.inl v1] (t10_isJob v0 v1 g) cw_cX10_isJob (Or.inl ml_10_149) rfl rfl (by decide) (by decide) (Nat.le_of_ble_eq_true rfl) dX10_urgency_2 (fun z4 g3 => ?_)
  refine k_ifne (tgt := 10) dX10_urgency_5 (by decide) (fun _ => ?_) (fun _ => ?_)
  · refine k_iconst (v := (-1 : Int32)) dX10_urgency_8 rfl ?_
    exact k_ireturn rfl dX10_urgency_9
  refine k_iloadn (j := 2) dX10_urgency_10 rfl rfl ?_
  refine k_iconst (v := (1 : Int32)) dX10_urgency_11 rfl ?_
  refine k_sipush (v := (1000 : Int32)) dX10_urgency_12 rfl ?_
  refine k_callSi [.inl v2, .inl (1 : Int32), .inl (1000 : Int32)] (t10_in v2 (1 : Int32) (1000 : Int32) g3) cw_cX10_in ml_10_44 rfl rfl (by decide) (by decide) (Nat.le_of_ble_eq_true rfl) dX10_urgency_15 (fun z6 g5 => ?_)
  refine k_ifne (tgt := 24) dX10_urgency_18 (by decide) (fun _ => ?_) (fun _ => ?_)
  · refine k_bipush (v := (-2 : Int32)) dX10_urgency_21 rfl ?_
    exact k_ireturn rfl dX10_urgency_23
  refine k_aloadn (j := 0) dX10_urgency_24 rfl rfl ?_
  refine k_iloadn (j := 1) dX10_urgency_25 rfl rfl ?_
  refine k_callVi [.inl v1] (t10_isOver v0 v1 g5) cw_cX10_isOver (Or.inl ml_10_211) rfl rfl (by decide) (by decide) (Nat.le_of_ble_eq_true rfl) dX10_urgency_26 (fun z8 g7 => ?_)
  refine k_ifeq (tgt := 35) dX10_urgency_29 (by decide) (fun _ => ?_) (fun _ => ?_)
  · refine k_iconst (v := (0 : Int32)) dX10_urgency_35 rfl ?_
    refine k_istn (j := 3) (L' := [some (.inr (10, some v0)), some (.inl v1), some (.inl v2), some (.inl (0 : Int32))]) dX10_urgency_36 rfl (by decide) rfl ?_
    exact t10_urgency_b37 FU_ v0 v1 v2 (0 : Int32) g7
  refine k_bipush (v := (-5 : Int32)) dX10_urgency_32 rfl ?_
  exact k_ireturn rfl dX10_urgency_34
theorem dX10_finisher_0 : decode cX10_finisher 0 = .ok (.iload_n 2, 1) := by decide +kernel
theorem dX10_finisher_1 : decode cX10_finisher 1 = .ok (.iconst 1, 1) := by decide +kernel
theorem dX10_finisher_2 : decode cX10_finisher 2 = .ok (.sipush 3000, 3) := by decide +kernel
theorem dX10_finisher_5 : decode cX10_finisher 5 = .ok (.invokestatic 44, 3) := by decide +kernel
theorem dX10_finisher_8 : decode cX10_finisher 8 = .ok (.ifCond .ne 6, 3) := by decide +kernel
theorem dX10_finisher_11 : decode cX10_finisher 11 = .ok (.bipush (-2), 2) := by decide +kernel
theorem dX10_finisher_13 : decode cX10_finisher 13 = .ok (.ireturn, 1) := by decide +kernel
theorem dX10_finisher_14 : decode cX10_finisher 14 = .ok (.aload_n 0, 1) := by decide +kernel
theorem dX10_finisher_15 : decode cX10_finisher 15 = .ok (.invokevirtual 247, 3) := by decide +kernel
theorem dX10_finisher_18 : decode cX10_finisher 18 = .ok (.iconst 0, 1) := by decide +kernel
theorem dX10_finisher_19 : decode cX10_finisher 19 = .ok (.istore_n 3, 1) := by decide +kernel
theorem dX10_finisher_20 : decode cX10_finisher 20 = .ok (.iload_n 3, 1) := by decide +kernel
theorem dX10_finisher_21 : decode cX10_finisher 21 = .ok (.iload_n 2, 1) := by decide +kernel
theorem dX10_finisher_22 : decode cX10_finisher 22 = .ok (.if_icmp .ge 13, 3) := by decide +kernel
theorem dX10_finisher_25 : decode cX10_finisher 25 = .ok (.aload_n 0, 1) := by decide +kernel
theorem dX10_finisher_26 : decode cX10_finisher 26 = .ok (.invokevirtual 244, 3) := by decide +kernel
theorem dX10_finisher_29 : decode cX10_finisher 29 = .ok (.iinc 3 1, 3) := by decide +kernel
theorem dX10_finisher_32 : decode cX10_finisher 32 = .ok (.goto (-12), 3) := by decide +kernel
theorem dX10_finisher_35 : decode cX10_finisher 35 = .ok (.aload_n 0, 1) := by decide +kernel
theorem dX10_finisher_36 : decode cX10_finisher 36 = .ok (.invokevirtual 250, 3) := by decide +kernel
theorem dX10_finisher_39 : decode cX10_finisher 39 = .ok (.iload_n 1, 1) := by decide +kernel
theorem dX10_finisher_40 : decode cX10_finisher 40 = .ok (.iconst 0, 1) := by decide +kernel
theorem dX10_finisher_41 : decode cX10_finisher 41 = .ok (.aload_n 0, 1) := by decide +kernel
theorem dX10_finisher_42 : decode cX10_finisher 42 = .ok (.getfield 232, 3) := by decide +kernel
theorem dX10_finisher_45 : decode cX10_finisher 45 = .ok (.iconst 1, 1) := by decide +kernel
theorem dX10_finisher_46 : decode cX10_finisher 46 = .ok (.isub, 1) := by decide +kernel
theorem dX10_finisher_47 : decode cX10_finisher 47 = .ok (.invokestatic 44, 3) := by decide +kernel
theorem dX10_finisher_50 : decode cX10_finisher 50 = .ok (.ifCond .eq 12, 3) := by decide +kernel
theorem dX10_finisher_53 : decode cX10_finisher 53 = .ok (.aload_n 0, 1) := by decide +kernel
theorem dX10_finisher_54 : decode cX10_finisher 54 = .ok (.getfield 41, 3) := by decide +kernel
theorem dX10_finisher_57 : decode cX10_finisher 57 = .ok (.iload_n 1, 1) := by decide +kernel
theorem dX10_finisher_58 : decode cX10_finisher 58 = .ok (.iaload, 1) := by decide +kernel
theorem dX10_finisher_59 : decode cX10_finisher 59 = .ok (.goto 5, 3) := by decide +kernel
theorem dX10_finisher_62 : decode cX10_finisher 62 = .ok (.bipush (-6), 2) := by decide +kernel
theorem dX10_finisher_64 : decode cX10_finisher 64 = .ok (.ireturn, 1) := by decide +kernel
def f10_finisher_b20 : Nat → Nat → Int32 → Int32 → Int32 → GS_ → Option (Int32 × GS_)
  | 0, _, _, _, _, _ => none
  | n + 1, v0, v1, v2, v3, g =>
    if v2 ≤ v3 then bd_ (f10_putBack v0 g) fun _ g1 => bd_ (f10_in v1 (0 : Int32) ((gfi g1 341 v0) - (1 : Int32)) g1) fun z3 g2 => if z3 = 0 then some ((-6 : Int32), g2) else lr_ (gfr g2 340 v0) fun x4 => oc_ x4 none fun a5 => if inb v1 (gln g2 20 a5) then some ((gai g2 20 a5 v1.toInt.toNat), g2) else none else bd_ (f10_tick v0 g) fun _ g6 => (f10_finisher_b20 n) v0 v1 v2 (v3 + (1 : Int32)) g6
theorem t10_finisher_b20 : ∀ (n : Nat) (v0 : Nat) (v1 : Int32) (v2 : Int32) (v3 : Int32) (g : GS_), K_ RX10 cX10_finisher 4 (some .int) 11 258 false EI_ 20 [some (.inr (10, some v0)), some (.inl v1), some (.inl v2), some (.inl v3)] [] g (f10_finisher_b20 n v0 v1 v2 v3 g) := by
  intro n
  induction n with
  | zero =>
    intro v0 v1 v2 v3 g
    exact k_fail
  | succ n ih =>
    intro v0 v1 v2 v3 g
    show K_ RX10 cX10_finisher 4 (some .int) 11 258 false EI_ 20 [some (.inr (10, some v0)), some (.inl v1), some (.inl v2), some (.inl v3)] [] g (if v2 ≤ v3 then bd_ (f10_putBack v0 g) fun _ g1 => bd_ (f10_in v1 (0 : Int32) ((gfi g1 341 v0) - (1 : Int32)) g1) fun z3 g2 => if z3 = 0 then some ((-6 : Int32), g2) else lr_ (gfr g2 340 v0) fun x4 => oc_ x4 none fun a5 => if inb v1 (gln g2 20 a5) then some ((gai g2 20 a5 v1.toInt.toNat), g2) else none else bd_ (f10_tick v0 g) fun _ g6 => (f10_finisher_b20 n) v0 v1 v2 (v3 + (1 : Int32)) g6)
    refine k_iloadn (j := 3) dX10_finisher_20 rfl rfl ?_
    refine k_iloadn (j := 2) dX10_finisher_21 rfl rfl ?_
    refine k_icmpge (tgt := 35) dX10_finisher_22 (by decide) (fun _ => ?_) (fun _ => ?_)
    · refine k_aloadn (j := 0) dX10_finisher_35 rfl rfl ?_
      refine k_callVv [] (t10_putBack v0 g) cw_cX10_putBack (Or.inl ml_10_250) rfl rfl (by decide) (by decide) (Nat.le_of_ble_eq_true rfl) dX10_finisher_36 (fun _ g1 => ?_)
      refine k_iloadn (j := 1) dX10_finisher_39 rfl rfl ?_
      refine k_iconst (v := (0 : Int32)) dX10_finisher_40 rfl ?_
      refine k_aloadn (j := 0) dX10_finisher_41 rfl rfl ?_
      refine k_geti fg_10_232 rfl rfl dX10_finisher_42 ?_
      refine k_iconst (v := (1 : Int32)) dX10_finisher_45 rfl ?_
      refine k_isub dX10_finisher_46 ?_
      refine k_callSi [.inl v1, .inl (0 : Int32), .inl ((gfi g1 341 v0) - (1 : Int32))] (t10_in v1 (0 : Int32) ((gfi g1 341 v0) - (1 : Int32)) g1) cw_cX10_in ml_10_44 rfl rfl (by decide) (by decide) (Nat.le_of_ble_eq_true rfl) dX10_finisher_47 (fun z3 g2 => ?_)
      refine k_ifeq (tgt := 62) dX10_finisher_50 (by decide) (fun _ => ?_) (fun _ => ?_)
      · refine k_bipush (v := (-6 : Int32)) dX10_finisher_62 rfl ?_
        exact k_ireturn rfl dX10_finisher_64
      refine k_aloadn (j := 0) dX10_finisher_53 rfl rfl ?_
      refine k_getr fg_10_41 rfl rfl dX10_finisher_54 (fun x4 => ?_)
      refine k_iloadn (j := 1) dX10_finisher_57 rfl rfl ?_
      rcases x4 with _ | a5
      · exact k_ocn
      refine k_ocs ?_
      refine k_iald dX10_finisher_58 ?_
      refine k_goto (tgt := 64) dX10_finisher_59 (by decide) ?_
      exact k_ireturn rfl dX10_finisher_64
    refine k_aloadn (j := 0) dX10_finisher_25 rfl rfl ?_
    refine k_callVv [] (t10_tick v0 g) cw_cX10_tick (Or.inl ml_10_244) rfl rfl (by decide) (by decide) (Nat.le_of_ble_eq_true rfl) dX10_finisher_26 (fun _ g6 => ?_)
    refine k_iinc (v := (v3 + (1 : Int32))) (L' := [some (.inr (10, some v0)), some (.inl v1), some (.inl v2), some (.inl (v3 + (1 : Int32)))]) dX10_finisher_29 rfl rfl (by decide) rfl ?_
    refine k_goto (tgt := 20) dX10_finisher_32 (by decide) ?_
    exact ih v0 v1 v2 (v3 + (1 : Int32)) g6
def f10_finisher (v0 : Nat) (v1 : Int32) (v2 : Int32) (g : GS_) : Option (Int32 × GS_) :=
  bd_ (f10_in v2 (1 : Int32) (3000 : Int32) g) fun z8 g7 => if z8 = 0 then some ((-2 : Int32), g7) else bd_ (f10_putAside v0 g7) fun _ g9 => f10_finisher_b20 FU_ v0 v1 v2 (0 : Int32) g9
theorem t10_finisher (v0 : Nat) (v1 : Int32) (v2 : Int32) (g : GS_) : Cn_ yX10_finisher cX10_finisher 4 (some .int) 11 258 EI_ [.inr (10, some v0), .inl v1, .inl v2] g (f10_finisher v0 v1 v2 g) := by
  refine k_method (own := RX10) (ini := false) (L1 := [some (.inr (10, some v0)), some (.inl v1), some (.inl v2), none]) (by decide +kernel) rfl (fun h => by cases h) (Nat.le_of_ble_eq_true rfl) rfl ?_
  unfold f10_finisher
  refine k_iloadn (j := 2) dX10_finisher_0 rfl rfl ?_
  refine k_iconst (v := (1 : Int32)) dX10_finisher_1 rfl ?_
  refine k_sipush (v := (3000 : Int32)) dX10_finisher_2 rfl ?_
  refine k_callSi [.inl v2, .inl (1 : Int32), .inl (3000 : Int32)] (t10_in v2 (1 : Int32) (3000 : Int32) g) cw_cX10_in ml_10_44 rfl rfl (by decide) (by decide) (Nat.le_of_ble_eq_true rfl) dX10_finisher_5 (fun z8 g7 => ?_)
  refine k_ifne (tgt := 14) dX10_finisher_8 (by decide) (fun _ => ?_) (fun _ => ?_)
  · refine k_bipush (v := (-2 : Int32)) dX10_finisher_11 rfl ?_
    exact k_ireturn rfl dX10_finisher_13
  refine k_aloadn (j := 0) dX10_finisher_14 rfl rfl ?_
  refine k_callVv [] (t10_putAside v0 g7) cw_cX10_putAside (Or.inl ml_10_247) rfl rfl (by decide) (by decide) (Nat.le_of_ble_eq_true rfl) dX10_finisher_15 (fun _ g9 => ?_)
  refine k_iconst (v := (0 : Int32)) dX10_finisher_18 rfl ?_
  refine k_istn (j := 3) (L' := [some (.inr (10, some v0)), some (.inl v1), some (.inl v2), some (.inl (0 : Int32))]) dX10_finisher_19 rfl (by decide) rfl ?_
  exact t10_finisher_b20 FU_ v0 v1 v2 (0 : Int32) g9
theorem dX10_waiting_0 : decode cX10_waiting 0 = .ok (.iconst 0, 1) := by decide +kernel
theorem dX10_waiting_1 : decode cX10_waiting 1 = .ok (.istore_n 1, 1) := by decide +kernel
theorem dX10_waiting_2 : decode cX10_waiting 2 = .ok (.iconst 0, 1) := by decide +kernel
theorem dX10_waiting_3 : decode cX10_waiting 3 = .ok (.istore_n 2, 1) := by decide +kernel
theorem dX10_waiting_4 : decode cX10_waiting 4 = .ok (.iload_n 2, 1) := by decide +kernel
theorem dX10_waiting_5 : decode cX10_waiting 5 = .ok (.aload_n 0, 1) := by decide +kernel
theorem dX10_waiting_6 : decode cX10_waiting 6 = .ok (.getfield 7, 3) := by decide +kernel
theorem dX10_waiting_9 : decode cX10_waiting 9 = .ok (.iconst 4, 1) := by decide +kernel
theorem dX10_waiting_10 : decode cX10_waiting 10 = .ok (.iaload, 1) := by decide +kernel
theorem dX10_waiting_11 : decode cX10_waiting 11 = .ok (.if_icmp .ge 27, 3) := by decide +kernel
theorem dX10_waiting_14 : decode cX10_waiting 14 = .ok (.iload_n 1, 1) := by decide +kernel
theorem dX10_waiting_15 : decode cX10_waiting 15 = .ok (.aload_n 0, 1) := by decide +kernel
theorem dX10_waiting_16 : decode cX10_waiting 16 = .ok (.iload_n 2, 1) := by decide +kernel
theorem dX10_waiting_17 : decode cX10_waiting 17 = .ok (.bipush 9, 2) := by decide +kernel
theorem dX10_waiting_19 : decode cX10_waiting 19 = .ok (.invokevirtual 133, 3) := by decide +kernel
theorem dX10_waiting_22 : decode cX10_waiting 22 = .ok (.ifCond .ne 7, 3) := by decide +kernel
theorem dX10_waiting_25 : decode cX10_waiting 25 = .ok (.iconst 1, 1) := by decide +kernel
theorem dX10_waiting_26 : decode cX10_waiting 26 = .ok (.goto 4, 3) := by decide +kernel
theorem dX10_waiting_29 : decode cX10_waiting 29 = .ok (.iconst 0, 1) := by decide +kernel
theorem dX10_waiting_30 : decode cX10_waiting 30 = .ok (.iadd, 1) := by decide +kernel
theorem dX10_waiting_31 : decode cX10_waiting 31 = .ok (.istore_n 1, 1) := by decide +kernel
theorem dX10_waiting_32 : decode cX10_waiting 32 = .ok (.iinc 2 1, 3) := by decide +kernel
theorem dX10_waiting_35 : decode cX10_waiting 35 = .ok (.goto (-31), 3) := by decide +kernel
theorem dX10_waiting_38 : decode cX10_waiting 38 = .ok (.iload_n 1, 1) := by decide +kernel
theorem dX10_waiting_39 : decode cX10_waiting 39 = .ok (.ireturn, 1) := by decide +kernel
def f10_waiting_b30 (c4 : Nat → Int32 → Int32 → GS_ → Option (Int32 × GS_)) (v0 : Nat) (v2 : Int32) (s0 : Int32) (s1 : Int32) (g : GS_) : Option (Int32 × GS_) :=
  lr_ (s0 + s1) fun z1 => c4 v0 z1 (v2 + (1 : Int32)) g
theorem t10_waiting_b30 (c4 : Nat → Int32 → Int32 → GS_ → Option (Int32 × GS_)) (h4 : ∀ (v0 : Nat) (v1 : Int32) (v2 : Int32) (g : GS_), K_ RX10 cX10_waiting 3 (some .int) 1 22 false EI_ 4 [some (.inr (10, some v0)), some (.inl v1), some (.inl v2)] [] g (c4 v0 v1 v2 g)) (v0 : Nat) (v2 : Int32) (s0 : Int32) (s1 : Int32) (g : GS_) : K_ RX10 cX10_waiting 3 (some .int) 1 22 false EI_ 30 [some (.inr (10, some v0)), none, some (.inl v2)] [.inl s1, .inl s0] g (f10_waiting_b30 c4 v0 v2 s0 s1 g) := by
  unfold f10_waiting_b30
  refine k_iadd dX10_waiting_30 ?_
  refine k_istnl (j := 1) (L2 := fun z1 => [some (.inr (10, some v0)), some (.inl z1), some (.inl v2)]) dX10_waiting_31 rfl (by decide) (fun _ => rfl) (fun z1 => ?_)
  refine k_iinc (v := (v2 + (1 : Int32))) (L' := [some (.inr (10, some v0)), some (.inl z1), some (.inl (v2 + (1 : Int32)))]) dX10_waiting_32 rfl rfl (by decide) rfl ?_
  refine k_goto (tgt := 4) dX10_waiting_35 (by decide) ?_
  exact h4 v0 z1 (v2 + (1 : Int32)) g
def f10_waiting_b4 : Nat → Nat → Int32 → Int32 → GS_ → Option (Int32 × GS_)
  | 0, _, _, _, _ => none
  | n + 1, v0, v1, v2, g =>
    lr_ (gfr g 320 v0) fun x2 => oc_ x2 none fun a3 => if inb (4 : Int32) (gln g 20 a3) then if (gai g 20 a3 (4 : Int32).toInt.toNat) ≤ v2 then some (v1, g) else bd_ (f10_ofJob v0 v2 (9 : Int32) g) fun z5 g4 => if z5 = 0 then f10_waiting_b30 (f10_waiting_b4 n) v0 v2 v1 (1 : Int32) g4 else f10_waiting_b30 (f10_waiting_b4 n) v0 v2 v1 (0 : Int32) g4 else none
theorem t10_waiting_b4 : ∀ (n : Nat) (v0 : Nat) (v1 : Int32) (v2 : Int32) (g : GS_), K_ RX10 cX10_waiting 3 (some .int) 1 22 false EI_ 4 [some (.inr (10, some v0)), some (.inl v1), some (.inl v2)] [] g (f10_waiting_b4 n v0 v1 v2 g) := by
  intro n
  induction n with
  | zero =>
    intro v0 v1 v2 g
    exact k_fail
  | succ n ih =>
    intro v0 v1 v2 g
    show K_ RX10 cX10_waiting 3 (some .int) 1 22 false EI_ 4 [some (.inr (10, some v0)), some (.inl v1), some (.inl v2)] [] g (lr_ (gfr g 320 v0) fun x2 => oc_ x2 none fun a3 => if inb (4 : Int32) (gln g 20 a3) then if (gai g 20 a3 (4 : Int32).toInt.toNat) ≤ v2 then some (v1, g) else bd_ (f10_ofJob v0 v2 (9 : Int32) g) fun z5 g4 => if z5 = 0 then f10_waiting_b30 (f10_waiting_b4 n) v0 v2 v1 (1 : Int32) g4 else f10_waiting_b30 (f10_waiting_b4 n) v0 v2 v1 (0 : Int32) g4 else none)
    refine k_iloadn (j := 2) dX10_waiting_4 rfl rfl ?_
    refine k_aloadn (j := 0) dX10_waiting_5 rfl rfl ?_
    refine k_getr fg_10_7 rfl rfl dX10_waiting_6 (fun x2 => ?_)
    refine k_iconst (v := (4 : Int32)) dX10_waiting_9 rfl ?_
    rcases x2 with _ | a3
    · exact k_ocn
    refine k_ocs ?_
    refine k_iald dX10_waiting_10 ?_
    refine k_icmpge (tgt := 38) dX10_waiting_11 (by decide) (fun _ => ?_) (fun _ => ?_)
    · refine k_iloadn (j := 1) dX10_waiting_38 rfl rfl ?_
      exact k_ireturn rfl dX10_waiting_39
    refine k_iloadn (j := 1) dX10_waiting_14 rfl rfl ?_
    refine k_aloadn (j := 0) dX10_waiting_15 rfl rfl ?_
    refine k_iloadn (j := 2) dX10_waiting_16 rfl rfl ?_
    refine k_bipush (v := (9 : Int32)) dX10_waiting_17 rfl ?_
    refine k_callVi [.inl v2, .inl (9 : Int32)] (t10_ofJob v0 v2 (9 : Int32) g) cw_cX10_ofJob (Or.inl ml_10_133) rfl rfl (by decide) (by decide) (Nat.le_of_ble_eq_true rfl) dX10_waiting_19 (fun z5 g4 => ?_)
    refine k_ifne (tgt := 29) dX10_waiting_22 (by decide) (fun _ => ?_) (fun _ => ?_)
    · refine k_iconst (v := (1 : Int32)) dX10_waiting_25 rfl ?_
      refine k_goto (tgt := 30) dX10_waiting_26 (by decide) ?_
      refine k_msk (L' := [some (.inr (10, some v0)), none, some (.inl v2)]) [true, false, true] rfl ?_
      exact t10_waiting_b30 (f10_waiting_b4 n) ih v0 v2 v1 (1 : Int32) g4
    refine k_iconst (v := (0 : Int32)) dX10_waiting_29 rfl ?_
    refine k_msk (L' := [some (.inr (10, some v0)), none, some (.inl v2)]) [true, false, true] rfl ?_
    exact t10_waiting_b30 (f10_waiting_b4 n) ih v0 v2 v1 (0 : Int32) g4
def f10_waiting (v0 : Nat) (g : GS_) : Option (Int32 × GS_) :=
  f10_waiting_b4 FU_ v0 (0 : Int32) (0 : Int32) g
theorem t10_waiting (v0 : Nat) (g : GS_) : Cn_ yX10_waiting cX10_waiting 3 (some .int) 1 22 EI_ [.inr (10, some v0)] g (f10_waiting v0 g) := by
  refine k_method (own := RX10) (ini := false) (L1 := [some (.inr (10, some v0)), none, none]) (by decide +kernel) rfl (fun h => by cases h) (Nat.le_of_ble_eq_true rfl) rfl ?_
  unfold f10_waiting
  refine k_iconst (v := (0 : Int32)) dX10_waiting_0 rfl ?_
  refine k_istn (j := 1) (L' := [some (.inr (10, some v0)), some (.inl (0 : Int32)), none]) dX10_waiting_1 rfl (by decide) rfl ?_
  refine k_iconst (v := (0 : Int32)) dX10_waiting_2 rfl ?_
  refine k_istn (j := 2) (L' := [some (.inr (10, some v0)), some (.inl (0 : Int32)), some (.inl (0 : Int32))]) dX10_waiting_3 rfl (by decide) rfl ?_
  exact t10_waiting_b4 FU_ v0 (0 : Int32) (0 : Int32) g
theorem dX10_count_0 : decode cX10_count 0 = .ok (.iload_n 1, 1) := by decide +kernel
theorem dX10_count_1 : decode cX10_count 1 = .ok (.tableswitch 92 0 6 #[43, 50, 57, 64, 71, 79, 87], 43) := by decide +kernel
theorem dX10_count_44 : decode cX10_count 44 = .ok (.aload_n 0, 1) := by decide +kernel
theorem dX10_count_45 : decode cX10_count 45 = .ok (.getfield 7, 3) := by decide +kernel
theorem dX10_count_48 : decode cX10_count 48 = .ok (.iconst 3, 1) := by decide +kernel
theorem dX10_count_49 : decode cX10_count 49 = .ok (.iaload, 1) := by decide +kernel
theorem dX10_count_50 : decode cX10_count 50 = .ok (.ireturn, 1) := by decide +kernel
theorem dX10_count_51 : decode cX10_count 51 = .ok (.aload_n 0, 1) := by decide +kernel
theorem dX10_count_52 : decode cX10_count 52 = .ok (.getfield 7, 3) := by decide +kernel
theorem dX10_count_55 : decode cX10_count 55 = .ok (.iconst 4, 1) := by decide +kernel
theorem dX10_count_56 : decode cX10_count 56 = .ok (.iaload, 1) := by decide +kernel
theorem dX10_count_57 : decode cX10_count 57 = .ok (.ireturn, 1) := by decide +kernel
theorem dX10_count_58 : decode cX10_count 58 = .ok (.aload_n 0, 1) := by decide +kernel
theorem dX10_count_59 : decode cX10_count 59 = .ok (.getfield 7, 3) := by decide +kernel
theorem dX10_count_62 : decode cX10_count 62 = .ok (.iconst 5, 1) := by decide +kernel
theorem dX10_count_63 : decode cX10_count 63 = .ok (.iaload, 1) := by decide +kernel
theorem dX10_count_64 : decode cX10_count 64 = .ok (.ireturn, 1) := by decide +kernel
theorem dX10_count_65 : decode cX10_count 65 = .ok (.aload_n 0, 1) := by decide +kernel
theorem dX10_count_66 : decode cX10_count 66 = .ok (.getfield 7, 3) := by decide +kernel
theorem dX10_count_69 : decode cX10_count 69 = .ok (.iconst 0, 1) := by decide +kernel
theorem dX10_count_70 : decode cX10_count 70 = .ok (.iaload, 1) := by decide +kernel
theorem dX10_count_71 : decode cX10_count 71 = .ok (.ireturn, 1) := by decide +kernel
theorem dX10_count_72 : decode cX10_count 72 = .ok (.aload_n 0, 1) := by decide +kernel
theorem dX10_count_73 : decode cX10_count 73 = .ok (.getfield 7, 3) := by decide +kernel
theorem dX10_count_76 : decode cX10_count 76 = .ok (.bipush 6, 2) := by decide +kernel
theorem dX10_count_78 : decode cX10_count 78 = .ok (.iaload, 1) := by decide +kernel
theorem dX10_count_79 : decode cX10_count 79 = .ok (.ireturn, 1) := by decide +kernel
theorem dX10_count_80 : decode cX10_count 80 = .ok (.aload_n 0, 1) := by decide +kernel
theorem dX10_count_81 : decode cX10_count 81 = .ok (.getfield 7, 3) := by decide +kernel
theorem dX10_count_84 : decode cX10_count 84 = .ok (.bipush 7, 2) := by decide +kernel
theorem dX10_count_86 : decode cX10_count 86 = .ok (.iaload, 1) := by decide +kernel
theorem dX10_count_87 : decode cX10_count 87 = .ok (.ireturn, 1) := by decide +kernel
theorem dX10_count_88 : decode cX10_count 88 = .ok (.aload_n 0, 1) := by decide +kernel
theorem dX10_count_89 : decode cX10_count 89 = .ok (.invokevirtual 256, 3) := by decide +kernel
theorem dX10_count_92 : decode cX10_count 92 = .ok (.ireturn, 1) := by decide +kernel
theorem dX10_count_93 : decode cX10_count 93 = .ok (.bipush (-2), 2) := by decide +kernel
theorem dX10_count_95 : decode cX10_count 95 = .ok (.ireturn, 1) := by decide +kernel
def f10_count (v0 : Nat) (v1 : Int32) (g : GS_) : Option (Int32 × GS_) :=
  if v1 = (0 : Int32) then lr_ (gfr g 320 v0) fun x1 => oc_ x1 none fun a2 => if inb (3 : Int32) (gln g 20 a2) then some ((gai g 20 a2 (3 : Int32).toInt.toNat), g) else none else if v1 = (1 : Int32) then lr_ (gfr g 320 v0) fun x3 => oc_ x3 none fun a4 => if inb (4 : Int32) (gln g 20 a4) then some ((gai g 20 a4 (4 : Int32).toInt.toNat), g) else none else if v1 = (2 : Int32) then lr_ (gfr g 320 v0) fun x5 => oc_ x5 none fun a6 => if inb (5 : Int32) (gln g 20 a6) then some ((gai g 20 a6 (5 : Int32).toInt.toNat), g) else none else if v1 = (3 : Int32) then lr_ (gfr g 320 v0) fun x7 => oc_ x7 none fun a8 => if inb (0 : Int32) (gln g 20 a8) then some ((gai g 20 a8 (0 : Int32).toInt.toNat), g) else none else if v1 = (4 : Int32) then lr_ (gfr g 320 v0) fun x9 => oc_ x9 none fun a10 => if inb (6 : Int32) (gln g 20 a10) then some ((gai g 20 a10 (6 : Int32).toInt.toNat), g) else none else if v1 = (5 : Int32) then lr_ (gfr g 320 v0) fun x11 => oc_ x11 none fun a12 => if inb (7 : Int32) (gln g 20 a12) then some ((gai g 20 a12 (7 : Int32).toInt.toNat), g) else none else if v1 = (6 : Int32) then bd_ (f10_waiting v0 g) fun z14 g13 => some (z14, g13) else some ((-2 : Int32), g)
theorem t10_count (v0 : Nat) (v1 : Int32) (g : GS_) : Cn_ yX10_count cX10_count 2 (some .int) 2 44 EI_ [.inr (10, some v0), .inl v1] g (f10_count v0 v1 g) := by
  refine k_method (own := RX10) (ini := false) (L1 := [some (.inr (10, some v0)), some (.inl v1)]) (by decide +kernel) rfl (fun h => by cases h) (Nat.le_of_ble_eq_true rfl) rfl ?_
  unfold f10_count
  refine k_iloadn (j := 1) dX10_count_0 rfl rfl ?_
  refine k_case (fun h0_ => ?_) (fun h0_ => ?_)
  · refine k_tin (tgt := 44) dX10_count_1 h0_ (by decide) (by decide) rfl (by decide) ?_
    refine k_aloadn (j := 0) dX10_count_44 rfl rfl ?_
    refine k_getr fg_10_7 rfl rfl dX10_count_45 (fun x1 => ?_)
    refine k_iconst (v := (3 : Int32)) dX10_count_48 rfl ?_
    rcases x1 with _ | a2
    · exact k_ocn
    refine k_ocs ?_
    refine k_iald dX10_count_49 ?_
    exact k_ireturn rfl dX10_count_50
  refine k_case (fun h1_ => ?_) (fun h1_ => ?_)
  · refine k_tin (tgt := 51) dX10_count_1 h1_ (by decide) (by decide) rfl (by decide) ?_
    refine k_aloadn (j := 0) dX10_count_51 rfl rfl ?_
    refine k_getr fg_10_7 rfl rfl dX10_count_52 (fun x3 => ?_)
    refine k_iconst (v := (4 : Int32)) dX10_count_55 rfl ?_
    rcases x3 with _ | a4
    · exact k_ocn
    refine k_ocs ?_
    refine k_iald dX10_count_56 ?_
    exact k_ireturn rfl dX10_count_57
  refine k_case (fun h2_ => ?_) (fun h2_ => ?_)
  · refine k_tin (tgt := 58) dX10_count_1 h2_ (by decide) (by decide) rfl (by decide) ?_
    refine k_aloadn (j := 0) dX10_count_58 rfl rfl ?_
    refine k_getr fg_10_7 rfl rfl dX10_count_59 (fun x5 => ?_)
    refine k_iconst (v := (5 : Int32)) dX10_count_62 rfl ?_
    rcases x5 with _ | a6
    · exact k_ocn
    refine k_ocs ?_
    refine k_iald dX10_count_63 ?_
    exact k_ireturn rfl dX10_count_64
  refine k_case (fun h3_ => ?_) (fun h3_ => ?_)
  · refine k_tin (tgt := 65) dX10_count_1 h3_ (by decide) (by decide) rfl (by decide) ?_
    refine k_aloadn (j := 0) dX10_count_65 rfl rfl ?_
    refine k_getr fg_10_7 rfl rfl dX10_count_66 (fun x7 => ?_)
    refine k_iconst (v := (0 : Int32)) dX10_count_69 rfl ?_
    rcases x7 with _ | a8
    · exact k_ocn
    refine k_ocs ?_
    refine k_iald dX10_count_70 ?_
    exact k_ireturn rfl dX10_count_71
  refine k_case (fun h4_ => ?_) (fun h4_ => ?_)
  · refine k_tin (tgt := 72) dX10_count_1 h4_ (by decide) (by decide) rfl (by decide) ?_
    refine k_aloadn (j := 0) dX10_count_72 rfl rfl ?_
    refine k_getr fg_10_7 rfl rfl dX10_count_73 (fun x9 => ?_)
    refine k_bipush (v := (6 : Int32)) dX10_count_76 rfl ?_
    rcases x9 with _ | a10
    · exact k_ocn
    refine k_ocs ?_
    refine k_iald dX10_count_78 ?_
    exact k_ireturn rfl dX10_count_79
  refine k_case (fun h5_ => ?_) (fun h5_ => ?_)
  · refine k_tin (tgt := 80) dX10_count_1 h5_ (by decide) (by decide) rfl (by decide) ?_
    refine k_aloadn (j := 0) dX10_count_80 rfl rfl ?_
    refine k_getr fg_10_7 rfl rfl dX10_count_81 (fun x11 => ?_)
    refine k_bipush (v := (7 : Int32)) dX10_count_84 rfl ?_
    rcases x11 with _ | a12
    · exact k_ocn
    refine k_ocs ?_
    refine k_iald dX10_count_86 ?_
    exact k_ireturn rfl dX10_count_87
  refine k_case (fun h6_ => ?_) (fun h6_ => ?_)
  · refine k_tin (tgt := 88) dX10_count_1 h6_ (by decide) (by decide) rfl (by decide) ?_
    refine k_aloadn (j := 0) dX10_count_88 rfl rfl ?_
    refine k_callVi [] (t10_waiting v0 g) cw_cX10_waiting (Or.inl ml_10_256) rfl rfl (by decide) (by decide) (Nat.le_of_ble_eq_true rfl) dX10_count_89 (fun z14 g13 => ?_)
    exact k_ireturn rfl dX10_count_92
  refine k_tout (tgt := 93) dX10_count_1 (by have q0 := lv_neT (a := 0) h0_ (by decide); have q1 := lv_neT (a := 1) h1_ (by decide); have q2 := lv_neT (a := 2) h2_ (by decide); have q3 := lv_neT (a := 3) h3_ (by decide); have q4 := lv_neT (a := 4) h4_ (by decide); have q5 := lv_neT (a := 5) h5_ (by decide); have q6 := lv_neT (a := 6) h6_ (by decide); omega) (by decide) ?_
  refine k_bipush (v := (-2 : Int32)) dX10_count_93 rfl ?_
  exact k_ireturn rfl dX10_count_95
theorem dX10_save_0 : decode cX10_save 0 = .ok (.iload_n 1, 1) := by decide +kernel
theorem dX10_save_1 : decode cX10_save 1 = .ok (.iconst 0, 1) := by decide +kernel
theorem dX10_save_2 : decode cX10_save 2 = .ok (.iconst 1, 1) := by decide +kernel
theorem dX10_save_3 : decode cX10_save 3 = .ok (.invokestatic 44, 3) := by decide +kernel
theorem dX10_save_6 : decode cX10_save 6 = .ok (.ifCond .ne 6, 3) := by decide +kernel
theorem dX10_save_9 : decode cX10_save 9 = .ok (.bipush (-2), 2) := by decide +kernel
theorem dX10_save_11 : decode cX10_save 11 = .ok (.ireturn, 1) := by decide +kernel
theorem dX10_save_12 : decode cX10_save 12 = .ok (.iconst 0, 1) := by decide +kernel
theorem dX10_save_13 : decode cX10_save 13 = .ok (.istore_n 2, 1) := by decide +kernel
theorem dX10_save_14 : decode cX10_save 14 = .ok (.iload_n 2, 1) := by decide +kernel
theorem dX10_save_15 : decode cX10_save 15 = .ok (.sipush 858, 3) := by decide +kernel
theorem dX10_save_18 : decode cX10_save 18 = .ok (.if_icmp .ge 27, 3) := by decide +kernel
theorem dX10_save_21 : decode cX10_save 21 = .ok (.aload_n 0, 1) := by decide +kernel
theorem dX10_save_22 : decode cX10_save 22 = .ok (.getfield 19, 3) := by decide +kernel
theorem dX10_save_25 : decode cX10_save 25 = .ok (.sipush 858, 3) := by decide +kernel
theorem dX10_save_28 : decode cX10_save 28 = .ok (.iload_n 1, 1) := by decide +kernel
theorem dX10_save_29 : decode cX10_save 29 = .ok (.imul, 1) := by decide +kernel
theorem dX10_save_30 : decode cX10_save 30 = .ok (.iload_n 2, 1) := by decide +kernel
theorem dX10_save_31 : decode cX10_save 31 = .ok (.iadd, 1) := by decide +kernel
theorem dX10_save_32 : decode cX10_save 32 = .ok (.aload_n 0, 1) := by decide +kernel
theorem dX10_save_33 : decode cX10_save 33 = .ok (.getfield 7, 3) := by decide +kernel
theorem dX10_save_36 : decode cX10_save 36 = .ok (.iload_n 2, 1) := by decide +kernel
theorem dX10_save_37 : decode cX10_save 37 = .ok (.iaload, 1) := by decide +kernel
theorem dX10_save_38 : decode cX10_save 38 = .ok (.iastore, 1) := by decide +kernel
theorem dX10_save_39 : decode cX10_save 39 = .ok (.iinc 2 1, 3) := by decide +kernel
theorem dX10_save_42 : decode cX10_save 42 = .ok (.goto (-28), 3) := by decide +kernel
theorem dX10_save_45 : decode cX10_save 45 = .ok (.iconst 0, 1) := by decide +kernel
theorem dX10_save_46 : decode cX10_save 46 = .ok (.istore_n 2, 1) := by decide +kernel
theorem dX10_save_47 : decode cX10_save 47 = .ok (.iload_n 2, 1) := by decide +kernel
theorem dX10_save_48 : decode cX10_save 48 = .ok (.sipush 9600, 3) := by decide +kernel
theorem dX10_save_51 : decode cX10_save 51 = .ok (.if_icmp .ge 27, 3) := by decide +kernel
theorem dX10_save_54 : decode cX10_save 54 = .ok (.aload_n 0, 1) := by decide +kernel
theorem dX10_save_55 : decode cX10_save 55 = .ok (.getfield 22, 3) := by decide +kernel
theorem dX10_save_58 : decode cX10_save 58 = .ok (.sipush 9600, 3) := by decide +kernel
theorem dX10_save_61 : decode cX10_save 61 = .ok (.iload_n 1, 1) := by decide +kernel
theorem dX10_save_62 : decode cX10_save 62 = .ok (.imul, 1) := by decide +kernel
theorem dX10_save_63 : decode cX10_save 63 = .ok (.iload_n 2, 1) := by decide +kernel
theorem dX10_save_64 : decode cX10_save 64 = .ok (.iadd, 1) := by decide +kernel
theorem dX10_save_65 : decode cX10_save 65 = .ok (.aload_n 0, 1) := by decide +kernel
theorem dX10_save_66 : decode cX10_save 66 = .ok (.getfield 16, 3) := by decide +kernel
theorem dX10_save_69 : decode cX10_save 69 = .ok (.iload_n 2, 1) := by decide +kernel
theorem dX10_save_70 : decode cX10_save 70 = .ok (.iaload, 1) := by decide +kernel
theorem dX10_save_71 : decode cX10_save 71 = .ok (.iastore, 1) := by decide +kernel
theorem dX10_save_72 : decode cX10_save 72 = .ok (.iinc 2 1, 3) := by decide +kernel
theorem dX10_save_75 : decode cX10_save 75 = .ok (.goto (-28), 3) := by decide +kernel
theorem dX10_save_78 : decode cX10_save 78 = .ok (.aload_n 0, 1) := by decide +kernel
theorem dX10_save_79 : decode cX10_save 79 = .ok (.getfield 25, 3) := by decide +kernel
theorem dX10_save_82 : decode cX10_save 82 = .ok (.iload_n 1, 1) := by decide +kernel
theorem dX10_save_83 : decode cX10_save 83 = .ok (.iconst 1, 1) := by decide +kernel
theorem dX10_save_84 : decode cX10_save 84 = .ok (.bastore, 1) := by decide +kernel
theorem dX10_save_85 : decode cX10_save 85 = .ok (.aload_n 0, 1) := by decide +kernel
theorem dX10_save_86 : decode cX10_save 86 = .ok (.getfield 7, 3) := by decide +kernel
theorem dX10_save_89 : decode cX10_save 89 = .ok (.iconst 0, 1) := by decide +kernel
theorem dX10_save_90 : decode cX10_save 90 = .ok (.iaload, 1) := by decide +kernel
theorem dX10_save_91 : decode cX10_save 91 = .ok (.ireturn, 1) := by decide +kernel
def f10_save_b47 : Nat → Nat → Int32 → Int32 → GS_ → Option (Int32 × GS_)
  | 0, _, _, _, _ => none
  | n + 1, v0, v1, v2, g =>
    if (9600 : Int32) ≤ v2 then lr_ (gfr g 325 v0) fun x1 => oc_ x1 none fun a2 => if inb v1 (gln g 21 a2) then lr_ (sai g 21 a2 v1.toInt.toNat (1 : Int32)) (fun g3 => lr_ (gfr g3 320 v0) fun x4 => oc_ x4 none fun a5 => if inb (0 : Int32) (gln g3 20 a5) then some ((gai g3 20 a5 (0 : Int32).toInt.toNat), g3) else none) else none else lr_ (gfr g 324 v0) fun x6 => lr_ (gfr g 322 v0) fun x7 => oc_ x7 none fun a8 => if inb v2 (gln g 20 a8) then oc_ x6 none fun a9 => if inb (((9600 : Int32) * v1) + v2) (gln g 20 a9) then lr_ (sai g 20 a9 (((9600 : Int32) * v1) + v2).toInt.toNat (gai g 20 a8 v2.toInt.toNat)) (fun g10 => (f10_save_b47 n) v0 v1 (v2 + (1 : Int32)) g10) else none else none
theorem t10_save_b47 : ∀ (n : Nat) (v0 : Nat) (v1 : Int32) (v2 : Int32) (g : GS_), K_ RX10 cX10_save 3 (some .int) 1 22 false EI_ 47 [some (.inr (10, some v0)), some (.inl v1), some (.inl v2)] [] g (f10_save_b47 n v0 v1 v2 g) := by
  intro n
  induction n with
  | zero =>
    intro v0 v1 v2 g
    exact k_fail
  | succ n ih =>
    intro v0 v1 v2 g
    show K_ RX10 cX10_save 3 (some .int) 1 22 false EI_ 47 [some (.inr (10, some v0)), some (.inl v1), some (.inl v2)] [] g (if (9600 : Int32) ≤ v2 then lr_ (gfr g 325 v0) fun x1 => oc_ x1 none fun a2 => if inb v1 (gln g 21 a2) then lr_ (sai g 21 a2 v1.toInt.toNat (1 : Int32)) (fun g3 => lr_ (gfr g3 320 v0) fun x4 => oc_ x4 none fun a5 => if inb (0 : Int32) (gln g3 20 a5) then some ((gai g3 20 a5 (0 : Int32).toInt.toNat), g3) else none) else none else lr_ (gfr g 324 v0) fun x6 => lr_ (gfr g 322 v0) fun x7 => oc_ x7 none fun a8 => if inb v2 (gln g 20 a8) then oc_ x6 none fun a9 => if inb (((9600 : Int32) * v1) + v2) (gln g 20 a9) then lr_ (sai g 20 a9 (((9600 : Int32) * v1) + v2).toInt.toNat (gai g 20 a8 v2.toInt.toNat)) (fun g10 => (f10_save_b47 n) v0 v1 (v2 + (1 : Int32)) g10) else none else none)
    refine k_iloadn (j := 2) dX10_save_47 rfl rfl ?_
    refine k_sipush (v := (9600 : Int32)) dX10_save_48 rfl ?_
    refine k_icmpge (tgt := 78) dX10_save_51 (by decide) (fun _ => ?_) (fun _ => ?_)
    · refine k_aloadn (j := 0) dX10_save_78 rfl rfl ?_
      refine k_getr fg_10_25 rfl rfl dX10_save_79 (fun x1 => ?_)
      refine k_iloadn (j := 1) dX10_save_82 rfl rfl ?_
      refine k_iconst (v := (1 : Int32)) dX10_save_83 rfl ?_
      rcases x1 with _ | a2
      · exact k_ocn
      refine k_ocs ?_
      refine k_zast (by decide) dX10_save_84 (fun g3 => ?_)
      refine k_aloadn (j := 0) dX10_save_85 rfl rfl ?_
      refine k_getr fg_10_7 rfl rfl dX10_save_86 (fun x4 => ?_)
      refine k_iconst (v := (0 : Int32)) dX10_save_89 rfl ?_
      rcases x4 with _ | a5
      · exact k_ocn
      refine k_ocs ?_
      refine k_iald dX10_save_90 ?_
      exact k_ireturn rfl dX10_save_91
    refine k_aloadn (j := 0) dX10_save_54 rfl rfl ?_
    refine k_getr fg_10_22 rfl rfl dX10_save_55 (fun x6 => ?_)
    refine k_sipush (v := (9600 : Int32)) dX10_save_58 rfl ?_
    refine k_iloadn (j := 1) dX10_save_61 rfl rfl ?_
    refine k_imul dX10_save_62 ?_
    refine k_iloadn (j := 2) dX10_save_63 rfl rfl ?_
    refine k_iadd dX10_save_64 ?_
    refine k_aloadn (j := 0) dX10_save_65 rfl rfl ?_
    refine k_getr fg_10_16 rfl rfl dX10_save_66 (fun x7 => ?_)
    refine k_iloadn (j := 2) dX10_save_69 rfl rfl ?_
    rcases x7 with _ | a8
    · exact k_ocn
    refine k_ocs ?_
    refine k_iald dX10_save_70 ?_
    rcases x6 with _ | a9
    · exact k_ocn
    refine k_ocs ?_
    refine k_iast dX10_save_71 (fun g10 => ?_)
    refine k_iinc (v := (v2 + (1 : Int32))) (L' := [some (.inr (10, some v0)), some (.inl v1), some (.inl (v2 + (1 : Int32)))]) dX10_save_72 rfl rfl (by decide) rfl ?_
    refine k_goto (tgt := 47) dX10_save_75 (by decide) ?_
    exact ih v0 v1 (v2 + (1 : Int32)) g10
def f10_save_b14 : Nat → Nat → Int32 → Int32 → GS_ → Option (Int32 × GS_)
  | 0, _, _, _, _ => none
  | n + 1, v0, v1, v2, g =>
    if (858 : Int32) ≤ v2 then f10_save_b47 FU_ v0 v1 (0 : Int32) g else lr_ (gfr g 323 v0) fun x11 => lr_ (gfr g 320 v0) fun x12 => oc_ x12 none fun a13 => if inb v2 (gln g 20 a13) then oc_ x11 none fun a14 => if inb (((858 : Int32) * v1) + v2) (gln g 20 a14) then lr_ (sai g 20 a14 (((858 : Int32) * v1) + v2).toInt.toNat (gai g 20 a13 v2.toInt.toNat)) (fun g15 => (f10_save_b14 n) v0 v1 (v2 + (1 : Int32)) g15) else none else none
theorem t10_save_b14 : ∀ (n : Nat) (v0 : Nat) (v1 : Int32) (v2 : Int32) (g : GS_), K_ RX10 cX10_save 3 (some .int) 1 22 false EI_ 14 [some (.inr (10, some v0)), some (.inl v1), some (.inl v2)] [] g (f10_save_b14 n v0 v1 v2 g) := by
  intro n
  induction n with
  | zero =>
    intro v0 v1 v2 g
    exact k_fail
  | succ n ih =>
    intro v0 v1 v2 g
    show K_ RX10 cX10_save 3 (some .int) 1 22 false EI_ 14 [some (.inr (10, some v0)), some (.inl v1), some (.inl v2)] [] g (if (858 : Int32) ≤ v2 then f10_save_b47 FU_ v0 v1 (0 : Int32) g else lr_ (gfr g 323 v0) fun x11 => lr_ (gfr g 320 v0) fun x12 => oc_ x12 none fun a13 => if inb v2 (gln g 20 a13) then oc_ x11 none fun a14 => if inb (((858 : Int32) * v1) + v2) (gln g 20 a14) then lr_ (sai g 20 a14 (((858 : Int32) * v1) + v2).toInt.toNat (gai g 20 a13 v2.toInt.toNat)) (fun g15 => (f10_save_b14 n) v0 v1 (v2 + (1 : Int32)) g15) else none else none)
    refine k_iloadn (j := 2) dX10_save_14 rfl rfl ?_
    refine k_sipush (v := (858 : Int32)) dX10_save_15 rfl ?_
    refine k_icmpge (tgt := 45) dX10_save_18 (by decide) (fun _ => ?_) (fun _ => ?_)
    · refine k_iconst (v := (0 : Int32)) dX10_save_45 rfl ?_
      refine k_istn (j := 2) (L' := [some (.inr (10, some v0)), some (.inl v1), some (.inl (0 : Int32))]) dX10_save_46 rfl (by decide) rfl ?_
      exact t10_save_b47 FU_ v0 v1 (0 : Int32) g
    refine k_aloadn (j := 0) dX10_save_21 rfl rfl ?_
    refine k_getr fg_10_19 rfl rfl dX10_save_22 (fun x11 => ?_)
    refine k_sipush (v := (858 : Int32)) dX10_save_25 rfl ?_
    refine k_iloadn (j := 1) dX10_save_28 rfl rfl ?_
    refine k_imul dX10_save_29 ?_
    refine k_iloadn (j := 2) dX10_save_30 rfl rfl ?_
    refine k_iadd dX10_save_31 ?_
    refine k_aloadn (j := 0) dX10_save_32 rfl rfl ?_
    refine k_getr fg_10_7 rfl rfl dX10_save_33 (fun x12 => ?_)
    refine k_iloadn (j := 2) dX10_save_36 rfl rfl ?_
    rcases x12 with _ | a13
    · exact k_ocn
    refine k_ocs ?_
    refine k_iald dX10_save_37 ?_
    rcases x11 with _ | a14
    · exact k_ocn
    refine k_ocs ?_
    refine k_iast dX10_save_38 (fun g15 => ?_)
    refine k_iinc (v := (v2 + (1 : Int32))) (L' := [some (.inr (10, some v0)), some (.inl v1), some (.inl (v2 + (1 : Int32)))]) dX10_save_39 rfl rfl (by decide) rfl ?_
    refine k_goto (tgt := 14) dX10_save_42 (by decide) ?_
    exact ih v0 v1 (v2 + (1 : Int32)) g15
def f10_save (v0 : Nat) (v1 : Int32) (g : GS_) : Option (Int32 × GS_) :=
  bd_ (f10_in v1 (0 : Int32) (1 : Int32) g) fun z17 g16 => if z17 = 0 then some ((-2 : Int32), g16) else f10_save_b14 FU_ v0 v1 (0 : Int32) g16
theorem t10_save (v0 : Nat) (v1 : Int32) (g : GS_) : Cn_ yX10_save cX10_save 3 (some .int) 1 22 EI_ [.inr (10, some v0), .inl v1] g (f10_save v0 v1 g) := by
  refine k_method (own := RX10) (ini := false) (L1 := [some (.inr (10, some v0)), some (.inl v1), none]) (by decide +kernel) rfl (fun h => by cases h) (Nat.le_of_ble_eq_true rfl) rfl ?_
  unfold f10_save
  refine k_iloadn (j := 1) dX10_save_0 rfl rfl ?_
  refine k_iconst (v := (0 : Int32)) dX10_save_1 rfl ?_
  refine k_iconst (v := (1 : Int32)) dX10_save_2 rfl ?_
  refine k_callSi [.inl v1, .inl (0 : Int32), .inl (1 : Int32)] (t10_in v1 (0 : Int32) (1 : Int32) g) cw_cX10_in ml_10_44 rfl rfl (by decide) (by decide) (Nat.le_of_ble_eq_true rfl) dX10_save_3 (fun z17 g16 => ?_)
  refine k_ifne (tgt := 12) dX10_save_6 (by decide) (fun _ => ?_) (fun _ => ?_)
  · refine k_bipush (v := (-2 : Int32)) dX10_save_9 rfl ?_
    exact k_ireturn rfl dX10_save_11
  refine k_iconst (v := (0 : Int32)) dX10_save_12 rfl ?_
  refine k_istn (j := 2) (L' := [some (.inr (10, some v0)), some (.inl v1), some (.inl (0 : Int32))]) dX10_save_13 rfl (by decide) rfl ?_
  exact t10_save_b14 FU_ v0 v1 (0 : Int32) g16
theorem dX10_restore_0 : decode cX10_restore 0 = .ok (.iload_n 1, 1) := by decide +kernel
theorem dX10_restore_1 : decode cX10_restore 1 = .ok (.iconst 0, 1) := by decide +kernel
theorem dX10_restore_2 : decode cX10_restore 2 = .ok (.iconst 1, 1) := by decide +kernel
theorem dX10_restore_3 : decode cX10_restore 3 = .ok (.invokestatic 44, 3) := by decide +kernel
theorem dX10_restore_6 : decode cX10_restore 6 = .ok (.ifCond .ne 6, 3) := by decide +kernel
theorem dX10_restore_9 : decode cX10_restore 9 = .ok (.bipush (-2), 2) := by decide +kernel
theorem dX10_restore_11 : decode cX10_restore 11 = .ok (.ireturn, 1) := by decide +kernel
theorem dX10_restore_12 : decode cX10_restore 12 = .ok (.aload_n 0, 1) := by decide +kernel
theorem dX10_restore_13 : decode cX10_restore 13 = .ok (.getfield 25, 3) := by decide +kernel
theorem dX10_restore_16 : decode cX10_restore 16 = .ok (.iload_n 1, 1) := by decide +kernel
theorem dX10_restore_17 : decode cX10_restore 17 = .ok (.baload, 1) := by decide +kernel
theorem dX10_restore_18 : decode cX10_restore 18 = .ok (.ifCond .ne 6, 3) := by decide +kernel
theorem dX10_restore_21 : decode cX10_restore 21 = .ok (.bipush (-5), 2) := by decide +kernel
theorem dX10_restore_23 : decode cX10_restore 23 = .ok (.ireturn, 1) := by decide +kernel
theorem dX10_restore_24 : decode cX10_restore 24 = .ok (.iconst 0, 1) := by decide +kernel
theorem dX10_restore_25 : decode cX10_restore 25 = .ok (.istore_n 2, 1) := by decide +kernel
theorem dX10_restore_26 : decode cX10_restore 26 = .ok (.iload_n 2, 1) := by decide +kernel
theorem dX10_restore_27 : decode cX10_restore 27 = .ok (.sipush 858, 3) := by decide +kernel
theorem dX10_restore_30 : decode cX10_restore 30 = .ok (.if_icmp .ge 27, 3) := by decide +kernel
theorem dX10_restore_33 : decode cX10_restore 33 = .ok (.aload_n 0, 1) := by decide +kernel
theorem dX10_restore_34 : decode cX10_restore 34 = .ok (.getfield 7, 3) := by decide +kernel
theorem dX10_restore_37 : decode cX10_restore 37 = .ok (.iload_n 2, 1) := by decide +kernel
theorem dX10_restore_38 : decode cX10_restore 38 = .ok (.aload_n 0, 1) := by decide +kernel
theorem dX10_restore_39 : decode cX10_restore 39 = .ok (.getfield 19, 3) := by decide +kernel
theorem dX10_restore_42 : decode cX10_restore 42 = .ok (.sipush 858, 3) := by decide +kernel
theorem dX10_restore_45 : decode cX10_restore 45 = .ok (.iload_n 1, 1) := by decide +kernel
theorem dX10_restore_46 : decode cX10_restore 46 = .ok (.imul, 1) := by decide +kernel
theorem dX10_restore_47 : decode cX10_restore 47 = .ok (.iload_n 2, 1) := by decide +kernel
theorem dX10_restore_48 : decode cX10_restore 48 = .ok (.iadd, 1) := by decide +kernel
theorem dX10_restore_49 : decode cX10_restore 49 = .ok (.iaload, 1) := by decide +kernel
theorem dX10_restore_50 : decode cX10_restore 50 = .ok (.iastore, 1) := by decide +kernel
theorem dX10_restore_51 : decode cX10_restore 51 = .ok (.iinc 2 1, 3) := by decide +kernel
theorem dX10_restore_54 : decode cX10_restore 54 = .ok (.goto (-28), 3) := by decide +kernel
theorem dX10_restore_57 : decode cX10_restore 57 = .ok (.iconst 0, 1) := by decide +kernel
theorem dX10_restore_58 : decode cX10_restore 58 = .ok (.istore_n 2, 1) := by decide +kernel
theorem dX10_restore_59 : decode cX10_restore 59 = .ok (.iload_n 2, 1) := by decide +kernel
theorem dX10_restore_60 : decode cX10_restore 60 = .ok (.sipush 9600, 3) := by decide +kernel
theorem dX10_restore_63 : decode cX10_restore 63 = .ok (.if_icmp .ge 27, 3) := by decide +kernel
theorem dX10_restore_66 : decode cX10_restore 66 = .ok (.aload_n 0, 1) := by decide +kernel
theorem dX10_restore_67 : decode cX10_restore 67 = .ok (.getfield 16, 3) := by decide +kernel
theorem dX10_restore_70 : decode cX10_restore 70 = .ok (.iload_n 2, 1) := by decide +kernel
theorem dX10_restore_71 : decode cX10_restore 71 = .ok (.aload_n 0, 1) := by decide +kernel
theorem dX10_restore_72 : decode cX10_restore 72 = .ok (.getfield 22, 3) := by decide +kernel
theorem dX10_restore_75 : decode cX10_restore 75 = .ok (.sipush 9600, 3) := by decide +kernel
theorem dX10_restore_78 : decode cX10_restore 78 = .ok (.iload_n 1, 1) := by decide +kernel
theorem dX10_restore_79 : decode cX10_restore 79 = .ok (.imul, 1) := by decide +kernel
theorem dX10_restore_80 : decode cX10_restore 80 = .ok (.iload_n 2, 1) := by decide +kernel
theorem dX10_restore_81 : decode cX10_restore 81 = .ok (.iadd, 1) := by decide +kernel
theorem dX10_restore_82 : decode cX10_restore 82 = .ok (.iaload, 1) := by decide +kernel
theorem dX10_restore_83 : decode cX10_restore 83 = .ok (.iastore, 1) := by decide +kernel
theorem dX10_restore_84 : decode cX10_restore 84 = .ok (.iinc 2 1, 3) := by decide +kernel
theorem dX10_restore_87 : decode cX10_restore 87 = .ok (.goto (-28), 3) := by decide +kernel
theorem dX10_restore_90 : decode cX10_restore 90 = .ok (.aload_n 0, 1) := by decide +kernel
theorem dX10_restore_91 : decode cX10_restore 91 = .ok (.getfield 7, 3) := by decide +kernel
theorem dX10_restore_94 : decode cX10_restore 94 = .ok (.iconst 0, 1) := by decide +kernel
theorem dX10_restore_95 : decode cX10_restore 95 = .ok (.iaload, 1) := by decide +kernel
theorem dX10_restore_96 : decode cX10_restore 96 = .ok (.ireturn, 1) := by decide +kernel
def f10_restore_b59 : Nat → Nat → Int32 → Int32 → GS_ → Option (Int32 × GS_)
  | 0, _, _, _, _ => none
  | n + 1, v0, v1, v2, g =>
    if (9600 : Int32) ≤ v2 then lr_ (gfr g 320 v0) fun x1 => oc_ x1 none fun a2 => if inb (0 : Int32) (gln g 20 a2) then some ((gai g 20 a2 (0 : Int32).toInt.toNat), g) else none else lr_ (gfr g 322 v0) fun x3 => lr_ (gfr g 324 v0) fun x4 => oc_ x4 none fun a5 => if inb (((9600 : Int32) * v1) + v2) (gln g 20 a5) then oc_ x3 none fun a6 => if inb v2 (gln g 20 a6) then lr_ (sai g 20 a6 v2.toInt.toNat (gai g 20 a5 (((9600 : Int32) * v1) + v2).toInt.toNat)) (fun g7 => (f10_restore_b59 n) v0 v1 (v2 + (1 : Int32)) g7) else none else none
theorem t10_restore_b59 : ∀ (n : Nat) (v0 : Nat) (v1 : Int32) (v2 : Int32) (g : GS_), K_ RX10 cX10_restore 3 (some .int) 1 22 false EI_ 59 [some (.inr (10, some v0)), some (.inl v1), some (.inl v2)] [] g (f10_restore_b59 n v0 v1 v2 g) := by
  intro n
  induction n with
  | zero =>
    intro v0 v1 v2 g
    exact k_fail
  | succ n ih =>
    intro v0 v1 v2 g
    show K_ RX10 cX10_restore 3 (some .int) 1 22 false EI_ 59 [some (.inr (10, some v0)), some (.inl v1), some (.inl v2)] [] g (if (9600 : Int32) ≤ v2 then lr_ (gfr g 320 v0) fun x1 => oc_ x1 none fun a2 => if inb (0 : Int32) (gln g 20 a2) then some ((gai g 20 a2 (0 : Int32).toInt.toNat), g) else none else lr_ (gfr g 322 v0) fun x3 => lr_ (gfr g 324 v0) fun x4 => oc_ x4 none fun a5 => if inb (((9600 : Int32) * v1) + v2) (gln g 20 a5) then oc_ x3 none fun a6 => if inb v2 (gln g 20 a6) then lr_ (sai g 20 a6 v2.toInt.toNat (gai g 20 a5 (((9600 : Int32) * v1) + v2).toInt.toNat)) (fun g7 => (f10_restore_b59 n) v0 v1 (v2 + (1 : Int32)) g7) else none else none)
    refine k_iloadn (j := 2) dX10_restore_59 rfl rfl ?_
    refine k_sipush (v := (9600 : Int32)) dX10_restore_60 rfl ?_
    refine k_icmpge (tgt := 90) dX10_restore_63 (by decide) (fun _ => ?_) (fun _ => ?_)
    · refine k_aloadn (j := 0) dX10_restore_90 rfl rfl ?_
      refine k_getr fg_10_7 rfl rfl dX10_restore_91 (fun x1 => ?_)
      refine k_iconst (v := (0 : Int32)) dX10_restore_94 rfl ?_
      rcases x1 with _ | a2
      · exact k_ocn
      refine k_ocs ?_
      refine k_iald dX10_restore_95 ?_
      exact k_ireturn rfl dX10_restore_96
    refine k_aloadn (j := 0) dX10_restore_66 rfl rfl ?_
    refine k_getr fg_10_16 rfl rfl dX10_restore_67 (fun x3 => ?_)
    refine k_iloadn (j := 2) dX10_restore_70 rfl rfl ?_
    refine k_aloadn (j := 0) dX10_restore_71 rfl rfl ?_
    refine k_getr fg_10_22 rfl rfl dX10_restore_72 (fun x4 => ?_)
    refine k_sipush (v := (9600 : Int32)) dX10_restore_75 rfl ?_
    refine k_iloadn (j := 1) dX10_restore_78 rfl rfl ?_
    refine k_imul dX10_restore_79 ?_
    refine k_iloadn (j := 2) dX10_restore_80 rfl rfl ?_
    refine k_iadd dX10_restore_81 ?_
    rcases x4 with _ | a5
    · exact k_ocn
    refine k_ocs ?_
    refine k_iald dX10_restore_82 ?_
    rcases x3 with _ | a6
    · exact k_ocn
    refine k_ocs ?_
    refine k_iast dX10_restore_83 (fun g7 => ?_)
    refine k_iinc (v := (v2 + (1 : Int32))) (L' := [some (.inr (10, some v0)), some (.inl v1), some (.inl (v2 + (1 : Int32)))]) dX10_restore_84 rfl rfl (by decide) rfl ?_
    refine k_goto (tgt := 59) dX10_restore_87 (by decide) ?_
    exact ih v0 v1 (v2 + (1 : Int32)) g7
def f10_restore_b26 : Nat → Nat → Int32 → Int32 → GS_ → Option (Int32 × GS_)
  | 0, _, _, _, _ => none
  | n + 1, v0, v1, v2, g =>
    if (858 : Int32) ≤ v2 then f10_restore_b59 FU_ v0 v1 (0 : Int32) g else lr_ (gfr g 320 v0) fun x8 => lr_ (gfr g 323 v0) fun x9 => oc_ x9 none fun a10 => if inb (((858 : Int32) * v1) + v2) (gln g 20 a10) then oc_ x8 none fun a11 => if inb v2 (gln g 20 a11) then lr_ (sai g 20 a11 v2.toInt.toNat (gai g 20 a10 (((858 : Int32) * v1) + v2).toInt.toNat)) (fun g12 => (f10_restore_b26 n) v0 v1 (v2 + (1 : Int32)) g12) else none else none
theorem t10_restore_b26 : ∀ (n : Nat) (v0 : Nat) (v1 : Int32) (v2 : Int32) (g : GS_), K_ RX10 cX10_restore 3 (some .int) 1 22 false EI_ 26 [some (.inr (10, some v0)), some (.inl v1), some (.inl v2)] [] g (f10_restore_b26 n v0 v1 v2 g) := by
  intro n
  induction n with
  | zero =>
    intro v0 v1 v2 g
    exact k_fail
  | succ n ih =>
    intro v0 v1 v2 g
    show K_ RX10 cX10_restore 3 (some .int) 1 22 false EI_ 26 [some (.inr (10, some v0)), some (.inl v1), some (.inl v2)] [] g (if (858 : Int32) ≤ v2 then f10_restore_b59 FU_ v0 v1 (0 : Int32) g else lr_ (gfr g 320 v0) fun x8 => lr_ (gfr g 323 v0) fun x9 => oc_ x9 none fun a10 => if inb (((858 : Int32) * v1) + v2) (gln g 20 a10) then oc_ x8 none fun a11 => if inb v2 (gln g 20 a11) then lr_ (sai g 20 a11 v2.toInt.toNat (gai g 20 a10 (((858 : Int32) * v1) + v2).toInt.toNat)) (fun g12 => (f10_restore_b26 n) v0 v1 (v2 + (1 : Int32)) g12) else none else none)
    refine k_iloadn (j := 2) dX10_restore_26 rfl rfl ?_
    refine k_sipush (v := (858 : Int32)) dX10_restore_27 rfl ?_
    refine k_icmpge (tgt := 57) dX10_restore_30 (by decide) (fun _ => ?_) (fun _ => ?_)
    · refine k_iconst (v := (0 : Int32)) dX10_restore_57 rfl ?_
      refine k_istn (j := 2) (L' := [some (.inr (10, some v0)), some (.inl v1), some (.inl (0 : Int32))]) dX10_restore_58 rfl (by decide) rfl ?_
      exact t10_restore_b59 FU_ v0 v1 (0 : Int32) g
    refine k_aloadn (j := 0) dX10_restore_33 rfl rfl ?_
    refine k_getr fg_10_7 rfl rfl dX10_restore_34 (fun x8 => ?_)
    refine k_iloadn (j := 2) dX10_restore_37 rfl rfl ?_
    refine k_aloadn (j := 0) dX10_restore_38 rfl rfl ?_
    refine k_getr fg_10_19 rfl rfl dX10_restore_39 (fun x9 => ?_)
    refine k_sipush (v := (858 : Int32)) dX10_restore_42 rfl ?_
    refine k_iloadn (j := 1) dX10_restore_45 rfl rfl ?_
    refine k_imul dX10_restore_46 ?_
    refine k_iloadn (j := 2) dX10_restore_47 rfl rfl ?_
    refine k_iadd dX10_restore_48 ?_
    rcases x9 with _ | a10
    · exact k_ocn
    refine k_ocs ?_
    refine k_iald dX10_restore_49 ?_
    rcases x8 with _ | a11
    · exact k_ocn
    refine k_ocs ?_
    refine k_iast dX10_restore_50 (fun g12 => ?_)
    refine k_iinc (v := (v2 + (1 : Int32))) (L' := [some (.inr (10, some v0)), some (.inl v1), some (.inl (v2 + (1 : Int32)))]) dX10_restore_51 rfl rfl (by decide) rfl ?_
    refine k_goto (tgt := 26) dX10_restore_54 (by decide) ?_
    exact ih v0 v1 (v2 + (1 : Int32)) g12
def f10_restore (v0 : Nat) (v1 : Int32) (g : GS_) : Option (Int32 × GS_) :=
  bd_ (f10_in v1 (0 : Int32) (1 : Int32) g) fun z14 g13 => if z14 = 0 then some ((-2 : Int32), g13) else lr_ (gfr g13 325 v0) fun x15 => oc_ x15 none fun a16 => if inb v1 (gln g13 21 a16) then if (gai g13 21 a16 v1.toInt.toNat) = 0 then some ((-5 : Int32), g13) else f10_restore_b26 FU_ v0 v1 (0 : Int32) g13 else none
theorem t10_restore (v0 : Nat) (v1 : Int32) (g : GS_) : Cn_ yX10_restore cX10_restore 3 (some .int) 1 22 EI_ [.inr (10, some v0), .inl v1] g (f10_restore v0 v1 g) := by
  refine k_method (own := RX10) (ini := false) (L1 := [some (.inr (10, some v0)), some (.inl v1), none]) (by decide +kernel) rfl (fun h => by cases h) (Nat.le_of_ble_eq_true rfl) rfl ?_
  unfold f10_restore
  refine k_iloadn (j := 1) dX10_restore_0 rfl rfl ?_
  refine k_iconst (v := (0 : Int32)) dX10_restore_1 rfl ?_
  refine k_iconst (v := (1 : Int32)) dX10_restore_2 rfl ?_
  refine k_callSi [.inl v1, .inl (0 : Int32), .inl (1 : Int32)] (t10_in v1 (0 : Int32) (1 : Int32) g) cw_cX10_in ml_10_44 rfl rfl (by decide) (by decide) (Nat.le_of_ble_eq_true rfl) dX10_restore_3 (fun z14 g13 => ?_)
  refine k_ifne (tgt := 12) dX10_restore_6 (by decide) (fun _ => ?_) (fun _ => ?_)
  · refine k_bipush (v := (-2 : Int32)) dX10_restore_9 rfl ?_
    exact k_ireturn rfl dX10_restore_11
  refine k_aloadn (j := 0) dX10_restore_12 rfl rfl ?_
  refine k_getr fg_10_25 rfl rfl dX10_restore_13 (fun x15 => ?_)
  refine k_iloadn (j := 1) dX10_restore_16 rfl rfl ?_
  rcases x15 with _ | a16
  · exact k_ocn
  refine k_ocs ?_
  refine k_zald dX10_restore_17 ?_
  refine k_ifne (tgt := 24) dX10_restore_18 (by decide) (fun _ => ?_) (fun _ => ?_)
  · refine k_bipush (v := (-5 : Int32)) dX10_restore_21 rfl ?_
    exact k_ireturn rfl dX10_restore_23
  refine k_iconst (v := (0 : Int32)) dX10_restore_24 rfl ?_
  refine k_istn (j := 2) (L' := [some (.inr (10, some v0)), some (.inl v1), some (.inl (0 : Int32))]) dX10_restore_25 rfl (by decide) rfl ?_
  exact t10_restore_b26 FU_ v0 v1 (0 : Int32) g13
