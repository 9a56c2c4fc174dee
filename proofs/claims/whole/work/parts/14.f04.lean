/-! methods as functions over numbers, and that the machine does them: written by wip/whole/gen/mkparts.py (decode rows: printed names) -/
theorem dX9_duration_0 : decode cX9_duration 0 = .ok (.aload_n 0, 1) := by decide +kernel
theorem dX9_duration_1 : decode cX9_duration 1 = .ok (.getfield 10, 3) := by decide +kernel
theorem dX9_duration_4 : decode cX9_duration 4 = .ok (.iload_n 1, 1) := by decide +kernel
theorem dX9_duration_5 : decode cX9_duration 5 = .ok (.invokevirtual 122, 3) := by decide +kernel
theorem dX9_duration_8 : decode cX9_duration 8 = .ok (.astore_n 3, 1) := by decide +kernel
theorem dX9_duration_9 : decode cX9_duration 9 = .ok (.aload_n 0, 1) := by decide +kernel
theorem dX9_duration_10 : decode cX9_duration 10 = .ok (.getfield 10, 3) := by decide +kernel
theorem dX9_duration_13 : decode cX9_duration 13 = .ok (.iload_n 2, 1) := by decide +kernel
theorem dX9_duration_14 : decode cX9_duration 14 = .ok (.invokevirtual 217, 3) := by decide +kernel
theorem dX9_duration_17 : decode cX9_duration 17 = .ok (.astore 4, 2) := by decide +kernel
theorem dX9_duration_19 : decode cX9_duration 19 = .ok (.aload_n 3, 1) := by decide +kernel
theorem dX9_duration_20 : decode cX9_duration 20 = .ok (.ifnull 8, 3) := by decide +kernel
theorem dX9_duration_23 : decode cX9_duration 23 = .ok (.aload 4, 2) := by decide +kernel
theorem dX9_duration_25 : decode cX9_duration 25 = .ok (.ifnonnull 5, 3) := by decide +kernel
theorem dX9_duration_28 : decode cX9_duration 28 = .ok (.iconst (-1), 1) := by decide +kernel
theorem dX9_duration_29 : decode cX9_duration 29 = .ok (.ireturn, 1) := by decide +kernel
theorem dX9_duration_30 : decode cX9_duration 30 = .ok (.aload_n 3, 1) := by decide +kernel
theorem dX9_duration_31 : decode cX9_duration 31 = .ok (.getfield 126, 3) := by decide +kernel
theorem dX9_duration_34 : decode cX9_duration 34 = .ok (.astore 5, 2) := by decide +kernel
theorem dX9_duration_36 : decode cX9_duration 36 = .ok (.iconst 0, 1) := by decide +kernel
theorem dX9_duration_37 : decode cX9_duration 37 = .ok (.istore 6, 2) := by decide +kernel
theorem dX9_duration_39 : decode cX9_duration 39 = .ok (.iconst 0, 1) := by decide +kernel
theorem dX9_duration_40 : decode cX9_duration 40 = .ok (.istore 7, 2) := by decide +kernel
theorem dX9_duration_42 : decode cX9_duration 42 = .ok (.iload 7, 2) := by decide +kernel
theorem dX9_duration_44 : decode cX9_duration 44 = .ok (.aload 5, 2) := by decide +kernel
theorem dX9_duration_46 : decode cX9_duration 46 = .ok (.getfield 248, 3) := by decide +kernel
theorem dX9_duration_49 : decode cX9_duration 49 = .ok (.if_icmp .ge 41, 3) := by decide +kernel
theorem dX9_duration_52 : decode cX9_duration 52 = .ok (.iload 6, 2) := by decide +kernel
theorem dX9_duration_54 : decode cX9_duration 54 = .ok (.aload 4, 2) := by decide +kernel
theorem dX9_duration_56 : decode cX9_duration 56 = .ok (.aload 5, 2) := by decide +kernel
theorem dX9_duration_58 : decode cX9_duration 58 = .ok (.iload 7, 2) := by decide +kernel
theorem dX9_duration_60 : decode cX9_duration 60 = .ok (.iconst 0, 1) := by decide +kernel
theorem dX9_duration_61 : decode cX9_duration 61 = .ok (.invokevirtual 239, 3) := by decide +kernel
theorem dX9_duration_64 : decode cX9_duration 64 = .ok (.invokevirtual 251, 3) := by decide +kernel
theorem dX9_duration_67 : decode cX9_duration 67 = .ok (.aload 4, 2) := by decide +kernel
theorem dX9_duration_69 : decode cX9_duration 69 = .ok (.aload 5, 2) := by decide +kernel
theorem dX9_duration_71 : decode cX9_duration 71 = .ok (.iload 7, 2) := by decide +kernel
theorem dX9_duration_73 : decode cX9_duration 73 = .ok (.iconst 1, 1) := by decide +kernel
theorem dX9_duration_74 : decode cX9_duration 74 = .ok (.invokevirtual 239, 3) := by decide +kernel
theorem dX9_duration_77 : decode cX9_duration 77 = .ok (.invokevirtual 251, 3) := by decide +kernel
theorem dX9_duration_80 : decode cX9_duration 80 = .ok (.iadd, 1) := by decide +kernel
theorem dX9_duration_81 : decode cX9_duration 81 = .ok (.iadd, 1) := by decide +kernel
theorem dX9_duration_82 : decode cX9_duration 82 = .ok (.istore 6, 2) := by decide +kernel
theorem dX9_duration_84 : decode cX9_duration 84 = .ok (.iinc 7 1, 3) := by decide +kernel
theorem dX9_duration_87 : decode cX9_duration 87 = .ok (.goto (-45), 3) := by decide +kernel
theorem dX9_duration_90 : decode cX9_duration 90 = .ok (.aload 5, 2) := by decide +kernel
theorem dX9_duration_92 : decode cX9_duration 92 = .ok (.getfield 132, 3) := by decide +kernel
theorem dX9_duration_95 : decode cX9_duration 95 = .ok (.iload 6, 2) := by decide +kernel
theorem dX9_duration_97 : decode cX9_duration 97 = .ok (.imul, 1) := by decide +kernel
theorem dX9_duration_98 : decode cX9_duration 98 = .ok (.ireturn, 1) := by decide +kernel
def f9_duration_b42 : Nat → (Option Nat) → (Option Nat) → Int32 → Int32 → GS_ → Option (Int32 × GS_)
  | 0, _, _, _, _, _ => none
  | n + 1, v4, v5, v6, v7, g =>
    oc_ v5 none fun a1 => if (gfi g 139 a1) ≤ v7 then some (((gfi g 131 a1) * v6), g) else bd_ (f4_loadOn a1 v7 (0 : Int32) g) fun z3 g2 => oc_ v4 none fun a4 => bd_ (f5_ticksFor a4 z3 g2) fun z6 g5 => bd_ (f4_loadOn a1 v7 (1 : Int32) g5) fun z8 g7 => bd_ (f5_ticksFor a4 z8 g7) fun z10 g9 => lr_ (v6 + (z6 + z10)) fun z11 => (f9_duration_b42 n) (some a4) (some a1) z11 (v7 + (1 : Int32)) g9
theorem t9_duration_b42 : ∀ (n : Nat) (v4 : Option Nat) (v5 : Option Nat) (v6 : Int32) (v7 : Int32) (g : GS_), K_ RX9 cX9_duration 8 (some .int) 3 65 false EI_ 42 [none, none, none, none, some (.inr (5, v4)), some (.inr (4, v5)), some (.inl v6), some (.inl v7)] [] g (f9_duration_b42 n v4 v5 v6 v7 g) := by
  intro n
  induction n with
  | zero =>
    intro v4 v5 v6 v7 g
    exact k_fail
  | succ n ih =>
    intro v4 v5 v6 v7 g
    show K_ RX9 cX9_duration 8 (some .int) 3 65 false EI_ 42 [none, none, none, none, some (.inr (5, v4)), some (.inr (4, v5)), some (.inl v6), some (.inl v7)] [] g (oc_ v5 none fun a1 => if (gfi g 139 a1) ≤ v7 then some (((gfi g 131 a1) * v6), g) else bd_ (f4_loadOn a1 v7 (0 : Int32) g) fun z3 g2 => oc_ v4 none fun a4 => bd_ (f5_ticksFor a4 z3 g2) fun z6 g5 => bd_ (f4_loadOn a1 v7 (1 : Int32) g5) fun z8 g7 => bd_ (f5_ticksFor a4 z8 g7) fun z10 g9 => lr_ (v6 + (z6 + z10)) fun z11 => (f9_duration_b42 n) (some a4) (some a1) z11 (v7 + (1 : Int32)) g9)
    refine k_iload dX9_duration_42 rfl ?_
    refine k_aload dX9_duration_44 rfl ?_
    rcases v5 with _ | a1
    · exact k_ocn
    refine k_ocs ?_
    refine k_geti fg_9_248 rfl rfl dX9_duration_46 ?_
    refine k_icmpge (tgt := 90) dX9_duration_49 (by decide) (fun _ => ?_) (fun _ => ?_)
    · refine k_aload dX9_duration_90 rfl ?_
      refine k_geti fg_9_132 rfl rfl dX9_duration_92 ?_
      refine k_iload dX9_duration_95 rfl ?_
      refine k_imul dX9_duration_97 ?_
      exact k_ireturn rfl dX9_duration_98
    refine k_iload dX9_duration_52 rfl ?_
    refine k_aload dX9_duration_54 rfl ?_
    refine k_aload dX9_duration_56 rfl ?_
    refine k_iload dX9_duration_58 rfl ?_
    refine k_iconst (v := (0 : Int32)) dX9_duration_60 rfl ?_
    refine k_callVi [.inl v7, .inl (0 : Int32)] (t4_loadOn a1 v7 (0 : Int32) g) cw_cX4_loadOn (Or.inl ml_9_239) rfl rfl (by decide) (by decide) (Nat.le_of_ble_eq_true rfl) dX9_duration_61 (fun z3 g2 => ?_)
    rcases v4 with _ | a4
    · exact k_ocn
    refine k_ocs ?_
    refine k_callVi [.inl z3] (t5_ticksFor a4 z3 g2) cw_cX5_ticksFor (Or.inl ml_9_251) rfl rfl (by decide) (by decide) (Nat.le_of_ble_eq_true rfl) dX9_duration_64 (fun z6 g5 => ?_)
    refine k_aload dX9_duration_67 rfl ?_
    refine k_aload dX9_duration_69 rfl ?_
    refine k_iload dX9_duration_71 rfl ?_
    refine k_iconst (v := (1 : Int32)) dX9_duration_73 rfl ?_
    refine k_callVi [.inl v7, .inl (1 : Int32)] (t4_loadOn a1 v7 (1 : Int32) g5) cw_cX4_loadOn (Or.inl ml_9_239) rfl rfl (by decide) (by decide) (Nat.le_of_ble_eq_true rfl) dX9_duration_74 (fun z8 g7 => ?_)
    refine k_callVi [.inl z8] (t5_ticksFor a4 z8 g7) cw_cX5_ticksFor (Or.inl ml_9_251) rfl rfl (by decide) (by decide) (Nat.le_of_ble_eq_true rfl) dX9_duration_77 (fun z10 g9 => ?_)
    refine k_iadd dX9_duration_80 ?_
    refine k_iadd dX9_duration_81 ?_
    refine k_istl (L2 := fun z11 => [none, none, none, none, some (.inr (5, some a4)), some (.inr (4, some a1)), some (.inl z11), some (.inl v7)]) dX9_duration_82 (by decide) (fun _ => rfl) (fun z11 => ?_)
    refine k_iinc (v := (v7 + (1 : Int32))) (L' := [none, none, none, none, some (.inr (5, some a4)), some (.inr (4, some a1)), some (.inl z11), some (.inl (v7 + (1 : Int32)))]) dX9_duration_84 rfl rfl (by decide) rfl ?_
    refine k_goto (tgt := 42) dX9_duration_87 (by decide) ?_
    exact ih (some a4) (some a1) z11 (v7 + (1 : Int32)) g9
def f9_duration (v0 : Nat) (v1 : Int32) (v2 : Int32) (g : GS_) : Option (Int32 × GS_) :=
  lr_ (gfr g 288 v0) fun x12 => oc_ x12 none fun a13 => bd_ (f8_jobAt a13 v1 g) fun x15 g14 => lr_ (gfr g14 288 v0) fun x16 => oc_ x16 none fun a17 => bd_ (f8_printerAt a17 v2 g14) fun x19 g18 => oc_ x15 (some ((-1 : Int32), g18)) fun a20 => oc_ x19 (some ((-1 : Int32), g18)) fun a21 => lr_ (gfr g18 33 a20) fun x22 => f9_duration_b42 FU_ (some a21) x22 (0 : Int32) (0 : Int32) g18
theorem t9_duration (v0 : Nat) (v1 : Int32) (v2 : Int32) (g : GS_) : Cn_ yX9_duration cX9_duration 8 (some .int) 3 65 EI_ [.inr (9, some v0), .inl v1, .inl v2] g (f9_duration v0 v1 v2 g) := by
  refine k_method (own := RX9) (ini := false) (L1 := [some (.inr (9, some v0)), some (.inl v1), some (.inl v2), none, none, none, none, none]) (by decide +kernel) rfl (fun h => by cases h) (Nat.le_of_ble_eq_true rfl) rfl ?_
  unfold f9_duration
  refine k_aloadn (j := 0) dX9_duration_0 rfl rfl ?_
  refine k_getr fg_9_10 rfl rfl dX9_duration_1 (fun x12 => ?_)
  refine k_iloadn (j := 1) dX9_duration_4 rfl rfl ?_
  rcases x12 with _ | a13
  · exact k_ocn
  refine k_ocs ?_
  refine k_callVr [.inl v1] (t8_jobAt a13 v1 g) cw_cX8_jobAt (Or.inl ml_9_122) rfl rfl (by decide) (by decide) (Nat.le_of_ble_eq_true rfl) dX9_duration_5 (fun x15 g14 => ?_)
  refine k_astn (j := 3) (L' := [some (.inr (9, some v0)), some (.inl v1), some (.inl v2), some (.inr (1, x15)), none, none, none, none]) dX9_duration_8 rfl (by decide) rfl ?_
  refine k_aloadn (j := 0) dX9_duration_9 rfl rfl ?_
  refine k_getr fg_9_10 rfl rfl dX9_duration_10 (fun x16 => ?_)
  refine k_iloadn (j := 2) dX9_duration_13 rfl rfl ?_
  rcases x16 with _ | a17
  · exact k_ocn
  refine k_ocs ?_
  refine k_callVr [.inl v2] (t8_printerAt a17 v2 g14) cw_cX8_printerAt (Or.inl ml_9_217) rfl rfl (by decide) (by decide) (Nat.le_of_ble_eq_true rfl) dX9_duration_14 (fun x19 g18 => ?_)
  refine k_ast (L' := [some (.inr (9, some v0)), some (.inl v1), some (.inl v2), some (.inr (1, x15)), some (.inr (5, x19)), none, none, none]) dX9_duration_17 (by decide) rfl ?_
  refine k_aloadn (j := 3) dX9_duration_19 rfl rfl ?_
  rcases x15 with _ | a20
  · refine k_ifnulln (tgt := 28) dX9_duration_20 (by decide) ?_
    refine k_iconst (v := (-1 : Int32)) dX9_duration_28 rfl ?_
    exact k_ireturn rfl dX9_duration_29
  refine k_ifnulls dX9_duration_20 ?_
  refine k_aload dX9_duration_23 rfl ?_
  rcases x19 with _ | a21
  · refine k_ifnonnulln dX9_duration_25 ?_
    refine k_iconst (v := (-1 : Int32)) dX9_duration_28 rfl ?_
    exact k_ireturn rfl dX9_duration_29
  refine k_ifnonnulls (tgt := 30) dX9_duration_25 (by decide) ?_
  refine k_aloadn (j := 3) dX9_duration_30 rfl rfl ?_
  refine k_getr fg_9_126 rfl rfl dX9_duration_31 (fun x22 => ?_)
  refine k_ast (L' := [some (.inr (9, some v0)), some (.inl v1), some (.inl v2), some (.inr (1, some a20)), some (.inr (5, some a21)), some (.inr (4, x22)), none, none]) dX9_duration_34 (by decide) rfl ?_
  refine k_iconst (v := (0 : Int32)) dX9_duration_36 rfl ?_
  refine k_ist (L' := [some (.inr (9, some v0)), some (.inl v1), some (.inl v2), some (.inr (1, some a20)), some (.inr (5, some a21)), some (.inr (4, x22)), some (.inl (0 : Int32)), none]) dX9_duration_37 (by decide) rfl ?_
  refine k_iconst (v := (0 : Int32)) dX9_duration_39 rfl ?_
  refine k_ist (L' := [some (.inr (9, some v0)), some (.inl v1), some (.inl v2), some (.inr (1, some a20)), some (.inr (5, some a21)), some (.inr (4, x22)), some (.inl (0 : Int32)), some (.inl (0 : Int32))]) dX9_duration_40 (by decide) rfl ?_
  refine k_msk (L' := [none, none, none, none, some (.inr (5, some a21)), some (.inr (4, x22)), some (.inl (0 : Int32)), some (.inl (0 : Int32))]) [false, false, false, false, true, true, true, true] rfl ?_
  exact t9_duration_b42 FU_ (some a21) x22 (0 : Int32) (0 : Int32) g18
theorem dX9_setRules_0 : decode cX9_setRules 0 = .ok (.iload_n 1, 1) := by decide +kernel
theorem dX9_setRules_1 : decode cX9_setRules 1 = .ok (.iconst 1, 1) := by decide +kernel
theorem dX9_setRules_2 : decode cX9_setRules 2 = .ok (.sipush 1000, 3) := by decide +kernel
theorem dX9_setRules_5 : decode cX9_setRules 5 = .ok (.invokestatic 37, 3) := by decide +kernel
theorem dX9_setRules_8 : decode cX9_setRules 8 = .ok (.ifCond .eq 14, 3) := by decide +kernel
theorem dX9_setRules_11 : decode cX9_setRules 11 = .ok (.iload_n 2, 1) := by decide +kernel
theorem dX9_setRules_12 : decode cX9_setRules 12 = .ok (.iconst 0, 1) := by decide +kernel
theorem dX9_setRules_13 : decode cX9_setRules 13 = .ok (.sipush 1000, 3) := by decide +kernel
theorem dX9_setRules_16 : decode cX9_setRules 16 = .ok (.invokestatic 37, 3) := by decide +kernel
theorem dX9_setRules_19 : decode cX9_setRules 19 = .ok (.ifCond .ne 6, 3) := by decide +kernel
theorem dX9_setRules_22 : decode cX9_setRules 22 = .ok (.bipush (-2), 2) := by decide +kernel
theorem dX9_setRules_24 : decode cX9_setRules 24 = .ok (.ireturn, 1) := by decide +kernel
theorem dX9_setRules_25 : decode cX9_setRules 25 = .ok (.aload_n 0, 1) := by decide +kernel
theorem dX9_setRules_26 : decode cX9_setRules 26 = .ok (.getfield 10, 3) := by decide +kernel
theorem dX9_setRules_29 : decode cX9_setRules 29 = .ok (.getfield 168, 3) := by decide +kernel
theorem dX9_setRules_32 : decode cX9_setRules 32 = .ok (.istore_n 3, 1) := by decide +kernel
theorem dX9_setRules_33 : decode cX9_setRules 33 = .ok (.aload_n 0, 1) := by decide +kernel
theorem dX9_setRules_34 : decode cX9_setRules 34 = .ok (.getfield 10, 3) := by decide +kernel
theorem dX9_setRules_37 : decode cX9_setRules 37 = .ok (.iload_n 1, 1) := by decide +kernel
theorem dX9_setRules_38 : decode cX9_setRules 38 = .ok (.putfield 168, 3) := by decide +kernel
theorem dX9_setRules_41 : decode cX9_setRules 41 = .ok (.aload_n 0, 1) := by decide +kernel
theorem dX9_setRules_42 : decode cX9_setRules 42 = .ok (.getfield 10, 3) := by decide +kernel
theorem dX9_setRules_45 : decode cX9_setRules 45 = .ok (.iload_n 2, 1) := by decide +kernel
theorem dX9_setRules_46 : decode cX9_setRules 46 = .ok (.putfield 254, 3) := by decide +kernel
theorem dX9_setRules_49 : decode cX9_setRules 49 = .ok (.iload_n 3, 1) := by decide +kernel
theorem dX9_setRules_50 : decode cX9_setRules 50 = .ok (.ireturn, 1) := by decide +kernel
def f9_setRules (v0 : Nat) (v1 : Int32) (v2 : Int32) (g : GS_) : Option (Int32 × GS_) :=
  bd_ (f9_within v1 (1 : Int32) (1000 : Int32) g) fun z2 g1 => if z2 = 0 then some ((-2 : Int32), g1) else bd_ (f9_within v2 (0 : Int32) (1000 : Int32) g1) fun z4 g3 => if z4 = 0 then some ((-2 : Int32), g3) else lr_ (gfr g3 288 v0) fun x5 => oc_ x5 none fun a6 => lr_ (gfi g3 269 a6) fun z7 => lr_ (gfr g3 288 v0) fun x8 => oc_ x8 none fun a9 => lr_ (sfi g3 269 a9 v1) fun g10 => lr_ (gfr g10 288 v0) fun x11 => oc_ x11 none fun a12 => lr_ (sfi g10 270 a12 v2) fun g13 => some (z7, g13)
theorem t9_setRules (v0 : Nat) (v1 : Int32) (v2 : Int32) (g : GS_) : Cn_ yX9_setRules cX9_setRules 4 (some .int) 1 22 EI_ [.inr (9, some v0), .inl v1, .inl v2] g (f9_setRules v0 v1 v2 g) := by
  refine k_method (own := RX9) (ini := false) (L1 := [some (.inr (9, some v0)), some (.inl v1), some (.inl v2), none]) (by decide +kernel) rfl (fun h => by cases h) (Nat.le_of_ble_eq_true rfl) rfl ?_
  unfold f9_setRules
  refine k_iloadn (j := 1) dX9_setRules_0 rfl rfl ?_
  refine k_iconst (v := (1 : Int32)) dX9_setRules_1 rfl ?_
  refine k_sipush (v := (1000 : Int32)) dX9_setRules_2 rfl ?_
  refine k_callSi [.inl v1, .inl (1 : Int32), .inl (1000 : Int32)] (t9_within v1 (1 : Int32) (1000 : Int32) g) cw_cX9_within ml_9_37 rfl rfl (by decide) (by decide) (Nat.le_of_ble_eq_true rfl) dX9_setRules_5 (fun z2 g1 => ?_)
  refine k_ifeq (tgt := 22) dX9_setRules_8 (by decide) (fun _ => ?_) (fun _ => ?_)
  · refine k_bipush (v := (-2 : Int32)) dX9_setRules_22 rfl ?_
    exact k_ireturn rfl dX9_setRules_24
  refine k_iloadn (j := 2) dX9_setRules_11 rfl rfl ?_
  refine k_iconst (v := (0 : Int32)) dX9_setRules_12 rfl ?_
  refine k_sipush (v := (1000 : Int32)) dX9_setRules_13 rfl ?_
  refine k_callSi [.inl v2, .inl (0 : Int32), .inl (1000 : Int32)] (t9_within v2 (0 : Int32) (1000 : Int32) g1) cw_cX9_within ml_9_37 rfl rfl (by decide) (by decide) (Nat.le_of_ble_eq_true rfl) dX9_setRules_16 (fun z4 g3 => ?_)
  refine k_ifne (tgt := 25) dX9_setRules_19 (by decide) (fun _ => ?_) (fun _ => ?_)
  · refine k_bipush (v := (-2 : Int32)) dX9_setRules_22 rfl ?_
    exact k_ireturn rfl dX9_setRules_24
  refine k_aloadn (j := 0) dX9_setRules_25 rfl rfl ?_
  refine k_getr fg_9_10 rfl rfl dX9_setRules_26 (fun x5 => ?_)
  rcases x5 with _ | a6
  · exact k_ocn
  refine k_ocs ?_
  refine k_geti fg_9_168 rfl rfl dX9_setRules_29 ?_
  refine k_istnl (j := 3) (L2 := fun z7 => [some (.inr (9, some v0)), some (.inl v1), some (.inl v2), some (.inl z7)]) dX9_setRules_32 rfl (by decide) (fun _ => rfl) (fun z7 => ?_)
  refine k_aloadn (j := 0) dX9_setRules_33 rfl rfl ?_
  refine k_getr fg_9_10 rfl rfl dX9_setRules_34 (fun x8 => ?_)
  refine k_iloadn (j := 1) dX9_setRules_37 rfl rfl ?_
  rcases x8 with _ | a9
  · exact k_ocn
  refine k_ocs ?_
  refine k_puti fp_9_168 rfl rfl dX9_setRules_38 (fun g10 => ?_)
  refine k_aloadn (j := 0) dX9_setRules_41 rfl rfl ?_
  refine k_getr fg_9_10 rfl rfl dX9_setRules_42 (fun x11 => ?_)
  refine k_iloadn (j := 2) dX9_setRules_45 rfl rfl ?_
  rcases x11 with _ | a12
  · exact k_ocn
  refine k_ocs ?_
  refine k_puti fp_9_254 rfl rfl dX9_setRules_46 (fun g13 => ?_)
  refine k_iloadn (j := 3) dX9_setRules_49 rfl rfl ?_
  exact k_ireturn rfl dX9_setRules_50
theorem dX9_setQuota_0 : decode cX9_setQuota 0 = .ok (.iload_n 1, 1) := by decide +kernel
theorem dX9_setQuota_1 : decode cX9_setQuota 1 = .ok (.iconst 0, 1) := by decide +kernel
theorem dX9_setQuota_2 : decode cX9_setQuota 2 = .ok (.iconst 5, 1) := by decide +kernel
theorem dX9_setQuota_3 : decode cX9_setQuota 3 = .ok (.invokestatic 37, 3) := by decide +kernel
theorem dX9_setQuota_6 : decode cX9_setQuota 6 = .ok (.ifCond .ne 5, 3) := by decide +kernel
theorem dX9_setQuota_9 : decode cX9_setQuota 9 = .ok (.iconst (-1), 1) := by decide +kernel
theorem dX9_setQuota_10 : decode cX9_setQuota 10 = .ok (.ireturn, 1) := by decide +kernel
theorem dX9_setQuota_11 : decode cX9_setQuota 11 = .ok (.iload_n 2, 1) := by decide +kernel
theorem dX9_setQuota_12 : decode cX9_setQuota 12 = .ok (.iconst 0, 1) := by decide +kernel
theorem dX9_setQuota_13 : decode cX9_setQuota 13 = .ok (.sipush 10000, 3) := by decide +kernel
theorem dX9_setQuota_16 : decode cX9_setQuota 16 = .ok (.invokestatic 37, 3) := by decide +kernel
theorem dX9_setQuota_19 : decode cX9_setQuota 19 = .ok (.ifCond .ne 6, 3) := by decide +kernel
theorem dX9_setQuota_22 : decode cX9_setQuota 22 = .ok (.bipush (-2), 2) := by decide +kernel
theorem dX9_setQuota_24 : decode cX9_setQuota 24 = .ok (.ireturn, 1) := by decide +kernel
theorem dX9_setQuota_25 : decode cX9_setQuota 25 = .ok (.aload_n 0, 1) := by decide +kernel
theorem dX9_setQuota_26 : decode cX9_setQuota 26 = .ok (.getfield 10, 3) := by decide +kernel
theorem dX9_setQuota_29 : decode cX9_setQuota 29 = .ok (.iload_n 1, 1) := by decide +kernel
theorem dX9_setQuota_30 : decode cX9_setQuota 30 = .ok (.invokevirtual 257, 3) := by decide +kernel
theorem dX9_setQuota_33 : decode cX9_setQuota 33 = .ok (.istore_n 3, 1) := by decide +kernel
theorem dX9_setQuota_34 : decode cX9_setQuota 34 = .ok (.aload_n 0, 1) := by decide +kernel
theorem dX9_setQuota_35 : decode cX9_setQuota 35 = .ok (.getfield 10, 3) := by decide +kernel
theorem dX9_setQuota_38 : decode cX9_setQuota 38 = .ok (.iload_n 1, 1) := by decide +kernel
theorem dX9_setQuota_39 : decode cX9_setQuota 39 = .ok (.iload_n 2, 1) := by decide +kernel
theorem dX9_setQuota_40 : decode cX9_setQuota 40 = .ok (.invokevirtual 260, 3) := by decide +kernel
theorem dX9_setQuota_43 : decode cX9_setQuota 43 = .ok (.iload_n 3, 1) := by decide +kernel
theorem dX9_setQuota_44 : decode cX9_setQuota 44 = .ok (.ireturn, 1) := by decide +kernel
def f9_setQuota (v0 : Nat) (v1 : Int32) (v2 : Int32) (g : GS_) : Option (Int32 × GS_) :=
  bd_ (f9_within v1 (0 : Int32) (5 : Int32) g) fun z2 g1 => if z2 = 0 then some ((-1 : Int32), g1) else bd_ (f9_within v2 (0 : Int32) (10000 : Int32) g1) fun z4 g3 => if z4 = 0 then some ((-2 : Int32), g3) else lr_ (gfr g3 288 v0) fun x5 => oc_ x5 none fun a6 => bd_ (f8_quotaOf a6 v1 g3) fun z8 g7 => lr_ (gfr g7 288 v0) fun x9 => oc_ x9 none fun a10 => bd_ (f8_changeQuota a10 v1 v2 g7) fun _ g11 => some (z8, g11)
theorem t9_setQuota (v0 : Nat) (v1 : Int32) (v2 : Int32) (g : GS_) : Cn_ yX9_setQuota cX9_setQuota 4 (some .int) 1 22 EI_ [.inr (9, some v0), .inl v1, .inl v2] g (f9_setQuota v0 v1 v2 g) := by
  refine k_method (own := RX9) (ini := false) (L1 := [some (.inr (9, some v0)), some (.inl v1), some (.inl v2), none]) (by decide +kernel) rfl (fun h => by cases h) (Nat.le_of_ble_eq_true rfl) rfl ?_
  unfold f9_setQuota
  refine k_iloadn (j := 1) dX9_setQuota_0 rfl rfl ?_
  refine k_iconst (v := (0 : Int32)) dX9_setQuota_1 rfl ?_
  refine k_iconst (v := (5 : Int32)) dX9_setQuota_2 rfl ?_
  refine k_callSi [.inl v1, .inl (0 : Int32), .inl (5 : Int32)] (t9_within v1 (0 : Int32) (5 : Int32) g) cw_cX9_within ml_9_37 rfl rfl (by decide) (by decide) (Nat.le_of_ble_eq_true rfl) dX9_setQuota_3 (fun z2 g1 => ?_)
  refine k_ifne (tgt := 11) dX9_setQuota_6 (by decide) (fun _ => ?_) (fun _ => ?_)
  · refine k_iconst (v := (-1 : Int32)) dX9_setQuota_9 rfl ?_
    exact k_ireturn rfl dX9_setQuota_10
  refine k_iloadn (j := 2) dX9_setQuota_11 rfl rfl ?_
  refine k_iconst (v := (0 : Int32)) dX9_setQuota_12 rfl ?_
  refine k_sipush (v := (10000 : Int32)) dX9_setQuota_13 rfl ?_
  refine k_callSi [.inl v2, .inl (0 : Int32), .inl (10000 : Int32)] (t9_within v2 (0 : Int32) (10000 : Int32) g1) cw_cX9_within ml_9_37 rfl rfl (by decide) (by decide) (Nat.le_of_ble_eq_true rfl) dX9_setQuota_16 (fun z4 g3 => ?_)
  refine k_ifne (tgt := 25) dX9_setQuota_19 (by decide) (fun _ => ?_) (fun _ => ?_)
  · refine k_bipush (v := (-2 : Int32)) dX9_setQuota_22 rfl ?_
    exact k_ireturn rfl dX9_setQuota_24
  refine k_aloadn (j := 0) dX9_setQuota_25 rfl rfl ?_
  refine k_getr fg_9_10 rfl rfl dX9_setQuota_26 (fun x5 => ?_)
  refine k_iloadn (j := 1) dX9_setQuota_29 rfl rfl ?_
  rcases x5 with _ | a6
  · exact k_ocn
  refine k_ocs ?_
  refine k_callVi [.inl v1] (t8_quotaOf a6 v1 g3) cw_cX8_quotaOf (Or.inl ml_9_257) rfl rfl (by decide) (by decide) (Nat.le_of_ble_eq_true rfl) dX9_setQuota_30 (fun z8 g7 => ?_)
  refine k_istn (j := 3) (L' := [some (.inr (9, some v0)), some (.inl v1), some (.inl v2), some (.inl z8)]) dX9_setQuota_33 rfl (by decide) rfl ?_
  refine k_aloadn (j := 0) dX9_setQuota_34 rfl rfl ?_
  refine k_getr fg_9_10 rfl rfl dX9_setQuota_35 (fun x9 => ?_)
  refine k_iloadn (j := 1) dX9_setQuota_38 rfl rfl ?_
  refine k_iloadn (j := 2) dX9_setQuota_39 rfl rfl ?_
  rcases x9 with _ | a10
  · exact k_ocn
  refine k_ocs ?_
  refine k_callVv [.inl v1, .inl v2] (t8_changeQuota a10 v1 v2 g7) cw_cX8_changeQuota (Or.inl ml_9_260) rfl rfl (by decide) (by decide) (Nat.le_of_ble_eq_true rfl) dX9_setQuota_40 (fun _ g11 => ?_)
  refine k_iloadn (j := 3) dX9_setQuota_43 rfl rfl ?_
  exact k_ireturn rfl dX9_setQuota_44
theorem dX9_promote_0 : decode cX9_promote 0 = .ok (.aload_n 0, 1) := by decide +kernel
theorem dX9_promote_1 : decode cX9_promote 1 = .ok (.getfield 10, 3) := by decide +kernel
theorem dX9_promote_4 : decode cX9_promote 4 = .ok (.iload_n 1, 1) := by decide +kernel
theorem dX9_promote_5 : decode cX9_promote 5 = .ok (.invokevirtual 122, 3) := by decide +kernel
theorem dX9_promote_8 : decode cX9_promote 8 = .ok (.astore_n 3, 1) := by decide +kernel
theorem dX9_promote_9 : decode cX9_promote 9 = .ok (.aload_n 3, 1) := by decide +kernel
theorem dX9_promote_10 : decode cX9_promote 10 = .ok (.ifnonnull 5, 3) := by decide +kernel
theorem dX9_promote_13 : decode cX9_promote 13 = .ok (.iconst (-1), 1) := by decide +kernel
theorem dX9_promote_14 : decode cX9_promote 14 = .ok (.ireturn, 1) := by decide +kernel
theorem dX9_promote_15 : decode cX9_promote 15 = .ok (.iload_n 2, 1) := by decide +kernel
theorem dX9_promote_16 : decode cX9_promote 16 = .ok (.iconst 0, 1) := by decide +kernel
theorem dX9_promote_17 : decode cX9_promote 17 = .ok (.bipush 9, 2) := by decide +kernel
theorem dX9_promote_19 : decode cX9_promote 19 = .ok (.invokestatic 37, 3) := by decide +kernel
theorem dX9_promote_22 : decode cX9_promote 22 = .ok (.ifCond .ne 6, 3) := by decide +kernel
theorem dX9_promote_25 : decode cX9_promote 25 = .ok (.bipush (-2), 2) := by decide +kernel
theorem dX9_promote_27 : decode cX9_promote 27 = .ok (.ireturn, 1) := by decide +kernel
theorem dX9_promote_28 : decode cX9_promote 28 = .ok (.aload_n 3, 1) := by decide +kernel
theorem dX9_promote_29 : decode cX9_promote 29 = .ok (.invokevirtual 263, 3) := by decide +kernel
theorem dX9_promote_32 : decode cX9_promote 32 = .ok (.ifCond .eq 6, 3) := by decide +kernel
theorem dX9_promote_35 : decode cX9_promote 35 = .ok (.bipush (-5), 2) := by decide +kernel
theorem dX9_promote_37 : decode cX9_promote 37 = .ok (.ireturn, 1) := by decide +kernel
theorem dX9_promote_38 : decode cX9_promote 38 = .ok (.aload_n 3, 1) := by decide +kernel
theorem dX9_promote_39 : decode cX9_promote 39 = .ok (.getfield 144, 3) := by decide +kernel
theorem dX9_promote_42 : decode cX9_promote 42 = .ok (.istore 4, 2) := by decide +kernel
theorem dX9_promote_44 : decode cX9_promote 44 = .ok (.aload_n 3, 1) := by decide +kernel
theorem dX9_promote_45 : decode cX9_promote 45 = .ok (.iload_n 2, 1) := by decide +kernel
theorem dX9_promote_46 : decode cX9_promote 46 = .ok (.putfield 144, 3) := by decide +kernel
theorem dX9_promote_49 : decode cX9_promote 49 = .ok (.iload 4, 2) := by decide +kernel
theorem dX9_promote_51 : decode cX9_promote 51 = .ok (.ireturn, 1) := by decide +kernel
def f9_promote (v0 : Nat) (v1 : Int32) (v2 : Int32) (g : GS_) : Option (Int32 × GS_) :=
  lr_ (gfr g 288 v0) fun x1 => oc_ x1 none fun a2 => bd_ (f8_jobAt a2 v1 g) fun x4 g3 => oc_ x4 (some ((-1 : Int32), g3)) fun a5 => bd_ (f9_within v2 (0 : Int32) (9 : Int32) g3) fun z7 g6 => if z7 = 0 then some ((-2 : Int32), g6) else bd_ (f1_isOver a5 g6) fun z9 g8 => if z9 = 0 then lr_ (gfi g8 34 a5) fun z10 => lr_ (sfi g8 34 a5 v2) fun g11 => some (z10, g11) else some ((-5 : Int32), g8)
theorem t9_promote (v0 : Nat) (v1 : Int32) (v2 : Int32) (g : GS_) : Cn_ yX9_promote cX9_promote 5 (some .int) 1 22 EI_ [.inr (9, some v0), .inl v1, .inl v2] g (f9_promote v0 v1 v2 g) := by
  refine k_method (own := RX9) (ini := false) (L1 := [some (.inr (9, some v0)), some (.inl v1), some (.inl v2), none, none]) (by decide +kernel) rfl (fun h => by cases h) (Nat.le_of_ble_eq_true rfl) rfl ?_
  unfold f9_promote
  refine k_aloadn (j := 0) dX9_promote_0 rfl rfl ?_
  refine k_getr fg_9_10 rfl rfl dX9_promote_1 (fun x1 => ?_)
  refine k_iloadn (j := 1) dX9_promote_4 rfl rfl ?_
  rcases x1 with _ | a2
  · exact k_ocn
  refine k_ocs ?_
  refine k_callVr [.inl v1] (t8_jobAt a2 v1 g) cw_cX8_jobAt (Or.inl ml_9_122) rfl rfl (by decide) (by decide) (Nat.le_of_ble_eq_true rfl) dX9_promote_5 (fun x4 g3 => ?_)
  refine k_astn (j := 3) (L' := [some (.inr (9, some v0)), some (.inl v1), some (.inl v2), some (.inr (1, x4)), none]) dX9_promote_8 rfl (by decide) rfl ?_
  refine k_aloadn (j := 3) dX9_promote_9 rfl rfl ?_
  rcases x4 with _ | a5
  · refine k_ifnonnulln dX9_promote_10 ?_
    refine k_iconst (v := (-1 : Int32)) dX9_promote_13 rfl ?_
    exact k_ireturn rfl dX9_promote_14
  refine k_ifnonnulls (tgt := 15) dX9_promote_10 (by decide) ?_
  refine k_iloadn (j := 2) dX9_promote_15 rfl rfl ?_
  refine k_iconst (v := (0 : Int32)) dX9_promote_16 rfl ?_
  refine k_bipush (v := (9 : Int32)) dX9_promote_17 rfl ?_
  refine k_callSi [.inl v2, .inl (0 : Int32), .inl (9 : Int32)] (t9_within v2 (0 : Int32) (9 : Int32) g3) cw_cX9_within ml_9_37 rfl rfl (by decide) (by decide) (Nat.le_of_ble_eq_true rfl) dX9_promote_19 (fun z7 g6 => ?_)
  refine k_ifne (tgt := 28) dX9_promote_22 (by decide) (fun _ => ?_) (fun _ => ?_)
  · refine k_bipush (v := (-2 : Int32)) dX9_promote_25 rfl ?_
    exact k_ireturn rfl dX9_promote_27
  refine k_aloadn (j := 3) dX9_promote_28 rfl rfl ?_
  refine k_callVi [] (t1_isOver a5 g6) cw_cX1_isOver (Or.inl ml_9_263) rfl rfl (by decide) (by decide) (Nat.le_of_ble_eq_true rfl) dX9_promote_29 (fun z9 g8 => ?_)
  refine k_ifeq (tgt := 38) dX9_promote_32 (by decide) (fun _ => ?_) (fun _ => ?_)
  · refine k_aloadn (j := 3) dX9_promote_38 rfl rfl ?_
    refine k_geti fg_9_144 rfl rfl dX9_promote_39 ?_
    refine k_istl (L2 := fun z10 => [some (.inr (9, some v0)), some (.inl v1), some (.inl v2), some (.inr (1, some a5)), some (.inl z10)]) dX9_promote_42 (by decide) (fun _ => rfl) (fun z10 => ?_)
    refine k_aloadn (j := 3) dX9_promote_44 rfl rfl ?_
    refine k_iloadn (j := 2) dX9_promote_45 rfl rfl ?_
    refine k_puti fp_9_144 rfl rfl dX9_promote_46 (fun g11 => ?_)
    refine k_iload dX9_promote_49 rfl ?_
    exact k_ireturn rfl dX9_promote_51
  refine k_bipush (v := (-5 : Int32)) dX9_promote_35 rfl ?_
  exact k_ireturn rfl dX9_promote_37
theorem dX9_hold_0 : decode cX9_hold 0 = .ok (.aload_n 0, 1) := by decide +kernel
theorem dX9_hold_1 : decode cX9_hold 1 = .ok (.getfield 10, 3) := by decide +kernel
theorem dX9_hold_4 : decode cX9_hold 4 = .ok (.iload_n 1, 1) := by decide +kernel
theorem dX9_hold_5 : decode cX9_hold 5 = .ok (.invokevirtual 122, 3) := by decide +kernel
theorem dX9_hold_8 : decode cX9_hold 8 = .ok (.astore_n 2, 1) := by decide +kernel
theorem dX9_hold_9 : decode cX9_hold 9 = .ok (.aload_n 2, 1) := by decide +kernel
theorem dX9_hold_10 : decode cX9_hold 10 = .ok (.ifnonnull 5, 3) := by decide +kernel
theorem dX9_hold_13 : decode cX9_hold 13 = .ok (.iconst (-1), 1) := by decide +kernel
theorem dX9_hold_14 : decode cX9_hold 14 = .ok (.ireturn, 1) := by decide +kernel
theorem dX9_hold_15 : decode cX9_hold 15 = .ok (.aload_n 2, 1) := by decide +kernel
theorem dX9_hold_16 : decode cX9_hold 16 = .ok (.invokevirtual 263, 3) := by decide +kernel
theorem dX9_hold_19 : decode cX9_hold 19 = .ok (.ifCond .ne 11, 3) := by decide +kernel
theorem dX9_hold_22 : decode cX9_hold 22 = .ok (.aload_n 2, 1) := by decide +kernel
theorem dX9_hold_23 : decode cX9_hold 23 = .ok (.getfield 159, 3) := by decide +kernel
theorem dX9_hold_26 : decode cX9_hold 26 = .ok (.iconst 2, 1) := by decide +kernel
theorem dX9_hold_27 : decode cX9_hold 27 = .ok (.if_icmp .ne 6, 3) := by decide +kernel
theorem dX9_hold_30 : decode cX9_hold 30 = .ok (.bipush (-5), 2) := by decide +kernel
theorem dX9_hold_32 : decode cX9_hold 32 = .ok (.ireturn, 1) := by decide +kernel
theorem dX9_hold_33 : decode cX9_hold 33 = .ok (.aload_n 2, 1) := by decide +kernel
theorem dX9_hold_34 : decode cX9_hold 34 = .ok (.iconst 2, 1) := by decide +kernel
theorem dX9_hold_35 : decode cX9_hold 35 = .ok (.invokevirtual 266, 3) := by decide +kernel
theorem dX9_hold_38 : decode cX9_hold 38 = .ok (.aload_n 2, 1) := by decide +kernel
theorem dX9_hold_39 : decode cX9_hold 39 = .ok (.getfield 159, 3) := by decide +kernel
theorem dX9_hold_42 : decode cX9_hold 42 = .ok (.ireturn, 1) := by decide +kernel
def f9_hold (v0 : Nat) (v1 : Int32) (g : GS_) : Option (Int32 × GS_) :=
  lr_ (gfr g 288 v0) fun x1 => oc_ x1 none fun a2 => bd_ (f8_jobAt a2 v1 g) fun x4 g3 => oc_ x4 (some ((-1 : Int32), g3)) fun a5 => bd_ (f1_isOver a5 g3) fun z7 g6 => if z7 = 0 then if (gfi g6 35 a5) = (2 : Int32) then some ((-5 : Int32), g6) else bd_ (f1_demand a5 (2 : Int32) g6) fun _ g8 => some ((gfi g8 35 a5), g8) else some ((-5 : Int32), g6)
theorem t9_hold (v0 : Nat) (v1 : Int32) (g : GS_) : Cn_ yX9_hold cX9_hold 3 (some .int) 1 21 EI_ [.inr (9, some v0), .inl v1] g (f9_hold v0 v1 g) := by
  refine k_method (own := RX9) (ini := false) (L1 := [some (.inr (9, some v0)), some (.inl v1), none]) (by decide +kernel) rfl (fun h => by cases h) (Nat.le_of_ble_eq_true rfl) rfl ?_
  unfold f9_hold
  refine k_aloadn (j := 0) dX9_hold_0 rfl rfl ?_
  refine k_getr fg_9_10 rfl rfl dX9_hold_1 (fun x1 => ?_)
  refine k_iloadn (j := 1) dX9_hold_4 rfl rfl ?_
  rcases x1 with _ | a2
  · exact k_ocn
  refine k_ocs ?_
  refine k_callVr [.inl v1] (t8_jobAt a2 v1 g) cw_cX8_jobAt (Or.inl ml_9_122) rfl rfl (by decide) (by decide) (Nat.le_of_ble_eq_true rfl) dX9_hold_5 (fun x4 g3 => ?_)
  refine k_astn (j := 2) (L' := [some (.inr (9, some v0)), some (.inl v1), some (.inr (1, x4))]) dX9_hold_8 rfl (by decide) rfl ?_
  refine k_aloadn (j := 2) dX9_hold_9 rfl rfl ?_
  rcases x4 with _ | a5
  · refine k_ifnonnulln dX9_hold_10 ?_
    refine k_iconst (v := (-1 : Int32)) dX9_hold_13 rfl ?_
    exact k_ireturn rfl dX9_hold_14
  refine k_ifnonnulls (tgt := 15) dX9_hold_10 (by decide) ?_
  refine k_aloadn (j := 2) dX9_hold_15 rfl rfl ?_
  refine k_callVi [] (t1_isOver a5 g3) cw_cX1_isOver (Or.inl ml_9_263) rfl rfl (by decide) (by decide) (Nat.le_of_ble_eq_true rfl) dX9_hold_16 (fun z7 g6 => ?_)
  refine k_ifne (tgt := 30) dX9_hold_19 (by decide) (fun _ => ?_) (fun _ => ?_)
  · refine k_aloadn (j := 2) dX9_hold_22 rfl rfl ?_
    refine k_geti fg_9_159 rfl rfl dX9_hold_23 ?_
    refine k_iconst (v := (2 : Int32)) dX9_hold_26 rfl ?_
    refine k_icmpne (tgt := 33) dX9_hold_27 (by decide) (fun _ => ?_) (fun _ => ?_)
    · refine k_bipush (v := (-5 : Int32)) dX9_hold_30 rfl ?_
      exact k_ireturn rfl dX9_hold_32
    refine k_aloadn (j := 2) dX9_hold_33 rfl rfl ?_
    refine k_iconst (v := (2 : Int32)) dX9_hold_34 rfl ?_
    refine k_callVv [.inl (2 : Int32)] (t1_demand a5 (2 : Int32) g6) cw_cX1_demand (Or.inl ml_9_266) rfl rfl (by decide) (by decide) (Nat.le_of_ble_eq_true rfl) dX9_hold_35 (fun _ g8 => ?_)
    refine k_aloadn (j := 2) dX9_hold_38 rfl rfl ?_
    refine k_geti fg_9_159 rfl rfl dX9_hold_39 ?_
    exact k_ireturn rfl dX9_hold_42
  refine k_bipush (v := (-5 : Int32)) dX9_hold_30 rfl ?_
  exact k_ireturn rfl dX9_hold_32
theorem dX9_release_0 : decode cX9_release 0 = .ok (.aload_n 0, 1) := by decide +kernel
theorem dX9_release_1 : decode cX9_release 1 = .ok (.getfield 10, 3) := by decide +kernel
theorem dX9_release_4 : decode cX9_release 4 = .ok (.iload_n 1, 1) := by decide +kernel
theorem dX9_release_5 : decode cX9_release 5 = .ok (.invokevirtual 122, 3) := by decide +kernel
theorem dX9_release_8 : decode cX9_release 8 = .ok (.astore_n 2, 1) := by decide +kernel
theorem dX9_release_9 : decode cX9_release 9 = .ok (.aload_n 2, 1) := by decide +kernel
theorem dX9_release_10 : decode cX9_release 10 = .ok (.ifnonnull 5, 3) := by decide +kernel
theorem dX9_release_13 : decode cX9_release 13 = .ok (.iconst (-1), 1) := by decide +kernel
theorem dX9_release_14 : decode cX9_release 14 = .ok (.ireturn, 1) := by decide +kernel
theorem dX9_release_15 : decode cX9_release 15 = .ok (.aload_n 2, 1) := by decide +kernel
theorem dX9_release_16 : decode cX9_release 16 = .ok (.getfield 159, 3) := by decide +kernel
theorem dX9_release_19 : decode cX9_release 19 = .ok (.iconst 2, 1) := by decide +kernel
theorem dX9_release_20 : decode cX9_release 20 = .ok (.if_icmp .ne 19, 3) := by decide +kernel
theorem dX9_release_23 : decode cX9_release 23 = .ok (.aload_n 2, 1) := by decide +kernel
theorem dX9_release_24 : decode cX9_release 24 = .ok (.aload_n 0, 1) := by decide +kernel
theorem dX9_release_25 : decode cX9_release 25 = .ok (.getfield 10, 3) := by decide +kernel
theorem dX9_release_28 : decode cX9_release 28 = .ok (.getfield 165, 3) := by decide +kernel
theorem dX9_release_31 : decode cX9_release 31 = .ok (.invokevirtual 270, 3) := by decide +kernel
theorem dX9_release_34 : decode cX9_release 34 = .ok (.aload_n 2, 1) := by decide +kernel
theorem dX9_release_35 : decode cX9_release 35 = .ok (.getfield 159, 3) := by decide +kernel
theorem dX9_release_38 : decode cX9_release 38 = .ok (.ireturn, 1) := by decide +kernel
theorem dX9_release_39 : decode cX9_release 39 = .ok (.aload_n 2, 1) := by decide +kernel
theorem dX9_release_40 : decode cX9_release 40 = .ok (.getfield 159, 3) := by decide +kernel
theorem dX9_release_43 : decode cX9_release 43 = .ok (.iconst 1, 1) := by decide +kernel
theorem dX9_release_44 : decode cX9_release 44 = .ok (.if_icmp .ne 21, 3) := by decide +kernel
theorem dX9_release_47 : decode cX9_release 47 = .ok (.aload_n 2, 1) := by decide +kernel
theorem dX9_release_48 : decode cX9_release 48 = .ok (.getfield 273, 3) := by decide +kernel
theorem dX9_release_51 : decode cX9_release 51 = .ok (.iconst (-1), 1) := by decide +kernel
theorem dX9_release_52 : decode cX9_release 52 = .ok (.if_icmp .eq 13, 3) := by decide +kernel
theorem dX9_release_55 : decode cX9_release 55 = .ok (.aload_n 2, 1) := by decide +kernel
theorem dX9_release_56 : decode cX9_release 56 = .ok (.iconst (-1), 1) := by decide +kernel
theorem dX9_release_57 : decode cX9_release 57 = .ok (.putfield 273, 3) := by decide +kernel
theorem dX9_release_60 : decode cX9_release 60 = .ok (.aload_n 2, 1) := by decide +kernel
theorem dX9_release_61 : decode cX9_release 61 = .ok (.getfield 159, 3) := by decide +kernel
theorem dX9_release_64 : decode cX9_release 64 = .ok (.ireturn, 1) := by decide +kernel
theorem dX9_release_65 : decode cX9_release 65 = .ok (.bipush (-5), 2) := by decide +kernel
theorem dX9_release_67 : decode cX9_release 67 = .ok (.ireturn, 1) := by decide +kernel
def f9_release (v0 : Nat) (v1 : Int32) (g : GS_) : Option (Int32 × GS_) :=
  lr_ (gfr g 288 v0) fun x1 => oc_ x1 none fun a2 => bd_ (f8_jobAt a2 v1 g) fun x4 g3 => oc_ x4 (some ((-1 : Int32), g3)) fun a5 => if (gfi g3 35 a5) = (2 : Int32) then lr_ (gfr g3 288 v0) fun x6 => oc_ x6 none fun a7 => bd_ (f1_awaitFrom a5 (gfi g3 271 a7) g3) fun _ g8 => some ((gfi g8 35 a5), g8) else if (gfi g3 35 a5) = (1 : Int32) then if (gfi g3 38 a5) = (-1 : Int32) then some ((-5 : Int32), g3) else lr_ (sfi g3 38 a5 (-1 : Int32)) fun g9 => some ((gfi g9 35 a5), g9) else some ((-5 : Int32), g3)
theorem t9_release (v0 : Nat) (v1 : Int32) (g : GS_) : Cn_ yX9_release cX9_release 3 (some .int) 1 21 EI_ [.inr (9, some v0), .inl v1] g (f9_release v0 v1 g) := by
  refine k_method (own := RX9) (ini := false) (L1 := [some (.inr (9, some v0)), some (.inl v1), none]) (by decide +kernel) rfl (fun h => by cases h) (Nat.le_of_ble_eq_true rfl) rfl ?_
  unfold f9_release
  refine k_aloadn (j := 0) dX9_release_0 rfl rfl ?_
  refine k_getr fg_9_10 rfl rfl dX9_release_1 (fun x1 => ?_)
  refine k_iloadn (j := 1) dX9_release_4 rfl rfl ?_
  rcases x1 with _ | a2
  · exact k_ocn
  refine k_ocs ?_
  refine k_callVr [.inl v1] (t8_jobAt a2 v1 g) cw_cX8_jobAt (Or.inl ml_9_122) rfl rfl (by decide) (by decide) (Nat.le_of_ble_eq_true rfl) dX9_release_5 (fun x4 g3 => ?_)
  refine k_astn (j := 2) (L' := [some (.inr (9, some v0)), some (.inl v1), some (.inr (1, x4))]) dX9_release_8 rfl (by decide) rfl ?_
  refine k_aloadn (j := 2) dX9_release_9 rfl rfl ?_
  rcases x4 with _ | a5
  · refine k_ifnonnulln dX9_release_10 ?_
    refine k_iconst (v := (-1 : Int32)) dX9_release_13 rfl ?_
    exact k_ireturn rfl dX9_release_14
  refine k_ifnonnulls (tgt := 15) dX9_release_10 (by decide) ?_
  refine k_aloadn (j := 2) dX9_release_15 rfl rfl ?_
  refine k_geti fg_9_159 rfl rfl dX9_release_16 ?_
  refine k_iconst (v := (2 : Int32)) dX9_release_19 rfl ?_
  refine k_icmpne (tgt := 39) dX9_release_20 (by decide) (fun _ => ?_) (fun _ => ?_)
  · refine k_aloadn (j := 2) dX9_release_23 rfl rfl ?_
    refine k_aloadn (j := 0) dX9_release_24 rfl rfl ?_
    refine k_getr fg_9_10 rfl rfl dX9_release_25 (fun x6 => ?_)
    rcases x6 with _ | a7
    · exact k_ocn
    refine k_ocs ?_
    refine k_geti fg_9_165 rfl rfl dX9_release_28 ?_
    refine k_callVv [.inl (gfi g3 271 a7)] (t1_awaitFrom a5 (gfi g3 271 a7) g3) cw_cX1_awaitFrom (Or.inl ml_9_270) rfl rfl (by decide) (by decide) (Nat.le_of_ble_eq_true rfl) dX9_release_31 (fun _ g8 => ?_)
    refine k_aloadn (j := 2) dX9_release_34 rfl rfl ?_
    refine k_geti fg_9_159 rfl rfl dX9_release_35 ?_
    exact k_ireturn rfl dX9_release_38
  refine k_aloadn (j := 2) dX9_release_39 rfl rfl ?_
  refine k_geti fg_9_159 rfl rfl dX9_release_40 ?_
  refine k_iconst (v := (1 : Int32)) dX9_release_43 rfl ?_
  refine k_icmpne (tgt := 65) dX9_release_44 (by decide) (fun _ => ?_) (fun _ => ?_)
  · refine k_aloadn (j := 2) dX9_release_47 rfl rfl ?_
    refine k_geti fg_9_273 rfl rfl dX9_release_48 ?_
    refine k_iconst (v := (-1 : Int32)) dX9_release_51 rfl ?_
    refine k_icmpeq (tgt := 65) dX9_release_52 (by decide) (fun _ => ?_) (fun _ => ?_)
    · refine k_bipush (v := (-5 : Int32)) dX9_release_65 rfl ?_
      exact k_ireturn rfl dX9_release_67
    refine k_aloadn (j := 2) dX9_release_55 rfl rfl ?_
    refine k_iconst (v := (-1 : Int32)) dX9_release_56 rfl ?_
    refine k_puti fp_9_273 rfl rfl dX9_release_57 (fun g9 => ?_)
    refine k_aloadn (j := 2) dX9_release_60 rfl rfl ?_
    refine k_geti fg_9_159 rfl rfl dX9_release_61 ?_
    exact k_ireturn rfl dX9_release_64
  refine k_bipush (v := (-5 : Int32)) dX9_release_65 rfl ?_
  exact k_ireturn rfl dX9_release_67
theorem dX9_cancel_0 : decode cX9_cancel 0 = .ok (.aload_n 0, 1) := by decide +kernel
theorem dX9_cancel_1 : decode cX9_cancel 1 = .ok (.getfield 10, 3) := by decide +kernel
theorem dX9_cancel_4 : decode cX9_cancel 4 = .ok (.iload_n 1, 1) := by decide +kernel
theorem dX9_cancel_5 : decode cX9_cancel 5 = .ok (.invokevirtual 122, 3) := by decide +kernel
theorem dX9_cancel_8 : decode cX9_cancel 8 = .ok (.astore_n 2, 1) := by decide +kernel
theorem dX9_cancel_9 : decode cX9_cancel 9 = .ok (.aload_n 2, 1) := by decide +kernel
theorem dX9_cancel_10 : decode cX9_cancel 10 = .ok (.ifnonnull 5, 3) := by decide +kernel
theorem dX9_cancel_13 : decode cX9_cancel 13 = .ok (.iconst (-1), 1) := by decide +kernel
theorem dX9_cancel_14 : decode cX9_cancel 14 = .ok (.ireturn, 1) := by decide +kernel
theorem dX9_cancel_15 : decode cX9_cancel 15 = .ok (.aload_n 2, 1) := by decide +kernel
theorem dX9_cancel_16 : decode cX9_cancel 16 = .ok (.invokevirtual 263, 3) := by decide +kernel
theorem dX9_cancel_19 : decode cX9_cancel 19 = .ok (.ifCond .eq 6, 3) := by decide +kernel
theorem dX9_cancel_22 : decode cX9_cancel 22 = .ok (.bipush (-5), 2) := by decide +kernel
theorem dX9_cancel_24 : decode cX9_cancel 24 = .ok (.ireturn, 1) := by decide +kernel
theorem dX9_cancel_25 : decode cX9_cancel 25 = .ok (.aload_n 2, 1) := by decide +kernel
theorem dX9_cancel_26 : decode cX9_cancel 26 = .ok (.iconst 4, 1) := by decide +kernel
theorem dX9_cancel_27 : decode cX9_cancel 27 = .ok (.invokevirtual 266, 3) := by decide +kernel
theorem dX9_cancel_30 : decode cX9_cancel 30 = .ok (.aload_n 2, 1) := by decide +kernel
theorem dX9_cancel_31 : decode cX9_cancel 31 = .ok (.getfield 159, 3) := by decide +kernel
theorem dX9_cancel_34 : decode cX9_cancel 34 = .ok (.ireturn, 1) := by decide +kernel
def f9_cancel (v0 : Nat) (v1 : Int32) (g : GS_) : Option (Int32 × GS_) :=
  lr_ (gfr g 288 v0) fun x1 => oc_ x1 none fun a2 => bd_ (f8_jobAt a2 v1 g) fun x4 g3 => oc_ x4 (some ((-1 : Int32), g3)) fun a5 => bd_ (f1_isOver a5 g3) fun z7 g6 => if z7 = 0 then bd_ (f1_demand a5 (4 : Int32) g6) fun _ g8 => some ((gfi g8 35 a5), g8) else some ((-5 : Int32), g6)
theorem t9_cancel (v0 : Nat) (v1 : Int32) (g : GS_) : Cn_ yX9_cancel cX9_cancel 3 (some .int) 1 21 EI_ [.inr (9, some v0), .inl v1] g (f9_cancel v0 v1 g) := by
  refine k_method (own := RX9) (ini := false) (L1 := [some (.inr (9, some v0)), some (.inl v1), none]) (by decide +kernel) rfl (fun h => by cases h) (Nat.le_of_ble_eq_true rfl) rfl ?_
  unfold f9_cancel
  refine k_aloadn (j := 0) dX9_cancel_0 rfl rfl ?_
  refine k_getr fg_9_10 rfl rfl dX9_cancel_1 (fun x1 => ?_)
  refine k_iloadn (j := 1) dX9_cancel_4 rfl rfl ?_
  rcases x1 with _ | a2
  · exact k_ocn
  refine k_ocs ?_
  refine k_callVr [.inl v1] (t8_jobAt a2 v1 g) cw_cX8_jobAt (Or.inl ml_9_122) rfl rfl (by decide) (by decide) (Nat.le_of_ble_eq_true rfl) dX9_cancel_5 (fun x4 g3 => ?_)
  refine k_astn (j := 2) (L' := [some (.inr (9, some v0)), some (.inl v1), some (.inr (1, x4))]) dX9_cancel_8 rfl (by decide) rfl ?_
  refine k_aloadn (j := 2) dX9_cancel_9 rfl rfl ?_
  rcases x4 with _ | a5
  · refine k_ifnonnulln dX9_cancel_10 ?_
    refine k_iconst (v := (-1 : Int32)) dX9_cancel_13 rfl ?_
    exact k_ireturn rfl dX9_cancel_14
  refine k_ifnonnulls (tgt := 15) dX9_cancel_10 (by decide) ?_
  refine k_aloadn (j := 2) dX9_cancel_15 rfl rfl ?_
  refine k_callVi [] (t1_isOver a5 g3) cw_cX1_isOver (Or.inl ml_9_263) rfl rfl (by decide) (by decide) (Nat.le_of_ble_eq_true rfl) dX9_cancel_16 (fun z7 g6 => ?_)
  refine k_ifeq (tgt := 25) dX9_cancel_19 (by decide) (fun _ => ?_) (fun _ => ?_)
  · refine k_aloadn (j := 2) dX9_cancel_25 rfl rfl ?_
    refine k_iconst (v := (4 : Int32)) dX9_cancel_26 rfl ?_
    refine k_callVv [.inl (4 : Int32)] (t1_demand a5 (4 : Int32) g6) cw_cX1_demand (Or.inl ml_9_266) rfl rfl (by decide) (by decide) (Nat.le_of_ble_eq_true rfl) dX9_cancel_27 (fun _ g8 => ?_)
    refine k_aloadn (j := 2) dX9_cancel_30 rfl rfl ?_
    refine k_geti fg_9_159 rfl rfl dX9_cancel_31 ?_
    exact k_ireturn rfl dX9_cancel_34
  refine k_bipush (v := (-5 : Int32)) dX9_cancel_22 rfl ?_
  exact k_ireturn rfl dX9_cancel_24
theorem dX9_jam_0 : decode cX9_jam 0 = .ok (.aload_n 0, 1) := by decide +kernel
theorem dX9_jam_1 : decode cX9_jam 1 = .ok (.getfield 10, 3) := by decide +kernel
theorem dX9_jam_4 : decode cX9_jam 4 = .ok (.iload_n 1, 1) := by decide +kernel
theorem dX9_jam_5 : decode cX9_jam 5 = .ok (.invokevirtual 217, 3) := by decide +kernel
theorem dX9_jam_8 : decode cX9_jam 8 = .ok (.astore_n 2, 1) := by decide +kernel
theorem dX9_jam_9 : decode cX9_jam 9 = .ok (.aload_n 2, 1) := by decide +kernel
theorem dX9_jam_10 : decode cX9_jam 10 = .ok (.ifnonnull 5, 3) := by decide +kernel
theorem dX9_jam_13 : decode cX9_jam 13 = .ok (.iconst (-1), 1) := by decide +kernel
theorem dX9_jam_14 : decode cX9_jam 14 = .ok (.ireturn, 1) := by decide +kernel
theorem dX9_jam_15 : decode cX9_jam 15 = .ok (.aload_n 2, 1) := by decide +kernel
theorem dX9_jam_16 : decode cX9_jam 16 = .ok (.getfield 229, 3) := by decide +kernel
theorem dX9_jam_19 : decode cX9_jam 19 = .ok (.iconst 2, 1) := by decide +kernel
theorem dX9_jam_20 : decode cX9_jam 20 = .ok (.if_icmp .ne 6, 3) := by decide +kernel
theorem dX9_jam_23 : decode cX9_jam 23 = .ok (.bipush (-5), 2) := by decide +kernel
theorem dX9_jam_25 : decode cX9_jam 25 = .ok (.ireturn, 1) := by decide +kernel
theorem dX9_jam_26 : decode cX9_jam 26 = .ok (.aload_n 2, 1) := by decide +kernel
theorem dX9_jam_27 : decode cX9_jam 27 = .ok (.getfield 229, 3) := by decide +kernel
theorem dX9_jam_30 : decode cX9_jam 30 = .ok (.iconst 1, 1) := by decide +kernel
theorem dX9_jam_31 : decode cX9_jam 31 = .ok (.if_icmp .ne 7, 3) := by decide +kernel
theorem dX9_jam_34 : decode cX9_jam 34 = .ok (.iconst 1, 1) := by decide +kernel
theorem dX9_jam_35 : decode cX9_jam 35 = .ok (.goto 4, 3) := by decide +kernel
theorem dX9_jam_38 : decode cX9_jam 38 = .ok (.iconst 0, 1) := by decide +kernel
theorem dX9_jam_39 : decode cX9_jam 39 = .ok (.istore_n 3, 1) := by decide +kernel
theorem dX9_jam_40 : decode cX9_jam 40 = .ok (.iload_n 3, 1) := by decide +kernel
theorem dX9_jam_41 : decode cX9_jam 41 = .ok (.ifCond .eq 11, 3) := by decide +kernel
theorem dX9_jam_44 : decode cX9_jam 44 = .ok (.aload_n 0, 1) := by decide +kernel
theorem dX9_jam_45 : decode cX9_jam 45 = .ok (.getfield 10, 3) := by decide +kernel
theorem dX9_jam_48 : decode cX9_jam 48 = .ok (.aload_n 2, 1) := by decide +kernel
theorem dX9_jam_49 : decode cX9_jam 49 = .ok (.invokevirtual 276, 3) := by decide +kernel
theorem dX9_jam_52 : decode cX9_jam 52 = .ok (.aload_n 2, 1) := by decide +kernel
theorem dX9_jam_53 : decode cX9_jam 53 = .ok (.iconst 2, 1) := by decide +kernel
theorem dX9_jam_54 : decode cX9_jam 54 = .ok (.putfield 229, 3) := by decide +kernel
theorem dX9_jam_57 : decode cX9_jam 57 = .ok (.iload_n 3, 1) := by decide +kernel
theorem dX9_jam_58 : decode cX9_jam 58 = .ok (.ifCond .eq 7, 3) := by decide +kernel
theorem dX9_jam_61 : decode cX9_jam 61 = .ok (.iconst 1, 1) := by decide +kernel
theorem dX9_jam_62 : decode cX9_jam 62 = .ok (.goto 4, 3) := by decide +kernel
theorem dX9_jam_65 : decode cX9_jam 65 = .ok (.iconst 0, 1) := by decide +kernel
theorem dX9_jam_66 : decode cX9_jam 66 = .ok (.ireturn, 1) := by decide +kernel
def f9_jam_b52 (v2 : Option Nat) (v3 : Int32) (g : GS_) : Option (Int32 × GS_) :=
  oc_ v2 none fun a1 => lr_ (sfi g 164 a1 (2 : Int32)) fun g2 => if v3 = 0 then some ((0 : Int32), g2) else some ((1 : Int32), g2)
theorem t9_jam_b52 (v2 : Option Nat) (v3 : Int32) (g : GS_) : K_ RX9 cX9_jam 4 (some .int) 3 64 false EI_ 52 [none, none, some (.inr (5, v2)), some (.inl v3)] [] g (f9_jam_b52 v2 v3 g) := by
  unfold f9_jam_b52
  refine k_aloadn (j := 2) dX9_jam_52 rfl rfl ?_
  refine k_iconst (v := (2 : Int32)) dX9_jam_53 rfl ?_
  rcases v2 with _ | a1
  · exact k_ocn
  refine k_ocs ?_
  refine k_puti fp_9_229 rfl rfl dX9_jam_54 (fun g2 => ?_)
  refine k_iloadn (j := 3) dX9_jam_57 rfl rfl ?_
  refine k_ifeq (tgt := 65) dX9_jam_58 (by decide) (fun _ => ?_) (fun _ => ?_)
  · refine k_iconst (v := (0 : Int32)) dX9_jam_65 rfl ?_
    exact k_ireturn rfl dX9_jam_66
  refine k_iconst (v := (1 : Int32)) dX9_jam_61 rfl ?_
  refine k_goto (tgt := 66) dX9_jam_62 (by decide) ?_
  exact k_ireturn rfl dX9_jam_66
def f9_jam_b39 (v0 : Nat) (v2 : Option Nat) (s0 : Int32) (g : GS_) : Option (Int32 × GS_) :=
  if s0 = 0 then f9_jam_b52 v2 s0 g else lr_ (gfr g 288 v0) fun x3 => oc_ x3 none fun a4 => bd_ (f8_loseSheet a4 v2 g) fun _ g5 => f9_jam_b52 v2 s0 g5
theorem t9_jam_b39 (v0 : Nat) (v2 : Option Nat) (s0 : Int32) (g : GS_) : K_ RX9 cX9_jam 4 (some .int) 3 64 false EI_ 39 [some (.inr (9, some v0)), none, some (.inr (5, v2)), none] [.inl s0] g (f9_jam_b39 v0 v2 s0 g) := by
  unfold f9_jam_b39
  refine k_istn (j := 3) (L' := [some (.inr (9, some v0)), none, some (.inr (5, v2)), some (.inl s0)]) dX9_jam_39 rfl (by decide) rfl ?_
  refine k_iloadn (j := 3) dX9_jam_40 rfl rfl ?_
  refine k_ifeq (tgt := 52) dX9_jam_41 (by decide) (fun _ => ?_) (fun _ => ?_)
  · refine k_msk (L' := [none, none, some (.inr (5, v2)), some (.inl s0)]) [false, true, true, true] rfl ?_
    exact t9_jam_b52 v2 s0 g
  refine k_aloadn (j := 0) dX9_jam_44 rfl rfl ?_
  refine k_getr fg_9_10 rfl rfl dX9_jam_45 (fun x3 => ?_)
  refine k_aloadn (j := 2) dX9_jam_48 rfl rfl ?_
  rcases x3 with _ | a4
  · exact k_ocn
  refine k_ocs ?_
  refine k_callVv [.inr (5, v2)] (t8_loseSheet a4 v2 g) cw_cX8_loseSheet (Or.inl ml_9_276) rfl rfl (by decide) (by decide) (Nat.le_of_ble_eq_true rfl) dX9_jam_49 (fun _ g5 => ?_)
  refine k_msk (L' := [none, none, some (.inr (5, v2)), some (.inl s0)]) [false, true, true, true] rfl ?_
  exact t9_jam_b52 v2 s0 g5
def f9_jam (v0 : Nat) (v1 : Int32) (g : GS_) : Option (Int32 × GS_) :=
  lr_ (gfr g 288 v0) fun x6 => oc_ x6 none fun a7 => bd_ (f8_printerAt a7 v1 g) fun x9 g8 => oc_ x9 (some ((-1 : Int32), g8)) fun a10 => if (gfi g8 164 a10) = (2 : Int32) then some ((-5 : Int32), g8) else if (gfi g8 164 a10) = (1 : Int32) then f9_jam_b39 v0 (some a10) (1 : Int32) g8 else f9_jam_b39 v0 (some a10) (0 : Int32) g8
theorem t9_jam (v0 : Nat) (v1 : Int32) (g : GS_) : Cn_ yX9_jam cX9_jam 4 (some .int) 3 64 EI_ [.inr (9, some v0), .inl v1] g (f9_jam v0 v1 g) := by
  refine k_method (own := RX9) (ini := false) (L1 := [some (.inr (9, some v0)), some (.inl v1), none, none]) (by decide +kernel) rfl (fun h => by cases h) (Nat.le_of_ble_eq_true rfl) rfl ?_
  unfold f9_jam
  refine k_aloadn (j := 0) dX9_jam_0 rfl rfl ?_
  refine k_getr fg_9_10 rfl rfl dX9_jam_1 (fun x6 => ?_)
  refine k_iloadn (j := 1) dX9_jam_4 rfl rfl ?_
  rcases x6 with _ | a7
  · exact k_ocn
  refine k_ocs ?_
  refine k_callVr [.inl v1] (t8_printerAt a7 v1 g) cw_cX8_printerAt (Or.inl ml_9_217) rfl rfl (by decide) (by decide) (Nat.le_of_ble_eq_true rfl) dX9_jam_5 (fun x9 g8 => ?_)
  refine k_astn (j := 2) (L' := [some (.inr (9, some v0)), some (.inl v1), some (.inr (5, x9)), none]) dX9_jam_8 rfl (by decide) rfl ?_
  refine k_aloadn (j := 2) dX9_jam_9 rfl rfl ?_
  rcases x9 with _ | a10
  · refine k_ifnonnulln dX9_jam_10 ?_
    refine k_iconst (v := (-1 : Int32)) dX9_jam_13 rfl ?_
    exact k_ireturn rfl dX9_jam_14
  refine k_ifnonnulls (tgt := 15) dX9_jam_10 (by decide) ?_
  refine k_aloadn (j := 2) dX9_jam_15 rfl rfl ?_
  refine k_geti fg_9_229 rfl rfl dX9_jam_16 ?_
  refine k_iconst (v := (2 : Int32)) dX9_jam_19 rfl ?_
  refine k_icmpne (tgt := 26) dX9_jam_20 (by decide) (fun _ => ?_) (fun _ => ?_)
  · refine k_bipush (v := (-5 : Int32)) dX9_jam_23 rfl ?_
    exact k_ireturn rfl dX9_jam_25
  refine k_aloadn (j := 2) dX9_jam_26 rfl rfl ?_
  refine k_geti fg_9_229 rfl rfl dX9_jam_27 ?_
  refine k_iconst (v := (1 : Int32)) dX9_jam_30 rfl ?_
  refine k_icmpne (tgt := 38) dX9_jam_31 (by decide) (fun _ => ?_) (fun _ => ?_)
  · refine k_iconst (v := (1 : Int32)) dX9_jam_34 rfl ?_
    refine k_goto (tgt := 39) dX9_jam_35 (by decide) ?_
    refine k_msk (L' := [some (.inr (9, some v0)), none, some (.inr (5, some a10)), none]) [true, false, true, true] rfl ?_
    exact t9_jam_b39 v0 (some a10) (1 : Int32) g8
  refine k_iconst (v := (0 : Int32)) dX9_jam_38 rfl ?_
  refine k_msk (L' := [some (.inr (9, some v0)), none, some (.inr (5, some a10)), none]) [true, false, true, true] rfl ?_
  exact t9_jam_b39 v0 (some a10) (0 : Int32) g8
theorem dX9_clear_0 : decode cX9_clear 0 = .ok (.aload_n 0, 1) := by decide +kernel
theorem dX9_clear_1 : decode cX9_clear 1 = .ok (.getfield 10, 3) := by decide +kernel
theorem dX9_clear_4 : decode cX9_clear 4 = .ok (.iload_n 1, 1) := by decide +kernel
theorem dX9_clear_5 : decode cX9_clear 5 = .ok (.invokevirtual 217, 3) := by decide +kernel
theorem dX9_clear_8 : decode cX9_clear 8 = .ok (.astore_n 2, 1) := by decide +kernel
theorem dX9_clear_9 : decode cX9_clear 9 = .ok (.aload_n 2, 1) := by decide +kernel
theorem dX9_clear_10 : decode cX9_clear 10 = .ok (.ifnonnull 5, 3) := by decide +kernel
theorem dX9_clear_13 : decode cX9_clear 13 = .ok (.iconst (-1), 1) := by decide +kernel
theorem dX9_clear_14 : decode cX9_clear 14 = .ok (.ireturn, 1) := by decide +kernel
theorem dX9_clear_15 : decode cX9_clear 15 = .ok (.aload_n 2, 1) := by decide +kernel
theorem dX9_clear_16 : decode cX9_clear 16 = .ok (.getfield 229, 3) := by decide +kernel
theorem dX9_clear_19 : decode cX9_clear 19 = .ok (.iconst 2, 1) := by decide +kernel
theorem dX9_clear_20 : decode cX9_clear 20 = .ok (.if_icmp .eq 6, 3) := by decide +kernel
theorem dX9_clear_23 : decode cX9_clear 23 = .ok (.bipush (-5), 2) := by decide +kernel
theorem dX9_clear_25 : decode cX9_clear 25 = .ok (.ireturn, 1) := by decide +kernel
theorem dX9_clear_26 : decode cX9_clear 26 = .ok (.aload_n 2, 1) := by decide +kernel
theorem dX9_clear_27 : decode cX9_clear 27 = .ok (.iconst 0, 1) := by decide +kernel
theorem dX9_clear_28 : decode cX9_clear 28 = .ok (.putfield 229, 3) := by decide +kernel
theorem dX9_clear_31 : decode cX9_clear 31 = .ok (.iconst 1, 1) := by decide +kernel
theorem dX9_clear_32 : decode cX9_clear 32 = .ok (.ireturn, 1) := by decide +kernel
def f9_clear (v0 : Nat) (v1 : Int32) (g : GS_) : Option (Int32 × GS_) :=
  lr_ (gfr g 288 v0) fun x1 => oc_ x1 none fun a2 => bd_ (f8_printerAt a2 v1 g) fun x4 g3 => oc_ x4 (some ((-1 : Int32), g3)) fun a5 => if (gfi g3 164 a5) = (2 : Int32) then lr_ (sfi g3 164 a5 (0 : Int32)) fun g6 => some ((1 : Int32), g6) else some ((-5 : Int32), g3)
theorem t9_clear (v0 : Nat) (v1 : Int32) (g : GS_) : Cn_ yX9_clear cX9_clear 3 (some .int) 1 22 EI_ [.inr (9, some v0), .inl v1] g (f9_clear v0 v1 g) := by
  refine k_method (own := RX9) (ini := false) (L1 := [some (.inr (9, some v0)), some (.inl v1), none]) (by decide +kernel) rfl (fun h => by cases h) (Nat.le_of_ble_eq_true rfl) rfl ?_
  unfold f9_clear
  refine k_aloadn (j := 0) dX9_clear_0 rfl rfl ?_
  refine k_getr fg_9_10 rfl rfl dX9_clear_1 (fun x1 => ?_)
  refine k_iloadn (j := 1) dX9_clear_4 rfl rfl ?_
  rcases x1 with _ | a2
  · exact k_ocn
  refine k_ocs ?_
  refine k_callVr [.inl v1] (t8_printerAt a2 v1 g) cw_cX8_printerAt (Or.inl ml_9_217) rfl rfl (by decide) (by decide) (Nat.le_of_ble_eq_true rfl) dX9_clear_5 (fun x4 g3 => ?_)
  refine k_astn (j := 2) (L' := [some (.inr (9, some v0)), some (.inl v1), some (.inr (5, x4))]) dX9_clear_8 rfl (by decide) rfl ?_
  refine k_aloadn (j := 2) dX9_clear_9 rfl rfl ?_
  rcases x4 with _ | a5
  · refine k_ifnonnulln dX9_clear_10 ?_
    refine k_iconst (v := (-1 : Int32)) dX9_clear_13 rfl ?_
    exact k_ireturn rfl dX9_clear_14
  refine k_ifnonnulls (tgt := 15) dX9_clear_10 (by decide) ?_
  refine k_aloadn (j := 2) dX9_clear_15 rfl rfl ?_
  refine k_geti fg_9_229 rfl rfl dX9_clear_16 ?_
  refine k_iconst (v := (2 : Int32)) dX9_clear_19 rfl ?_
  refine k_icmpeq (tgt := 26) dX9_clear_20 (by decide) (fun _ => ?_) (fun _ => ?_)
  · refine k_aloadn (j := 2) dX9_clear_26 rfl rfl ?_
    refine k_iconst (v := (0 : Int32)) dX9_clear_27 rfl ?_
    refine k_puti fp_9_229 rfl rfl dX9_clear_28 (fun g6 => ?_)
    refine k_iconst (v := (1 : Int32)) dX9_clear_31 rfl ?_
    exact k_ireturn rfl dX9_clear_32
  refine k_bipush (v := (-5 : Int32)) dX9_clear_23 rfl ?_
  exact k_ireturn rfl dX9_clear_25
theorem dX9_advance_0 : decode cX9_advance 0 = .ok (.iload_n 1, 1) := by decide +kernel
theorem dX9_advance_1 : decode cX9_advance 1 = .ok (.iconst 1, 1) := by decide +kernel
theorem dX9_advance_2 : decode cX9_advance 2 = .ok (.sipush 1000, 3) := by decide +kernel
theorem dX9_advance_5 : decode cX9_advance 5 = .ok (.invokestatic 37, 3) := by decide +kernel
theorem dX9_advance_8 : decode cX9_advance 8 = .ok (.ifCond .ne 6, 3) := by decide +kernel
theorem dX9_advance_11 : decode cX9_advance 11 = .ok (.bipush (-2), 2) := by decide +kernel
theorem dX9_advance_13 : decode cX9_advance 13 = .ok (.ireturn, 1) := by decide +kernel
theorem dX9_advance_14 : decode cX9_advance 14 = .ok (.aload_n 0, 1) := by decide +kernel
theorem dX9_advance_15 : decode cX9_advance 15 = .ok (.getfield 10, 3) := by decide +kernel
theorem dX9_advance_18 : decode cX9_advance 18 = .ok (.iload_n 1, 1) := by decide +kernel
theorem dX9_advance_19 : decode cX9_advance 19 = .ok (.invokevirtual 280, 3) := by decide +kernel
theorem dX9_advance_22 : decode cX9_advance 22 = .ok (.aload_n 0, 1) := by decide +kernel
theorem dX9_advance_23 : decode cX9_advance 23 = .ok (.getfield 10, 3) := by decide +kernel
theorem dX9_advance_26 : decode cX9_advance 26 = .ok (.getfield 165, 3) := by decide +kernel
theorem dX9_advance_29 : decode cX9_advance 29 = .ok (.ireturn, 1) := by decide +kernel
def f9_advance (v0 : Nat) (v1 : Int32) (g : GS_) : Option (Int32 × GS_) :=
  bd_ (f9_within v1 (1 : Int32) (1000 : Int32) g) fun z2 g1 => if z2 = 0 then some ((-2 : Int32), g1) else lr_ (gfr g1 288 v0) fun x3 => oc_ x3 none fun a4 => bd_ (f8_pass a4 v1 g1) fun _ g5 => lr_ (gfr g5 288 v0) fun x6 => oc_ x6 none fun a7 => some ((gfi g5 271 a7), g5)
theorem t9_advance (v0 : Nat) (v1 : Int32) (g : GS_) : Cn_ yX9_advance cX9_advance 2 (some .int) 7 159 EI_ [.inr (9, some v0), .inl v1] g (f9_advance v0 v1 g) := by
  refine k_method (own := RX9) (ini := false) (L1 := [some (.inr (9, some v0)), some (.inl v1)]) (by decide +kernel) rfl (fun h => by cases h) (Nat.le_of_ble_eq_true rfl) rfl ?_
  unfold f9_advance
  refine k_iloadn (j := 1) dX9_advance_0 rfl rfl ?_
  refine k_iconst (v := (1 : Int32)) dX9_advance_1 rfl ?_
  refine k_sipush (v := (1000 : Int32)) dX9_advance_2 rfl ?_
  refine k_callSi [.inl v1, .inl (1 : Int32), .inl (1000 : Int32)] (t9_within v1 (1 : Int32) (1000 : Int32) g) cw_cX9_within ml_9_37 rfl rfl (by decide) (by decide) (Nat.le_of_ble_eq_true rfl) dX9_advance_5 (fun z2 g1 => ?_)
  refine k_ifne (tgt := 14) dX9_advance_8 (by decide) (fun _ => ?_) (fun _ => ?_)
  · refine k_bipush (v := (-2 : Int32)) dX9_advance_11 rfl ?_
    exact k_ireturn rfl dX9_advance_13
  refine k_aloadn (j := 0) dX9_advance_14 rfl rfl ?_
  refine k_getr fg_9_10 rfl rfl dX9_advance_15 (fun x3 => ?_)
  refine k_iloadn (j := 1) dX9_advance_18 rfl rfl ?_
  rcases x3 with _ | a4
  · exact k_ocn
  refine k_ocs ?_
  refine k_callVv [.inl v1] (t8_pass a4 v1 g1) cw_cX8_pass (Or.inl ml_9_280) rfl rfl (by decide) (by decide) (Nat.le_of_ble_eq_true rfl) dX9_advance_19 (fun _ g5 => ?_)
  refine k_aloadn (j := 0) dX9_advance_22 rfl rfl ?_
  refine k_getr fg_9_10 rfl rfl dX9_advance_23 (fun x6 => ?_)
  rcases x6 with _ | a7
  · exact k_ocn
  refine k_ocs ?_
  refine k_geti fg_9_165 rfl rfl dX9_advance_26 ?_
  exact k_ireturn rfl dX9_advance_29
theorem dX9_addDocument_0 : decode cX9_addDocument 0 = .ok (.iload_n 1, 1) := by decide +kernel
theorem dX9_addDocument_1 : decode cX9_addDocument 1 = .ok (.iconst 1, 1) := by decide +kernel
theorem dX9_addDocument_2 : decode cX9_addDocument 2 = .ok (.sipush 400, 3) := by decide +kernel
theorem dX9_addDocument_5 : decode cX9_addDocument 5 = .ok (.invokestatic 37, 3) := by decide +kernel
theorem dX9_addDocument_8 : decode cX9_addDocument 8 = .ok (.ifCond .eq 46, 3) := by decide +kernel
theorem dX9_addDocument_11 : decode cX9_addDocument 11 = .ok (.iload_n 2, 1) := by decide +kernel
theorem dX9_addDocument_12 : decode cX9_addDocument 12 = .ok (.iconst 0, 1) := by decide +kernel
theorem dX9_addDocument_13 : decode cX9_addDocument 13 = .ok (.iconst 2, 1) := by decide +kernel
theorem dX9_addDocument_14 : decode cX9_addDocument 14 = .ok (.invokestatic 37, 3) := by decide +kernel
theorem dX9_addDocument_17 : decode cX9_addDocument 17 = .ok (.ifCond .eq 37, 3) := by decide +kernel
theorem dX9_addDocument_20 : decode cX9_addDocument 20 = .ok (.iload_n 3, 1) := by decide +kernel
theorem dX9_addDocument_21 : decode cX9_addDocument 21 = .ok (.iconst 1, 1) := by decide +kernel
theorem dX9_addDocument_22 : decode cX9_addDocument 22 = .ok (.sipush 500, 3) := by decide +kernel
theorem dX9_addDocument_25 : decode cX9_addDocument 25 = .ok (.invokestatic 37, 3) := by decide +kernel
theorem dX9_addDocument_28 : decode cX9_addDocument 28 = .ok (.ifCond .eq 26, 3) := by decide +kernel
theorem dX9_addDocument_31 : decode cX9_addDocument 31 = .ok (.iload 4, 2) := by decide +kernel
theorem dX9_addDocument_33 : decode cX9_addDocument 33 = .ok (.iconst 0, 1) := by decide +kernel
theorem dX9_addDocument_34 : decode cX9_addDocument 34 = .ok (.bipush 50, 2) := by decide +kernel
theorem dX9_addDocument_36 : decode cX9_addDocument 36 = .ok (.invokestatic 37, 3) := by decide +kernel
theorem dX9_addDocument_39 : decode cX9_addDocument 39 = .ok (.ifCond .eq 15, 3) := by decide +kernel
theorem dX9_addDocument_42 : decode cX9_addDocument 42 = .ok (.iload 5, 2) := by decide +kernel
theorem dX9_addDocument_44 : decode cX9_addDocument 44 = .ok (.iconst 1, 1) := by decide +kernel
theorem dX9_addDocument_45 : decode cX9_addDocument 45 = .ok (.sipush 500, 3) := by decide +kernel
theorem dX9_addDocument_48 : decode cX9_addDocument 48 = .ok (.invokestatic 37, 3) := by decide +kernel
theorem dX9_addDocument_51 : decode cX9_addDocument 51 = .ok (.ifCond .ne 6, 3) := by decide +kernel
theorem dX9_addDocument_54 : decode cX9_addDocument 54 = .ok (.bipush (-2), 2) := by decide +kernel
theorem dX9_addDocument_56 : decode cX9_addDocument 56 = .ok (.ireturn, 1) := by decide +kernel
theorem dX9_addDocument_57 : decode cX9_addDocument 57 = .ok (.aload_n 0, 1) := by decide +kernel
theorem dX9_addDocument_58 : decode cX9_addDocument 58 = .ok (.getfield 10, 3) := by decide +kernel
theorem dX9_addDocument_61 : decode cX9_addDocument 61 = .ok (.getfield 41, 3) := by decide +kernel
theorem dX9_addDocument_64 : decode cX9_addDocument 64 = .ok (.bipush 10, 2) := by decide +kernel
theorem dX9_addDocument_66 : decode cX9_addDocument 66 = .ok (.if_icmp .lt 6, 3) := by decide +kernel
theorem dX9_addDocument_69 : decode cX9_addDocument 69 = .ok (.bipush (-4), 2) := by decide +kernel
theorem dX9_addDocument_71 : decode cX9_addDocument 71 = .ok (.ireturn, 1) := by decide +kernel
theorem dX9_addDocument_72 : decode cX9_addDocument 72 = .ok (.aload_n 0, 1) := by decide +kernel
theorem dX9_addDocument_73 : decode cX9_addDocument 73 = .ok (.getfield 10, 3) := by decide +kernel
theorem dX9_addDocument_76 : decode cX9_addDocument 76 = .ok (.new 45, 3) := by decide +kernel
theorem dX9_addDocument_79 : decode cX9_addDocument 79 = .ok (.dup, 1) := by decide +kernel
theorem dX9_addDocument_80 : decode cX9_addDocument 80 = .ok (.iload_n 1, 1) := by decide +kernel
theorem dX9_addDocument_81 : decode cX9_addDocument 81 = .ok (.iload_n 2, 1) := by decide +kernel
theorem dX9_addDocument_82 : decode cX9_addDocument 82 = .ok (.iload_n 3, 1) := by decide +kernel
theorem dX9_addDocument_83 : decode cX9_addDocument 83 = .ok (.iload 4, 2) := by decide +kernel
theorem dX9_addDocument_85 : decode cX9_addDocument 85 = .ok (.iload 5, 2) := by decide +kernel
theorem dX9_addDocument_87 : decode cX9_addDocument 87 = .ok (.invokespecial 47, 3) := by decide +kernel
theorem dX9_addDocument_90 : decode cX9_addDocument 90 = .ok (.invokevirtual 50, 3) := by decide +kernel
theorem dX9_addDocument_93 : decode cX9_addDocument 93 = .ok (.ireturn, 1) := by decide +kernel
def f9_addDocument (v0 : Nat) (v1 : Int32) (v2 : Int32) (v3 : Int32) (v4 : Int32) (v5 : Int32) (g : GS_) : Option (Int32 × GS_) :=
  bd_ (f9_within v1 (1 : Int32) (400 : Int32) g) fun z2 g1 => if z2 = 0 then some ((-2 : Int32), g1) else bd_ (f9_within v2 (0 : Int32) (2 : Int32) g1) fun z4 g3 => if z4 = 0 then some ((-2 : Int32), g3) else bd_ (f9_within v3 (1 : Int32) (500 : Int32) g3) fun z6 g5 => if z6 = 0 then some ((-2 : Int32), g5) else bd_ (f9_within v4 (0 : Int32) (50 : Int32) g5) fun z8 g7 => if z8 = 0 then some ((-2 : Int32), g7) else bd_ (f9_within v5 (1 : Int32) (500 : Int32) g7) fun z10 g9 => if z10 = 0 then some ((-2 : Int32), g9) else lr_ (gfr g9 288 v0) fun x11 => oc_ x11 none fun a12 => if (gfi g9 257 a12) < (10 : Int32) then lr_ (gfr g9 288 v0) fun x13 => no_ g9 0 5 fun a14 g15 => bd_ (f0_init a14 v1 v2 v3 v4 v5 g15) fun _ g16 => oc_ x13 none fun a17 => bd_ (f8_keepDocument a17 (some a14) g16) fun z19 g18 => some (z19, g18) else some ((-4 : Int32), g9)
theorem t9_addDocument (v0 : Nat) (v1 : Int32) (v2 : Int32) (v3 : Int32) (v4 : Int32) (v5 : Int32) (g : GS_) : Cn_ yX9_addDocument cX9_addDocument 6 (some .int) 2 37 EI_ [.inr (9, some v0), .inl v1, .inl v2, .inl v3, .inl v4, .inl v5] g (f9_addDocument v0 v1 v2 v3 v4 v5 g) := by
  refine k_method (own := RX9) (ini := false) (L1 := [some (.inr (9, some v0)), some (.inl v1), some (.inl v2), some (.inl v3), some (.inl v4), some (.inl v5)]) (by decide +kernel) rfl (fun h => by cases h) (Nat.le_of_ble_eq_true rfl) rfl ?_
  unfold f9_addDocument
  refine k_iloadn (j := 1) dX9_addDocument_0 rfl rfl ?_
  refine k_iconst (v := (1 : Int32)) dX9_addDocument_1 rfl ?_
  refine k_sipush (v := (400 : Int32)) dX9_addDocument_2 rfl ?_
  refine k_callSi [.inl v1, .inl (1 : Int32), .inl (400 : Int32)] (t9_within v1 (1 : Int32) (400 : Int32) g) cw_cX9_within ml_9_37 rfl rfl (by decide) (by decide) (Nat.le_of_ble_eq_true rfl) dX9_addDocument_5 (fun z2 g1 => ?_)
  refine k_ifeq (tgt := 54) dX9_addDocument_8 (by decide) (fun _ => ?_) (fun _ => ?_)
  · refine k_bipush (v := (-2 : Int32)) dX9_addDocument_54 rfl ?_
    exact k_ireturn rfl dX9_addDocument_56
  refine k_iloadn (j := 2) dX9_addDocument_11 rfl rfl ?_
  refine k_iconst (v := (0 : Int32)) dX9_addDocument_12 rfl ?_
  refine k_iconst (v := (2 : Int32)) dX9_addDocument_13 rfl ?_
  refine k_callSi [.inl v2, .inl (0 : Int32), .inl (2 : Int32)] (t9_within v2 (0 : Int32) (2 : Int32) g1) cw_cX9_within ml_9_37 rfl rfl (by decide) (by decide) (Nat.le_of_ble_eq_true rfl) dX9_addDocument_14 (fun z4 g3 => ?_)
  refine k_ifeq (tgt := 54) dX9_addDocument_17 (by decide) (fun _ => ?_) (fun _ => ?_)
  · refine k_bipush (v := (-2 : Int32)) dX9_addDocument_54 rfl ?_
    exact k_ireturn rfl dX9_addDocument_56
  refine k_iloadn (j := 3) dX9_addDocument_20 rfl rfl ?_
  refine k_iconst (v := (1 : Int32)) dX9_addDocument_21 rfl ?_
  refine k_sipush (v := (500 : Int32)) dX9_addDocument_22 rfl ?_
  refine k_callSi [.inl v3, .inl (1 : Int32), .inl (500 : Int32)] (t9_within v3 (1 : Int32) (500 : Int32) g3) cw_cX9_within ml_9_37 rfl rfl (by decide) (by decide) (Nat.le_of_ble_eq_true rfl) dX9_addDocument_25 (fun z6 g5 => ?_)
  refine k_ifeq (tgt := 54) dX9_addDocument_28 (by decide) (fun _ => ?_) (fun _ => ?_)
  · refine k_bipush (v := (-2 : Int32)) dX9_addDocument_54 rfl ?_
    exact k_ireturn rfl dX9_addDocument_56
  refine k_iload dX9_addDocument_31 rfl ?_
  refine k_iconst (v := (0 : Int32)) dX9_addDocument_33 rfl ?_
  refine k_bipush (v := (50 : Int32)) dX9_addDocument_34 rfl ?_
  refine k_callSi [.inl v4, .inl (0 : Int32), .inl (50 : Int32)] (t9_within v4 (0 : Int32) (50 : Int32) g5) cw_cX9_within ml_9_37 rfl rfl (by decide) (by decide) (Nat.le_of_ble_eq_true rfl) dX9_addDocument_36 (fun z8 g7 => ?_)
  refine k_ifeq (tgt := 54) dX9_addDocument_39 (by decide) (fun _ => ?_) (fun _ => ?_)
  · refine k_bipush (v := (-2 : Int32)) dX9_addDocument_54 rfl ?_
    exact k_ireturn rfl dX9_addDocument_56
  refine k_iload dX9_addDocument_42 rfl ?_
  refine k_iconst (v := (1 : Int32)) dX9_addDocument_44 rfl ?_
  refine k_sipush (v := (500 : Int32)) dX9_addDocument_45 rfl ?_
  refine k_callSi [.inl v5, .inl (1 : Int32), .inl (500 : Int32)] (t9_within v5 (1 : Int32) (500 : Int32) g7) cw_cX9_within ml_9_37 rfl rfl (by decide) (by decide) (Nat.le_of_ble_eq_true rfl) dX9_addDocument_48 (fun z10 g9 => ?_)
  refine k_ifne (tgt := 57) dX9_addDocument_51 (by decide) (fun _ => ?_) (fun _ => ?_)
  · refine k_bipush (v := (-2 : Int32)) dX9_addDocument_54 rfl ?_
    exact k_ireturn rfl dX9_addDocument_56
  refine k_aloadn (j := 0) dX9_addDocument_57 rfl rfl ?_
  refine k_getr fg_9_10 rfl rfl dX9_addDocument_58 (fun x11 => ?_)
  rcases x11 with _ | a12
  · exact k_ocn
  refine k_ocs ?_
  refine k_geti fg_9_41 rfl rfl dX9_addDocument_61 ?_
  refine k_bipush (v := (10 : Int32)) dX9_addDocument_64 rfl ?_
  refine k_icmplt (tgt := 72) dX9_addDocument_66 (by decide) (fun _ => ?_) (fun _ => ?_)
  · refine k_aloadn (j := 0) dX9_addDocument_72 rfl rfl ?_
    refine k_getr fg_9_10 rfl rfl dX9_addDocument_73 (fun x13 => ?_)
    refine k_new cf_0 cl_9_45 (in_0).1 (in_0).2 dX9_addDocument_76 (fun a14 g15 => ?_)
    refine k_dup dX9_addDocument_79 ?_
    refine k_iloadn (j := 1) dX9_addDocument_80 rfl rfl ?_
    refine k_iloadn (j := 2) dX9_addDocument_81 rfl rfl ?_
    refine k_iloadn (j := 3) dX9_addDocument_82 rfl rfl ?_
    refine k_iload dX9_addDocument_83 rfl ?_
    refine k_iload dX9_addDocument_85 rfl ?_
    refine k_callIv [.inl v1, .inl v2, .inl v3, .inl v4, .inl v5] (t0_init a14 v1 v2 v3 v4 v5 g15) cw_cX0_init (Or.inl ml_9_47) rfl rfl (by decide) (by decide) (Nat.le_of_ble_eq_true rfl) dX9_addDocument_87 (fun _ g16 => ?_)
    rcases x13 with _ | a17
    · exact k_ocn
    refine k_ocs ?_
    refine k_callVi [.inr (0, some a14)] (t8_keepDocument a17 (some a14) g16) cw_cX8_keepDocument (Or.inl ml_9_50) rfl rfl (by decide) (by decide) (Nat.le_of_ble_eq_true rfl) dX9_addDocument_90 (fun z19 g18 => ?_)
    exact k_ireturn rfl dX9_addDocument_93
  refine k_bipush (v := (-4 : Int32)) dX9_addDocument_69 rfl ?_
  exact k_ireturn rfl dX9_addDocument_71
theorem dX9_log_0 : decode cX9_log 0 = .ok (.iload_n 2, 1) := by decide +kernel
theorem dX9_log_1 : decode cX9_log 1 = .ok (.iconst 0, 1) := by decide +kernel
theorem dX9_log_2 : decode cX9_log 2 = .ok (.iconst 3, 1) := by decide +kernel
theorem dX9_log_3 : decode cX9_log 3 = .ok (.invokestatic 37, 3) := by decide +kernel
theorem dX9_log_6 : decode cX9_log 6 = .ok (.ifCond .ne 6, 3) := by decide +kernel
theorem dX9_log_9 : decode cX9_log 9 = .ok (.bipush (-2), 2) := by decide +kernel
theorem dX9_log_11 : decode cX9_log 11 = .ok (.ireturn, 1) := by decide +kernel
theorem dX9_log_12 : decode cX9_log 12 = .ok (.aload_n 0, 1) := by decide +kernel
theorem dX9_log_13 : decode cX9_log 13 = .ok (.getfield 10, 3) := by decide +kernel
theorem dX9_log_16 : decode cX9_log 16 = .ok (.getfield 283, 3) := by decide +kernel
theorem dX9_log_19 : decode cX9_log 19 = .ok (.iload_n 1, 1) := by decide +kernel
theorem dX9_log_20 : decode cX9_log 20 = .ok (.invokevirtual 287, 3) := by decide +kernel
theorem dX9_log_23 : decode cX9_log 23 = .ok (.ifCond .eq 18, 3) := by decide +kernel
theorem dX9_log_26 : decode cX9_log 26 = .ok (.aload_n 0, 1) := by decide +kernel
theorem dX9_log_27 : decode cX9_log 27 = .ok (.getfield 10, 3) := by decide +kernel
theorem dX9_log_30 : decode cX9_log 30 = .ok (.getfield 283, 3) := by decide +kernel
theorem dX9_log_33 : decode cX9_log 33 = .ok (.iload_n 1, 1) := by decide +kernel
theorem dX9_log_34 : decode cX9_log 34 = .ok (.iload_n 2, 1) := by decide +kernel
theorem dX9_log_35 : decode cX9_log 35 = .ok (.invokevirtual 290, 3) := by decide +kernel
theorem dX9_log_38 : decode cX9_log 38 = .ok (.goto 5, 3) := by decide +kernel
theorem dX9_log_41 : decode cX9_log 41 = .ok (.bipush (-6), 2) := by decide +kernel
theorem dX9_log_43 : decode cX9_log 43 = .ok (.ireturn, 1) := by decide +kernel
def f9_log (v0 : Nat) (v1 : Int32) (v2 : Int32) (g : GS_) : Option (Int32 × GS_) :=
  bd_ (f9_within v2 (0 : Int32) (3 : Int32) g) fun z2 g1 => if z2 = 0 then some ((-2 : Int32), g1) else lr_ (gfr g1 288 v0) fun x3 => oc_ x3 none fun a4 => lr_ (gfr g1 266 a4) fun x5 => oc_ x5 none fun a6 => bd_ (f2_has a6 v1 g1) fun z8 g7 => if z8 = 0 then some ((-6 : Int32), g7) else lr_ (gfr g7 288 v0) fun x9 => oc_ x9 none fun a10 => lr_ (gfr g7 266 a10) fun x11 => oc_ x11 none fun a12 => bd_ (f2_read a12 v1 v2 g7) fun z14 g13 => some (z14, g13)
theorem t9_log (v0 : Nat) (v1 : Int32) (v2 : Int32) (g : GS_) : Cn_ yX9_log cX9_log 3 (some .int) 2 44 EI_ [.inr (9, some v0), .inl v1, .inl v2] g (f9_log v0 v1 v2 g) := by
  refine k_method (own := RX9) (ini := false) (L1 := [some (.inr (9, some v0)), some (.inl v1), some (.inl v2)]) (by decide +kernel) rfl (fun h => by cases h) (Nat.le_of_ble_eq_true rfl) rfl ?_
  unfold f9_log
  refine k_iloadn (j := 2) dX9_log_0 rfl rfl ?_
  refine k_iconst (v := (0 : Int32)) dX9_log_1 rfl ?_
  refine k_iconst (v := (3 : Int32)) dX9_log_2 rfl ?_
  refine k_callSi [.inl v2, .inl (0 : Int32), .inl (3 : Int32)] (t9_within v2 (0 : Int32) (3 : Int32) g) cw_cX9_within ml_9_37 rfl rfl (by decide) (by decide) (Nat.le_of_ble_eq_true rfl) dX9_log_3 (fun z2 g1 => ?_)
  refine k_ifne (tgt := 12) dX9_log_6 (by decide) (fun _ => ?_) (fun _ => ?_)
  · refine k_bipush (v := (-2 : Int32)) dX9_log_9 rfl ?_
    exact k_ireturn rfl dX9_log_11
  refine k_aloadn (j := 0) dX9_log_12 rfl rfl ?_
  refine k_getr fg_9_10 rfl rfl dX9_log_13 (fun x3 => ?_)
  rcases x3 with _ | a4
  · exact k_ocn
  refine k_ocs ?_
  refine k_getr fg_9_283 rfl rfl dX9_log_16 (fun x5 => ?_)
  refine k_iloadn (j := 1) dX9_log_19 rfl rfl ?_
  rcases x5 with _ | a6
  · exact k_ocn
  refine k_ocs ?_
  refine k_callVi [.inl v1] (t2_has a6 v1 g1) cw_cX2_has (Or.inl ml_9_287) rfl rfl (by decide) (by decide) (Nat.le_of_ble_eq_true rfl) dX9_log_20 (fun z8 g7 => ?_)
  refine k_ifeq (tgt := 41) dX9_log_23 (by decide) (fun _ => ?_) (fun _ => ?_)
  · refine k_bipush (v := (-6 : Int32)) dX9_log_41 rfl ?_
    exact k_ireturn rfl dX9_log_43
  refine k_aloadn (j := 0) dX9_log_26 rfl rfl ?_
  refine k_getr fg_9_10 rfl rfl dX9_log_27 (fun x9 => ?_)
  rcases x9 with _ | a10
  · exact k_ocn
  refine k_ocs ?_
  refine k_getr fg_9_283 rfl rfl dX9_log_30 (fun x11 => ?_)
  refine k_iloadn (j := 1) dX9_log_33 rfl rfl ?_
  refine k_iloadn (j := 2) dX9_log_34 rfl rfl ?_
  rcases x11 with _ | a12
  · exact k_ocn
  refine k_ocs ?_
  refine k_callVi [.inl v1, .inl v2] (t2_read a12 v1 v2 g7) cw_cX2_read (Or.inl ml_9_290) rfl rfl (by decide) (by decide) (Nat.le_of_ble_eq_true rfl) dX9_log_35 (fun z14 g13 => ?_)
  refine k_goto (tgt := 43) dX9_log_38 (by decide) ?_
  exact k_ireturn rfl dX9_log_43
theorem dX9_printed_0 : decode cX9_printed 0 = .ok (.iload_n 1, 1) := by decide +kernel
theorem dX9_printed_1 : decode cX9_printed 1 = .ok (.iconst 0, 1) := by decide +kernel
theorem dX9_printed_2 : decode cX9_printed 2 = .ok (.iconst 5, 1) := by decide +kernel
theorem dX9_printed_3 : decode cX9_printed 3 = .ok (.invokestatic 37, 3) := by decide +kernel
theorem dX9_printed_6 : decode cX9_printed 6 = .ok (.ifCond .eq 14, 3) := by decide +kernel
theorem dX9_printed_9 : decode cX9_printed 9 = .ok (.aload_n 0, 1) := by decide +kernel
theorem dX9_printed_10 : decode cX9_printed 10 = .ok (.getfield 10, 3) := by decide +kernel
theorem dX9_printed_13 : decode cX9_printed 13 = .ok (.iload_n 1, 1) := by decide +kernel
theorem dX9_printed_14 : decode cX9_printed 14 = .ok (.invokevirtual 293, 3) := by decide +kernel
theorem dX9_printed_17 : decode cX9_printed 17 = .ok (.goto 4, 3) := by decide +kernel
theorem dX9_printed_20 : decode cX9_printed 20 = .ok (.iconst (-1), 1) := by decide +kernel
theorem dX9_printed_21 : decode cX9_printed 21 = .ok (.ireturn, 1) := by decide +kernel
def f9_printed (v0 : Nat) (v1 : Int32) (g : GS_) : Option (Int32 × GS_) :=
  bd_ (f9_within v1 (0 : Int32) (5 : Int32) g) fun z2 g1 => if z2 = 0 then some ((-1 : Int32), g1) else lr_ (gfr g1 288 v0) fun x3 => oc_ x3 none fun a4 => bd_ (f8_printedFor a4 v1 g1) fun z6 g5 => some (z6, g5)
theorem t9_printed (v0 : Nat) (v1 : Int32) (g : GS_) : Cn_ yX9_printed cX9_printed 2 (some .int) 1 22 EI_ [.inr (9, some v0), .inl v1] g (f9_printed v0 v1 g) := by
  refine k_method (own := RX9) (ini := false) (L1 := [some (.inr (9, some v0)), some (.inl v1)]) (by decide +kernel) rfl (fun h => by cases h) (Nat.le_of_ble_eq_true rfl) rfl ?_
  unfold f9_printed
  refine k_iloadn (j := 1) dX9_printed_0 rfl rfl ?_
  refine k_iconst (v := (0 : Int32)) dX9_printed_1 rfl ?_
  refine k_iconst (v := (5 : Int32)) dX9_printed_2 rfl ?_
  refine k_callSi [.inl v1, .inl (0 : Int32), .inl (5 : Int32)] (t9_within v1 (0 : Int32) (5 : Int32) g) cw_cX9_within ml_9_37 rfl rfl (by decide) (by decide) (Nat.le_of_ble_eq_true rfl) dX9_printed_3 (fun z2 g1 => ?_)
  refine k_ifeq (tgt := 20) dX9_printed_6 (by decide) (fun _ => ?_) (fun _ => ?_)
  · refine k_iconst (v := (-1 : Int32)) dX9_printed_20 rfl ?_
    exact k_ireturn rfl dX9_printed_21
  refine k_aloadn (j := 0) dX9_printed_9 rfl rfl ?_
  refine k_getr fg_9_10 rfl rfl dX9_printed_10 (fun x3 => ?_)
  refine k_iloadn (j := 1) dX9_printed_13 rfl rfl ?_
  rcases x3 with _ | a4
  · exact k_ocn
  refine k_ocs ?_
  refine k_callVi [.inl v1] (t8_printedFor a4 v1 g1) cw_cX8_printedFor (Or.inl ml_9_293) rfl rfl (by decide) (by decide) (Nat.le_of_ble_eq_true rfl) dX9_printed_14 (fun z6 g5 => ?_)
  refine k_goto (tgt := 21) dX9_printed_17 (by decide) ?_
  exact k_ireturn rfl dX9_printed_21
theorem dX9_finish_0 : decode cX9_finish 0 = .ok (.aload_n 0, 1) := by decide +kernel
theorem dX9_finish_1 : decode cX9_finish 1 = .ok (.getfield 10, 3) := by decide +kernel
theorem dX9_finish_4 : decode cX9_finish 4 = .ok (.iload_n 1, 1) := by decide +kernel
theorem dX9_finish_5 : decode cX9_finish 5 = .ok (.invokevirtual 122, 3) := by decide +kernel
theorem dX9_finish_8 : decode cX9_finish 8 = .ok (.astore_n 3, 1) := by decide +kernel
theorem dX9_finish_9 : decode cX9_finish 9 = .ok (.aload_n 3, 1) := by decide +kernel
theorem dX9_finish_10 : decode cX9_finish 10 = .ok (.ifnonnull 5, 3) := by decide +kernel
theorem dX9_finish_13 : decode cX9_finish 13 = .ok (.iconst (-1), 1) := by decide +kernel
theorem dX9_finish_14 : decode cX9_finish 14 = .ok (.ireturn, 1) := by decide +kernel
theorem dX9_finish_15 : decode cX9_finish 15 = .ok (.iload_n 2, 1) := by decide +kernel
theorem dX9_finish_16 : decode cX9_finish 16 = .ok (.iconst 1, 1) := by decide +kernel
theorem dX9_finish_17 : decode cX9_finish 17 = .ok (.sipush 3000, 3) := by decide +kernel
theorem dX9_finish_20 : decode cX9_finish 20 = .ok (.invokestatic 37, 3) := by decide +kernel
theorem dX9_finish_23 : decode cX9_finish 23 = .ok (.ifCond .ne 6, 3) := by decide +kernel
theorem dX9_finish_26 : decode cX9_finish 26 = .ok (.bipush (-2), 2) := by decide +kernel
theorem dX9_finish_28 : decode cX9_finish 28 = .ok (.ireturn, 1) := by decide +kernel
theorem dX9_finish_29 : decode cX9_finish 29 = .ok (.aload_n 0, 1) := by decide +kernel
theorem dX9_finish_30 : decode cX9_finish 30 = .ok (.getfield 16, 3) := by decide +kernel
theorem dX9_finish_33 : decode cX9_finish 33 = .ok (.aload_n 0, 1) := by decide +kernel
theorem dX9_finish_34 : decode cX9_finish 34 = .ok (.getfield 10, 3) := by decide +kernel
theorem dX9_finish_37 : decode cX9_finish 37 = .ok (.invokevirtual 296, 3) := by decide +kernel
theorem dX9_finish_40 : decode cX9_finish 40 = .ok (.aload_n 0, 1) := by decide +kernel
theorem dX9_finish_41 : decode cX9_finish 41 = .ok (.getfield 16, 3) := by decide +kernel
theorem dX9_finish_44 : decode cX9_finish 44 = .ok (.iload_n 1, 1) := by decide +kernel
theorem dX9_finish_45 : decode cX9_finish 45 = .ok (.iload_n 2, 1) := by decide +kernel
theorem dX9_finish_46 : decode cX9_finish 46 = .ok (.invokevirtual 300, 3) := by decide +kernel
theorem dX9_finish_49 : decode cX9_finish 49 = .ok (.ireturn, 1) := by decide +kernel
def f9_finish (v0 : Nat) (v1 : Int32) (v2 : Int32) (g : GS_) : Option (Int32 × GS_) :=
  lr_ (gfr g 288 v0) fun x1 => oc_ x1 none fun a2 => bd_ (f8_jobAt a2 v1 g) fun x4 g3 => oc_ x4 (some ((-1 : Int32), g3)) fun a5 => bd_ (f9_within v2 (1 : Int32) (3000 : Int32) g3) fun z7 g6 => if z7 = 0 then some ((-2 : Int32), g6) else lr_ (gfr g6 289 v0) fun x8 => lr_ (gfr g6 288 v0) fun x9 => oc_ x8 none fun a10 => bd_ (f8_copyFrom a10 x9 g6) fun _ g11 => lr_ (gfr g11 289 v0) fun x12 => oc_ x12 none fun a13 => bd_ (f8_ticksUntilDone a13 v1 v2 g11) fun z15 g14 => some (z15, g14)
theorem t9_finish (v0 : Nat) (v1 : Int32) (v2 : Int32) (g : GS_) : Cn_ yX9_finish cX9_finish 4 (some .int) 7 161 EI_ [.inr (9, some v0), .inl v1, .inl v2] g (f9_finish v0 v1 v2 g) := by
  refine k_method (own := RX9) (ini := false) (L1 := [some (.inr (9, some v0)), some (.inl v1), some (.inl v2), none]) (by decide +kernel) rfl (fun h => by cases h) (Nat.le_of_ble_eq_true rfl) rfl ?_
  unfold f9_finish
  refine k_aloadn (j := 0) dX9_finish_0 rfl rfl ?_
  refine k_getr fg_9_10 rfl rfl dX9_finish_1 (fun x1 => ?_)
  refine k_iloadn (j := 1) dX9_finish_4 rfl rfl ?_
  rcases x1 with _ | a2
  · exact k_ocn
  refine k_ocs ?_
  refine k_callVr [.inl v1] (t8_jobAt a2 v1 g) cw_cX8_jobAt (Or.inl ml_9_122) rfl rfl (by decide) (by decide) (Nat.le_of_ble_eq_true rfl) dX9_finish_5 (fun x4 g3 => ?_)
  refine k_astn (j := 3) (L' := [some (.inr (9, some v0)), some (.inl v1), some (.inl v2), some (.inr (1, x4))]) dX9_finish_8 rfl (by decide) rfl ?_
  refine k_aloadn (j := 3) dX9_finish_9 rfl rfl ?_
  rcases x4 with _ | a5
  · refine k_ifnonnulln dX9_finish_10 ?_
    refine k_iconst (v := (-1 : Int32)) dX9_finish_13 rfl ?_
    exact k_ireturn rfl dX9_finish_14
  refine k_ifnonnulls (tgt := 15) dX9_finish_10 (by decide) ?_
  refine k_iloadn (j := 2) dX9_finish_15 rfl rfl ?_
  refine k_iconst (v := (1 : Int32)) dX9_finish_16 rfl ?_
  refine k_sipush (v := (3000 : Int32)) dX9_finish_17 rfl ?_
  refine k_callSi [.inl v2, .inl (1 : Int32), .inl (3000 : Int32)] (t9_within v2 (1 : Int32) (3000 : Int32) g3) cw_cX9_within ml_9_37 rfl rfl (by decide) (by decide) (Nat.le_of_ble_eq_true rfl) dX9_finish_20 (fun z7 g6 => ?_)
  refine k_ifne (tgt := 29) dX9_finish_23 (by decide) (fun _ => ?_) (fun _ => ?_)
  · refine k_bipush (v := (-2 : Int32)) dX9_finish_26 rfl ?_
    exact k_ireturn rfl dX9_finish_28
  refine k_aloadn (j := 0) dX9_finish_29 rfl rfl ?_
  refine k_getr fg_9_16 rfl rfl dX9_finish_30 (fun x8 => ?_)
  refine k_aloadn (j := 0) dX9_finish_33 rfl rfl ?_
  refine k_getr fg_9_10 rfl rfl dX9_finish_34 (fun x9 => ?_)
  rcases x8 with _ | a10
  · exact k_ocn
  refine k_ocs ?_
  refine k_callVv [.inr (8, x9)] (t8_copyFrom a10 x9 g6) cw_cX8_copyFrom (Or.inl ml_9_296) rfl rfl (by decide) (by decide) (Nat.le_of_ble_eq_true rfl) dX9_finish_37 (fun _ g11 => ?_)
  refine k_aloadn (j := 0) dX9_finish_40 rfl rfl ?_
  refine k_getr fg_9_16 rfl rfl dX9_finish_41 (fun x12 => ?_)
  refine k_iloadn (j := 1) dX9_finish_44 rfl rfl ?_
  refine k_iloadn (j := 2) dX9_finish_45 rfl rfl ?_
  rcases x12 with _ | a13
  · exact k_ocn
  refine k_ocs ?_
  refine k_callVi [.inl v1, .inl v2] (t8_ticksUntilDone a13 v1 v2 g11) cw_cX8_ticksUntilDone (Or.inl ml_9_300) rfl rfl (by decide) (by decide) (Nat.le_of_ble_eq_true rfl) dX9_finish_46 (fun z15 g14 => ?_)
  exact k_ireturn rfl dX9_finish_49
theorem dX9_urgency_0 : decode cX9_urgency 0 = .ok (.aload_n 0, 1) := by decide +kernel
theorem dX9_urgency_1 : decode cX9_urgency 1 = .ok (.getfield 10, 3) := by decide +kernel
theorem dX9_urgency_4 : decode cX9_urgency 4 = .ok (.iload_n 1, 1) := by decide +kernel
theorem dX9_urgency_5 : decode cX9_urgency 5 = .ok (.invokevirtual 122, 3) := by decide +kernel
theorem dX9_urgency_8 : decode cX9_urgency 8 = .ok (.astore_n 3, 1) := by decide +kernel
theorem dX9_urgency_9 : decode cX9_urgency 9 = .ok (.aload_n 3, 1) := by decide +kernel
theorem dX9_urgency_10 : decode cX9_urgency 10 = .ok (.ifnonnull 5, 3) := by decide +kernel
theorem dX9_urgency_13 : decode cX9_urgency 13 = .ok (.iconst (-1), 1) := by decide +kernel
theorem dX9_urgency_14 : decode cX9_urgency 14 = .ok (.ireturn, 1) := by decide +kernel
theorem dX9_urgency_15 : decode cX9_urgency 15 = .ok (.iload_n 2, 1) := by decide +kernel
theorem dX9_urgency_16 : decode cX9_urgency 16 = .ok (.iconst 1, 1) := by decide +kernel
theorem dX9_urgency_17 : decode cX9_urgency 17 = .ok (.sipush 1000, 3) := by decide +kernel
theorem dX9_urgency_20 : decode cX9_urgency 20 = .ok (.invokestatic 37, 3) := by decide +kernel
theorem dX9_urgency_23 : decode cX9_urgency 23 = .ok (.ifCond .ne 6, 3) := by decide +kernel
theorem dX9_urgency_26 : decode cX9_urgency 26 = .ok (.bipush (-2), 2) := by decide +kernel
theorem dX9_urgency_28 : decode cX9_urgency 28 = .ok (.ireturn, 1) := by decide +kernel
theorem dX9_urgency_29 : decode cX9_urgency 29 = .ok (.aload_n 3, 1) := by decide +kernel
theorem dX9_urgency_30 : decode cX9_urgency 30 = .ok (.invokevirtual 263, 3) := by decide +kernel
theorem dX9_urgency_33 : decode cX9_urgency 33 = .ok (.ifCond .eq 6, 3) := by decide +kernel
theorem dX9_urgency_36 : decode cX9_urgency 36 = .ok (.bipush (-5), 2) := by decide +kernel
theorem dX9_urgency_38 : decode cX9_urgency 38 = .ok (.ireturn, 1) := by decide +kernel
theorem dX9_urgency_39 : decode cX9_urgency 39 = .ok (.iconst 0, 1) := by decide +kernel
theorem dX9_urgency_40 : decode cX9_urgency 40 = .ok (.istore 4, 2) := by decide +kernel
theorem dX9_urgency_42 : decode cX9_urgency 42 = .ok (.iload 4, 2) := by decide +kernel
theorem dX9_urgency_44 : decode cX9_urgency 44 = .ok (.bipush 9, 2) := by decide +kernel
theorem dX9_urgency_46 : decode cX9_urgency 46 = .ok (.if_icmp .gt 62, 3) := by decide +kernel
theorem dX9_urgency_49 : decode cX9_urgency 49 = .ok (.aload_n 0, 1) := by decide +kernel
theorem dX9_urgency_50 : decode cX9_urgency 50 = .ok (.getfield 16, 3) := by decide +kernel
theorem dX9_urgency_53 : decode cX9_urgency 53 = .ok (.aload_n 0, 1) := by decide +kernel
theorem dX9_urgency_54 : decode cX9_urgency 54 = .ok (.getfield 10, 3) := by decide +kernel
theorem dX9_urgency_57 : decode cX9_urgency 57 = .ok (.invokevirtual 296, 3) := by decide +kernel
theorem dX9_urgency_60 : decode cX9_urgency 60 = .ok (.aload_n 0, 1) := by decide +kernel
theorem dX9_urgency_61 : decode cX9_urgency 61 = .ok (.getfield 16, 3) := by decide +kernel
theorem dX9_urgency_64 : decode cX9_urgency 64 = .ok (.iload_n 1, 1) := by decide +kernel
theorem dX9_urgency_65 : decode cX9_urgency 65 = .ok (.invokevirtual 122, 3) := by decide +kernel
theorem dX9_urgency_68 : decode cX9_urgency 68 = .ok (.astore 5, 2) := by decide +kernel
theorem dX9_urgency_70 : decode cX9_urgency 70 = .ok (.aload 5, 2) := by decide +kernel
theorem dX9_urgency_72 : decode cX9_urgency 72 = .ok (.ifnonnull 6, 3) := by decide +kernel
theorem dX9_urgency_75 : decode cX9_urgency 75 = .ok (.bipush (-6), 2) := by decide +kernel
theorem dX9_urgency_77 : decode cX9_urgency 77 = .ok (.ireturn, 1) := by decide +kernel
theorem dX9_urgency_78 : decode cX9_urgency 78 = .ok (.aload 5, 2) := by decide +kernel
theorem dX9_urgency_80 : decode cX9_urgency 80 = .ok (.iload 4, 2) := by decide +kernel
theorem dX9_urgency_82 : decode cX9_urgency 82 = .ok (.putfield 144, 3) := by decide +kernel
theorem dX9_urgency_85 : decode cX9_urgency 85 = .ok (.aload_n 0, 1) := by decide +kernel
theorem dX9_urgency_86 : decode cX9_urgency 86 = .ok (.getfield 16, 3) := by decide +kernel
theorem dX9_urgency_89 : decode cX9_urgency 89 = .ok (.iload_n 1, 1) := by decide +kernel
theorem dX9_urgency_90 : decode cX9_urgency 90 = .ok (.iload_n 2, 1) := by decide +kernel
theorem dX9_urgency_91 : decode cX9_urgency 91 = .ok (.invokevirtual 300, 3) := by decide +kernel
theorem dX9_urgency_94 : decode cX9_urgency 94 = .ok (.bipush (-6), 2) := by decide +kernel
theorem dX9_urgency_96 : decode cX9_urgency 96 = .ok (.if_icmp .eq 6, 3) := by decide +kernel
theorem dX9_urgency_99 : decode cX9_urgency 99 = .ok (.iload 4, 2) := by decide +kernel
theorem dX9_urgency_101 : decode cX9_urgency 101 = .ok (.ireturn, 1) := by decide +kernel
theorem dX9_urgency_102 : decode cX9_urgency 102 = .ok (.iinc 4 1, 3) := by decide +kernel
theorem dX9_urgency_105 : decode cX9_urgency 105 = .ok (.goto (-63), 3) := by decide +kernel
theorem dX9_urgency_108 : decode cX9_urgency 108 = .ok (.bipush (-6), 2) := by decide +kernel
theorem dX9_urgency_110 : decode cX9_urgency 110 = .ok (.ireturn, 1) := by decide +kernel
def f9_urgency_b42 : Nat → Nat → Int32 → Int32 → Int32 → GS_ → Option (Int32 × GS_)
  | 0, _, _, _, _, _ => none
  | n + 1, v0, v1, v2, v4, g =>
    if (9 : Int32) < v4 then some ((-6 : Int32), g) else lr_ (gfr g 289 v0) fun x1 => lr_ (gfr g 288 v0) fun x2 => oc_ x1 none fun a3 => bd_ (f8_copyFrom a3 x2 g) fun _ g4 => lr_ (gfr g4 289 v0) fun x5 => oc_ x5 none fun a6 => bd_ (f8_jobAt a6 v1 g4) fun x8 g7 => oc_ x8 (some ((-6 : Int32), g7)) fun a9 => lr_ (sfi g7 34 a9 v4) fun g10 => lr_ (gfr g10 289 v0) fun x11 => oc_ x11 none fun a12 => bd_ (f8_ticksUntilDone a12 v1 v2 g10) fun z14 g13 => if z14 = (-6 : Int32) then (f9_urgency_b42 n) v0 v1 v2 (v4 + (1 : Int32)) g13 else some (v4, g13)
theorem t9_urgency_b42 : ∀ (n : Nat) (v0 : Nat) (v1 : Int32) (v2 : Int32) (v4 : Int32) (g : GS_), K_ RX9 cX9_urgency 6 (some .int) 7 161 false EI_ 42 [some (.inr (9, some v0)), some (.inl v1), some (.inl v2), none, some (.inl v4), none] [] g (f9_urgency_b42 n v0 v1 v2 v4 g) := by
  intro n
  induction n with
  | zero =>
    intro v0 v1 v2 v4 g
    exact k_fail
  | succ n ih =>
    intro v0 v1 v2 v4 g
    show K_ RX9 cX9_urgency 6 (some .int) 7 161 false EI_ 42 [some (.inr (9, some v0)), some (.inl v1), some (.inl v2), none, some (.inl v4), none] [] g (if (9 : Int32) < v4 then some ((-6 : Int32), g) else lr_ (gfr g 289 v0) fun x1 => lr_ (gfr g 288 v0) fun x2 => oc_ x1 none fun a3 => bd_ (f8_copyFrom a3 x2 g) fun _ g4 => lr_ (gfr g4 289 v0) fun x5 => oc_ x5 none fun a6 => bd_ (f8_jobAt a6 v1 g4) fun x8 g7 => oc_ x8 (some ((-6 : Int32), g7)) fun a9 => lr_ (sfi g7 34 a9 v4) fun g10 => lr_ (gfr g10 289 v0) fun x11 => oc_ x11 none fun a12 => bd_ (f8_ticksUntilDone a12 v1 v2 g10) fun z14 g13 => if z14 = (-6 : Int32) then (f9_urgency_b42 n) v0 v1 v2 (v4 + (1 : Int32)) g13 else some (v4, g13))
    refine k_iload dX9_urgency_42 rfl ?_
    refine k_bipush (v := (9 : Int32)) dX9_urgency_44 rfl ?_
    refine k_icmpgt (tgt := 108) dX9_urgency_46 (by decide) (fun _ => ?_) (fun _ => ?_)
    · refine k_bipush (v := (-6 : Int32)) dX9_urgency_108 rfl ?_
      exact k_ireturn rfl dX9_urgency_110
    refine k_aloadn (j := 0) dX9_urgency_49 rfl rfl ?_
    refine k_getr fg_9_16 rfl rfl dX9_urgency_50 (fun x1 => ?_)
    refine k_aloadn (j := 0) dX9_urgency_53 rfl rfl ?_
    refine k_getr fg_9_10 rfl rfl dX9_urgency_54 (fun x2 => ?_)
    rcases x1 with _ | a3
    · exact k_ocn
    refine k_ocs ?_
    refine k_callVv [.inr (8, x2)] (t8_copyFrom a3 x2 g) cw_cX8_copyFrom (Or.inl ml_9_296) rfl rfl (by decide) (by decide) (Nat.le_of_ble_eq_true rfl) dX9_urgency_57 (fun _ g4 => ?_)
    refine k_aloadn (j := 0) dX9_urgency_60 rfl rfl ?_
    refine k_getr fg_9_16 rfl rfl dX9_urgency_61 (fun x5 => ?_)
    refine k_iloadn (j := 1) dX9_urgency_64 rfl rfl ?_
    rcases x5 with _ | a6
    · exact k_ocn
    refine k_ocs ?_
    refine k_callVr [.inl v1] (t8_jobAt a6 v1 g4) cw_cX8_jobAt (Or.inl ml_9_122) rfl rfl (by decide) (by decide) (Nat.le_of_ble_eq_true rfl) dX9_urgency_65 (fun x8 g7 => ?_)
    refine k_ast (L' := [some (.inr (9, some v0)), some (.inl v1), some (.inl v2), none, some (.inl v4), some (.inr (1, x8))]) dX9_urgency_68 (by decide) rfl ?_
    refine k_aload dX9_urgency_70 rfl ?_
    rcases x8 with _ | a9
    · refine k_ifnonnulln dX9_urgency_72 ?_
      refine k_bipush (v := (-6 : Int32)) dX9_urgency_75 rfl ?_
      exact k_ireturn rfl dX9_urgency_77
    refine k_ifnonnulls (tgt := 78) dX9_urgency_72 (by decide) ?_
    refine k_aload dX9_urgency_78 rfl ?_
    refine k_iload dX9_urgency_80 rfl ?_
    refine k_puti fp_9_144 rfl rfl dX9_urgency_82 (fun g10 => ?_)
    refine k_aloadn (j := 0) dX9_urgency_85 rfl rfl ?_
    refine k_getr fg_9_16 rfl rfl dX9_urgency_86 (fun x11 => ?_)
    refine k_iloadn (j := 1) dX9_urgency_89 rfl rfl ?_
    refine k_iloadn (j := 2) dX9_urgency_90 rfl rfl ?_
    rcases x11 with _ | a12
    · exact k_ocn
    refine k_ocs ?_
    refine k_callVi [.inl v1, .inl v2] (t8_ticksUntilDone a12 v1 v2 g10) cw_cX8_ticksUntilDone (Or.inl ml_9_300) rfl rfl (by decide) (by decide) (Nat.le_of_ble_eq_true rfl) dX9_urgency_91 (fun z14 g13 => ?_)
    refine k_bipush (v := (-6 : Int32)) dX9_urgency_94 rfl ?_
    refine k_icmpeq (tgt := 102) dX9_urgency_96 (by decide) (fun _ => ?_) (fun _ => ?_)
    · refine k_iinc (v := (v4 + (1 : Int32))) (L' := [some (.inr (9, some v0)), some (.inl v1), some (.inl v2), none, some (.inl (v4 + (1 : Int32))), some (.inr (1, some a9))]) dX9_urgency_102 rfl rfl (by decide) rfl ?_
      refine k_goto (tgt := 42) dX9_urgency_105 (by decide) ?_
      refine k_msk (L' := [some (.inr (9, some v0)), some (.inl v1), some (.inl v2), none, some (.inl (v4 + (1 : Int32))), none]) [true, true, true, true, true, false] rfl ?_
      exact ih v0 v1 v2 (v4 + (1 : Int32)) g13
    refine k_iload dX9_urgency_99 rfl ?_
    exact k_ireturn rfl dX9_urgency_101
def f9_urgency (v0 : Nat) (v1 : Int32) (v2 : Int32) (g : GS_) : Option (Int32 × GS_) :=
  lr_ (gfr g 288 v0) fun x15 => oc_ x15 none fun a16 => bd_ (f8_jobAt a16 v1 g) fun x18 g17 => oc_ x18 (some ((-1 : Int32), g17)) fun a19 => bd_ (f9_within v2 (1 : Int32) (1000 : Int32) g17) fun z21 g20 => if z21 = 0 then some ((-2 : Int32), g20) else bd_ (f1_isOver a19 g20) fun z23 g22 => if z23 = 0 then f9_urgency_b42 FU_ v0 v1 v2 (0 : Int32) g22 else some ((-5 : Int32), g22)
theorem t9_urgency (v0 : Nat) (v1 : Int32) (v2 : Int32) (g : GS_) : Cn_ yX9_urgency cX9_urgency 6 (some .int) 7 161 EI_ [.inr (9, some v0), .inl v1, .inl v2] g (f9_urgency v0 v1 v2 g) := by
  refine k_method (own := RX9) (ini := false) (L1 := [some (.inr (9, some v0)), some (.inl v1), some (.inl v2), none, none, none]) (by decide +kernel) rfl (fun h => by cases h) (Nat.le_of_ble_eq_true rfl) rfl ?_
  unfold f9_urgency
  refine k_aloadn (j := 0) dX9_urgency_0 rfl rfl ?_
  refine k_getr fg_9_10 rfl rfl dX9_urgency_1 (fun x15 => ?_)
  refine k_iloadn (j := 1) dX9_urgency_4 rfl rfl ?_
  rcases x15 with _ | a16
  · exact k_ocn
  refine k_ocs ?_
  refine k_callVr [.inl v1] (t8_jobAt a16 v1 g) cw_cX8_jobAt (Or.inl ml_9_122) rfl rfl (by decide) (by decide) (Nat.le_of_ble_eq_true rfl) dX9_urgency_5 (fun x18 g17 => ?_)
  refine k_astn (j := 3) (L' := [some (.inr (9, some v0)), some (.inl v1), some (.inl v2), some (.inr (1, x18)), none, none]) dX9_urgency_8 rfl (by decide) rfl ?_
  refine k_aloadn (j := 3) dX9_urgency_9 rfl rfl ?_
  rcases x18 with _ | a19
  · refine k_ifnonnulln dX9_urgency_10 ?_
    refine k_iconst (v := (-1 : Int32)) dX9_urgency_13 rfl ?_
    exact k_ireturn rfl dX9_urgency_14
  refine k_ifnonnulls (tgt := 15) dX9_urgency_10 (by decide) ?_
  refine k_iloadn (j := 2) dX9_urgency_15 rfl rfl ?_
  refine k_iconst (v := (1 : Int32)) dX9_urgency_16 rfl ?_
  refine k_sipush (v := (1000 : Int32)) dX9_urgency_17 rfl ?_
  refine k_callSi [.inl v2, .inl (1 : Int32), .inl (1000 : Int32)] (t9_within v2 (1 : Int32) (1000 : Int32) g17) cw_cX9_within ml_9_37 rfl rfl (by decide) (by decide) (Nat.le_of_ble_eq_true rfl) dX9_urgency_20 (fun z21 g20 => ?_)
  refine k_ifne (tgt := 29) dX9_urgency_23 (by decide) (fun _ => ?_) (fun _ => ?_)
  · refine k_bipush (v := (-2 : Int32)) dX9_urgency_26 rfl ?_
    exact k_ireturn rfl dX9_urgency_28
  refine k_aloadn (j := 3) dX9_urgency_29 rfl rfl ?_
  refine k_callVi [] (t1_isOver a19 g20) cw_cX1_isOver (Or.inl ml_9_263) rfl rfl (by decide) (by decide) (Nat.le_of_ble_eq_true rfl) dX9_urgency_30 (fun z23 g22 => ?_)
  refine k_ifeq (tgt := 39) dX9_urgency_33 (by decide) (fun _ => ?_) (fun _ => ?_)
  · refine k_iconst (v := (0 : Int32)) dX9_urgency_39 rfl ?_
    refine k_ist (L' := [some (.inr (9, some v0)), some (.inl v1), some (.inl v2), some (.inr (1, some a19)), some (.inl (0 : Int32)), none]) dX9_urgency_40 (by decide) rfl ?_
    refine k_msk (L' := [some (.inr (9, some v0)), some (.inl v1), some (.inl v2), none, some (.inl (0 : Int32)), none]) [true, true, true, false, true, true] rfl ?_
    exact t9_urgency_b42 FU_ v0 v1 v2 (0 : Int32) g22
  refine k_bipush (v := (-5 : Int32)) dX9_urgency_36 rfl ?_
  exact k_ireturn rfl dX9_urgency_38
theorem dX9_finisher_0 : decode cX9_finisher 0 = .ok (.iload_n 2, 1) := by decide +kernel
theorem dX9_finisher_1 : decode cX9_finisher 1 = .ok (.iconst 1, 1) := by decide +kernel
theorem dX9_finisher_2 : decode cX9_finisher 2 = .ok (.sipush 3000, 3) := by decide +kernel
theorem dX9_finisher_5 : decode cX9_finisher 5 = .ok (.invokestatic 37, 3) := by decide +kernel
theorem dX9_finisher_8 : decode cX9_finisher 8 = .ok (.ifCond .ne 6, 3) := by decide +kernel
theorem dX9_finisher_11 : decode cX9_finisher 11 = .ok (.bipush (-2), 2) := by decide +kernel
theorem dX9_finisher_13 : decode cX9_finisher 13 = .ok (.ireturn, 1) := by decide +kernel
theorem dX9_finisher_14 : decode cX9_finisher 14 = .ok (.iload_n 1, 1) := by decide +kernel
theorem dX9_finisher_15 : decode cX9_finisher 15 = .ok (.iconst 0, 1) := by decide +kernel
theorem dX9_finisher_16 : decode cX9_finisher 16 = .ok (.bipush 23, 2) := by decide +kernel
theorem dX9_finisher_18 : decode cX9_finisher 18 = .ok (.invokestatic 37, 3) := by decide +kernel
theorem dX9_finisher_21 : decode cX9_finisher 21 = .ok (.ifCond .ne 6, 3) := by decide +kernel
theorem dX9_finisher_24 : decode cX9_finisher 24 = .ok (.bipush (-6), 2) := by decide +kernel
theorem dX9_finisher_26 : decode cX9_finisher 26 = .ok (.ireturn, 1) := by decide +kernel
theorem dX9_finisher_27 : decode cX9_finisher 27 = .ok (.aload_n 0, 1) := by decide +kernel
theorem dX9_finisher_28 : decode cX9_finisher 28 = .ok (.getfield 16, 3) := by decide +kernel
theorem dX9_finisher_31 : decode cX9_finisher 31 = .ok (.aload_n 0, 1) := by decide +kernel
theorem dX9_finisher_32 : decode cX9_finisher 32 = .ok (.getfield 10, 3) := by decide +kernel
theorem dX9_finisher_35 : decode cX9_finisher 35 = .ok (.invokevirtual 296, 3) := by decide +kernel
theorem dX9_finisher_38 : decode cX9_finisher 38 = .ok (.aload_n 0, 1) := by decide +kernel
theorem dX9_finisher_39 : decode cX9_finisher 39 = .ok (.getfield 16, 3) := by decide +kernel
theorem dX9_finisher_42 : decode cX9_finisher 42 = .ok (.aload_n 0, 1) := by decide +kernel
theorem dX9_finisher_43 : decode cX9_finisher 43 = .ok (.getfield 16, 3) := by decide +kernel
theorem dX9_finisher_46 : decode cX9_finisher 46 = .ok (.getfield 303, 3) := by decide +kernel
theorem dX9_finisher_49 : decode cX9_finisher 49 = .ok (.iload_n 1, 1) := by decide +kernel
theorem dX9_finisher_50 : decode cX9_finisher 50 = .ok (.iadd, 1) := by decide +kernel
theorem dX9_finisher_51 : decode cX9_finisher 51 = .ok (.iload_n 2, 1) := by decide +kernel
theorem dX9_finisher_52 : decode cX9_finisher 52 = .ok (.invokevirtual 306, 3) := by decide +kernel
theorem dX9_finisher_55 : decode cX9_finisher 55 = .ok (.ireturn, 1) := by decide +kernel
def f9_finisher (v0 : Nat) (v1 : Int32) (v2 : Int32) (g : GS_) : Option (Int32 × GS_) :=
  bd_ (f9_within v2 (1 : Int32) (3000 : Int32) g) fun z2 g1 => if z2 = 0 then some ((-2 : Int32), g1) else bd_ (f9_within v1 (0 : Int32) (23 : Int32) g1) fun z4 g3 => if z4 = 0 then some ((-6 : Int32), g3) else lr_ (gfr g3 289 v0) fun x5 => lr_ (gfr g3 288 v0) fun x6 => oc_ x5 none fun a7 => bd_ (f8_copyFrom a7 x6 g3) fun _ g8 => lr_ (gfr g8 289 v0) fun x9 => lr_ (gfr g8 289 v0) fun x10 => oc_ x10 none fun a11 => oc_ x9 none fun a12 => bd_ (f8_jobFinishedAs a12 ((gfi g8 268 a11) + v1) v2 g8) fun z14 g13 => some (z14, g13)
theorem t9_finisher (v0 : Nat) (v1 : Int32) (v2 : Int32) (g : GS_) : Cn_ yX9_finisher cX9_finisher 3 (some .int) 7 160 EI_ [.inr (9, some v0), .inl v1, .inl v2] g (f9_finisher v0 v1 v2 g) := by
  refine k_method (own := RX9) (ini := false) (L1 := [some (.inr (9, some v0)), some (.inl v1), some (.inl v2)]) (by decide +kernel) rfl (fun h => by cases h) (Nat.le_of_ble_eq_true rfl) rfl ?_
  unfold f9_finisher
  refine k_iloadn (j := 2) dX9_finisher_0 rfl rfl ?_
  refine k_iconst (v := (1 : Int32)) dX9_finisher_1 rfl ?_
  refine k_sipush (v := (3000 : Int32)) dX9_finisher_2 rfl ?_
  refine k_callSi [.inl v2, .inl (1 : Int32), .inl (3000 : Int32)] (t9_within v2 (1 : Int32) (3000 : Int32) g) cw_cX9_within ml_9_37 rfl rfl (by decide) (by decide) (Nat.le_of_ble_eq_true rfl) dX9_finisher_5 (fun z2 g1 => ?_)
  refine k_ifne (tgt := 14) dX9_finisher_8 (by decide) (fun _ => ?_) (fun _ => ?_)
  · refine k_bipush (v := (-2 : Int32)) dX9_finisher_11 rfl ?_
    exact k_ireturn rfl dX9_finisher_13
  refine k_iloadn (j := 1) dX9_finisher_14 rfl rfl ?_
  refine k_iconst (v := (0 : Int32)) dX9_finisher_15 rfl ?_
  refine k_bipush (v := (23 : Int32)) dX9_finisher_16 rfl ?_
  refine k_callSi [.inl v1, .inl (0 : Int32), .inl (23 : Int32)] (t9_within v1 (0 : Int32) (23 : Int32) g1) cw_cX9_within ml_9_37 rfl rfl (by decide) (by decide) (Nat.le_of_ble_eq_true rfl) dX9_finisher_18 (fun z4 g3 => ?_)
  refine k_ifne (tgt := 27) dX9_finisher_21 (by decide) (fun _ => ?_) (fun _ => ?_)
  · refine k_bipush (v := (-6 : Int32)) dX9_finisher_24 rfl ?_
    exact k_ireturn rfl dX9_finisher_26
  refine k_aloadn (j := 0) dX9_finisher_27 rfl rfl ?_
  refine k_getr fg_9_16 rfl rfl dX9_finisher_28 (fun x5 => ?_)
  refine k_aloadn (j := 0) dX9_finisher_31 rfl rfl ?_
  refine k_getr fg_9_10 rfl rfl dX9_finisher_32 (fun x6 => ?_)
  rcases x5 with _ | a7
  · exact k_ocn
  refine k_ocs ?_
  refine k_callVv [.inr (8, x6)] (t8_copyFrom a7 x6 g3) cw_cX8_copyFrom (Or.inl ml_9_296) rfl rfl (by decide) (by decide) (Nat.le_of_ble_eq_true rfl) dX9_finisher_35 (fun _ g8 => ?_)
  refine k_aloadn (j := 0) dX9_finisher_38 rfl rfl ?_
  refine k_getr fg_9_16 rfl rfl dX9_finisher_39 (fun x9 => ?_)
  refine k_aloadn (j := 0) dX9_finisher_42 rfl rfl ?_
  refine k_getr fg_9_16 rfl rfl dX9_finisher_43 (fun x10 => ?_)
  rcases x10 with _ | a11
  · exact k_ocn
  refine k_ocs ?_
  refine k_geti fg_9_303 rfl rfl dX9_finisher_46 ?_
  refine k_iloadn (j := 1) dX9_finisher_49 rfl rfl ?_
  refine k_iadd dX9_finisher_50 ?_
  refine k_iloadn (j := 2) dX9_finisher_51 rfl rfl ?_
  rcases x9 with _ | a12
  · exact k_ocn
  refine k_ocs ?_
  refine k_callVi [.inl ((gfi g8 268 a11) + v1), .inl v2] (t8_jobFinishedAs a12 ((gfi g8 268 a11) + v1) v2 g8) cw_cX8_jobFinishedAs (Or.inl ml_9_306) rfl rfl (by decide) (by decide) (Nat.le_of_ble_eq_true rfl) dX9_finisher_52 (fun z14 g13 => ?_)
  exact k_ireturn rfl dX9_finisher_55
theorem dX9_count_0 : decode cX9_count 0 = .ok (.iload_n 1, 1) := by decide +kernel
theorem dX9_count_1 : decode cX9_count 1 = .ok (.tableswitch 105 0 6 #[43, 51, 59, 67, 75, 86, 97], 43) := by decide +kernel
theorem dX9_count_44 : decode cX9_count 44 = .ok (.aload_n 0, 1) := by decide +kernel
theorem dX9_count_45 : decode cX9_count 45 = .ok (.getfield 10, 3) := by decide +kernel
theorem dX9_count_48 : decode cX9_count 48 = .ok (.getfield 41, 3) := by decide +kernel
theorem dX9_count_51 : decode cX9_count 51 = .ok (.ireturn, 1) := by decide +kernel
theorem dX9_count_52 : decode cX9_count 52 = .ok (.aload_n 0, 1) := by decide +kernel
theorem dX9_count_53 : decode cX9_count 53 = .ok (.getfield 10, 3) := by decide +kernel
theorem dX9_count_56 : decode cX9_count 56 = .ok (.getfield 105, 3) := by decide +kernel
theorem dX9_count_59 : decode cX9_count 59 = .ok (.ireturn, 1) := by decide +kernel
theorem dX9_count_60 : decode cX9_count 60 = .ok (.aload_n 0, 1) := by decide +kernel
theorem dX9_count_61 : decode cX9_count 61 = .ok (.getfield 10, 3) := by decide +kernel
theorem dX9_count_64 : decode cX9_count 64 = .ok (.getfield 309, 3) := by decide +kernel
theorem dX9_count_67 : decode cX9_count 67 = .ok (.ireturn, 1) := by decide +kernel
theorem dX9_count_68 : decode cX9_count 68 = .ok (.aload_n 0, 1) := by decide +kernel
theorem dX9_count_69 : decode cX9_count 69 = .ok (.getfield 10, 3) := by decide +kernel
theorem dX9_count_72 : decode cX9_count 72 = .ok (.getfield 165, 3) := by decide +kernel
theorem dX9_count_75 : decode cX9_count 75 = .ok (.ireturn, 1) := by decide +kernel
theorem dX9_count_76 : decode cX9_count 76 = .ok (.aload_n 0, 1) := by decide +kernel
theorem dX9_count_77 : decode cX9_count 77 = .ok (.getfield 10, 3) := by decide +kernel
theorem dX9_count_80 : decode cX9_count 80 = .ok (.getfield 283, 3) := by decide +kernel
theorem dX9_count_83 : decode cX9_count 83 = .ok (.getfield 312, 3) := by decide +kernel
theorem dX9_count_86 : decode cX9_count 86 = .ok (.ireturn, 1) := by decide +kernel
theorem dX9_count_87 : decode cX9_count 87 = .ok (.aload_n 0, 1) := by decide +kernel
theorem dX9_count_88 : decode cX9_count 88 = .ok (.getfield 10, 3) := by decide +kernel
theorem dX9_count_91 : decode cX9_count 91 = .ok (.getfield 65, 3) := by decide +kernel
theorem dX9_count_94 : decode cX9_count 94 = .ok (.getfield 75, 3) := by decide +kernel
theorem dX9_count_97 : decode cX9_count 97 = .ok (.ireturn, 1) := by decide +kernel
theorem dX9_count_98 : decode cX9_count 98 = .ok (.aload_n 0, 1) := by decide +kernel
theorem dX9_count_99 : decode cX9_count 99 = .ok (.getfield 10, 3) := by decide +kernel
theorem dX9_count_102 : decode cX9_count 102 = .ok (.invokevirtual 315, 3) := by decide +kernel
theorem dX9_count_105 : decode cX9_count 105 = .ok (.ireturn, 1) := by decide +kernel
theorem dX9_count_106 : decode cX9_count 106 = .ok (.bipush (-2), 2) := by decide +kernel
theorem dX9_count_108 : decode cX9_count 108 = .ok (.ireturn, 1) := by decide +kernel
def f9_count (v0 : Nat) (v1 : Int32) (g : GS_) : Option (Int32 × GS_) :=
  if v1 = (0 : Int32) then lr_ (gfr g 288 v0) fun x1 => oc_ x1 none fun a2 => some ((gfi g 257 a2), g) else if v1 = (1 : Int32) then lr_ (gfr g 288 v0) fun x3 => oc_ x3 none fun a4 => some ((gfi g 259 a4), g) else if v1 = (2 : Int32) then lr_ (gfr g 288 v0) fun x5 => oc_ x5 none fun a6 => some ((gfi g 261 a6), g) else if v1 = (3 : Int32) then lr_ (gfr g 288 v0) fun x7 => oc_ x7 none fun a8 => some ((gfi g 271 a8), g) else if v1 = (4 : Int32) then lr_ (gfr g 288 v0) fun x9 => oc_ x9 none fun a10 => lr_ (gfr g 266 a10) fun x11 => oc_ x11 none fun a12 => some ((gfi g 65 a12), g) else if v1 = (5 : Int32) then lr_ (gfr g 288 v0) fun x13 => oc_ x13 none fun a14 => lr_ (gfr g 262 a14) fun x15 => oc_ x15 none fun a16 => some ((gfi g 193 a16), g) else if v1 = (6 : Int32) then lr_ (gfr g 288 v0) fun x17 => oc_ x17 none fun a18 => bd_ (f8_waitingJobs a18 g) fun z20 g19 => some (z20, g19) else some ((-2 : Int32), g)
theorem t9_count (v0 : Nat) (v1 : Int32) (g : GS_) : Cn_ yX9_count cX9_count 2 (some .int) 2 44 EI_ [.inr (9, some v0), .inl v1] g (f9_count v0 v1 g) := by
  refine k_method (own := RX9) (ini := false) (L1 := [some (.inr (9, some v0)), some (.inl v1)]) (by decide +kernel) rfl (fun h => by cases h) (Nat.le_of_ble_eq_true rfl) rfl ?_
  unfold f9_count
  refine k_iloadn (j := 1) dX9_count_0 rfl rfl ?_
  refine k_case (fun h0_ => ?_) (fun h0_ => ?_)
  · refine k_tin (tgt := 44) dX9_count_1 h0_ (by decide) (by decide) rfl (by decide) ?_
    refine k_aloadn (j := 0) dX9_count_44 rfl rfl ?_
    refine k_getr fg_9_10 rfl rfl dX9_count_45 (fun x1 => ?_)
    rcases x1 with _ | a2
    · exact k_ocn
    refine k_ocs ?_
    refine k_geti fg_9_41 rfl rfl dX9_count_48 ?_
    exact k_ireturn rfl dX9_count_51
  refine k_case (fun h1_ => ?_) (fun h1_ => ?_)
  · refine k_tin (tgt := 52) dX9_count_1 h1_ (by decide) (by decide) rfl (by decide) ?_
    refine k_aloadn (j := 0) dX9_count_52 rfl rfl ?_
    refine k_getr fg_9_10 rfl rfl dX9_count_53 (fun x3 => ?_)
    rcases x3 with _ | a4
    · exact k_ocn
    refine k_ocs ?_
    refine k_geti fg_9_105 rfl rfl dX9_count_56 ?_
    exact k_ireturn rfl dX9_count_59
  refine k_case (fun h2_ => ?_) (fun h2_ => ?_)
  · refine k_tin (tgt := 60) dX9_count_1 h2_ (by decide) (by decide) rfl (by decide) ?_
    refine k_aloadn (j := 0) dX9_count_60 rfl rfl ?_
    refine k_getr fg_9_10 rfl rfl dX9_count_61 (fun x5 => ?_)
    rcases x5 with _ | a6
    · exact k_ocn
    refine k_ocs ?_
    refine k_geti fg_9_309 rfl rfl dX9_count_64 ?_
    exact k_ireturn rfl dX9_count_67
  refine k_case (fun h3_ => ?_) (fun h3_ => ?_)
  · refine k_tin (tgt := 68) dX9_count_1 h3_ (by decide) (by decide) rfl (by decide) ?_
    refine k_aloadn (j := 0) dX9_count_68 rfl rfl ?_
    refine k_getr fg_9_10 rfl rfl dX9_count_69 (fun x7 => ?_)
    rcases x7 with _ | a8
    · exact k_ocn
    refine k_ocs ?_
    refine k_geti fg_9_165 rfl rfl dX9_count_72 ?_
    exact k_ireturn rfl dX9_count_75
  refine k_case (fun h4_ => ?_) (fun h4_ => ?_)
  · refine k_tin (tgt := 76) dX9_count_1 h4_ (by decide) (by decide) rfl (by decide) ?_
    refine k_aloadn (j := 0) dX9_count_76 rfl rfl ?_
    refine k_getr fg_9_10 rfl rfl dX9_count_77 (fun x9 => ?_)
    rcases x9 with _ | a10
    · exact k_ocn
    refine k_ocs ?_
    refine k_getr fg_9_283 rfl rfl dX9_count_80 (fun x11 => ?_)
    rcases x11 with _ | a12
    · exact k_ocn
    refine k_ocs ?_
    refine k_geti fg_9_312 rfl rfl dX9_count_83 ?_
    exact k_ireturn rfl dX9_count_86
  refine k_case (fun h5_ => ?_) (fun h5_ => ?_)
  · refine k_tin (tgt := 87) dX9_count_1 h5_ (by decide) (by decide) rfl (by decide) ?_
    refine k_aloadn (j := 0) dX9_count_87 rfl rfl ?_
    refine k_getr fg_9_10 rfl rfl dX9_count_88 (fun x13 => ?_)
    rcases x13 with _ | a14
    · exact k_ocn
    refine k_ocs ?_
    refine k_getr fg_9_65 rfl rfl dX9_count_91 (fun x15 => ?_)
    rcases x15 with _ | a16
    · exact k_ocn
    refine k_ocs ?_
    refine k_geti fg_9_75 rfl rfl dX9_count_94 ?_
    exact k_ireturn rfl dX9_count_97
  refine k_case (fun h6_ => ?_) (fun h6_ => ?_)
  · refine k_tin (tgt := 98) dX9_count_1 h6_ (by decide) (by decide) rfl (by decide) ?_
    refine k_aloadn (j := 0) dX9_count_98 rfl rfl ?_
    refine k_getr fg_9_10 rfl rfl dX9_count_99 (fun x17 => ?_)
    rcases x17 with _ | a18
    · exact k_ocn
    refine k_ocs ?_
    refine k_callVi [] (t8_waitingJobs a18 g) cw_cX8_waitingJobs (Or.inl ml_9_315) rfl rfl (by decide) (by decide) (Nat.le_of_ble_eq_true rfl) dX9_count_102 (fun z20 g19 => ?_)
    exact k_ireturn rfl dX9_count_105
  refine k_tout (tgt := 106) dX9_count_1 (by have q0 := lv_neT (a := 0) h0_ (by decide); have q1 := lv_neT (a := 1) h1_ (by decide); have q2 := lv_neT (a := 2) h2_ (by decide); have q3 := lv_neT (a := 3) h3_ (by decide); have q4 := lv_neT (a := 4) h4_ (by decide); have q5 := lv_neT (a := 5) h5_ (by decide); have q6 := lv_neT (a := 6) h6_ (by decide); omega) (by decide) ?_
  refine k_bipush (v := (-2 : Int32)) dX9_count_106 rfl ?_
  exact k_ireturn rfl dX9_count_108
theorem dX9_slotAt_0 : decode cX9_slotAt 0 = .ok (.iload_n 1, 1) := by decide +kernel
theorem dX9_slotAt_1 : decode cX9_slotAt 1 = .ok (.iconst 0, 1) := by decide +kernel
theorem dX9_slotAt_2 : decode cX9_slotAt 2 = .ok (.iconst 1, 1) := by decide +kernel
theorem dX9_slotAt_3 : decode cX9_slotAt 3 = .ok (.invokestatic 37, 3) := by decide +kernel
theorem dX9_slotAt_6 : decode cX9_slotAt 6 = .ok (.ifCond .eq 12, 3) := by decide +kernel
theorem dX9_slotAt_9 : decode cX9_slotAt 9 = .ok (.aload_n 0, 1) := by decide +kernel
theorem dX9_slotAt_10 : decode cX9_slotAt 10 = .ok (.getfield 19, 3) := by decide +kernel
theorem dX9_slotAt_13 : decode cX9_slotAt 13 = .ok (.iload_n 1, 1) := by decide +kernel
theorem dX9_slotAt_14 : decode cX9_slotAt 14 = .ok (.aaload, 1) := by decide +kernel
theorem dX9_slotAt_15 : decode cX9_slotAt 15 = .ok (.goto 4, 3) := by decide +kernel
theorem dX9_slotAt_18 : decode cX9_slotAt 18 = .ok (.aconst_null, 1) := by decide +kernel
theorem dX9_slotAt_19 : decode cX9_slotAt 19 = .ok (.areturn, 1) := by decide +kernel
def f9_slotAt (v0 : Nat) (v1 : Int32) (g : GS_) : Option (Option Nat × GS_) :=
  bd_ (f9_within v1 (0 : Int32) (1 : Int32) g) fun z2 g1 => if z2 = 0 then some (none, g1) else lr_ (gfr g1 290 v0) fun x3 => oc_ x3 none fun a4 => if inb v1 (gln g1 25 a4) then lr_ (gar g1 25 a4 v1.toInt.toNat) (fun x5 => some (x5, g1)) else none
theorem t9_slotAt (v0 : Nat) (v1 : Int32) (g : GS_) : Cn_ yX9_slotAt cX9_slotAt 2 (some (.object RX8)) 1 22 (ER_ 8) [.inr (9, some v0), .inl v1] g (f9_slotAt v0 v1 g) := by
  refine k_method (own := RX9) (ini := false) (L1 := [some (.inr (9, some v0)), some (.inl v1)]) (by decide +kernel) rfl (fun h => by cases h) (Nat.le_of_ble_eq_true rfl) rfl ?_
  unfold f9_slotAt
  refine k_iloadn (j := 1) dX9_slotAt_0 rfl rfl ?_
  refine k_iconst (v := (0 : Int32)) dX9_slotAt_1 rfl ?_
  refine k_iconst (v := (1 : Int32)) dX9_slotAt_2 rfl ?_
  refine k_callSi [.inl v1, .inl (0 : Int32), .inl (1 : Int32)] (t9_within v1 (0 : Int32) (1 : Int32) g) cw_cX9_within ml_9_37 rfl rfl (by decide) (by decide) (Nat.le_of_ble_eq_true rfl) dX9_slotAt_3 (fun z2 g1 => ?_)
  refine k_ifeq (tgt := 18) dX9_slotAt_6 (by decide) (fun _ => ?_) (fun _ => ?_)
  · refine k_null (t := 8) dX9_slotAt_18 ?_
    exact k_areturn rfl (Or.inl ⟨_, rfl⟩) dX9_slotAt_19
  refine k_aloadn (j := 0) dX9_slotAt_9 rfl rfl ?_
  refine k_getr fg_9_19 rfl rfl dX9_slotAt_10 (fun x3 => ?_)
  refine k_iloadn (j := 1) dX9_slotAt_13 rfl rfl ?_
  rcases x3 with _ | a4
  · exact k_ocn
  refine k_ocs ?_
  refine k_aald rfl dX9_slotAt_14 (fun x5 => ?_)
  refine k_goto (tgt := 19) dX9_slotAt_15 (by decide) ?_
  exact k_areturn rfl (Or.inl ⟨_, rfl⟩) dX9_slotAt_19
theorem dX9_save_0 : decode cX9_save 0 = .ok (.aload_n 0, 1) := by decide +kernel
theorem dX9_save_1 : decode cX9_save 1 = .ok (.iload_n 1, 1) := by decide +kernel
theorem dX9_save_2 : decode cX9_save 2 = .ok (.invokevirtual 318, 3) := by decide +kernel
theorem dX9_save_5 : decode cX9_save 5 = .ok (.astore_n 2, 1) := by decide +kernel
theorem dX9_save_6 : decode cX9_save 6 = .ok (.aload_n 2, 1) := by decide +kernel
theorem dX9_save_7 : decode cX9_save 7 = .ok (.ifnonnull 6, 3) := by decide +kernel
theorem dX9_save_10 : decode cX9_save 10 = .ok (.bipush (-2), 2) := by decide +kernel
theorem dX9_save_12 : decode cX9_save 12 = .ok (.ireturn, 1) := by decide +kernel
theorem dX9_save_13 : decode cX9_save 13 = .ok (.aload_n 2, 1) := by decide +kernel
theorem dX9_save_14 : decode cX9_save 14 = .ok (.aload_n 0, 1) := by decide +kernel
theorem dX9_save_15 : decode cX9_save 15 = .ok (.getfield 10, 3) := by decide +kernel
theorem dX9_save_18 : decode cX9_save 18 = .ok (.invokevirtual 296, 3) := by decide +kernel
theorem dX9_save_21 : decode cX9_save 21 = .ok (.aload_n 2, 1) := by decide +kernel
theorem dX9_save_22 : decode cX9_save 22 = .ok (.iconst 1, 1) := by decide +kernel
theorem dX9_save_23 : decode cX9_save 23 = .ok (.putfield 322, 3) := by decide +kernel
theorem dX9_save_26 : decode cX9_save 26 = .ok (.aload_n 0, 1) := by decide +kernel
theorem dX9_save_27 : decode cX9_save 27 = .ok (.getfield 10, 3) := by decide +kernel
theorem dX9_save_30 : decode cX9_save 30 = .ok (.getfield 165, 3) := by decide +kernel
theorem dX9_save_33 : decode cX9_save 33 = .ok (.ireturn, 1) := by decide +kernel
def f9_save (v0 : Nat) (v1 : Int32) (g : GS_) : Option (Int32 × GS_) :=
  bd_ (f9_slotAt v0 v1 g) fun x2 g1 => oc_ x2 (some ((-2 : Int32), g1)) fun a3 => lr_ (gfr g1 288 v0) fun x4 => bd_ (f8_copyFrom a3 x4 g1) fun _ g5 => lr_ (sfi g5 272 a3 (1 : Int32)) fun g6 => lr_ (gfr g6 288 v0) fun x7 => oc_ x7 none fun a8 => some ((gfi g6 271 a8), g6)
theorem t9_save (v0 : Nat) (v1 : Int32) (g : GS_) : Cn_ yX9_save cX9_save 3 (some .int) 4 107 EI_ [.inr (9, some v0), .inl v1] g (f9_save v0 v1 g) := by
  refine k_method (own := RX9) (ini := false) (L1 := [some (.inr (9, some v0)), some (.inl v1), none]) (by decide +kernel) rfl (fun h => by cases h) (Nat.le_of_ble_eq_true rfl) rfl ?_
  unfold f9_save
  refine k_aloadn (j := 0) dX9_save_0 rfl rfl ?_
  refine k_iloadn (j := 1) dX9_save_1 rfl rfl ?_
  refine k_callVr [.inl v1] (t9_slotAt v0 v1 g) cw_cX9_slotAt (Or.inl ml_9_318) rfl rfl (by decide) (by decide) (Nat.le_of_ble_eq_true rfl) dX9_save_2 (fun x2 g1 => ?_)
  refine k_astn (j := 2) (L' := [some (.inr (9, some v0)), some (.inl v1), some (.inr (8, x2))]) dX9_save_5 rfl (by decide) rfl ?_
  refine k_aloadn (j := 2) dX9_save_6 rfl rfl ?_
  rcases x2 with _ | a3
  · refine k_ifnonnulln dX9_save_7 ?_
    refine k_bipush (v := (-2 : Int32)) dX9_save_10 rfl ?_
    exact k_ireturn rfl dX9_save_12
  refine k_ifnonnulls (tgt := 13) dX9_save_7 (by decide) ?_
  refine k_aloadn (j := 2) dX9_save_13 rfl rfl ?_
  refine k_aloadn (j := 0) dX9_save_14 rfl rfl ?_
  refine k_getr fg_9_10 rfl rfl dX9_save_15 (fun x4 => ?_)
  refine k_callVv [.inr (8, x4)] (t8_copyFrom a3 x4 g1) cw_cX8_copyFrom (Or.inl ml_9_296) rfl rfl (by decide) (by decide) (Nat.le_of_ble_eq_true rfl) dX9_save_18 (fun _ g5 => ?_)
  refine k_aloadn (j := 2) dX9_save_21 rfl rfl ?_
  refine k_iconst (v := (1 : Int32)) dX9_save_22 rfl ?_
  refine k_putz fp_9_322 rfl rfl (by decide) dX9_save_23 (fun g6 => ?_)
  refine k_aloadn (j := 0) dX9_save_26 rfl rfl ?_
  refine k_getr fg_9_10 rfl rfl dX9_save_27 (fun x7 => ?_)
  rcases x7 with _ | a8
  · exact k_ocn
  refine k_ocs ?_
  refine k_geti fg_9_165 rfl rfl dX9_save_30 ?_
  exact k_ireturn rfl dX9_save_33
theorem dX9_restore_0 : decode cX9_restore 0 = .ok (.aload_n 0, 1) := by decide +kernel
theorem dX9_restore_1 : decode cX9_restore 1 = .ok (.iload_n 1, 1) := by decide +kernel
theorem dX9_restore_2 : decode cX9_restore 2 = .ok (.invokevirtual 318, 3) := by decide +kernel
theorem dX9_restore_5 : decode cX9_restore 5 = .ok (.astore_n 2, 1) := by decide +kernel
theorem dX9_restore_6 : decode cX9_restore 6 = .ok (.aload_n 2, 1) := by decide +kernel
theorem dX9_restore_7 : decode cX9_restore 7 = .ok (.ifnonnull 6, 3) := by decide +kernel
theorem dX9_restore_10 : decode cX9_restore 10 = .ok (.bipush (-2), 2) := by decide +kernel
theorem dX9_restore_12 : decode cX9_restore 12 = .ok (.ireturn, 1) := by decide +kernel
theorem dX9_restore_13 : decode cX9_restore 13 = .ok (.aload_n 2, 1) := by decide +kernel
theorem dX9_restore_14 : decode cX9_restore 14 = .ok (.getfield 322, 3) := by decide +kernel
theorem dX9_restore_17 : decode cX9_restore 17 = .ok (.ifCond .ne 6, 3) := by decide +kernel
theorem dX9_restore_20 : decode cX9_restore 20 = .ok (.bipush (-5), 2) := by decide +kernel
theorem dX9_restore_22 : decode cX9_restore 22 = .ok (.ireturn, 1) := by decide +kernel
theorem dX9_restore_23 : decode cX9_restore 23 = .ok (.aload_n 0, 1) := by decide +kernel
theorem dX9_restore_24 : decode cX9_restore 24 = .ok (.getfield 10, 3) := by decide +kernel
theorem dX9_restore_27 : decode cX9_restore 27 = .ok (.aload_n 2, 1) := by decide +kernel
theorem dX9_restore_28 : decode cX9_restore 28 = .ok (.invokevirtual 296, 3) := by decide +kernel
theorem dX9_restore_31 : decode cX9_restore 31 = .ok (.aload_n 0, 1) := by decide +kernel
theorem dX9_restore_32 : decode cX9_restore 32 = .ok (.getfield 10, 3) := by decide +kernel
theorem dX9_restore_35 : decode cX9_restore 35 = .ok (.getfield 165, 3) := by decide +kernel
theorem dX9_restore_38 : decode cX9_restore 38 = .ok (.ireturn, 1) := by decide +kernel
def f9_restore (v0 : Nat) (v1 : Int32) (g : GS_) : Option (Int32 × GS_) :=
  bd_ (f9_slotAt v0 v1 g) fun x2 g1 => oc_ x2 (some ((-2 : Int32), g1)) fun a3 => if (gfi g1 272 a3) = 0 then some ((-5 : Int32), g1) else lr_ (gfr g1 288 v0) fun x4 => oc_ x4 none fun a5 => bd_ (f8_copyFrom a5 (some a3) g1) fun _ g6 => lr_ (gfr g6 288 v0) fun x7 => oc_ x7 none fun a8 => some ((gfi g6 271 a8), g6)
theorem t9_restore (v0 : Nat) (v1 : Int32) (g : GS_) : Cn_ yX9_restore cX9_restore 3 (some .int) 4 107 EI_ [.inr (9, some v0), .inl v1] g (f9_restore v0 v1 g) := by
  refine k_method (own := RX9) (ini := false) (L1 := [some (.inr (9, some v0)), some (.inl v1), none]) (by decide +kernel) rfl (fun h => by cases h) (Nat.le_of_ble_eq_true rfl) rfl ?_
  unfold f9_restore
  refine k_aloadn (j := 0) dX9_restore_0 rfl rfl ?_
  refine k_iloadn (j := 1) dX9_restore_1 rfl rfl ?_
  refine k_callVr [.inl v1] (t9_slotAt v0 v1 g) cw_cX9_slotAt (Or.inl ml_9_318) rfl rfl (by decide) (by decide) (Nat.le_of_ble_eq_true rfl) dX9_restore_2 (fun x2 g1 => ?_)
  refine k_astn (j := 2) (L' := [some (.inr (9, some v0)), some (.inl v1), some (.inr (8, x2))]) dX9_restore_5 rfl (by decide) rfl ?_
  refine k_aloadn (j := 2) dX9_restore_6 rfl rfl ?_
  rcases x2 with _ | a3
  · refine k_ifnonnulln dX9_restore_7 ?_
    refine k_bipush (v := (-2 : Int32)) dX9_restore_10 rfl ?_
    exact k_ireturn rfl dX9_restore_12
  refine k_ifnonnulls (tgt := 13) dX9_restore_7 (by decide) ?_
  refine k_aloadn (j := 2) dX9_restore_13 rfl rfl ?_
  refine k_geti fg_9_322 rfl rfl dX9_restore_14 ?_
  refine k_ifne (tgt := 23) dX9_restore_17 (by decide) (fun _ => ?_) (fun _ => ?_)
  · refine k_bipush (v := (-5 : Int32)) dX9_restore_20 rfl ?_
    exact k_ireturn rfl dX9_restore_22
  refine k_aloadn (j := 0) dX9_restore_23 rfl rfl ?_
  refine k_getr fg_9_10 rfl rfl dX9_restore_24 (fun x4 => ?_)
  refine k_aloadn (j := 2) dX9_restore_27 rfl rfl ?_
  rcases x4 with _ | a5
  · exact k_ocn
  refine k_ocs ?_
  refine k_callVv [.inr (8, some a3)] (t8_copyFrom a5 (some a3) g1) cw_cX8_copyFrom (Or.inl ml_9_296) rfl rfl (by decide) (by decide) (Nat.le_of_ble_eq_true rfl) dX9_restore_28 (fun _ g6 => ?_)
  refine k_aloadn (j := 0) dX9_restore_31 rfl rfl ?_
  refine k_getr fg_9_10 rfl rfl dX9_restore_32 (fun x7 => ?_)
  rcases x7 with _ | a8
  · exact k_ocn
  refine k_ocs ?_
  refine k_geti fg_9_165 rfl rfl dX9_restore_35 ?_
  exact k_ireturn rfl dX9_restore_38
theorem dX9_isAllowed_0 : decode cX9_isAllowed 0 = .ok (.iload_n 0, 1) := by decide +kernel
theorem dX9_isAllowed_1 : decode cX9_isAllowed 1 = .ok (.tableswitch 101 0 5 #[39, 47, 54, 61, 86, 94], 39) := by decide +kernel
theorem dX9_isAllowed_40 : decode cX9_isAllowed 40 = .ok (.iload_n 1, 1) := by decide +kernel
theorem dX9_isAllowed_41 : decode cX9_isAllowed 41 = .ok (.iconst 1, 1) := by decide +kernel
theorem dX9_isAllowed_42 : decode cX9_isAllowed 42 = .ok (.bipush 10, 2) := by decide +kernel
theorem dX9_isAllowed_44 : decode cX9_isAllowed 44 = .ok (.invokestatic 37, 3) := by decide +kernel
theorem dX9_isAllowed_47 : decode cX9_isAllowed 47 = .ok (.ireturn, 1) := by decide +kernel
theorem dX9_isAllowed_48 : decode cX9_isAllowed 48 = .ok (.iload_n 1, 1) := by decide +kernel
theorem dX9_isAllowed_49 : decode cX9_isAllowed 49 = .ok (.iconst 0, 1) := by decide +kernel
theorem dX9_isAllowed_50 : decode cX9_isAllowed 50 = .ok (.iconst 1, 1) := by decide +kernel
theorem dX9_isAllowed_51 : decode cX9_isAllowed 51 = .ok (.invokestatic 37, 3) := by decide +kernel
theorem dX9_isAllowed_54 : decode cX9_isAllowed 54 = .ok (.ireturn, 1) := by decide +kernel
theorem dX9_isAllowed_55 : decode cX9_isAllowed 55 = .ok (.iload_n 1, 1) := by decide +kernel
theorem dX9_isAllowed_56 : decode cX9_isAllowed 56 = .ok (.iconst 0, 1) := by decide +kernel
theorem dX9_isAllowed_57 : decode cX9_isAllowed 57 = .ok (.iconst 2, 1) := by decide +kernel
theorem dX9_isAllowed_58 : decode cX9_isAllowed 58 = .ok (.invokestatic 37, 3) := by decide +kernel
theorem dX9_isAllowed_61 : decode cX9_isAllowed 61 = .ok (.ireturn, 1) := by decide +kernel
theorem dX9_isAllowed_62 : decode cX9_isAllowed 62 = .ok (.iload_n 1, 1) := by decide +kernel
theorem dX9_isAllowed_63 : decode cX9_isAllowed 63 = .ok (.ifCond .eq 18, 3) := by decide +kernel
theorem dX9_isAllowed_66 : decode cX9_isAllowed 66 = .ok (.iload_n 1, 1) := by decide +kernel
theorem dX9_isAllowed_67 : decode cX9_isAllowed 67 = .ok (.iconst 1, 1) := by decide +kernel
theorem dX9_isAllowed_68 : decode cX9_isAllowed 68 = .ok (.if_icmp .eq 13, 3) := by decide +kernel
theorem dX9_isAllowed_71 : decode cX9_isAllowed 71 = .ok (.iload_n 1, 1) := by decide +kernel
theorem dX9_isAllowed_72 : decode cX9_isAllowed 72 = .ok (.iconst 2, 1) := by decide +kernel
theorem dX9_isAllowed_73 : decode cX9_isAllowed 73 = .ok (.if_icmp .eq 8, 3) := by decide +kernel
theorem dX9_isAllowed_76 : decode cX9_isAllowed 76 = .ok (.iload_n 1, 1) := by decide +kernel
theorem dX9_isAllowed_77 : decode cX9_isAllowed 77 = .ok (.iconst 4, 1) := by decide +kernel
theorem dX9_isAllowed_78 : decode cX9_isAllowed 78 = .ok (.if_icmp .ne 7, 3) := by decide +kernel
theorem dX9_isAllowed_81 : decode cX9_isAllowed 81 = .ok (.iconst 1, 1) := by decide +kernel
theorem dX9_isAllowed_82 : decode cX9_isAllowed 82 = .ok (.goto 4, 3) := by decide +kernel
theorem dX9_isAllowed_85 : decode cX9_isAllowed 85 = .ok (.iconst 0, 1) := by decide +kernel
theorem dX9_isAllowed_86 : decode cX9_isAllowed 86 = .ok (.ireturn, 1) := by decide +kernel
theorem dX9_isAllowed_87 : decode cX9_isAllowed 87 = .ok (.iload_n 1, 1) := by decide +kernel
theorem dX9_isAllowed_88 : decode cX9_isAllowed 88 = .ok (.iconst 0, 1) := by decide +kernel
theorem dX9_isAllowed_89 : decode cX9_isAllowed 89 = .ok (.bipush 9, 2) := by decide +kernel
theorem dX9_isAllowed_91 : decode cX9_isAllowed 91 = .ok (.invokestatic 37, 3) := by decide +kernel
theorem dX9_isAllowed_94 : decode cX9_isAllowed 94 = .ok (.ireturn, 1) := by decide +kernel
theorem dX9_isAllowed_95 : decode cX9_isAllowed 95 = .ok (.iload_n 1, 1) := by decide +kernel
theorem dX9_isAllowed_96 : decode cX9_isAllowed 96 = .ok (.iconst 0, 1) := by decide +kernel
theorem dX9_isAllowed_97 : decode cX9_isAllowed 97 = .ok (.iconst 5, 1) := by decide +kernel
theorem dX9_isAllowed_98 : decode cX9_isAllowed 98 = .ok (.invokestatic 37, 3) := by decide +kernel
theorem dX9_isAllowed_101 : decode cX9_isAllowed 101 = .ok (.ireturn, 1) := by decide +kernel
theorem dX9_isAllowed_102 : decode cX9_isAllowed 102 = .ok (.iconst 0, 1) := by decide +kernel
theorem dX9_isAllowed_103 : decode cX9_isAllowed 103 = .ok (.ireturn, 1) := by decide +kernel
def f9_isAllowed_b81 (g : GS_) : Option (Int32 × GS_) :=
  some ((1 : Int32), g)
theorem t9_isAllowed_b81 (g : GS_) : K_ RX9 cX9_isAllowed 2 (some .boolean) 1 22 false EI_ 81 [none, none] [] g (f9_isAllowed_b81 g) := by
  unfold f9_isAllowed_b81
  refine k_iconst (v := (1 : Int32)) dX9_isAllowed_81 rfl ?_
  refine k_goto (tgt := 86) dX9_isAllowed_82 (by decide) ?_
  exact k_zreturn rfl (by decide) dX9_isAllowed_86
def f9_isAllowed (v0 : Int32) (v1 : Int32) (g : GS_) : Option (Int32 × GS_) :=
  if v0 = (0 : Int32) then bd_ (f9_within v1 (1 : Int32) (10 : Int32) g) fun z2 g1 => if z2 = 0 ∨ z2 = 1 then some (z2, g1) else none else if v0 = (1 : Int32) then bd_ (f9_within v1 (0 : Int32) (1 : Int32) g) fun z4 g3 => if z4 = 0 ∨ z4 = 1 then some (z4, g3) else none else if v0 = (2 : Int32) then bd_ (f9_within v1 (0 : Int32) (2 : Int32) g) fun z6 g5 => if z6 = 0 ∨ z6 = 1 then some (z6, g5) else none else if v0 = (3 : Int32) then if v1 = 0 then f9_isAllowed_b81 g else if v1 = (1 : Int32) then f9_isAllowed_b81 g else if v1 = (2 : Int32) then f9_isAllowed_b81 g else if v1 = (4 : Int32) then f9_isAllowed_b81 g else some ((0 : Int32), g) else if v0 = (4 : Int32) then bd_ (f9_within v1 (0 : Int32) (9 : Int32) g) fun z8 g7 => if z8 = 0 ∨ z8 = 1 then some (z8, g7) else none else if v0 = (5 : Int32) then bd_ (f9_within v1 (0 : Int32) (5 : Int32) g) fun z10 g9 => if z10 = 0 ∨ z10 = 1 then some (z10, g9) else none else some ((0 : Int32), g)
theorem t9_isAllowed (v0 : Int32) (v1 : Int32) (g : GS_) : Cn_ yX9_isAllowed cX9_isAllowed 2 (some .boolean) 1 22 EI_ [.inl v0, .inl v1] g (f9_isAllowed v0 v1 g) := by
  refine k_method (own := RX9) (ini := false) (L1 := [some (.inl v0), some (.inl v1)]) (by decide +kernel) rfl (fun h => by cases h) (Nat.le_of_ble_eq_true rfl) rfl ?_
  unfold f9_isAllowed
  refine k_iloadn (j := 0) dX9_isAllowed_0 rfl rfl ?_
  refine k_case (fun h0_ => ?_) (fun h0_ => ?_)
  · refine k_tin (tgt := 40) dX9_isAllowed_1 h0_ (by decide) (by decide) rfl (by decide) ?_
    refine k_iloadn (j := 1) dX9_isAllowed_40 rfl rfl ?_
    refine k_iconst (v := (1 : Int32)) dX9_isAllowed_41 rfl ?_
    refine k_bipush (v := (10 : Int32)) dX9_isAllowed_42 rfl ?_
    refine k_callSi [.inl v1, .inl (1 : Int32), .inl (10 : Int32)] (t9_within v1 (1 : Int32) (10 : Int32) g) cw_cX9_within ml_9_37 rfl rfl (by decide) (by decide) (Nat.le_of_ble_eq_true rfl) dX9_isAllowed_44 (fun z2 g1 => ?_)
    exact k_zreturnc rfl dX9_isAllowed_47
  refine k_case (fun h1_ => ?_) (fun h1_ => ?_)
  · refine k_tin (tgt := 48) dX9_isAllowed_1 h1_ (by decide) (by decide) rfl (by decide) ?_
    refine k_iloadn (j := 1) dX9_isAllowed_48 rfl rfl ?_
    refine k_iconst (v := (0 : Int32)) dX9_isAllowed_49 rfl ?_
    refine k_iconst (v := (1 : Int32)) dX9_isAllowed_50 rfl ?_
    refine k_callSi [.inl v1, .inl (0 : Int32), .inl (1 : Int32)] (t9_within v1 (0 : Int32) (1 : Int32) g) cw_cX9_within ml_9_37 rfl rfl (by decide) (by decide) (Nat.le_of_ble_eq_true rfl) dX9_isAllowed_51 (fun z4 g3 => ?_)
    exact k_zreturnc rfl dX9_isAllowed_54
  refine k_case (fun h2_ => ?_) (fun h2_ => ?_)
  · refine k_tin (tgt := 55) dX9_isAllowed_1 h2_ (by decide) (by decide) rfl (by decide) ?_
    refine k_iloadn (j := 1) dX9_isAllowed_55 rfl rfl ?_
    refine k_iconst (v := (0 : Int32)) dX9_isAllowed_56 rfl ?_
    refine k_iconst (v := (2 : Int32)) dX9_isAllowed_57 rfl ?_
    refine k_callSi [.inl v1, .inl (0 : Int32), .inl (2 : Int32)] (t9_within v1 (0 : Int32) (2 : Int32) g) cw_cX9_within ml_9_37 rfl rfl (by decide) (by decide) (Nat.le_of_ble_eq_true rfl) dX9_isAllowed_58 (fun z6 g5 => ?_)
    exact k_zreturnc rfl dX9_isAllowed_61
  refine k_case (fun h3_ => ?_) (fun h3_ => ?_)
  · refine k_tin (tgt := 62) dX9_isAllowed_1 h3_ (by decide) (by decide) rfl (by decide) ?_
    refine k_iloadn (j := 1) dX9_isAllowed_62 rfl rfl ?_
    refine k_ifeq (tgt := 81) dX9_isAllowed_63 (by decide) (fun _ => ?_) (fun _ => ?_)
    · refine k_msk (L' := [none, none]) [false, false] rfl ?_
      exact t9_isAllowed_b81 g
    refine k_iloadn (j := 1) dX9_isAllowed_66 rfl rfl ?_
    refine k_iconst (v := (1 : Int32)) dX9_isAllowed_67 rfl ?_
    refine k_icmpeq (tgt := 81) dX9_isAllowed_68 (by decide) (fun _ => ?_) (fun _ => ?_)
    · refine k_msk (L' := [none, none]) [false, false] rfl ?_
      exact t9_isAllowed_b81 g
    refine k_iloadn (j := 1) dX9_isAllowed_71 rfl rfl ?_
    refine k_iconst (v := (2 : Int32)) dX9_isAllowed_72 rfl ?_
    refine k_icmpeq (tgt := 81) dX9_isAllowed_73 (by decide) (fun _ => ?_) (fun _ => ?_)
    · refine k_msk (L' := [none, none]) [false, false] rfl ?_
      exact t9_isAllowed_b81 g
    refine k_iloadn (j := 1) dX9_isAllowed_76 rfl rfl ?_
    refine k_iconst (v := (4 : Int32)) dX9_isAllowed_77 rfl ?_
    refine k_icmpne (tgt := 85) dX9_isAllowed_78 (by decide) (fun _ => ?_) (fun _ => ?_)
    · refine k_msk (L' := [none, none]) [false, false] rfl ?_
      exact t9_isAllowed_b81 g
    refine k_iconst (v := (0 : Int32)) dX9_isAllowed_85 rfl ?_
    exact k_zreturn rfl (by decide) dX9_isAllowed_86
  refine k_case (fun h4_ => ?_) (fun h4_ => ?_)
  · refine k_tin (tgt := 87) dX9_isAllowed_1 h4_ (by decide) (by decide) rfl (by decide) ?_
    refine k_iloadn (j := 1) dX9_isAllowed_87 rfl rfl ?_
    refine k_iconst (v := (0 : Int32)) dX9_isAllowed_88 rfl ?_
    refine k_bipush (v := (9 : Int32)) dX9_isAllowed_89 rfl ?_
    refine k_callSi [.inl v1, .inl (0 : Int32), .inl (9 : Int32)] (t9_within v1 (0 : Int32) (9 : Int32) g) cw_cX9_within ml_9_37 rfl rfl (by decide) (by decide) (Nat.le_of_ble_eq_true rfl) dX9_isAllowed_91 (fun z8 g7 => ?_)
    exact k_zreturnc rfl dX9_isAllowed_94
  refine k_case (fun h5_ => ?_) (fun h5_ => ?_)
  · refine k_tin (tgt := 95) dX9_isAllowed_1 h5_ (by decide) (by decide) rfl (by decide) ?_
    refine k_iloadn (j := 1) dX9_isAllowed_95 rfl rfl ?_
    refine k_iconst (v := (0 : Int32)) dX9_isAllowed_96 rfl ?_
    refine k_iconst (v := (5 : Int32)) dX9_isAllowed_97 rfl ?_
    refine k_callSi [.inl v1, .inl (0 : Int32), .inl (5 : Int32)] (t9_within v1 (0 : Int32) (5 : Int32) g) cw_cX9_within ml_9_37 rfl rfl (by decide) (by decide) (Nat.le_of_ble_eq_true rfl) dX9_isAllowed_98 (fun z10 g9 => ?_)
    exact k_zreturnc rfl dX9_isAllowed_101
  refine k_tout (tgt := 102) dX9_isAllowed_1 (by have q0 := lv_neT (a := 0) h0_ (by decide); have q1 := lv_neT (a := 1) h1_ (by decide); have q2 := lv_neT (a := 2) h2_ (by decide); have q3 := lv_neT (a := 3) h3_ (by decide); have q4 := lv_neT (a := 4) h4_ (by decide); have q5 := lv_neT (a := 5) h5_ (by decide); omega) (by decide) ?_
  refine k_iconst (v := (0 : Int32)) dX9_isAllowed_102 rfl ?_
  exact k_zreturn rfl (by decide) dX9_isAllowed_103
theorem dX9_weight_0 : decode cX9_weight 0 = .ok (.aload_n 0, 1) := by decide +kernel
theorem dX9_weight_1 : decode cX9_weight 1 = .ok (.getfield 10, 3) := by decide +kernel
theorem dX9_weight_4 : decode cX9_weight 4 = .ok (.iload_n 1, 1) := by decide +kernel
theorem dX9_weight_5 : decode cX9_weight 5 = .ok (.invokevirtual 54, 3) := by decide +kernel
theorem dX9_weight_8 : decode cX9_weight 8 = .ok (.astore_n 3, 1) := by decide +kernel
theorem dX9_weight_9 : decode cX9_weight 9 = .ok (.aload_n 3, 1) := by decide +kernel
theorem dX9_weight_10 : decode cX9_weight 10 = .ok (.ifnonnull 5, 3) := by decide +kernel
theorem dX9_weight_13 : decode cX9_weight 13 = .ok (.iconst (-1), 1) := by decide +kernel
theorem dX9_weight_14 : decode cX9_weight 14 = .ok (.ireturn, 1) := by decide +kernel
theorem dX9_weight_15 : decode cX9_weight 15 = .ok (.iload_n 2, 1) := by decide +kernel
theorem dX9_weight_16 : decode cX9_weight 16 = .ok (.iconst 1, 1) := by decide +kernel
theorem dX9_weight_17 : decode cX9_weight 17 = .ok (.aload_n 3, 1) := by decide +kernel
theorem dX9_weight_18 : decode cX9_weight 18 = .ok (.getfield 58, 3) := by decide +kernel
theorem dX9_weight_21 : decode cX9_weight 21 = .ok (.invokestatic 37, 3) := by decide +kernel
theorem dX9_weight_24 : decode cX9_weight 24 = .ok (.ifCond .eq 11, 3) := by decide +kernel
theorem dX9_weight_27 : decode cX9_weight 27 = .ok (.aload_n 3, 1) := by decide +kernel
theorem dX9_weight_28 : decode cX9_weight 28 = .ok (.iload_n 2, 1) := by decide +kernel
theorem dX9_weight_29 : decode cX9_weight 29 = .ok (.invokevirtual 61, 3) := by decide +kernel
theorem dX9_weight_32 : decode cX9_weight 32 = .ok (.goto 5, 3) := by decide +kernel
theorem dX9_weight_35 : decode cX9_weight 35 = .ok (.bipush (-2), 2) := by decide +kernel
theorem dX9_weight_37 : decode cX9_weight 37 = .ok (.ireturn, 1) := by decide +kernel
def f9_weight (v0 : Nat) (v1 : Int32) (v2 : Int32) (g : GS_) : Option (Int32 × GS_) :=
  lr_ (gfr g 288 v0) fun x1 => oc_ x1 none fun a2 => bd_ (f8_documentAt a2 v1 g) fun x4 g3 => oc_ x4 (some ((-1 : Int32), g3)) fun a5 => bd_ (f9_within v2 (1 : Int32) (gfi g3 0 a5) g3) fun z7 g6 => if z7 = 0 then some ((-2 : Int32), g6) else bd_ (f0_weightOf a5 v2 g6) fun z9 g8 => some (z9, g8)
theorem t9_weight (v0 : Nat) (v1 : Int32) (v2 : Int32) (g : GS_) : Cn_ yX9_weight cX9_weight 4 (some .int) 1 22 EI_ [.inr (9, some v0), .inl v1, .inl v2] g (f9_weight v0 v1 v2 g) := by
  refine k_method (own := RX9) (ini := false) (L1 := [some (.inr (9, some v0)), some (.inl v1), some (.inl v2), none]) (by decide +kernel) rfl (fun h => by cases h) (Nat.le_of_ble_eq_true rfl) rfl ?_
  unfold f9_weight
  refine k_aloadn (j := 0) dX9_weight_0 rfl rfl ?_
  refine k_getr fg_9_10 rfl rfl dX9_weight_1 (fun x1 => ?_)
  refine k_iloadn (j := 1) dX9_weight_4 rfl rfl ?_
  rcases x1 with _ | a2
  · exact k_ocn
  refine k_ocs ?_
  refine k_callVr [.inl v1] (t8_documentAt a2 v1 g) cw_cX8_documentAt (Or.inl ml_9_54) rfl rfl (by decide) (by decide) (Nat.le_of_ble_eq_true rfl) dX9_weight_5 (fun x4 g3 => ?_)
  refine k_astn (j := 3) (L' := [some (.inr (9, some v0)), some (.inl v1), some (.inl v2), some (.inr (0, x4))]) dX9_weight_8 rfl (by decide) rfl ?_
  refine k_aloadn (j := 3) dX9_weight_9 rfl rfl ?_
  rcases x4 with _ | a5
  · refine k_ifnonnulln dX9_weight_10 ?_
    refine k_iconst (v := (-1 : Int32)) dX9_weight_13 rfl ?_
    exact k_ireturn rfl dX9_weight_14
  refine k_ifnonnulls (tgt := 15) dX9_weight_10 (by decide) ?_
  refine k_iloadn (j := 2) dX9_weight_15 rfl rfl ?_
  refine k_iconst (v := (1 : Int32)) dX9_weight_16 rfl ?_
  refine k_aloadn (j := 3) dX9_weight_17 rfl rfl ?_
  refine k_geti fg_9_58 rfl rfl dX9_weight_18 ?_
  refine k_callSi [.inl v2, .inl (1 : Int32), .inl (gfi g3 0 a5)] (t9_within v2 (1 : Int32) (gfi g3 0 a5) g3) cw_cX9_within ml_9_37 rfl rfl (by decide) (by decide) (Nat.le_of_ble_eq_true rfl) dX9_weight_21 (fun z7 g6 => ?_)
  refine k_ifeq (tgt := 35) dX9_weight_24 (by decide) (fun _ => ?_) (fun _ => ?_)
  · refine k_bipush (v := (-2 : Int32)) dX9_weight_35 rfl ?_
    exact k_ireturn rfl dX9_weight_37
  refine k_aloadn (j := 3) dX9_weight_27 rfl rfl ?_
  refine k_iloadn (j := 2) dX9_weight_28 rfl rfl ?_
  refine k_callVi [.inl v2] (t0_weightOf a5 v2 g6) cw_cX0_weightOf (Or.inl ml_9_61) rfl rfl (by decide) (by decide) (Nat.le_of_ble_eq_true rfl) dX9_weight_29 (fun z9 g8 => ?_)
  refine k_goto (tgt := 37) dX9_weight_32 (by decide) ?_
  exact k_ireturn rfl dX9_weight_37
theorem dX9_gather_0 : decode cX9_gather 0 = .ok (.aload_n 0, 1) := by decide +kernel
theorem dX9_gather_1 : decode cX9_gather 1 = .ok (.getfield 10, 3) := by decide +kernel
theorem dX9_gather_4 : decode cX9_gather 4 = .ok (.getfield 65, 3) := by decide +kernel
theorem dX9_gather_7 : decode cX9_gather 7 = .ok (.invokevirtual 78, 3) := by decide +kernel
theorem dX9_gather_10 : decode cX9_gather 10 = .ok (.bipush (-6), 2) := by decide +kernel
theorem dX9_gather_12 : decode cX9_gather 12 = .ok (.if_icmp .eq 6, 3) := by decide +kernel
theorem dX9_gather_15 : decode cX9_gather 15 = .ok (.bipush (-3), 2) := by decide +kernel
theorem dX9_gather_17 : decode cX9_gather 17 = .ok (.ireturn, 1) := by decide +kernel
theorem dX9_gather_18 : decode cX9_gather 18 = .ok (.aload_n 0, 1) := by decide +kernel
theorem dX9_gather_19 : decode cX9_gather 19 = .ok (.getfield 10, 3) := by decide +kernel
theorem dX9_gather_22 : decode cX9_gather 22 = .ok (.getfield 65, 3) := by decide +kernel
theorem dX9_gather_25 : decode cX9_gather 25 = .ok (.aload_n 0, 1) := by decide +kernel
theorem dX9_gather_26 : decode cX9_gather 26 = .ok (.getfield 26, 3) := by decide +kernel
theorem dX9_gather_29 : decode cX9_gather 29 = .ok (.aload_n 1, 1) := by decide +kernel
theorem dX9_gather_30 : decode cX9_gather 30 = .ok (.getfield 58, 3) := by decide +kernel
theorem dX9_gather_33 : decode cX9_gather 33 = .ok (.invokevirtual 326, 3) := by decide +kernel
theorem dX9_gather_36 : decode cX9_gather 36 = .ok (.aload_n 0, 1) := by decide +kernel
theorem dX9_gather_37 : decode cX9_gather 37 = .ok (.getfield 26, 3) := by decide +kernel
theorem dX9_gather_40 : decode cX9_gather 40 = .ok (.getfield 330, 3) := by decide +kernel
theorem dX9_gather_43 : decode cX9_gather 43 = .ok (.ifCond .eq 8, 3) := by decide +kernel
theorem dX9_gather_46 : decode cX9_gather 46 = .ok (.bipush (-4), 2) := by decide +kernel
theorem dX9_gather_48 : decode cX9_gather 48 = .ok (.goto 4, 3) := by decide +kernel
theorem dX9_gather_51 : decode cX9_gather 51 = .ok (.iconst 0, 1) := by decide +kernel
theorem dX9_gather_52 : decode cX9_gather 52 = .ok (.ireturn, 1) := by decide +kernel
def f9_gather (v0 : Nat) (v1 : Option Nat) (g : GS_) : Option (Int32 × GS_) :=
  lr_ (gfr g 288 v0) fun x1 => oc_ x1 none fun a2 => lr_ (gfr g 262 a2) fun x3 => oc_ x3 none fun a4 => bd_ (f6_firstFault a4 g) fun z6 g5 => if z6 = (-6 : Int32) then lr_ (gfr g5 288 v0) fun x7 => oc_ x7 none fun a8 => lr_ (gfr g5 262 a8) fun x9 => lr_ (gfr g5 291 v0) fun x10 => oc_ v1 none fun a11 => oc_ x9 none fun a12 => bd_ (f6_expand a12 x10 (gfi g5 0 a11) g5) fun _ g13 => lr_ (gfr g13 291 v0) fun x14 => oc_ x14 none fun a15 => if (gfi g13 98 a15) = 0 then some ((0 : Int32), g13) else some ((-4 : Int32), g13) else some ((-3 : Int32), g5)
theorem t9_gather (v0 : Nat) (v1 : Option Nat) (g : GS_) : Cn_ yX9_gather cX9_gather 2 (some .int) 5 119 EI_ [.inr (9, some v0), .inr (0, v1)] g (f9_gather v0 v1 g) := by
  refine k_method (own := RX9) (ini := false) (L1 := [some (.inr (9, some v0)), some (.inr (0, v1))]) (by decide +kernel) rfl (fun h => by cases h) (Nat.le_of_ble_eq_true rfl) rfl ?_
  unfold f9_gather
  refine k_aloadn (j := 0) dX9_gather_0 rfl rfl ?_
  refine k_getr fg_9_10 rfl rfl dX9_gather_1 (fun x1 => ?_)
  rcases x1 with _ | a2
  · exact k_ocn
  refine k_ocs ?_
  refine k_getr fg_9_65 rfl rfl dX9_gather_4 (fun x3 => ?_)
  rcases x3 with _ | a4
  · exact k_ocn
  refine k_ocs ?_
  refine k_callVi [] (t6_firstFault a4 g) cw_cX6_firstFault (Or.inl ml_9_78) rfl rfl (by decide) (by decide) (Nat.le_of_ble_eq_true rfl) dX9_gather_7 (fun z6 g5 => ?_)
  refine k_bipush (v := (-6 : Int32)) dX9_gather_10 rfl ?_
  refine k_icmpeq (tgt := 18) dX9_gather_12 (by decide) (fun _ => ?_) (fun _ => ?_)
  · refine k_aloadn (j := 0) dX9_gather_18 rfl rfl ?_
    refine k_getr fg_9_10 rfl rfl dX9_gather_19 (fun x7 => ?_)
    rcases x7 with _ | a8
    · exact k_ocn
    refine k_ocs ?_
    refine k_getr fg_9_65 rfl rfl dX9_gather_22 (fun x9 => ?_)
    refine k_aloadn (j := 0) dX9_gather_25 rfl rfl ?_
    refine k_getr fg_9_26 rfl rfl dX9_gather_26 (fun x10 => ?_)
    refine k_aloadn (j := 1) dX9_gather_29 rfl rfl ?_
    rcases v1 with _ | a11
    · exact k_ocn
    refine k_ocs ?_
    refine k_geti fg_9_58 rfl rfl dX9_gather_30 ?_
    rcases x9 with _ | a12
    · exact k_ocn
    refine k_ocs ?_
    refine k_callVv [.inr (3, x10), .inl (gfi g5 0 a11)] (t6_expand a12 x10 (gfi g5 0 a11) g5) cw_cX6_expand (Or.inl ml_9_326) rfl rfl (by decide) (by decide) (Nat.le_of_ble_eq_true rfl) dX9_gather_33 (fun _ g13 => ?_)
    refine k_aloadn (j := 0) dX9_gather_36 rfl rfl ?_
    refine k_getr fg_9_26 rfl rfl dX9_gather_37 (fun x14 => ?_)
    rcases x14 with _ | a15
    · exact k_ocn
    refine k_ocs ?_
    refine k_geti fg_9_330 rfl rfl dX9_gather_40 ?_
    refine k_ifeq (tgt := 51) dX9_gather_43 (by decide) (fun _ => ?_) (fun _ => ?_)
    · refine k_iconst (v := (0 : Int32)) dX9_gather_51 rfl ?_
      exact k_ireturn rfl dX9_gather_52
    refine k_bipush (v := (-4 : Int32)) dX9_gather_46 rfl ?_
    refine k_goto (tgt := 52) dX9_gather_48 (by decide) ?_
    exact k_ireturn rfl dX9_gather_52
  refine k_bipush (v := (-3 : Int32)) dX9_gather_15 rfl ?_
  exact k_ireturn rfl dX9_gather_17
theorem dX9_say_0 : decode cX9_say 0 = .ok (.iload_n 1, 1) := by decide +kernel
theorem dX9_say_1 : decode cX9_say 1 = .ok (.bipush 33, 2) := by decide +kernel
theorem dX9_say_3 : decode cX9_say 3 = .ok (.bipush 126, 2) := by decide +kernel
theorem dX9_say_5 : decode cX9_say 5 = .ok (.invokestatic 37, 3) := by decide +kernel
theorem dX9_say_8 : decode cX9_say 8 = .ok (.ifCond .ne 6, 3) := by decide +kernel
theorem dX9_say_11 : decode cX9_say 11 = .ok (.bipush (-2), 2) := by decide +kernel
theorem dX9_say_13 : decode cX9_say 13 = .ok (.ireturn, 1) := by decide +kernel
theorem dX9_say_14 : decode cX9_say 14 = .ok (.aload_n 0, 1) := by decide +kernel
theorem dX9_say_15 : decode cX9_say 15 = .ok (.getfield 10, 3) := by decide +kernel
theorem dX9_say_18 : decode cX9_say 18 = .ok (.getfield 65, 3) := by decide +kernel
theorem dX9_say_21 : decode cX9_say 21 = .ok (.iload_n 1, 1) := by decide +kernel
theorem dX9_say_22 : decode cX9_say 22 = .ok (.invokevirtual 69, 3) := by decide +kernel
theorem dX9_say_25 : decode cX9_say 25 = .ok (.ifCond .eq 16, 3) := by decide +kernel
theorem dX9_say_28 : decode cX9_say 28 = .ok (.aload_n 0, 1) := by decide +kernel
theorem dX9_say_29 : decode cX9_say 29 = .ok (.getfield 10, 3) := by decide +kernel
theorem dX9_say_32 : decode cX9_say 32 = .ok (.getfield 65, 3) := by decide +kernel
theorem dX9_say_35 : decode cX9_say 35 = .ok (.getfield 75, 3) := by decide +kernel
theorem dX9_say_38 : decode cX9_say 38 = .ok (.goto 5, 3) := by decide +kernel
theorem dX9_say_41 : decode cX9_say 41 = .ok (.bipush (-4), 2) := by decide +kernel
theorem dX9_say_43 : decode cX9_say 43 = .ok (.ireturn, 1) := by decide +kernel
def f9_say (v0 : Nat) (v1 : Int32) (g : GS_) : Option (Int32 × GS_) :=
  bd_ (f9_within v1 (33 : Int32) (126 : Int32) g) fun z2 g1 => if z2 = 0 then some ((-2 : Int32), g1) else lr_ (gfr g1 288 v0) fun x3 => oc_ x3 none fun a4 => lr_ (gfr g1 262 a4) fun x5 => oc_ x5 none fun a6 => bd_ (f6_append a6 v1 g1) fun z8 g7 => if z8 = 0 then some ((-4 : Int32), g7) else lr_ (gfr g7 288 v0) fun x9 => oc_ x9 none fun a10 => lr_ (gfr g7 262 a10) fun x11 => oc_ x11 none fun a12 => some ((gfi g7 193 a12), g7)
theorem t9_say (v0 : Nat) (v1 : Int32) (g : GS_) : Cn_ yX9_say cX9_say 2 (some .int) 1 22 EI_ [.inr (9, some v0), .inl v1] g (f9_say v0 v1 g) := by
  refine k_method (own := RX9) (ini := false) (L1 := [some (.inr (9, some v0)), some (.inl v1)]) (by decide +kernel) rfl (fun h => by cases h) (Nat.le_of_ble_eq_true rfl) rfl ?_
  unfold f9_say
  refine k_iloadn (j := 1) dX9_say_0 rfl rfl ?_
  refine k_bipush (v := (33 : Int32)) dX9_say_1 rfl ?_
  refine k_bipush (v := (126 : Int32)) dX9_say_3 rfl ?_
  refine k_callSi [.inl v1, .inl (33 : Int32), .inl (126 : Int32)] (t9_within v1 (33 : Int32) (126 : Int32) g) cw_cX9_within ml_9_37 rfl rfl (by decide) (by decide) (Nat.le_of_ble_eq_true rfl) dX9_say_5 (fun z2 g1 => ?_)
  refine k_ifne (tgt := 14) dX9_say_8 (by decide) (fun _ => ?_) (fun _ => ?_)
  · refine k_bipush (v := (-2 : Int32)) dX9_say_11 rfl ?_
    exact k_ireturn rfl dX9_say_13
  refine k_aloadn (j := 0) dX9_say_14 rfl rfl ?_
  refine k_getr fg_9_10 rfl rfl dX9_say_15 (fun x3 => ?_)
  rcases x3 with _ | a4
  · exact k_ocn
  refine k_ocs ?_
  refine k_getr fg_9_65 rfl rfl dX9_say_18 (fun x5 => ?_)
  refine k_iloadn (j := 1) dX9_say_21 rfl rfl ?_
  rcases x5 with _ | a6
  · exact k_ocn
  refine k_ocs ?_
  refine k_callVi [.inl v1] (t6_append a6 v1 g1) cw_cX6_append (Or.inl ml_9_69) rfl rfl (by decide) (by decide) (Nat.le_of_ble_eq_true rfl) dX9_say_22 (fun z8 g7 => ?_)
  refine k_ifeq (tgt := 41) dX9_say_25 (by decide) (fun _ => ?_) (fun _ => ?_)
  · refine k_bipush (v := (-4 : Int32)) dX9_say_41 rfl ?_
    exact k_ireturn rfl dX9_say_43
  refine k_aloadn (j := 0) dX9_say_28 rfl rfl ?_
  refine k_getr fg_9_10 rfl rfl dX9_say_29 (fun x9 => ?_)
  rcases x9 with _ | a10
  · exact k_ocn
  refine k_ocs ?_
  refine k_getr fg_9_65 rfl rfl dX9_say_32 (fun x11 => ?_)
  rcases x11 with _ | a12
  · exact k_ocn
  refine k_ocs ?_
  refine k_geti fg_9_75 rfl rfl dX9_say_35 ?_
  refine k_goto (tgt := 43) dX9_say_38 (by decide) ?_
  exact k_ireturn rfl dX9_say_43
theorem dX9_wipe_0 : decode cX9_wipe 0 = .ok (.aload_n 0, 1) := by decide +kernel
theorem dX9_wipe_1 : decode cX9_wipe 1 = .ok (.getfield 10, 3) := by decide +kernel
theorem dX9_wipe_4 : decode cX9_wipe 4 = .ok (.getfield 65, 3) := by decide +kernel
theorem dX9_wipe_7 : decode cX9_wipe 7 = .ok (.getfield 75, 3) := by decide +kernel
theorem dX9_wipe_10 : decode cX9_wipe 10 = .ok (.istore_n 1, 1) := by decide +kernel
theorem dX9_wipe_11 : decode cX9_wipe 11 = .ok (.aload_n 0, 1) := by decide +kernel
theorem dX9_wipe_12 : decode cX9_wipe 12 = .ok (.getfield 10, 3) := by decide +kernel
theorem dX9_wipe_15 : decode cX9_wipe 15 = .ok (.getfield 65, 3) := by decide +kernel
theorem dX9_wipe_18 : decode cX9_wipe 18 = .ok (.iconst 0, 1) := by decide +kernel
theorem dX9_wipe_19 : decode cX9_wipe 19 = .ok (.putfield 75, 3) := by decide +kernel
theorem dX9_wipe_22 : decode cX9_wipe 22 = .ok (.iload_n 1, 1) := by decide +kernel
theorem dX9_wipe_23 : decode cX9_wipe 23 = .ok (.ireturn, 1) := by decide +kernel
def f9_wipe (v0 : Nat) (g : GS_) : Option (Int32 × GS_) :=
  lr_ (gfr g 288 v0) fun x1 => oc_ x1 none fun a2 => lr_ (gfr g 262 a2) fun x3 => oc_ x3 none fun a4 => lr_ (gfi g 193 a4) fun z5 => lr_ (gfr g 288 v0) fun x6 => oc_ x6 none fun a7 => lr_ (gfr g 262 a7) fun x8 => oc_ x8 none fun a9 => lr_ (sfi g 193 a9 (0 : Int32)) fun g10 => some (z5, g10)
theorem t9_wipe (v0 : Nat) (g : GS_) : Cn_ yX9_wipe cX9_wipe 2 (some .int) 0 0 EI_ [.inr (9, some v0)] g (f9_wipe v0 g) := by
  refine k_method (own := RX9) (ini := false) (L1 := [some (.inr (9, some v0)), none]) (by decide +kernel) rfl (fun h => by cases h) (Nat.le_of_ble_eq_true rfl) rfl ?_
  unfold f9_wipe
  refine k_aloadn (j := 0) dX9_wipe_0 rfl rfl ?_
  refine k_getr fg_9_10 rfl rfl dX9_wipe_1 (fun x1 => ?_)
  rcases x1 with _ | a2
  · exact k_ocn
  refine k_ocs ?_
  refine k_getr fg_9_65 rfl rfl dX9_wipe_4 (fun x3 => ?_)
  rcases x3 with _ | a4
  · exact k_ocn
  refine k_ocs ?_
  refine k_geti fg_9_75 rfl rfl dX9_wipe_7 ?_
  refine k_istnl (j := 1) (L2 := fun z5 => [some (.inr (9, some v0)), some (.inl z5)]) dX9_wipe_10 rfl (by decide) (fun _ => rfl) (fun z5 => ?_)
  refine k_aloadn (j := 0) dX9_wipe_11 rfl rfl ?_
  refine k_getr fg_9_10 rfl rfl dX9_wipe_12 (fun x6 => ?_)
  rcases x6 with _ | a7
  · exact k_ocn
  refine k_ocs ?_
  refine k_getr fg_9_65 rfl rfl dX9_wipe_15 (fun x8 => ?_)
  refine k_iconst (v := (0 : Int32)) dX9_wipe_18 rfl ?_
  rcases x8 with _ | a9
  · exact k_ocn
  refine k_ocs ?_
  refine k_puti fp_9_75 rfl rfl dX9_wipe_19 (fun g10 => ?_)
  refine k_iloadn (j := 1) dX9_wipe_22 rfl rfl ?_
  exact k_ireturn rfl dX9_wipe_23
theorem dX9_fault_0 : decode cX9_fault 0 = .ok (.aload_n 0, 1) := by decide +kernel
theorem dX9_fault_1 : decode cX9_fault 1 = .ok (.getfield 10, 3) := by decide +kernel
theorem dX9_fault_4 : decode cX9_fault 4 = .ok (.getfield 65, 3) := by decide +kernel
theorem dX9_fault_7 : decode cX9_fault 7 = .ok (.invokevirtual 78, 3) := by decide +kernel
theorem dX9_fault_10 : decode cX9_fault 10 = .ok (.ireturn, 1) := by decide +kernel
def f9_fault (v0 : Nat) (g : GS_) : Option (Int32 × GS_) :=
  lr_ (gfr g 288 v0) fun x1 => oc_ x1 none fun a2 => lr_ (gfr g 262 a2) fun x3 => oc_ x3 none fun a4 => bd_ (f6_firstFault a4 g) fun z6 g5 => some (z6, g5)
theorem t9_fault (v0 : Nat) (g : GS_) : Cn_ yX9_fault cX9_fault 1 (some .int) 4 83 EI_ [.inr (9, some v0)] g (f9_fault v0 g) := by
  refine k_method (own := RX9) (ini := false) (L1 := [some (.inr (9, some v0))]) (by decide +kernel) rfl (fun h => by cases h) (Nat.le_of_ble_eq_true rfl) rfl ?_
  unfold f9_fault
  refine k_aloadn (j := 0) dX9_fault_0 rfl rfl ?_
  refine k_getr fg_9_10 rfl rfl dX9_fault_1 (fun x1 => ?_)
  rcases x1 with _ | a2
  · exact k_ocn
  refine k_ocs ?_
  refine k_getr fg_9_65 rfl rfl dX9_fault_4 (fun x3 => ?_)
  rcases x3 with _ | a4
  · exact k_ocn
  refine k_ocs ?_
  refine k_callVi [] (t6_firstFault a4 g) cw_cX6_firstFault (Or.inl ml_9_78) rfl rfl (by decide) (by decide) (Nat.le_of_ble_eq_true rfl) dX9_fault_7 (fun z6 g5 => ?_)
  exact k_ireturn rfl dX9_fault_10
theorem dX9_listed_0 : decode cX9_listed 0 = .ok (.aload_n 0, 1) := by decide +kernel
theorem dX9_listed_1 : decode cX9_listed 1 = .ok (.getfield 10, 3) := by decide +kernel
theorem dX9_listed_4 : decode cX9_listed 4 = .ok (.iload_n 1, 1) := by decide +kernel
theorem dX9_listed_5 : decode cX9_listed 5 = .ok (.invokevirtual 54, 3) := by decide +kernel
theorem dX9_listed_8 : decode cX9_listed 8 = .ok (.astore_n 3, 1) := by decide +kernel
theorem dX9_listed_9 : decode cX9_listed 9 = .ok (.aload_n 3, 1) := by decide +kernel
theorem dX9_listed_10 : decode cX9_listed 10 = .ok (.ifnonnull 5, 3) := by decide +kernel
theorem dX9_listed_13 : decode cX9_listed 13 = .ok (.iconst (-1), 1) := by decide +kernel
theorem dX9_listed_14 : decode cX9_listed 14 = .ok (.ireturn, 1) := by decide +kernel
theorem dX9_listed_15 : decode cX9_listed 15 = .ok (.aload_n 0, 1) := by decide +kernel
theorem dX9_listed_16 : decode cX9_listed 16 = .ok (.aload_n 3, 1) := by decide +kernel
theorem dX9_listed_17 : decode cX9_listed 17 = .ok (.invokevirtual 82, 3) := by decide +kernel
theorem dX9_listed_20 : decode cX9_listed 20 = .ok (.istore 4, 2) := by decide +kernel
theorem dX9_listed_22 : decode cX9_listed 22 = .ok (.iload 4, 2) := by decide +kernel
theorem dX9_listed_24 : decode cX9_listed 24 = .ok (.ifCond .eq 6, 3) := by decide +kernel
theorem dX9_listed_27 : decode cX9_listed 27 = .ok (.iload 4, 2) := by decide +kernel
theorem dX9_listed_29 : decode cX9_listed 29 = .ok (.ireturn, 1) := by decide +kernel
theorem dX9_listed_30 : decode cX9_listed 30 = .ok (.iload_n 2, 1) := by decide +kernel
theorem dX9_listed_31 : decode cX9_listed 31 = .ok (.iconst (-1), 1) := by decide +kernel
theorem dX9_listed_32 : decode cX9_listed 32 = .ok (.if_icmp .ne 11, 3) := by decide +kernel
theorem dX9_listed_35 : decode cX9_listed 35 = .ok (.aload_n 0, 1) := by decide +kernel
theorem dX9_listed_36 : decode cX9_listed 36 = .ok (.getfield 26, 3) := by decide +kernel
theorem dX9_listed_39 : decode cX9_listed 39 = .ok (.getfield 85, 3) := by decide +kernel
theorem dX9_listed_42 : decode cX9_listed 42 = .ok (.ireturn, 1) := by decide +kernel
theorem dX9_listed_43 : decode cX9_listed 43 = .ok (.aload_n 0, 1) := by decide +kernel
theorem dX9_listed_44 : decode cX9_listed 44 = .ok (.getfield 26, 3) := by decide +kernel
theorem dX9_listed_47 : decode cX9_listed 47 = .ok (.iload_n 2, 1) := by decide +kernel
theorem dX9_listed_48 : decode cX9_listed 48 = .ok (.invokevirtual 88, 3) := by decide +kernel
theorem dX9_listed_51 : decode cX9_listed 51 = .ok (.ifCond .eq 14, 3) := by decide +kernel
theorem dX9_listed_54 : decode cX9_listed 54 = .ok (.aload_n 0, 1) := by decide +kernel
theorem dX9_listed_55 : decode cX9_listed 55 = .ok (.getfield 26, 3) := by decide +kernel
theorem dX9_listed_58 : decode cX9_listed 58 = .ok (.iload_n 2, 1) := by decide +kernel
theorem dX9_listed_59 : decode cX9_listed 59 = .ok (.invokevirtual 91, 3) := by decide +kernel
theorem dX9_listed_62 : decode cX9_listed 62 = .ok (.goto 5, 3) := by decide +kernel
theorem dX9_listed_65 : decode cX9_listed 65 = .ok (.bipush (-6), 2) := by decide +kernel
theorem dX9_listed_67 : decode cX9_listed 67 = .ok (.ireturn, 1) := by decide +kernel
def f9_listed (v0 : Nat) (v1 : Int32) (v2 : Int32) (g : GS_) : Option (Int32 × GS_) :=
  lr_ (gfr g 288 v0) fun x1 => oc_ x1 none fun a2 => bd_ (f8_documentAt a2 v1 g) fun x4 g3 => oc_ x4 (some ((-1 : Int32), g3)) fun a5 => bd_ (f9_gather v0 (some a5) g3) fun z7 g6 => if z7 = 0 then if v2 = (-1 : Int32) then lr_ (gfr g6 291 v0) fun x8 => oc_ x8 none fun a9 => some ((gfi g6 97 a9), g6) else lr_ (gfr g6 291 v0) fun x10 => oc_ x10 none fun a11 => bd_ (f3_has a11 v2 g6) fun z13 g12 => if z13 = 0 then some ((-6 : Int32), g12) else lr_ (gfr g12 291 v0) fun x14 => oc_ x14 none fun a15 => bd_ (f3_pageAt a15 v2 g12) fun z17 g16 => some (z17, g16) else some (z7, g6)
theorem t9_listed (v0 : Nat) (v1 : Int32) (v2 : Int32) (g : GS_) : Cn_ yX9_listed cX9_listed 5 (some .int) 6 140 EI_ [.inr (9, some v0), .inl v1, .inl v2] g (f9_listed v0 v1 v2 g) := by
  refine k_method (own := RX9) (ini := false) (L1 := [some (.inr (9, some v0)), some (.inl v1), some (.inl v2), none, none]) (by decide +kernel) rfl (fun h => by cases h) (Nat.le_of_ble_eq_true rfl) rfl ?_
  unfold f9_listed
  refine k_aloadn (j := 0) dX9_listed_0 rfl rfl ?_
  refine k_getr fg_9_10 rfl rfl dX9_listed_1 (fun x1 => ?_)
  refine k_iloadn (j := 1) dX9_listed_4 rfl rfl ?_
  rcases x1 with _ | a2
  · exact k_ocn
  refine k_ocs ?_
  refine k_callVr [.inl v1] (t8_documentAt a2 v1 g) cw_cX8_documentAt (Or.inl ml_9_54) rfl rfl (by decide) (by decide) (Nat.le_of_ble_eq_true rfl) dX9_listed_5 (fun x4 g3 => ?_)
  refine k_astn (j := 3) (L' := [some (.inr (9, some v0)), some (.inl v1), some (.inl v2), some (.inr (0, x4)), none]) dX9_listed_8 rfl (by decide) rfl ?_
  refine k_aloadn (j := 3) dX9_listed_9 rfl rfl ?_
  rcases x4 with _ | a5
  · refine k_ifnonnulln dX9_listed_10 ?_
    refine k_iconst (v := (-1 : Int32)) dX9_listed_13 rfl ?_
    exact k_ireturn rfl dX9_listed_14
  refine k_ifnonnulls (tgt := 15) dX9_listed_10 (by decide) ?_
  refine k_aloadn (j := 0) dX9_listed_15 rfl rfl ?_
  refine k_aloadn (j := 3) dX9_listed_16 rfl rfl ?_
  refine k_callVi [.inr (0, some a5)] (t9_gather v0 (some a5) g3) cw_cX9_gather (Or.inl ml_9_82) rfl rfl (by decide) (by decide) (Nat.le_of_ble_eq_true rfl) dX9_listed_17 (fun z7 g6 => ?_)
  refine k_ist (L' := [some (.inr (9, some v0)), some (.inl v1), some (.inl v2), some (.inr (0, some a5)), some (.inl z7)]) dX9_listed_20 (by decide) rfl ?_
  refine k_iload dX9_listed_22 rfl ?_
  refine k_ifeq (tgt := 30) dX9_listed_24 (by decide) (fun _ => ?_) (fun _ => ?_)
  · refine k_iloadn (j := 2) dX9_listed_30 rfl rfl ?_
    refine k_iconst (v := (-1 : Int32)) dX9_listed_31 rfl ?_
    refine k_icmpne (tgt := 43) dX9_listed_32 (by decide) (fun _ => ?_) (fun _ => ?_)
    · refine k_aloadn (j := 0) dX9_listed_35 rfl rfl ?_
      refine k_getr fg_9_26 rfl rfl dX9_listed_36 (fun x8 => ?_)
      rcases x8 with _ | a9
      · exact k_ocn
      refine k_ocs ?_
      refine k_geti fg_9_85 rfl rfl dX9_listed_39 ?_
      exact k_ireturn rfl dX9_listed_42
    refine k_aloadn (j := 0) dX9_listed_43 rfl rfl ?_
    refine k_getr fg_9_26 rfl rfl dX9_listed_44 (fun x10 => ?_)
    refine k_iloadn (j := 2) dX9_listed_47 rfl rfl ?_
    rcases x10 with _ | a11
    · exact k_ocn
    refine k_ocs ?_
    refine k_callVi [.inl v2] (t3_has a11 v2 g6) cw_cX3_has (Or.inl ml_9_88) rfl rfl (by decide) (by decide) (Nat.le_of_ble_eq_true rfl) dX9_listed_48 (fun z13 g12 => ?_)
    refine k_ifeq (tgt := 65) dX9_listed_51 (by decide) (fun _ => ?_) (fun _ => ?_)
    · refine k_bipush (v := (-6 : Int32)) dX9_listed_65 rfl ?_
      exact k_ireturn rfl dX9_listed_67
    refine k_aloadn (j := 0) dX9_listed_54 rfl rfl ?_
    refine k_getr fg_9_26 rfl rfl dX9_listed_55 (fun x14 => ?_)
    refine k_iloadn (j := 2) dX9_listed_58 rfl rfl ?_
    rcases x14 with _ | a15
    · exact k_ocn
    refine k_ocs ?_
    refine k_callVi [.inl v2] (t3_pageAt a15 v2 g12) cw_cX3_pageAt (Or.inl ml_9_91) rfl rfl (by decide) (by decide) (Nat.le_of_ble_eq_true rfl) dX9_listed_59 (fun z17 g16 => ?_)
    refine k_goto (tgt := 67) dX9_listed_62 (by decide) ?_
    exact k_ireturn rfl dX9_listed_67
  refine k_iload dX9_listed_27 rfl ?_
  exact k_ireturn rfl dX9_listed_29
theorem dX9_set_0 : decode cX9_set 0 = .ok (.iload_n 1, 1) := by decide +kernel
theorem dX9_set_1 : decode cX9_set 1 = .ok (.iconst 0, 1) := by decide +kernel
theorem dX9_set_2 : decode cX9_set 2 = .ok (.iconst 5, 1) := by decide +kernel
theorem dX9_set_3 : decode cX9_set 3 = .ok (.invokestatic 37, 3) := by decide +kernel
theorem dX9_set_6 : decode cX9_set 6 = .ok (.ifCond .eq 11, 3) := by decide +kernel
theorem dX9_set_9 : decode cX9_set 9 = .ok (.iload_n 1, 1) := by decide +kernel
theorem dX9_set_10 : decode cX9_set 10 = .ok (.iload_n 2, 1) := by decide +kernel
theorem dX9_set_11 : decode cX9_set 11 = .ok (.invokestatic 94, 3) := by decide +kernel
theorem dX9_set_14 : decode cX9_set 14 = .ok (.ifCond .ne 6, 3) := by decide +kernel
theorem dX9_set_17 : decode cX9_set 17 = .ok (.bipush (-2), 2) := by decide +kernel
theorem dX9_set_19 : decode cX9_set 19 = .ok (.ireturn, 1) := by decide +kernel
theorem dX9_set_20 : decode cX9_set 20 = .ok (.aload_n 0, 1) := by decide +kernel
theorem dX9_set_21 : decode cX9_set 21 = .ok (.getfield 10, 3) := by decide +kernel
theorem dX9_set_24 : decode cX9_set 24 = .ok (.iload_n 1, 1) := by decide +kernel
theorem dX9_set_25 : decode cX9_set 25 = .ok (.invokevirtual 98, 3) := by decide +kernel
theorem dX9_set_28 : decode cX9_set 28 = .ok (.istore_n 3, 1) := by decide +kernel
theorem dX9_set_29 : decode cX9_set 29 = .ok (.aload_n 0, 1) := by decide +kernel
theorem dX9_set_30 : decode cX9_set 30 = .ok (.getfield 10, 3) := by decide +kernel
theorem dX9_set_33 : decode cX9_set 33 = .ok (.iload_n 1, 1) := by decide +kernel
theorem dX9_set_34 : decode cX9_set 34 = .ok (.iload_n 2, 1) := by decide +kernel
theorem dX9_set_35 : decode cX9_set 35 = .ok (.invokevirtual 101, 3) := by decide +kernel
theorem dX9_set_38 : decode cX9_set 38 = .ok (.iload_n 3, 1) := by decide +kernel
theorem dX9_set_39 : decode cX9_set 39 = .ok (.ireturn, 1) := by decide +kernel
def f9_set (v0 : Nat) (v1 : Int32) (v2 : Int32) (g : GS_) : Option (Int32 × GS_) :=
  bd_ (f9_within v1 (0 : Int32) (5 : Int32) g) fun z2 g1 => if z2 = 0 then some ((-2 : Int32), g1) else bd_ (f9_isAllowed v1 v2 g1) fun z4 g3 => if z4 = 0 then some ((-2 : Int32), g3) else lr_ (gfr g3 288 v0) fun x5 => oc_ x5 none fun a6 => bd_ (f8_settingAt a6 v1 g3) fun z8 g7 => lr_ (gfr g7 288 v0) fun x9 => oc_ x9 none fun a10 => bd_ (f8_changeSetting a10 v1 v2 g7) fun _ g11 => some (z8, g11)
theorem t9_set (v0 : Nat) (v1 : Int32) (v2 : Int32) (g : GS_) : Cn_ yX9_set cX9_set 4 (some .int) 2 43 EI_ [.inr (9, some v0), .inl v1, .inl v2] g (f9_set v0 v1 v2 g) := by
  refine k_method (own := RX9) (ini := false) (L1 := [some (.inr (9, some v0)), some (.inl v1), some (.inl v2), none]) (by decide +kernel) rfl (fun h => by cases h) (Nat.le_of_ble_eq_true rfl) rfl ?_
  unfold f9_set
  refine k_iloadn (j := 1) dX9_set_0 rfl rfl ?_
  refine k_iconst (v := (0 : Int32)) dX9_set_1 rfl ?_
  refine k_iconst (v := (5 : Int32)) dX9_set_2 rfl ?_
  refine k_callSi [.inl v1, .inl (0 : Int32), .inl (5 : Int32)] (t9_within v1 (0 : Int32) (5 : Int32) g) cw_cX9_within ml_9_37 rfl rfl (by decide) (by decide) (Nat.le_of_ble_eq_true rfl) dX9_set_3 (fun z2 g1 => ?_)
  refine k_ifeq (tgt := 17) dX9_set_6 (by decide) (fun _ => ?_) (fun _ => ?_)
  · refine k_bipush (v := (-2 : Int32)) dX9_set_17 rfl ?_
    exact k_ireturn rfl dX9_set_19
  refine k_iloadn (j := 1) dX9_set_9 rfl rfl ?_
  refine k_iloadn (j := 2) dX9_set_10 rfl rfl ?_
  refine k_callSi [.inl v1, .inl v2] (t9_isAllowed v1 v2 g1) cw_cX9_isAllowed ml_9_94 rfl rfl (by decide) (by decide) (Nat.le_of_ble_eq_true rfl) dX9_set_11 (fun z4 g3 => ?_)
  refine k_ifne (tgt := 20) dX9_set_14 (by decide) (fun _ => ?_) (fun _ => ?_)
  · refine k_bipush (v := (-2 : Int32)) dX9_set_17 rfl ?_
    exact k_ireturn rfl dX9_set_19
  refine k_aloadn (j := 0) dX9_set_20 rfl rfl ?_
  refine k_getr fg_9_10 rfl rfl dX9_set_21 (fun x5 => ?_)
  refine k_iloadn (j := 1) dX9_set_24 rfl rfl ?_
  rcases x5 with _ | a6
  · exact k_ocn
  refine k_ocs ?_
  refine k_callVi [.inl v1] (t8_settingAt a6 v1 g3) cw_cX8_settingAt (Or.inl ml_9_98) rfl rfl (by decide) (by decide) (Nat.le_of_ble_eq_true rfl) dX9_set_25 (fun z8 g7 => ?_)
  refine k_istn (j := 3) (L' := [some (.inr (9, some v0)), some (.inl v1), some (.inl v2), some (.inl z8)]) dX9_set_28 rfl (by decide) rfl ?_
  refine k_aloadn (j := 0) dX9_set_29 rfl rfl ?_
  refine k_getr fg_9_10 rfl rfl dX9_set_30 (fun x9 => ?_)
  refine k_iloadn (j := 1) dX9_set_33 rfl rfl ?_
  refine k_iloadn (j := 2) dX9_set_34 rfl rfl ?_
  rcases x9 with _ | a10
  · exact k_ocn
  refine k_ocs ?_
  refine k_callVv [.inl v1, .inl v2] (t8_changeSetting a10 v1 v2 g7) cw_cX8_changeSetting (Or.inl ml_9_101) rfl rfl (by decide) (by decide) (Nat.le_of_ble_eq_true rfl) dX9_set_35 (fun _ g11 => ?_)
  refine k_iloadn (j := 3) dX9_set_38 rfl rfl ?_
  exact k_ireturn rfl dX9_set_39
theorem dX9_submit_0 : decode cX9_submit 0 = .ok (.aload_n 0, 1) := by decide +kernel
theorem dX9_submit_1 : decode cX9_submit 1 = .ok (.getfield 10, 3) := by decide +kernel
theorem dX9_submit_4 : decode cX9_submit 4 = .ok (.iload_n 1, 1) := by decide +kernel
theorem dX9_submit_5 : decode cX9_submit 5 = .ok (.invokevirtual 54, 3) := by decide +kernel
theorem dX9_submit_8 : decode cX9_submit 8 = .ok (.astore_n 2, 1) := by decide +kernel
theorem dX9_submit_9 : decode cX9_submit 9 = .ok (.aload_n 2, 1) := by decide +kernel
theorem dX9_submit_10 : decode cX9_submit 10 = .ok (.ifnonnull 5, 3) := by decide +kernel
theorem dX9_submit_13 : decode cX9_submit 13 = .ok (.iconst (-1), 1) := by decide +kernel
theorem dX9_submit_14 : decode cX9_submit 14 = .ok (.ireturn, 1) := by decide +kernel
theorem dX9_submit_15 : decode cX9_submit 15 = .ok (.aload_n 0, 1) := by decide +kernel
theorem dX9_submit_16 : decode cX9_submit 16 = .ok (.aload_n 2, 1) := by decide +kernel
theorem dX9_submit_17 : decode cX9_submit 17 = .ok (.invokevirtual 82, 3) := by decide +kernel
theorem dX9_submit_20 : decode cX9_submit 20 = .ok (.istore_n 3, 1) := by decide +kernel
theorem dX9_submit_21 : decode cX9_submit 21 = .ok (.iload_n 3, 1) := by decide +kernel
theorem dX9_submit_22 : decode cX9_submit 22 = .ok (.ifCond .eq 5, 3) := by decide +kernel
theorem dX9_submit_25 : decode cX9_submit 25 = .ok (.iload_n 3, 1) := by decide +kernel
theorem dX9_submit_26 : decode cX9_submit 26 = .ok (.ireturn, 1) := by decide +kernel
theorem dX9_submit_27 : decode cX9_submit 27 = .ok (.aload_n 0, 1) := by decide +kernel
theorem dX9_submit_28 : decode cX9_submit 28 = .ok (.getfield 10, 3) := by decide +kernel
theorem dX9_submit_31 : decode cX9_submit 31 = .ok (.getfield 105, 3) := by decide +kernel
theorem dX9_submit_34 : decode cX9_submit 34 = .ok (.bipush 24, 2) := by decide +kernel
theorem dX9_submit_36 : decode cX9_submit 36 = .ok (.if_icmp .lt 6, 3) := by decide +kernel
theorem dX9_submit_39 : decode cX9_submit 39 = .ok (.bipush (-4), 2) := by decide +kernel
theorem dX9_submit_41 : decode cX9_submit 41 = .ok (.ireturn, 1) := by decide +kernel
theorem dX9_submit_42 : decode cX9_submit 42 = .ok (.aload_n 0, 1) := by decide +kernel
theorem dX9_submit_43 : decode cX9_submit 43 = .ok (.getfield 10, 3) := by decide +kernel
theorem dX9_submit_46 : decode cX9_submit 46 = .ok (.iconst 3, 1) := by decide +kernel
theorem dX9_submit_47 : decode cX9_submit 47 = .ok (.invokevirtual 98, 3) := by decide +kernel
theorem dX9_submit_50 : decode cX9_submit 50 = .ok (.ifCond .ne 15, 3) := by decide +kernel
theorem dX9_submit_53 : decode cX9_submit 53 = .ok (.aload_n 2, 1) := by decide +kernel
theorem dX9_submit_54 : decode cX9_submit 54 = .ok (.getfield 108, 3) := by decide +kernel
theorem dX9_submit_57 : decode cX9_submit 57 = .ok (.iconst 2, 1) := by decide +kernel
theorem dX9_submit_58 : decode cX9_submit 58 = .ok (.if_icmp .ne 7, 3) := by decide +kernel
theorem dX9_submit_61 : decode cX9_submit 61 = .ok (.iconst 1, 1) := by decide +kernel
theorem dX9_submit_62 : decode cX9_submit 62 = .ok (.goto 4, 3) := by decide +kernel
theorem dX9_submit_65 : decode cX9_submit 65 = .ok (.iconst 0, 1) := by decide +kernel
theorem dX9_submit_66 : decode cX9_submit 66 = .ok (.istore 4, 2) := by decide +kernel
theorem dX9_submit_68 : decode cX9_submit 68 = .ok (.aload_n 0, 1) := by decide +kernel
theorem dX9_submit_69 : decode cX9_submit 69 = .ok (.getfield 26, 3) := by decide +kernel
theorem dX9_submit_72 : decode cX9_submit 72 = .ok (.getfield 85, 3) := by decide +kernel
theorem dX9_submit_75 : decode cX9_submit 75 = .ok (.ifCond .eq 8, 3) := by decide +kernel
theorem dX9_submit_78 : decode cX9_submit 78 = .ok (.iload 4, 2) := by decide +kernel
theorem dX9_submit_80 : decode cX9_submit 80 = .ok (.ifCond .eq 6, 3) := by decide +kernel
theorem dX9_submit_83 : decode cX9_submit 83 = .ok (.bipush (-5), 2) := by decide +kernel
theorem dX9_submit_85 : decode cX9_submit 85 = .ok (.ireturn, 1) := by decide +kernel
theorem dX9_submit_86 : decode cX9_submit 86 = .ok (.aload_n 0, 1) := by decide +kernel
theorem dX9_submit_87 : decode cX9_submit 87 = .ok (.getfield 10, 3) := by decide +kernel
theorem dX9_submit_90 : decode cX9_submit 90 = .ok (.getfield 65, 3) := by decide +kernel
theorem dX9_submit_93 : decode cX9_submit 93 = .ok (.iconst 0, 1) := by decide +kernel
theorem dX9_submit_94 : decode cX9_submit 94 = .ok (.putfield 75, 3) := by decide +kernel
theorem dX9_submit_97 : decode cX9_submit 97 = .ok (.aload_n 0, 1) := by decide +kernel
theorem dX9_submit_98 : decode cX9_submit 98 = .ok (.getfield 10, 3) := by decide +kernel
theorem dX9_submit_101 : decode cX9_submit 101 = .ok (.new 109, 3) := by decide +kernel
theorem dX9_submit_104 : decode cX9_submit 104 = .ok (.dup, 1) := by decide +kernel
theorem dX9_submit_105 : decode cX9_submit 105 = .ok (.aload_n 2, 1) := by decide +kernel
theorem dX9_submit_106 : decode cX9_submit 106 = .ok (.iload_n 1, 1) := by decide +kernel
theorem dX9_submit_107 : decode cX9_submit 107 = .ok (.aload_n 0, 1) := by decide +kernel
theorem dX9_submit_108 : decode cX9_submit 108 = .ok (.getfield 26, 3) := by decide +kernel
theorem dX9_submit_111 : decode cX9_submit 111 = .ok (.invokevirtual 111, 3) := by decide +kernel
theorem dX9_submit_114 : decode cX9_submit 114 = .ok (.aload_n 0, 1) := by decide +kernel
theorem dX9_submit_115 : decode cX9_submit 115 = .ok (.getfield 10, 3) := by decide +kernel
theorem dX9_submit_118 : decode cX9_submit 118 = .ok (.invokespecial 115, 3) := by decide +kernel
theorem dX9_submit_121 : decode cX9_submit 121 = .ok (.invokevirtual 118, 3) := by decide +kernel
theorem dX9_submit_124 : decode cX9_submit 124 = .ok (.ireturn, 1) := by decide +kernel
def f9_submit_b66 (v0 : Nat) (v1 : Int32) (v2 : Option Nat) (s0 : Int32) (g : GS_) : Option (Int32 × GS_) :=
  lr_ (gfr g 291 v0) fun x1 => oc_ x1 none fun a2 => if (gfi g 97 a2) = 0 then some ((-5 : Int32), g) else if s0 = 0 then lr_ (gfr g 288 v0) fun x3 => oc_ x3 none fun a4 => lr_ (gfr g 262 a4) fun x5 => oc_ x5 none fun a6 => lr_ (sfi g 193 a6 (0 : Int32)) fun g7 => lr_ (gfr g7 288 v0) fun x8 => no_ g7 4 13 fun a9 g10 => lr_ (gfr g10 291 v0) fun x11 => oc_ x11 none fun a12 => bd_ (f3_copyOfPages a12 g10) fun x14 g13 => lr_ (gfr g13 288 v0) fun x15 => bd_ (f4_init a9 v2 v1 x14 x15 g13) fun _ g16 => oc_ x8 none fun a17 => bd_ (f8_keepJob a17 (some a9) g16) fun z19 g18 => some (z19, g18) else some ((-5 : Int32), g)
theorem t9_submit_b66 (v0 : Nat) (v1 : Int32) (v2 : Option Nat) (s0 : Int32) (g : GS_) : K_ RX9 cX9_submit 5 (some .int) 6 140 false EI_ 66 [some (.inr (9, some v0)), some (.inl v1), some (.inr (0, v2)), none, none] [.inl s0] g (f9_submit_b66 v0 v1 v2 s0 g) := by
  unfold f9_submit_b66
  refine k_ist (L' := [some (.inr (9, some v0)), some (.inl v1), some (.inr (0, v2)), none, some (.inl s0)]) dX9_submit_66 (by decide) rfl ?_
  refine k_aloadn (j := 0) dX9_submit_68 rfl rfl ?_
  refine k_getr fg_9_26 rfl rfl dX9_submit_69 (fun x1 => ?_)
  rcases x1 with _ | a2
  · exact k_ocn
  refine k_ocs ?_
  refine k_geti fg_9_85 rfl rfl dX9_submit_72 ?_
  refine k_ifeq (tgt := 83) dX9_submit_75 (by decide) (fun _ => ?_) (fun _ => ?_)
  · refine k_bipush (v := (-5 : Int32)) dX9_submit_83 rfl ?_
    exact k_ireturn rfl dX9_submit_85
  refine k_iload dX9_submit_78 rfl ?_
  refine k_ifeq (tgt := 86) dX9_submit_80 (by decide) (fun _ => ?_) (fun _ => ?_)
  · refine k_aloadn (j := 0) dX9_submit_86 rfl rfl ?_
    refine k_getr fg_9_10 rfl rfl dX9_submit_87 (fun x3 => ?_)
    rcases x3 with _ | a4
    · exact k_ocn
    refine k_ocs ?_
    refine k_getr fg_9_65 rfl rfl dX9_submit_90 (fun x5 => ?_)
    refine k_iconst (v := (0 : Int32)) dX9_submit_93 rfl ?_
    rcases x5 with _ | a6
    · exact k_ocn
    refine k_ocs ?_
    refine k_puti fp_9_75 rfl rfl dX9_submit_94 (fun g7 => ?_)
    refine k_aloadn (j := 0) dX9_submit_97 rfl rfl ?_
    refine k_getr fg_9_10 rfl rfl dX9_submit_98 (fun x8 => ?_)
    refine k_new cf_4 cl_9_109 (in_4).1 (in_4).2 dX9_submit_101 (fun a9 g10 => ?_)
    refine k_dup dX9_submit_104 ?_
    refine k_aloadn (j := 2) dX9_submit_105 rfl rfl ?_
    refine k_iloadn (j := 1) dX9_submit_106 rfl rfl ?_
    refine k_aloadn (j := 0) dX9_submit_107 rfl rfl ?_
    refine k_getr fg_9_26 rfl rfl dX9_submit_108 (fun x11 => ?_)
    rcases x11 with _ | a12
    · exact k_ocn
    refine k_ocs ?_
    refine k_callVr [] (t3_copyOfPages a12 g10) cw_cX3_copyOfPages (Or.inl ml_9_111) rfl rfl (by decide) (by decide) (Nat.le_of_ble_eq_true rfl) dX9_submit_111 (fun x14 g13 => ?_)
    refine k_aloadn (j := 0) dX9_submit_114 rfl rfl ?_
    refine k_getr fg_9_10 rfl rfl dX9_submit_115 (fun x15 => ?_)
    refine k_callIv [.inr (0, v2), .inl v1, .inr (20, x14), .inr (8, x15)] (t4_init a9 v2 v1 x14 x15 g13) cw_cX4_init (Or.inl ml_9_115) rfl rfl (by decide) (by decide) (Nat.le_of_ble_eq_true rfl) dX9_submit_118 (fun _ g16 => ?_)
    rcases x8 with _ | a17
    · exact k_ocn
    refine k_ocs ?_
    refine k_callVi [.inr (4, some a9)] (t8_keepJob a17 (some a9) g16) cw_cX8_keepJob (Or.inl ml_9_118) rfl rfl (by decide) (by decide) (Nat.le_of_ble_eq_true rfl) dX9_submit_121 (fun z19 g18 => ?_)
    exact k_ireturn rfl dX9_submit_124
  refine k_bipush (v := (-5 : Int32)) dX9_submit_83 rfl ?_
  exact k_ireturn rfl dX9_submit_85
def f9_submit_b65 (v0 : Nat) (v1 : Int32) (v2 : Option Nat) (g : GS_) : Option (Int32 × GS_) :=
  f9_submit_b66 v0 v1 v2 (0 : Int32) g
theorem t9_submit_b65 (v0 : Nat) (v1 : Int32) (v2 : Option Nat) (g : GS_) : K_ RX9 cX9_submit 5 (some .int) 6 140 false EI_ 65 [some (.inr (9, some v0)), some (.inl v1), some (.inr (0, v2)), none, none] [] g (f9_submit_b65 v0 v1 v2 g) := by
  unfold f9_submit_b65
  refine k_iconst (v := (0 : Int32)) dX9_submit_65 rfl ?_
  exact t9_submit_b66 v0 v1 v2 (0 : Int32) g
def f9_submit (v0 : Nat) (v1 : Int32) (g : GS_) : Option (Int32 × GS_) :=
  lr_ (gfr g 288 v0) fun x20 => oc_ x20 none fun a21 => bd_ (f8_documentAt a21 v1 g) fun x23 g22 => oc_ x23 (some ((-1 : Int32), g22)) fun a24 => bd_ (f9_gather v0 (some a24) g22) fun z26 g25 => if z26 = 0 then lr_ (gfr g25 288 v0) fun x27 => oc_ x27 none fun a28 => if (gfi g25 259 a28) < (24 : Int32) then lr_ (gfr g25 288 v0) fun x29 => oc_ x29 none fun a30 => bd_ (f8_settingAt a30 (3 : Int32) g25) fun z32 g31 => if z32 = 0 then if (gfi g31 1 a24) = (2 : Int32) then f9_submit_b66 v0 v1 (some a24) (1 : Int32) g31 else f9_submit_b65 v0 v1 (some a24) g31 else f9_submit_b65 v0 v1 (some a24) g31 else some ((-4 : Int32), g25) else some (z26, g25)
theorem t9_submit (v0 : Nat) (v1 : Int32) (g : GS_) : Cn_ yX9_submit cX9_submit 5 (some .int) 6 140 EI_ [.inr (9, some v0), .inl v1] g (f9_submit v0 v1 g) := by
  refine k_method (own := RX9) (ini := false) (L1 := [some (.inr (9, some v0)), some (.inl v1), none, none, none]) (by decide +kernel) rfl (fun h => by cases h) (Nat.le_of_ble_eq_true rfl) rfl ?_
  unfold f9_submit
  refine k_aloadn (j := 0) dX9_submit_0 rfl rfl ?_
  refine k_getr fg_9_10 rfl rfl dX9_submit_1 (fun x20 => ?_)
  refine k_iloadn (j := 1) dX9_submit_4 rfl rfl ?_
  rcases x20 with _ | a21
  · exact k_ocn
  refine k_ocs ?_
  refine k_callVr [.inl v1] (t8_documentAt a21 v1 g) cw_cX8_documentAt (Or.inl ml_9_54) rfl rfl (by decide) (by decide) (Nat.le_of_ble_eq_true rfl) dX9_submit_5 (fun x23 g22 => ?_)
  refine k_astn (j := 2) (L' := [some (.inr (9, some v0)), some (.inl v1), some (.inr (0, x23)), none, none]) dX9_submit_8 rfl (by decide) rfl ?_
  refine k_aloadn (j := 2) dX9_submit_9 rfl rfl ?_
  rcases x23 with _ | a24
  · refine k_ifnonnulln dX9_submit_10 ?_
    refine k_iconst (v := (-1 : Int32)) dX9_submit_13 rfl ?_
    exact k_ireturn rfl dX9_submit_14
  refine k_ifnonnulls (tgt := 15) dX9_submit_10 (by decide) ?_
  refine k_aloadn (j := 0) dX9_submit_15 rfl rfl ?_
  refine k_aloadn (j := 2) dX9_submit_16 rfl rfl ?_
  refine k_callVi [.inr (0, some a24)] (t9_gather v0 (some a24) g22) cw_cX9_gather (Or.inl ml_9_82) rfl rfl (by decide) (by decide) (Nat.le_of_ble_eq_true rfl) dX9_submit_17 (fun z26 g25 => ?_)
  refine k_istn (j := 3) (L' := [some (.inr (9, some v0)), some (.inl v1), some (.inr (0, some a24)), some (.inl z26), none]) dX9_submit_20 rfl (by decide) rfl ?_
  refine k_iloadn (j := 3) dX9_submit_21 rfl rfl ?_
  refine k_ifeq (tgt := 27) dX9_submit_22 (by decide) (fun _ => ?_) (fun _ => ?_)
  · refine k_aloadn (j := 0) dX9_submit_27 rfl rfl ?_
    refine k_getr fg_9_10 rfl rfl dX9_submit_28 (fun x27 => ?_)
    rcases x27 with _ | a28
    · exact k_ocn
    refine k_ocs ?_
    refine k_geti fg_9_105 rfl rfl dX9_submit_31 ?_
    refine k_bipush (v := (24 : Int32)) dX9_submit_34 rfl ?_
    refine k_icmplt (tgt := 42) dX9_submit_36 (by decide) (fun _ => ?_) (fun _ => ?_)
    · refine k_aloadn (j := 0) dX9_submit_42 rfl rfl ?_
      refine k_getr fg_9_10 rfl rfl dX9_submit_43 (fun x29 => ?_)
      refine k_iconst (v := (3 : Int32)) dX9_submit_46 rfl ?_
      rcases x29 with _ | a30
      · exact k_ocn
      refine k_ocs ?_
      refine k_callVi [.inl (3 : Int32)] (t8_settingAt a30 (3 : Int32) g25) cw_cX8_settingAt (Or.inl ml_9_98) rfl rfl (by decide) (by decide) (Nat.le_of_ble_eq_true rfl) dX9_submit_47 (fun z32 g31 => ?_)
      refine k_ifne (tgt := 65) dX9_submit_50 (by decide) (fun _ => ?_) (fun _ => ?_)
      · refine k_aloadn (j := 2) dX9_submit_53 rfl rfl ?_
        refine k_geti fg_9_108 rfl rfl dX9_submit_54 ?_
        refine k_iconst (v := (2 : Int32)) dX9_submit_57 rfl ?_
        refine k_icmpne (tgt := 65) dX9_submit_58 (by decide) (fun _ => ?_) (fun _ => ?_)
        · refine k_iconst (v := (1 : Int32)) dX9_submit_61 rfl ?_
          refine k_goto (tgt := 66) dX9_submit_62 (by decide) ?_
          refine k_msk (L' := [some (.inr (9, some v0)), some (.inl v1), some (.inr (0, some a24)), none, none]) [true, true, true, false, true] rfl ?_
          exact t9_submit_b66 v0 v1 (some a24) (1 : Int32) g31
        refine k_msk (L' := [some (.inr (9, some v0)), some (.inl v1), some (.inr (0, some a24)), none, none]) [true, true, true, false, true] rfl ?_
        exact t9_submit_b65 v0 v1 (some a24) g31
      refine k_msk (L' := [some (.inr (9, some v0)), some (.inl v1), some (.inr (0, some a24)), none, none]) [true, true, true, false, true] rfl ?_
      exact t9_submit_b65 v0 v1 (some a24) g31
    refine k_bipush (v := (-4 : Int32)) dX9_submit_39 rfl ?_
    exact k_ireturn rfl dX9_submit_41
  refine k_iloadn (j := 3) dX9_submit_25 rfl rfl ?_
  exact k_ireturn rfl dX9_submit_26
theorem dX10_ofPrinter_0 : decode cX10_ofPrinter 0 = .ok (.aload_n 0, 1) := by decide +kernel
theorem dX10_ofPrinter_1 : decode cX10_ofPrinter 1 = .ok (.getfield 7, 3) := by decide +kernel
theorem dX10_ofPrinter_4 : decode cX10_ofPrinter 4 = .ok (.bipush 76, 2) := by decide +kernel
theorem dX10_ofPrinter_6 : decode cX10_ofPrinter 6 = .ok (.bipush 10, 2) := by decide +kernel
theorem dX10_ofPrinter_8 : decode cX10_ofPrinter 8 = .ok (.iload_n 1, 1) := by decide +kernel
theorem dX10_ofPrinter_9 : decode cX10_ofPrinter 9 = .ok (.imul, 1) := by decide +kernel
theorem dX10_ofPrinter_10 : decode cX10_ofPrinter 10 = .ok (.iadd, 1) := by decide +kernel
theorem dX10_ofPrinter_11 : decode cX10_ofPrinter 11 = .ok (.iload_n 2, 1) := by decide +kernel
theorem dX10_ofPrinter_12 : decode cX10_ofPrinter 12 = .ok (.iadd, 1) := by decide +kernel
theorem dX10_ofPrinter_13 : decode cX10_ofPrinter 13 = .ok (.iaload, 1) := by decide +kernel
theorem dX10_ofPrinter_14 : decode cX10_ofPrinter 14 = .ok (.ireturn, 1) := by decide +kernel
def f10_ofPrinter (v0 : Nat) (v1 : Int32) (v2 : Int32) (g : GS_) : Option (Int32 × GS_) :=
  lr_ (gfr g 320 v0) fun x1 => oc_ x1 none fun a2 => if inb (((76 : Int32) + ((10 : Int32) * v1)) + v2) (gln g 20 a2) then some ((gai g 20 a2 (((76 : Int32) + ((10 : Int32) * v1)) + v2).toInt.toNat), g) else none
theorem t10_ofPrinter (v0 : Nat) (v1 : Int32) (v2 : Int32) (g : GS_) : Cn_ yX10_ofPrinter cX10_ofPrinter 3 (some .int) 0 0 EI_ [.inr (10, some v0), .inl v1, .inl v2] g (f10_ofPrinter v0 v1 v2 g) := by
  refine k_method (own := RX10) (ini := false) (L1 := [some (.inr (10, some v0)), some (.inl v1), some (.inl v2)]) (by decide +kernel) rfl (fun h => by cases h) (Nat.le_of_ble_eq_true rfl) rfl ?_
  unfold f10_ofPrinter
  refine k_aloadn (j := 0) dX10_ofPrinter_0 rfl rfl ?_
  refine k_getr fg_10_7 rfl rfl dX10_ofPrinter_1 (fun x1 => ?_)
  refine k_bipush (v := (76 : Int32)) dX10_ofPrinter_4 rfl ?_
  refine k_bipush (v := (10 : Int32)) dX10_ofPrinter_6 rfl ?_
  refine k_iloadn (j := 1) dX10_ofPrinter_8 rfl rfl ?_
  refine k_imul dX10_ofPrinter_9 ?_
  refine k_iadd dX10_ofPrinter_10 ?_
  refine k_iloadn (j := 2) dX10_ofPrinter_11 rfl rfl ?_
  refine k_iadd dX10_ofPrinter_12 ?_
  rcases x1 with _ | a2
  · exact k_ocn
  refine k_ocs ?_
  refine k_iald dX10_ofPrinter_13 ?_
  exact k_ireturn rfl dX10_ofPrinter_14
theorem dX10_setPrinter_0 : decode cX10_setPrinter 0 = .ok (.aload_n 0, 1) := by decide +kernel
theorem dX10_setPrinter_1 : decode cX10_setPrinter 1 = .ok (.getfield 7, 3) := by decide +kernel
theorem dX10_setPrinter_4 : decode cX10_setPrinter 4 = .ok (.bipush 76, 2) := by decide +kernel
theorem dX10_setPrinter_6 : decode cX10_setPrinter 6 = .ok (.bipush 10, 2) := by decide +kernel
theorem dX10_setPrinter_8 : decode cX10_setPrinter 8 = .ok (.iload_n 1, 1) := by decide +kernel
theorem dX10_setPrinter_9 : decode cX10_setPrinter 9 = .ok (.imul, 1) := by decide +kernel
theorem dX10_setPrinter_10 : decode cX10_setPrinter 10 = .ok (.iadd, 1) := by decide +kernel
theorem dX10_setPrinter_11 : decode cX10_setPrinter 11 = .ok (.iload_n 2, 1) := by decide +kernel
theorem dX10_setPrinter_12 : decode cX10_setPrinter 12 = .ok (.iadd, 1) := by decide +kernel
theorem dX10_setPrinter_13 : decode cX10_setPrinter 13 = .ok (.iload_n 3, 1) := by decide +kernel
theorem dX10_setPrinter_14 : decode cX10_setPrinter 14 = .ok (.iastore, 1) := by decide +kernel
theorem dX10_setPrinter_15 : decode cX10_setPrinter 15 = .ok (.return_, 1) := by decide +kernel
def f10_setPrinter (v0 : Nat) (v1 : Int32) (v2 : Int32) (v3 : Int32) (g : GS_) : Option (Unit × GS_) :=
  lr_ (gfr g 320 v0) fun x1 => oc_ x1 none fun a2 => if inb (((76 : Int32) + ((10 : Int32) * v1)) + v2) (gln g 20 a2) then lr_ (sai g 20 a2 (((76 : Int32) + ((10 : Int32) * v1)) + v2).toInt.toNat v3) (fun g3 => some ((), g3)) else none
theorem t10_setPrinter (v0 : Nat) (v1 : Int32) (v2 : Int32) (v3 : Int32) (g : GS_) : Cn_ yX10_setPrinter cX10_setPrinter 4 none 0 0 EV_ [.inr (10, some v0), .inl v1, .inl v2, .inl v3] g (f10_setPrinter v0 v1 v2 v3 g) := by
  refine k_method (own := RX10) (ini := false) (L1 := [some (.inr (10, some v0)), some (.inl v1), some (.inl v2), some (.inl v3)]) (by decide +kernel) rfl (fun h => by cases h) (Nat.le_of_ble_eq_true rfl) rfl ?_
  unfold f10_setPrinter
  refine k_aloadn (j := 0) dX10_setPrinter_0 rfl rfl ?_
  refine k_getr fg_10_7 rfl rfl dX10_setPrinter_1 (fun x1 => ?_)
  refine k_bipush (v := (76 : Int32)) dX10_setPrinter_4 rfl ?_
  refine k_bipush (v := (10 : Int32)) dX10_setPrinter_6 rfl ?_
  refine k_iloadn (j := 1) dX10_setPrinter_8 rfl rfl ?_
  refine k_imul dX10_setPrinter_9 ?_
  refine k_iadd dX10_setPrinter_10 ?_
  refine k_iloadn (j := 2) dX10_setPrinter_11 rfl rfl ?_
  refine k_iadd dX10_setPrinter_12 ?_
  refine k_iloadn (j := 3) dX10_setPrinter_13 rfl rfl ?_
  rcases x1 with _ | a2
  · exact k_ocn
  refine k_ocs ?_
  refine k_iast dX10_setPrinter_14 (fun g3 => ?_)
  exact k_return rfl dX10_setPrinter_15
theorem dX10_in_0 : decode cX10_in 0 = .ok (.iload_n 0, 1) := by decide +kernel
theorem dX10_in_1 : decode cX10_in 1 = .ok (.iload_n 1, 1) := by decide +kernel
theorem dX10_in_2 : decode cX10_in 2 = .ok (.if_icmp .lt 12, 3) := by decide +kernel
theorem dX10_in_5 : decode cX10_in 5 = .ok (.iload_n 0, 1) := by decide +kernel
theorem dX10_in_6 : decode cX10_in 6 = .ok (.iload_n 2, 1) := by decide +kernel
theorem dX10_in_7 : decode cX10_in 7 = .ok (.if_icmp .gt 7, 3) := by decide +kernel
theorem dX10_in_10 : decode cX10_in 10 = .ok (.iconst 1, 1) := by decide +kernel
theorem dX10_in_11 : decode cX10_in 11 = .ok (.goto 4, 3) := by decide +kernel
theorem dX10_in_14 : decode cX10_in 14 = .ok (.iconst 0, 1) := by decide +kernel
theorem dX10_in_15 : decode cX10_in 15 = .ok (.ireturn, 1) := by decide +kernel
def f10_in_b14 (g : GS_) : Option (Int32 × GS_) :=
  some ((0 : Int32), g)
theorem t10_in_b14 (g : GS_) : K_ RX10 cX10_in 3 (some .boolean) 0 0 false EI_ 14 [none, none, none] [] g (f10_in_b14 g) := by
  unfold f10_in_b14
  refine k_iconst (v := (0 : Int32)) dX10_in_14 rfl ?_
  exact k_zreturn rfl (by decide) dX10_in_15
def f10_in (v0 : Int32) (v1 : Int32) (v2 : Int32) (g : GS_) : Option (Int32 × GS_) :=
  if v0 < v1 then f10_in_b14 g else if v2 < v0 then f10_in_b14 g else some ((1 : Int32), g)
theorem t10_in (v0 : Int32) (v1 : Int32) (v2 : Int32) (g : GS_) : Cn_ yX10_in cX10_in 3 (some .boolean) 0 0 EI_ [.inl v0, .inl v1, .inl v2] g (f10_in v0 v1 v2 g) := by
  refine k_method (own := RX10) (ini := false) (L1 := [some (.inl v0), some (.inl v1), some (.inl v2)]) (by decide +kernel) rfl (fun h => by cases h) (Nat.le_of_ble_eq_true rfl) rfl ?_
  unfold f10_in
  refine k_iloadn (j := 0) dX10_in_0 rfl rfl ?_
  refine k_iloadn (j := 1) dX10_in_1 rfl rfl ?_
  refine k_icmplt (tgt := 14) dX10_in_2 (by decide) (fun _ => ?_) (fun _ => ?_)
  · refine k_msk (L' := [none, none, none]) [false, false, false] rfl ?_
    exact t10_in_b14 g
  refine k_iloadn (j := 0) dX10_in_5 rfl rfl ?_
  refine k_iloadn (j := 2) dX10_in_6 rfl rfl ?_
  refine k_icmpgt (tgt := 14) dX10_in_7 (by decide) (fun _ => ?_) (fun _ => ?_)
  · refine k_msk (L' := [none, none, none]) [false, false, false] rfl ?_
    exact t10_in_b14 g
  refine k_iconst (v := (1 : Int32)) dX10_in_10 rfl ?_
  refine k_goto (tgt := 15) dX10_in_11 (by decide) ?_
  exact k_zreturn rfl (by decide) dX10_in_15
