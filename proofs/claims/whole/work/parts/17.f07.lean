/-! methods as functions over numbers, and that the machine does them: written by wip/whole/gen/mkparts.py (decode rows: printed names) -/
theorem dX10_signOf_0 : decode cX10_signOf 0 = .ok (.aload_n 0, 1) := by decide +kernel
theorem dX10_signOf_1 : decode cX10_signOf 1 = .ok (.getfield 38, 3) := by decide +kernel
theorem dX10_signOf_4 : decode cX10_signOf 4 = .ok (.iload_n 2, 1) := by decide +kernel
theorem dX10_signOf_5 : decode cX10_signOf 5 = .ok (.iaload, 1) := by decide +kernel
theorem dX10_signOf_6 : decode cX10_signOf 6 = .ok (.istore 4, 2) := by decide +kernel
theorem dX10_signOf_8 : decode cX10_signOf 8 = .ok (.aload_n 0, 1) := by decide +kernel
theorem dX10_signOf_9 : decode cX10_signOf 9 = .ok (.getfield 16, 3) := by decide +kernel
theorem dX10_signOf_12 : decode cX10_signOf 12 = .ok (.sipush 400, 3) := by decide +kernel
theorem dX10_signOf_15 : decode cX10_signOf 15 = .ok (.iload_n 1, 1) := by decide +kernel
theorem dX10_signOf_16 : decode cX10_signOf 16 = .ok (.imul, 1) := by decide +kernel
theorem dX10_signOf_17 : decode cX10_signOf 17 = .ok (.iload_n 2, 1) := by decide +kernel
theorem dX10_signOf_18 : decode cX10_signOf 18 = .ok (.iadd, 1) := by decide +kernel
theorem dX10_signOf_19 : decode cX10_signOf 19 = .ok (.iaload, 1) := by decide +kernel
theorem dX10_signOf_20 : decode cX10_signOf 20 = .ok (.istore 5, 2) := by decide +kernel
theorem dX10_signOf_22 : decode cX10_signOf 22 = .ok (.aload_n 0, 1) := by decide +kernel
theorem dX10_signOf_23 : decode cX10_signOf 23 = .ok (.getfield 16, 3) := by decide +kernel
theorem dX10_signOf_26 : decode cX10_signOf 26 = .ok (.sipush 400, 3) := by decide +kernel
theorem dX10_signOf_29 : decode cX10_signOf 29 = .ok (.iload_n 1, 1) := by decide +kernel
theorem dX10_signOf_30 : decode cX10_signOf 30 = .ok (.imul, 1) := by decide +kernel
theorem dX10_signOf_31 : decode cX10_signOf 31 = .ok (.iload_n 2, 1) := by decide +kernel
theorem dX10_signOf_32 : decode cX10_signOf 32 = .ok (.iadd, 1) := by decide +kernel
theorem dX10_signOf_33 : decode cX10_signOf 33 = .ok (.iload 4, 2) := by decide +kernel
theorem dX10_signOf_35 : decode cX10_signOf 35 = .ok (.iadd, 1) := by decide +kernel
theorem dX10_signOf_36 : decode cX10_signOf 36 = .ok (.iconst 1, 1) := by decide +kernel
theorem dX10_signOf_37 : decode cX10_signOf 37 = .ok (.isub, 1) := by decide +kernel
theorem dX10_signOf_38 : decode cX10_signOf 38 = .ok (.iaload, 1) := by decide +kernel
theorem dX10_signOf_39 : decode cX10_signOf 39 = .ok (.istore 6, 2) := by decide +kernel
theorem dX10_signOf_41 : decode cX10_signOf 41 = .ok (.iload_n 3, 1) := by decide +kernel
theorem dX10_signOf_42 : decode cX10_signOf 42 = .ok (.iload 5, 2) := by decide +kernel
theorem dX10_signOf_44 : decode cX10_signOf 44 = .ok (.invokestatic 161, 3) := by decide +kernel
theorem dX10_signOf_47 : decode cX10_signOf 47 = .ok (.if_icmp .ge 10, 3) := by decide +kernel
theorem dX10_signOf_50 : decode cX10_signOf 50 = .ok (.iload 5, 2) := by decide +kernel
theorem dX10_signOf_52 : decode cX10_signOf 52 = .ok (.iload_n 3, 1) := by decide +kernel
theorem dX10_signOf_53 : decode cX10_signOf 53 = .ok (.invokestatic 174, 3) := by decide +kernel
theorem dX10_signOf_56 : decode cX10_signOf 56 = .ok (.ireturn, 1) := by decide +kernel
theorem dX10_signOf_57 : decode cX10_signOf 57 = .ok (.iload_n 3, 1) := by decide +kernel
theorem dX10_signOf_58 : decode cX10_signOf 58 = .ok (.iload 5, 2) := by decide +kernel
theorem dX10_signOf_60 : decode cX10_signOf 60 = .ok (.invokestatic 161, 3) := by decide +kernel
theorem dX10_signOf_63 : decode cX10_signOf 63 = .ok (.isub, 1) := by decide +kernel
theorem dX10_signOf_64 : decode cX10_signOf 64 = .ok (.iconst 1, 1) := by decide +kernel
theorem dX10_signOf_65 : decode cX10_signOf 65 = .ok (.isub, 1) := by decide +kernel
theorem dX10_signOf_66 : decode cX10_signOf 66 = .ok (.istore 7, 2) := by decide +kernel
theorem dX10_signOf_68 : decode cX10_signOf 68 = .ok (.iload 7, 2) := by decide +kernel
theorem dX10_signOf_70 : decode cX10_signOf 70 = .ok (.ifCond .ge 6, 3) := by decide +kernel
theorem dX10_signOf_73 : decode cX10_signOf 73 = .ok (.bipush 45, 2) := by decide +kernel
theorem dX10_signOf_75 : decode cX10_signOf 75 = .ok (.ireturn, 1) := by decide +kernel
theorem dX10_signOf_76 : decode cX10_signOf 76 = .ok (.iload 7, 2) := by decide +kernel
theorem dX10_signOf_78 : decode cX10_signOf 78 = .ok (.iload 6, 2) := by decide +kernel
theorem dX10_signOf_80 : decode cX10_signOf 80 = .ok (.invokestatic 161, 3) := by decide +kernel
theorem dX10_signOf_83 : decode cX10_signOf 83 = .ok (.if_icmp .ge 13, 3) := by decide +kernel
theorem dX10_signOf_86 : decode cX10_signOf 86 = .ok (.iload 6, 2) := by decide +kernel
theorem dX10_signOf_88 : decode cX10_signOf 88 = .ok (.iload 7, 2) := by decide +kernel
theorem dX10_signOf_90 : decode cX10_signOf 90 = .ok (.invokestatic 174, 3) := by decide +kernel
theorem dX10_signOf_93 : decode cX10_signOf 93 = .ok (.goto 18, 3) := by decide +kernel
theorem dX10_signOf_96 : decode cX10_signOf 96 = .ok (.iload 5, 2) := by decide +kernel
theorem dX10_signOf_98 : decode cX10_signOf 98 = .ok (.iconst 2, 1) := by decide +kernel
theorem dX10_signOf_99 : decode cX10_signOf 99 = .ok (.irem, 1) := by decide +kernel
theorem dX10_signOf_100 : decode cX10_signOf 100 = .ok (.iconst 1, 1) := by decide +kernel
theorem dX10_signOf_101 : decode cX10_signOf 101 = .ok (.if_icmp .ne 8, 3) := by decide +kernel
theorem dX10_signOf_104 : decode cX10_signOf 104 = .ok (.bipush 111, 2) := by decide +kernel
theorem dX10_signOf_106 : decode cX10_signOf 106 = .ok (.goto 5, 3) := by decide +kernel
theorem dX10_signOf_109 : decode cX10_signOf 109 = .ok (.bipush 101, 2) := by decide +kernel
theorem dX10_signOf_111 : decode cX10_signOf 111 = .ok (.ireturn, 1) := by decide +kernel
def f10_signOf (v0 : Nat) (v1 : Int32) (v2 : Int32) (v3 : Int32) (g : GS_) : Option (Int32 × GS_) :=
  lr_ (gfr g 336 v0) fun x1 => oc_ x1 none fun a2 => if inb v2 (gln g 20 a2) then lr_ (gai g 20 a2 v2.toInt.toNat) fun z3 => lr_ (gfr g 322 v0) fun x4 => oc_ x4 none fun a5 => if inb (((400 : Int32) * v1) + v2) (gln g 20 a5) then lr_ (gai g 20 a5 (((400 : Int32) * v1) + v2).toInt.toNat) fun z6 => lr_ (gfr g 322 v0) fun x7 => oc_ x7 none fun a8 => if inb (((((400 : Int32) * v1) + v2) + z3) - (1 : Int32)) (gln g 20 a8) then lr_ (gai g 20 a8 (((((400 : Int32) * v1) + v2) + z3) - (1 : Int32)).toInt.toNat) fun z9 => bd_ (f10_figures z6 g) fun z11 g10 => if z11 ≤ v3 then bd_ (f10_figures z6 g10) fun z13 g12 => lr_ ((v3 - z13) - (1 : Int32)) fun z14 => if 0 ≤ z14 then bd_ (f10_figures z9 g12) fun z16 g15 => if z16 ≤ z14 then if (jrem z6 (2 : Int32)) = (1 : Int32) then some ((111 : Int32), g15) else some ((101 : Int32), g15) else bd_ (f10_figure z9 z14 g15) fun z18 g17 => some (z18, g17) else some ((45 : Int32), g12) else bd_ (f10_figure z6 v3 g10) fun z20 g19 => some (z20, g19) else none else none else none
theorem t10_signOf (v0 : Nat) (v1 : Int32) (v2 : Int32) (v3 : Int32) (g : GS_) : Cn_ yX10_signOf cX10_signOf 8 (some .int) 2 44 EI_ [.inr (10, some v0), .inl v1, .inl v2, .inl v3] g (f10_signOf v0 v1 v2 v3 g) := by
  refine k_method (own := RX10) (ini := false) (L1 := [some (.inr (10, some v0)), some (.inl v1), some (.inl v2), some (.inl v3), none, none, none, none]) (by decide +kernel) rfl (fun h => by cases h) (Nat.le_of_ble_eq_true rfl) rfl ?_
  unfold f10_signOf
  refine k_aloadn (j := 0) dX10_signOf_0 rfl rfl ?_
  refine k_getr fg_10_38 rfl rfl dX10_signOf_1 (fun x1 => ?_)
  refine k_iloadn (j := 2) dX10_signOf_4 rfl rfl ?_
  rcases x1 with _ | a2
  · exact k_ocn
  refine k_ocs ?_
  refine k_iald dX10_signOf_5 ?_
  refine k_istl (L2 := fun z3 => [some (.inr (10, some v0)), some (.inl v1), some (.inl v2), some (.inl v3), some (.inl z3), none, none, none]) dX10_signOf_6 (by decide) (fun _ => rfl) (fun z3 => ?_)
  refine k_aloadn (j := 0) dX10_signOf_8 rfl rfl ?_
  refine k_getr fg_10_16 rfl rfl dX10_signOf_9 (fun x4 => ?_)
  refine k_sipush (v := (400 : Int32)) dX10_signOf_12 rfl ?_
  refine k_iloadn (j := 1) dX10_signOf_15 rfl rfl ?_
  refine k_imul dX10_signOf_16 ?_
  refine k_iloadn (j := 2) dX10_signOf_17 rfl rfl ?_
  refine k_iadd dX10_signOf_18 ?_
  rcases x4 with _ | a5
  · exact k_ocn
  refine k_ocs ?_
  refine k_iald dX10_signOf_19 ?_
  refine k_istl (L2 := fun z6 => [some (.inr (10, some v0)), some (.inl v1), some (.inl v2), some (.inl v3), some (.inl z3), some (.inl z6), none, none]) dX10_signOf_20 (by decide) (fun _ => rfl) (fun z6 => ?_)
  refine k_aloadn (j := 0) dX10_signOf_22 rfl rfl ?_
  refine k_getr fg_10_16 rfl rfl dX10_signOf_23 (fun x7 => ?_)
  refine k_sipush (v := (400 : Int32)) dX10_signOf_26 rfl ?_
  refine k_iloadn (j := 1) dX10_signOf_29 rfl rfl ?_
  refine k_imul dX10_signOf_30 ?_
  refine k_iloadn (j := 2) dX10_signOf_31 rfl rfl ?_
  refine k_iadd dX10_signOf_32 ?_
  refine k_iload dX10_signOf_33 rfl ?_
  refine k_iadd dX10_signOf_35 ?_
  refine k_iconst (v := (1 : Int32)) dX10_signOf_36 rfl ?_
  refine k_isub dX10_signOf_37 ?_
  rcases x7 with _ | a8
  · exact k_ocn
  refine k_ocs ?_
  refine k_iald dX10_signOf_38 ?_
  refine k_istl (L2 := fun z9 => [some (.inr (10, some v0)), some (.inl v1), some (.inl v2), some (.inl v3), some (.inl z3), some (.inl z6), some (.inl z9), none]) dX10_signOf_39 (by decide) (fun _ => rfl) (fun z9 => ?_)
  refine k_iloadn (j := 3) dX10_signOf_41 rfl rfl ?_
  refine k_iload dX10_signOf_42 rfl ?_
  refine k_callSi [.inl z6] (t10_figures z6 g) cw_cX10_figures ml_10_161 rfl rfl (by decide) (by decide) (Nat.le_of_ble_eq_true rfl) dX10_signOf_44 (fun z11 g10 => ?_)
  refine k_icmpge (tgt := 57) dX10_signOf_47 (by decide) (fun _ => ?_) (fun _ => ?_)
  · refine k_iloadn (j := 3) dX10_signOf_57 rfl rfl ?_
    refine k_iload dX10_signOf_58 rfl ?_
    refine k_callSi [.inl z6] (t10_figures z6 g10) cw_cX10_figures ml_10_161 rfl rfl (by decide) (by decide) (Nat.le_of_ble_eq_true rfl) dX10_signOf_60 (fun z13 g12 => ?_)
    refine k_isub dX10_signOf_63 ?_
    refine k_iconst (v := (1 : Int32)) dX10_signOf_64 rfl ?_
    refine k_isub dX10_signOf_65 ?_
    refine k_istl (L2 := fun z14 => [some (.inr (10, some v0)), some (.inl v1), some (.inl v2), some (.inl v3), some (.inl z3), some (.inl z6), some (.inl z9), some (.inl z14)]) dX10_signOf_66 (by decide) (fun _ => rfl) (fun z14 => ?_)
    refine k_iload dX10_signOf_68 rfl ?_
    refine k_ifge (tgt := 76) dX10_signOf_70 (by decide) (fun _ => ?_) (fun _ => ?_)
    · refine k_iload dX10_signOf_76 rfl ?_
      refine k_iload dX10_signOf_78 rfl ?_
      refine k_callSi [.inl z9] (t10_figures z9 g12) cw_cX10_figures ml_10_161 rfl rfl (by decide) (by decide) (Nat.le_of_ble_eq_true rfl) dX10_signOf_80 (fun z16 g15 => ?_)
      refine k_icmpge (tgt := 96) dX10_signOf_83 (by decide) (fun _ => ?_) (fun _ => ?_)
      · refine k_iload dX10_signOf_96 rfl ?_
        refine k_iconst (v := (2 : Int32)) dX10_signOf_98 rfl ?_
        refine k_iremc (by decide) dX10_signOf_99 ?_
        refine k_iconst (v := (1 : Int32)) dX10_signOf_100 rfl ?_
        refine k_icmpne (tgt := 109) dX10_signOf_101 (by decide) (fun _ => ?_) (fun _ => ?_)
        · refine k_bipush (v := (111 : Int32)) dX10_signOf_104 rfl ?_
          refine k_goto (tgt := 111) dX10_signOf_106 (by decide) ?_
          exact k_ireturn rfl dX10_signOf_111
        refine k_bipush (v := (101 : Int32)) dX10_signOf_109 rfl ?_
        exact k_ireturn rfl dX10_signOf_111
      refine k_iload dX10_signOf_86 rfl ?_
      refine k_iload dX10_signOf_88 rfl ?_
      refine k_callSi [.inl z9, .inl z14] (t10_figure z9 z14 g15) cw_cX10_figure ml_10_174 rfl rfl (by decide) (by decide) (Nat.le_of_ble_eq_true rfl) dX10_signOf_90 (fun z18 g17 => ?_)
      refine k_goto (tgt := 111) dX10_signOf_93 (by decide) ?_
      exact k_ireturn rfl dX10_signOf_111
    refine k_bipush (v := (45 : Int32)) dX10_signOf_73 rfl ?_
    exact k_ireturn rfl dX10_signOf_75
  refine k_iload dX10_signOf_50 rfl ?_
  refine k_iloadn (j := 3) dX10_signOf_52 rfl rfl ?_
  refine k_callSi [.inl z6, .inl v3] (t10_figure z6 v3 g10) cw_cX10_figure ml_10_174 rfl rfl (by decide) (by decide) (Nat.le_of_ble_eq_true rfl) dX10_signOf_53 (fun z20 g19 => ?_)
  exact k_ireturn rfl dX10_signOf_56
theorem dX10_canonical_0 : decode cX10_canonical 0 = .ok (.aload_n 0, 1) := by decide +kernel
theorem dX10_canonical_1 : decode cX10_canonical 1 = .ok (.iload_n 1, 1) := by decide +kernel
theorem dX10_canonical_2 : decode cX10_canonical 2 = .ok (.invokevirtual 149, 3) := by decide +kernel
theorem dX10_canonical_5 : decode cX10_canonical 5 = .ok (.ifCond .ne 5, 3) := by decide +kernel
theorem dX10_canonical_8 : decode cX10_canonical 8 = .ok (.iconst (-1), 1) := by decide +kernel
theorem dX10_canonical_9 : decode cX10_canonical 9 = .ok (.ireturn, 1) := by decide +kernel
theorem dX10_canonical_10 : decode cX10_canonical 10 = .ok (.aload_n 0, 1) := by decide +kernel
theorem dX10_canonical_11 : decode cX10_canonical 11 = .ok (.iload_n 1, 1) := by decide +kernel
theorem dX10_canonical_12 : decode cX10_canonical 12 = .ok (.invokevirtual 177, 3) := by decide +kernel
theorem dX10_canonical_15 : decode cX10_canonical 15 = .ok (.iload_n 2, 1) := by decide +kernel
theorem dX10_canonical_16 : decode cX10_canonical 16 = .ok (.iconst (-1), 1) := by decide +kernel
theorem dX10_canonical_17 : decode cX10_canonical 17 = .ok (.if_icmp .ne 10, 3) := by decide +kernel
theorem dX10_canonical_20 : decode cX10_canonical 20 = .ok (.aload_n 0, 1) := by decide +kernel
theorem dX10_canonical_21 : decode cX10_canonical 21 = .ok (.getfield 32, 3) := by decide +kernel
theorem dX10_canonical_24 : decode cX10_canonical 24 = .ok (.iconst 0, 1) := by decide +kernel
theorem dX10_canonical_25 : decode cX10_canonical 25 = .ok (.iaload, 1) := by decide +kernel
theorem dX10_canonical_26 : decode cX10_canonical 26 = .ok (.ireturn, 1) := by decide +kernel
theorem dX10_canonical_27 : decode cX10_canonical 27 = .ok (.iload_n 2, 1) := by decide +kernel
theorem dX10_canonical_28 : decode cX10_canonical 28 = .ok (.bipush (-2), 2) := by decide +kernel
theorem dX10_canonical_30 : decode cX10_canonical 30 = .ok (.if_icmp .ne 10, 3) := by decide +kernel
theorem dX10_canonical_33 : decode cX10_canonical 33 = .ok (.aload_n 0, 1) := by decide +kernel
theorem dX10_canonical_34 : decode cX10_canonical 34 = .ok (.getfield 35, 3) := by decide +kernel
theorem dX10_canonical_37 : decode cX10_canonical 37 = .ok (.iconst 0, 1) := by decide +kernel
theorem dX10_canonical_38 : decode cX10_canonical 38 = .ok (.iaload, 1) := by decide +kernel
theorem dX10_canonical_39 : decode cX10_canonical 39 = .ok (.ireturn, 1) := by decide +kernel
theorem dX10_canonical_40 : decode cX10_canonical 40 = .ok (.iload_n 2, 1) := by decide +kernel
theorem dX10_canonical_41 : decode cX10_canonical 41 = .ok (.iconst 0, 1) := by decide +kernel
theorem dX10_canonical_42 : decode cX10_canonical 42 = .ok (.aload_n 0, 1) := by decide +kernel
theorem dX10_canonical_43 : decode cX10_canonical 43 = .ok (.getfield 32, 3) := by decide +kernel
theorem dX10_canonical_46 : decode cX10_canonical 46 = .ok (.iconst 0, 1) := by decide +kernel
theorem dX10_canonical_47 : decode cX10_canonical 47 = .ok (.iaload, 1) := by decide +kernel
theorem dX10_canonical_48 : decode cX10_canonical 48 = .ok (.iconst 1, 1) := by decide +kernel
theorem dX10_canonical_49 : decode cX10_canonical 49 = .ok (.isub, 1) := by decide +kernel
theorem dX10_canonical_50 : decode cX10_canonical 50 = .ok (.invokestatic 44, 3) := by decide +kernel
theorem dX10_canonical_53 : decode cX10_canonical 53 = .ok (.ifCond .ne 6, 3) := by decide +kernel
theorem dX10_canonical_56 : decode cX10_canonical 56 = .ok (.bipush (-6), 2) := by decide +kernel
theorem dX10_canonical_58 : decode cX10_canonical 58 = .ok (.ireturn, 1) := by decide +kernel
theorem dX10_canonical_59 : decode cX10_canonical 59 = .ok (.iconst 0, 1) := by decide +kernel
theorem dX10_canonical_60 : decode cX10_canonical 60 = .ok (.istore_n 3, 1) := by decide +kernel
theorem dX10_canonical_61 : decode cX10_canonical 61 = .ok (.iload_n 2, 1) := by decide +kernel
theorem dX10_canonical_62 : decode cX10_canonical 62 = .ok (.istore 4, 2) := by decide +kernel
theorem dX10_canonical_64 : decode cX10_canonical 64 = .ok (.aload_n 0, 1) := by decide +kernel
theorem dX10_canonical_65 : decode cX10_canonical 65 = .ok (.iload_n 1, 1) := by decide +kernel
theorem dX10_canonical_66 : decode cX10_canonical 66 = .ok (.bipush 7, 2) := by decide +kernel
theorem dX10_canonical_68 : decode cX10_canonical 68 = .ok (.invokevirtual 133, 3) := by decide +kernel
theorem dX10_canonical_71 : decode cX10_canonical 71 = .ok (.istore 5, 2) := by decide +kernel
theorem dX10_canonical_73 : decode cX10_canonical 73 = .ok (.aload_n 0, 1) := by decide +kernel
theorem dX10_canonical_74 : decode cX10_canonical 74 = .ok (.getfield 38, 3) := by decide +kernel
theorem dX10_canonical_77 : decode cX10_canonical 77 = .ok (.iload_n 3, 1) := by decide +kernel
theorem dX10_canonical_78 : decode cX10_canonical 78 = .ok (.iaload, 1) := by decide +kernel
theorem dX10_canonical_79 : decode cX10_canonical 79 = .ok (.iconst 1, 1) := by decide +kernel
theorem dX10_canonical_80 : decode cX10_canonical 80 = .ok (.if_icmp .le 12, 3) := by decide +kernel
theorem dX10_canonical_83 : decode cX10_canonical 83 = .ok (.aload_n 0, 1) := by decide +kernel
theorem dX10_canonical_84 : decode cX10_canonical 84 = .ok (.iload_n 1, 1) := by decide +kernel
theorem dX10_canonical_85 : decode cX10_canonical 85 = .ok (.iload_n 3, 1) := by decide +kernel
theorem dX10_canonical_86 : decode cX10_canonical 86 = .ok (.invokevirtual 171, 3) := by decide +kernel
theorem dX10_canonical_89 : decode cX10_canonical 89 = .ok (.goto 4, 3) := by decide +kernel
theorem dX10_canonical_92 : decode cX10_canonical 92 = .ok (.iconst 0, 1) := by decide +kernel
theorem dX10_canonical_93 : decode cX10_canonical 93 = .ok (.istore 6, 2) := by decide +kernel
theorem dX10_canonical_95 : decode cX10_canonical 95 = .ok (.aload_n 0, 1) := by decide +kernel
theorem dX10_canonical_96 : decode cX10_canonical 96 = .ok (.iload_n 1, 1) := by decide +kernel
theorem dX10_canonical_97 : decode cX10_canonical 97 = .ok (.iload_n 3, 1) := by decide +kernel
theorem dX10_canonical_98 : decode cX10_canonical 98 = .ok (.aload_n 0, 1) := by decide +kernel
theorem dX10_canonical_99 : decode cX10_canonical 99 = .ok (.getfield 38, 3) := by decide +kernel
theorem dX10_canonical_102 : decode cX10_canonical 102 = .ok (.iload_n 3, 1) := by decide +kernel
theorem dX10_canonical_103 : decode cX10_canonical 103 = .ok (.iaload, 1) := by decide +kernel
theorem dX10_canonical_104 : decode cX10_canonical 104 = .ok (.iload 6, 2) := by decide +kernel
theorem dX10_canonical_106 : decode cX10_canonical 106 = .ok (.invokevirtual 164, 3) := by decide +kernel
theorem dX10_canonical_109 : decode cX10_canonical 109 = .ok (.istore 7, 2) := by decide +kernel
theorem dX10_canonical_111 : decode cX10_canonical 111 = .ok (.iload 4, 2) := by decide +kernel
theorem dX10_canonical_113 : decode cX10_canonical 113 = .ok (.iload 7, 2) := by decide +kernel
theorem dX10_canonical_115 : decode cX10_canonical 115 = .ok (.if_icmp .ge 12, 3) := by decide +kernel
theorem dX10_canonical_118 : decode cX10_canonical 118 = .ok (.aload_n 0, 1) := by decide +kernel
theorem dX10_canonical_119 : decode cX10_canonical 119 = .ok (.iload_n 1, 1) := by decide +kernel
theorem dX10_canonical_120 : decode cX10_canonical 120 = .ok (.iload_n 3, 1) := by decide +kernel
theorem dX10_canonical_121 : decode cX10_canonical 121 = .ok (.iload 4, 2) := by decide +kernel
theorem dX10_canonical_123 : decode cX10_canonical 123 = .ok (.invokevirtual 180, 3) := by decide +kernel
theorem dX10_canonical_126 : decode cX10_canonical 126 = .ok (.ireturn, 1) := by decide +kernel
theorem dX10_canonical_127 : decode cX10_canonical 127 = .ok (.iload 4, 2) := by decide +kernel
theorem dX10_canonical_129 : decode cX10_canonical 129 = .ok (.iload 7, 2) := by decide +kernel
theorem dX10_canonical_131 : decode cX10_canonical 131 = .ok (.if_icmp .eq 16, 3) := by decide +kernel
theorem dX10_canonical_134 : decode cX10_canonical 134 = .ok (.iload_n 3, 1) := by decide +kernel
theorem dX10_canonical_135 : decode cX10_canonical 135 = .ok (.aload_n 0, 1) := by decide +kernel
theorem dX10_canonical_136 : decode cX10_canonical 136 = .ok (.getfield 38, 3) := by decide +kernel
theorem dX10_canonical_139 : decode cX10_canonical 139 = .ok (.iload_n 3, 1) := by decide +kernel
theorem dX10_canonical_140 : decode cX10_canonical 140 = .ok (.iaload, 1) := by decide +kernel
theorem dX10_canonical_141 : decode cX10_canonical 141 = .ok (.iadd, 1) := by decide +kernel
theorem dX10_canonical_142 : decode cX10_canonical 142 = .ok (.iload 5, 2) := by decide +kernel
theorem dX10_canonical_144 : decode cX10_canonical 144 = .ok (.if_icmp .lt 6, 3) := by decide +kernel
theorem dX10_canonical_147 : decode cX10_canonical 147 = .ok (.bipush 44, 2) := by decide +kernel
theorem dX10_canonical_149 : decode cX10_canonical 149 = .ok (.ireturn, 1) := by decide +kernel
theorem dX10_canonical_150 : decode cX10_canonical 150 = .ok (.iload 4, 2) := by decide +kernel
theorem dX10_canonical_152 : decode cX10_canonical 152 = .ok (.iload 7, 2) := by decide +kernel
theorem dX10_canonical_154 : decode cX10_canonical 154 = .ok (.iconst 1, 1) := by decide +kernel
theorem dX10_canonical_155 : decode cX10_canonical 155 = .ok (.iadd, 1) := by decide +kernel
theorem dX10_canonical_156 : decode cX10_canonical 156 = .ok (.isub, 1) := by decide +kernel
theorem dX10_canonical_157 : decode cX10_canonical 157 = .ok (.istore 4, 2) := by decide +kernel
theorem dX10_canonical_159 : decode cX10_canonical 159 = .ok (.iload_n 3, 1) := by decide +kernel
theorem dX10_canonical_160 : decode cX10_canonical 160 = .ok (.aload_n 0, 1) := by decide +kernel
theorem dX10_canonical_161 : decode cX10_canonical 161 = .ok (.getfield 38, 3) := by decide +kernel
theorem dX10_canonical_164 : decode cX10_canonical 164 = .ok (.iload_n 3, 1) := by decide +kernel
theorem dX10_canonical_165 : decode cX10_canonical 165 = .ok (.iaload, 1) := by decide +kernel
theorem dX10_canonical_166 : decode cX10_canonical 166 = .ok (.iadd, 1) := by decide +kernel
theorem dX10_canonical_167 : decode cX10_canonical 167 = .ok (.istore_n 3, 1) := by decide +kernel
theorem dX10_canonical_168 : decode cX10_canonical 168 = .ok (.goto (-95), 3) := by decide +kernel
def f10_canonical_b93 (c73 : Nat → Int32 → Int32 → Int32 → Int32 → GS_ → Option (Int32 × GS_)) (v0 : Nat) (v1 : Int32) (v3 : Int32) (v4 : Int32) (v5 : Int32) (s0 : Int32) (g : GS_) : Option (Int32 × GS_) :=
  lr_ (gfr g 336 v0) fun x1 => oc_ x1 none fun a2 => if inb v3 (gln g 20 a2) then bd_ (f10_signsOf v0 v1 v3 (gai g 20 a2 v3.toInt.toNat) s0 g) fun z4 g3 => if z4 ≤ v4 then if v4 = z4 then some ((44 : Int32), g3) else lr_ (gfr g3 336 v0) fun x5 => oc_ x5 none fun a6 => if inb v3 (gln g3 20 a6) then if (v3 + (gai g3 20 a6 v3.toInt.toNat)) < v5 then lr_ (v4 - (z4 + (1 : Int32))) fun z7 => lr_ (gfr g3 336 v0) fun x8 => oc_ x8 none fun a9 => if inb v3 (gln g3 20 a9) then lr_ (v3 + (gai g3 20 a9 v3.toInt.toNat)) fun z10 => c73 v0 v1 z10 z7 v5 g3 else none else some ((44 : Int32), g3) else none else bd_ (f10_signOf v0 v1 v3 v4 g3) fun z12 g11 => some (z12, g11) else none
theorem t10_canonical_b93 (c73 : Nat → Int32 → Int32 → Int32 → Int32 → GS_ → Option (Int32 × GS_)) (h73 : ∀ (v0 : Nat) (v1 : Int32) (v3 : Int32) (v4 : Int32) (v5 : Int32) (g : GS_), K_ RX10 cX10_canonical 8 (some .int) 4 100 false EI_ 73 [some (.inr (10, some v0)), some (.inl v1), none, some (.inl v3), some (.inl v4), some (.inl v5), none, none] [] g (c73 v0 v1 v3 v4 v5 g)) (v0 : Nat) (v1 : Int32) (v3 : Int32) (v4 : Int32) (v5 : Int32) (s0 : Int32) (g : GS_) : K_ RX10 cX10_canonical 8 (some .int) 4 100 false EI_ 93 [some (.inr (10, some v0)), some (.inl v1), none, some (.inl v3), some (.inl v4), some (.inl v5), none, none] [.inl s0] g (f10_canonical_b93 c73 v0 v1 v3 v4 v5 s0 g) := by
  unfold f10_canonical_b93
  refine k_ist (L' := [some (.inr (10, some v0)), some (.inl v1), none, some (.inl v3), some (.inl v4), some (.inl v5), some (.inl s0), none]) dX10_canonical_93 (by decide) rfl ?_
  refine k_aloadn (j := 0) dX10_canonical_95 rfl rfl ?_
  refine k_iloadn (j := 1) dX10_canonical_96 rfl rfl ?_
  refine k_iloadn (j := 3) dX10_canonical_97 rfl rfl ?_
  refine k_aloadn (j := 0) dX10_canonical_98 rfl rfl ?_
  refine k_getr fg_10_38 rfl rfl dX10_canonical_99 (fun x1 => ?_)
  refine k_iloadn (j := 3) dX10_canonical_102 rfl rfl ?_
  rcases x1 with _ | a2
  · exact k_ocn
  refine k_ocs ?_
  refine k_iald dX10_canonical_103 ?_
  refine k_iload dX10_canonical_104 rfl ?_
  refine k_callVi [.inl v1, .inl v3, .inl (gai g 20 a2 v3.toInt.toNat), .inl s0] (t10_signsOf v0 v1 v3 (gai g 20 a2 v3.toInt.toNat) s0 g) cw_cX10_signsOf (Or.inl ml_10_164) rfl rfl (by decide) (by decide) (Nat.le_of_ble_eq_true rfl) dX10_canonical_106 (fun z4 g3 => ?_)
  refine k_ist (L' := [some (.inr (10, some v0)), some (.inl v1), none, some (.inl v3), some (.inl v4), some (.inl v5), some (.inl s0), some (.inl z4)]) dX10_canonical_109 (by decide) rfl ?_
  refine k_iload dX10_canonical_111 rfl ?_
  refine k_iload dX10_canonical_113 rfl ?_
  refine k_icmpge (tgt := 127) dX10_canonical_115 (by decide) (fun _ => ?_) (fun _ => ?_)
  · refine k_iload dX10_canonical_127 rfl ?_
    refine k_iload dX10_canonical_129 rfl ?_
    refine k_icmpeq (tgt := 147) dX10_canonical_131 (by decide) (fun _ => ?_) (fun _ => ?_)
    · refine k_bipush (v := (44 : Int32)) dX10_canonical_147 rfl ?_
      exact k_ireturn rfl dX10_canonical_149
    refine k_iloadn (j := 3) dX10_canonical_134 rfl rfl ?_
    refine k_aloadn (j := 0) dX10_canonical_135 rfl rfl ?_
    refine k_getr fg_10_38 rfl rfl dX10_canonical_136 (fun x5 => ?_)
    refine k_iloadn (j := 3) dX10_canonical_139 rfl rfl ?_
    rcases x5 with _ | a6
    · exact k_ocn
    refine k_ocs ?_
    refine k_iald dX10_canonical_140 ?_
    refine k_iadd dX10_canonical_141 ?_
    refine k_iload dX10_canonical_142 rfl ?_
    refine k_icmplt (tgt := 150) dX10_canonical_144 (by decide) (fun _ => ?_) (fun _ => ?_)
    · refine k_iload dX10_canonical_150 rfl ?_
      refine k_iload dX10_canonical_152 rfl ?_
      refine k_iconst (v := (1 : Int32)) dX10_canonical_154 rfl ?_
      refine k_iadd dX10_canonical_155 ?_
      refine k_isub dX10_canonical_156 ?_
      refine k_istl (L2 := fun z7 => [some (.inr (10, some v0)), some (.inl v1), none, some (.inl v3), some (.inl z7), some (.inl v5), some (.inl s0), some (.inl z4)]) dX10_canonical_157 (by decide) (fun _ => rfl) (fun z7 => ?_)
      refine k_iloadn (j := 3) dX10_canonical_159 rfl rfl ?_
      refine k_aloadn (j := 0) dX10_canonical_160 rfl rfl ?_
      refine k_getr fg_10_38 rfl rfl dX10_canonical_161 (fun x8 => ?_)
      refine k_iloadn (j := 3) dX10_canonical_164 rfl rfl ?_
      rcases x8 with _ | a9
      · exact k_ocn
      refine k_ocs ?_
      refine k_iald dX10_canonical_165 ?_
      refine k_iadd dX10_canonical_166 ?_
      refine k_istnl (j := 3) (L2 := fun z10 => [some (.inr (10, some v0)), some (.inl v1), none, some (.inl z10), some (.inl z7), some (.inl v5), some (.inl s0), some (.inl z4)]) dX10_canonical_167 rfl (by decide) (fun _ => rfl) (fun z10 => ?_)
      refine k_goto (tgt := 73) dX10_canonical_168 (by decide) ?_
      refine k_msk (L' := [some (.inr (10, some v0)), some (.inl v1), none, some (.inl z10), some (.inl z7), some (.inl v5), none, none]) [true, true, true, true, true, true, false, false] rfl ?_
      exact h73 v0 v1 z10 z7 v5 g3
    refine k_bipush (v := (44 : Int32)) dX10_canonical_147 rfl ?_
    exact k_ireturn rfl dX10_canonical_149
  refine k_aloadn (j := 0) dX10_canonical_118 rfl rfl ?_
  refine k_iloadn (j := 1) dX10_canonical_119 rfl rfl ?_
  refine k_iloadn (j := 3) dX10_canonical_120 rfl rfl ?_
  refine k_iload dX10_canonical_121 rfl ?_
  refine k_callVi [.inl v1, .inl v3, .inl v4] (t10_signOf v0 v1 v3 v4 g3) cw_cX10_signOf (Or.inl ml_10_180) rfl rfl (by decide) (by decide) (Nat.le_of_ble_eq_true rfl) dX10_canonical_123 (fun z12 g11 => ?_)
  exact k_ireturn rfl dX10_canonical_126
def f10_canonical_b73 : Nat → Nat → Int32 → Int32 → Int32 → Int32 → GS_ → Option (Int32 × GS_)
  | 0, _, _, _, _, _, _ => none
  | n + 1, v0, v1, v3, v4, v5, g =>
    lr_ (gfr g 336 v0) fun x13 => oc_ x13 none fun a14 => if inb v3 (gln g 20 a14) then if (gai g 20 a14 v3.toInt.toNat) ≤ (1 : Int32) then f10_canonical_b93 (f10_canonical_b73 n) v0 v1 v3 v4 v5 (0 : Int32) g else bd_ (f10_stepAt v0 v1 v3 g) fun z16 g15 => f10_canonical_b93 (f10_canonical_b73 n) v0 v1 v3 v4 v5 z16 g15 else none
theorem t10_canonical_b73 : ∀ (n : Nat) (v0 : Nat) (v1 : Int32) (v3 : Int32) (v4 : Int32) (v5 : Int32) (g : GS_), K_ RX10 cX10_canonical 8 (some .int) 4 100 false EI_ 73 [some (.inr (10, some v0)), some (.inl v1), none, some (.inl v3), some (.inl v4), some (.inl v5), none, none] [] g (f10_canonical_b73 n v0 v1 v3 v4 v5 g) := by
  intro n
  induction n with
  | zero =>
    intro v0 v1 v3 v4 v5 g
    exact k_fail
  | succ n ih =>
    intro v0 v1 v3 v4 v5 g
    show K_ RX10 cX10_canonical 8 (some .int) 4 100 false EI_ 73 [some (.inr (10, some v0)), some (.inl v1), none, some (.inl v3), some (.inl v4), some (.inl v5), none, none] [] g (lr_ (gfr g 336 v0) fun x13 => oc_ x13 none fun a14 => if inb v3 (gln g 20 a14) then if (gai g 20 a14 v3.toInt.toNat) ≤ (1 : Int32) then f10_canonical_b93 (f10_canonical_b73 n) v0 v1 v3 v4 v5 (0 : Int32) g else bd_ (f10_stepAt v0 v1 v3 g) fun z16 g15 => f10_canonical_b93 (f10_canonical_b73 n) v0 v1 v3 v4 v5 z16 g15 else none)
    refine k_aloadn (j := 0) dX10_canonical_73 rfl rfl ?_
    refine k_getr fg_10_38 rfl rfl dX10_canonical_74 (fun x13 => ?_)
    refine k_iloadn (j := 3) dX10_canonical_77 rfl rfl ?_
    rcases x13 with _ | a14
    · exact k_ocn
    refine k_ocs ?_
    refine k_iald dX10_canonical_78 ?_
    refine k_iconst (v := (1 : Int32)) dX10_canonical_79 rfl ?_
    refine k_icmple (tgt := 92) dX10_canonical_80 (by decide) (fun _ => ?_) (fun _ => ?_)
    · refine k_iconst (v := (0 : Int32)) dX10_canonical_92 rfl ?_
      exact t10_canonical_b93 (f10_canonical_b73 n) ih v0 v1 v3 v4 v5 (0 : Int32) g
    refine k_aloadn (j := 0) dX10_canonical_83 rfl rfl ?_
    refine k_iloadn (j := 1) dX10_canonical_84 rfl rfl ?_
    refine k_iloadn (j := 3) dX10_canonical_85 rfl rfl ?_
    refine k_callVi [.inl v1, .inl v3] (t10_stepAt v0 v1 v3 g) cw_cX10_stepAt (Or.inl ml_10_171) rfl rfl (by decide) (by decide) (Nat.le_of_ble_eq_true rfl) dX10_canonical_86 (fun z16 g15 => ?_)
    refine k_goto (tgt := 93) dX10_canonical_89 (by decide) ?_
    exact t10_canonical_b93 (f10_canonical_b73 n) ih v0 v1 v3 v4 v5 z16 g15
def f10_canonical (v0 : Nat) (v1 : Int32) (v2 : Int32) (g : GS_) : Option (Int32 × GS_) :=
  bd_ (f10_isJob v0 v1 g) fun z18 g17 => if z18 = 0 then some ((-1 : Int32), g17) else bd_ (f10_layText v0 v1 g17) fun _ g19 => if v2 = (-1 : Int32) then lr_ (gfr g19 334 v0) fun x20 => oc_ x20 none fun a21 => if inb (0 : Int32) (gln g19 20 a21) then some ((gai g19 20 a21 (0 : Int32).toInt.toNat), g19) else none else if v2 = (-2 : Int32) then lr_ (gfr g19 335 v0) fun x22 => oc_ x22 none fun a23 => if inb (0 : Int32) (gln g19 20 a23) then some ((gai g19 20 a23 (0 : Int32).toInt.toNat), g19) else none else lr_ (gfr g19 334 v0) fun x24 => oc_ x24 none fun a25 => if inb (0 : Int32) (gln g19 20 a25) then bd_ (f10_in v2 (0 : Int32) ((gai g19 20 a25 (0 : Int32).toInt.toNat) - (1 : Int32)) g19) fun z27 g26 => if z27 = 0 then some ((-6 : Int32), g26) else bd_ (f10_ofJob v0 v1 (7 : Int32) g26) fun z29 g28 => f10_canonical_b73 FU_ v0 v1 (0 : Int32) v2 z29 g28 else none
theorem t10_canonical (v0 : Nat) (v1 : Int32) (v2 : Int32) (g : GS_) : Cn_ yX10_canonical cX10_canonical 8 (some .int) 4 100 EI_ [.inr (10, some v0), .inl v1, .inl v2] g (f10_canonical v0 v1 v2 g) := by
  refine k_method (own := RX10) (ini := false) (L1 := [some (.inr (10, some v0)), some (.inl v1), some (.inl v2), none, none, none, none, none]) (by decide +kernel) rfl (fun h => by cases h) (Nat.le_of_ble_eq_true rfl) rfl ?_
  unfold f10_canonical
  refine k_aloadn (j := 0) dX10_canonical_0 rfl rfl ?_
  refine k_iloadn (j := 1) dX10_canonical_1 rfl rfl ?_
  refine k_callVi [.inl v1] (t10_isJob v0 v1 g) cw_cX10_isJob (Or.inl ml_10_149) rfl rfl (by decide) (by decide) (Nat.le_of_ble_eq_true rfl) dX10_canonical_2 (fun z18 g17 => ?_)
  refine k_ifne (tgt := 10) dX10_canonical_5 (by decide) (fun _ => ?_) (fun _ => ?_)
  · refine k_iconst (v := (-1 : Int32)) dX10_canonical_8 rfl ?_
    exact k_ireturn rfl dX10_canonical_9
  refine k_aloadn (j := 0) dX10_canonical_10 rfl rfl ?_
  refine k_iloadn (j := 1) dX10_canonical_11 rfl rfl ?_
  refine k_callVv [.inl v1] (t10_layText v0 v1 g17) cw_cX10_layText (Or.inl ml_10_177) rfl rfl (by decide) (by decide) (Nat.le_of_ble_eq_true rfl) dX10_canonical_12 (fun _ g19 => ?_)
  refine k_iloadn (j := 2) dX10_canonical_15 rfl rfl ?_
  refine k_iconst (v := (-1 : Int32)) dX10_canonical_16 rfl ?_
  refine k_icmpne (tgt := 27) dX10_canonical_17 (by decide) (fun _ => ?_) (fun _ => ?_)
  · refine k_aloadn (j := 0) dX10_canonical_20 rfl rfl ?_
    refine k_getr fg_10_32 rfl rfl dX10_canonical_21 (fun x20 => ?_)
    refine k_iconst (v := (0 : Int32)) dX10_canonical_24 rfl ?_
    rcases x20 with _ | a21
    · exact k_ocn
    refine k_ocs ?_
    refine k_iald dX10_canonical_25 ?_
    exact k_ireturn rfl dX10_canonical_26
  refine k_iloadn (j := 2) dX10_canonical_27 rfl rfl ?_
  refine k_bipush (v := (-2 : Int32)) dX10_canonical_28 rfl ?_
  refine k_icmpne (tgt := 40) dX10_canonical_30 (by decide) (fun _ => ?_) (fun _ => ?_)
  · refine k_aloadn (j := 0) dX10_canonical_33 rfl rfl ?_
    refine k_getr fg_10_35 rfl rfl dX10_canonical_34 (fun x22 => ?_)
    refine k_iconst (v := (0 : Int32)) dX10_canonical_37 rfl ?_
    rcases x22 with _ | a23
    · exact k_ocn
    refine k_ocs ?_
    refine k_iald dX10_canonical_38 ?_
    exact k_ireturn rfl dX10_canonical_39
  refine k_iloadn (j := 2) dX10_canonical_40 rfl rfl ?_
  refine k_iconst (v := (0 : Int32)) dX10_canonical_41 rfl ?_
  refine k_aloadn (j := 0) dX10_canonical_42 rfl rfl ?_
  refine k_getr fg_10_32 rfl rfl dX10_canonical_43 (fun x24 => ?_)
  refine k_iconst (v := (0 : Int32)) dX10_canonical_46 rfl ?_
  rcases x24 with _ | a25
  · exact k_ocn
  refine k_ocs ?_
  refine k_iald dX10_canonical_47 ?_
  refine k_iconst (v := (1 : Int32)) dX10_canonical_48 rfl ?_
  refine k_isub dX10_canonical_49 ?_
  refine k_callSi [.inl v2, .inl (0 : Int32), .inl ((gai g19 20 a25 (0 : Int32).toInt.toNat) - (1 : Int32))] (t10_in v2 (0 : Int32) ((gai g19 20 a25 (0 : Int32).toInt.toNat) - (1 : Int32)) g19) cw_cX10_in ml_10_44 rfl rfl (by decide) (by decide) (Nat.le_of_ble_eq_true rfl) dX10_canonical_50 (fun z27 g26 => ?_)
  refine k_ifne (tgt := 59) dX10_canonical_53 (by decide) (fun _ => ?_) (fun _ => ?_)
  · refine k_bipush (v := (-6 : Int32)) dX10_canonical_56 rfl ?_
    exact k_ireturn rfl dX10_canonical_58
  refine k_iconst (v := (0 : Int32)) dX10_canonical_59 rfl ?_
  refine k_istn (j := 3) (L' := [some (.inr (10, some v0)), some (.inl v1), some (.inl v2), some (.inl (0 : Int32)), none, none, none, none]) dX10_canonical_60 rfl (by decide) rfl ?_
  refine k_iloadn (j := 2) dX10_canonical_61 rfl rfl ?_
  refine k_ist (L' := [some (.inr (10, some v0)), some (.inl v1), some (.inl v2), some (.inl (0 : Int32)), some (.inl v2), none, none, none]) dX10_canonical_62 (by decide) rfl ?_
  refine k_aloadn (j := 0) dX10_canonical_64 rfl rfl ?_
  refine k_iloadn (j := 1) dX10_canonical_65 rfl rfl ?_
  refine k_bipush (v := (7 : Int32)) dX10_canonical_66 rfl ?_
  refine k_callVi [.inl v1, .inl (7 : Int32)] (t10_ofJob v0 v1 (7 : Int32) g26) cw_cX10_ofJob (Or.inl ml_10_133) rfl rfl (by decide) (by decide) (Nat.le_of_ble_eq_true rfl) dX10_canonical_68 (fun z29 g28 => ?_)
  refine k_ist (L' := [some (.inr (10, some v0)), some (.inl v1), some (.inl v2), some (.inl (0 : Int32)), some (.inl v2), some (.inl z29), none, none]) dX10_canonical_71 (by decide) rfl ?_
  refine k_msk (L' := [some (.inr (10, some v0)), some (.inl v1), none, some (.inl (0 : Int32)), some (.inl v2), some (.inl z29), none, none]) [true, true, false, true, true, true, true, true] rfl ?_
  exact t10_canonical_b73 FU_ v0 v1 (0 : Int32) v2 z29 g28
theorem dX10_addPrinter_0 : decode cX10_addPrinter 0 = .ok (.iload_n 1, 1) := by decide +kernel
theorem dX10_addPrinter_1 : decode cX10_addPrinter 1 = .ok (.iconst 1, 1) := by decide +kernel
theorem dX10_addPrinter_2 : decode cX10_addPrinter 2 = .ok (.bipush 50, 2) := by decide +kernel
theorem dX10_addPrinter_4 : decode cX10_addPrinter 4 = .ok (.invokestatic 44, 3) := by decide +kernel
theorem dX10_addPrinter_7 : decode cX10_addPrinter 7 = .ok (.ifCond .eq 23, 3) := by decide +kernel
theorem dX10_addPrinter_10 : decode cX10_addPrinter 10 = .ok (.iload_n 2, 1) := by decide +kernel
theorem dX10_addPrinter_11 : decode cX10_addPrinter 11 = .ok (.iconst 1, 1) := by decide +kernel
theorem dX10_addPrinter_12 : decode cX10_addPrinter 12 = .ok (.sipush 2000, 3) := by decide +kernel
theorem dX10_addPrinter_15 : decode cX10_addPrinter 15 = .ok (.invokestatic 44, 3) := by decide +kernel
theorem dX10_addPrinter_18 : decode cX10_addPrinter 18 = .ok (.ifCond .eq 12, 3) := by decide +kernel
theorem dX10_addPrinter_21 : decode cX10_addPrinter 21 = .ok (.iload_n 3, 1) := by decide +kernel
theorem dX10_addPrinter_22 : decode cX10_addPrinter 22 = .ok (.iconst 0, 1) := by decide +kernel
theorem dX10_addPrinter_23 : decode cX10_addPrinter 23 = .ok (.iconst 1, 1) := by decide +kernel
theorem dX10_addPrinter_24 : decode cX10_addPrinter 24 = .ok (.invokestatic 44, 3) := by decide +kernel
theorem dX10_addPrinter_27 : decode cX10_addPrinter 27 = .ok (.ifCond .ne 6, 3) := by decide +kernel
theorem dX10_addPrinter_30 : decode cX10_addPrinter 30 = .ok (.bipush (-2), 2) := by decide +kernel
theorem dX10_addPrinter_32 : decode cX10_addPrinter 32 = .ok (.ireturn, 1) := by decide +kernel
theorem dX10_addPrinter_33 : decode cX10_addPrinter 33 = .ok (.aload_n 0, 1) := by decide +kernel
theorem dX10_addPrinter_34 : decode cX10_addPrinter 34 = .ok (.getfield 7, 3) := by decide +kernel
theorem dX10_addPrinter_37 : decode cX10_addPrinter 37 = .ok (.iconst 5, 1) := by decide +kernel
theorem dX10_addPrinter_38 : decode cX10_addPrinter 38 = .ok (.iaload, 1) := by decide +kernel
theorem dX10_addPrinter_39 : decode cX10_addPrinter 39 = .ok (.iconst 3, 1) := by decide +kernel
theorem dX10_addPrinter_40 : decode cX10_addPrinter 40 = .ok (.if_icmp .ne 6, 3) := by decide +kernel
theorem dX10_addPrinter_43 : decode cX10_addPrinter 43 = .ok (.bipush (-4), 2) := by decide +kernel
theorem dX10_addPrinter_45 : decode cX10_addPrinter 45 = .ok (.ireturn, 1) := by decide +kernel
theorem dX10_addPrinter_46 : decode cX10_addPrinter 46 = .ok (.aload_n 0, 1) := by decide +kernel
theorem dX10_addPrinter_47 : decode cX10_addPrinter 47 = .ok (.getfield 7, 3) := by decide +kernel
theorem dX10_addPrinter_50 : decode cX10_addPrinter 50 = .ok (.iconst 5, 1) := by decide +kernel
theorem dX10_addPrinter_51 : decode cX10_addPrinter 51 = .ok (.iaload, 1) := by decide +kernel
theorem dX10_addPrinter_52 : decode cX10_addPrinter 52 = .ok (.istore 4, 2) := by decide +kernel
theorem dX10_addPrinter_54 : decode cX10_addPrinter 54 = .ok (.aload_n 0, 1) := by decide +kernel
theorem dX10_addPrinter_55 : decode cX10_addPrinter 55 = .ok (.getfield 7, 3) := by decide +kernel
theorem dX10_addPrinter_58 : decode cX10_addPrinter 58 = .ok (.iconst 5, 1) := by decide +kernel
theorem dX10_addPrinter_59 : decode cX10_addPrinter 59 = .ok (.dup2, 1) := by decide +kernel
theorem dX10_addPrinter_60 : decode cX10_addPrinter 60 = .ok (.iaload, 1) := by decide +kernel
theorem dX10_addPrinter_61 : decode cX10_addPrinter 61 = .ok (.iconst 1, 1) := by decide +kernel
theorem dX10_addPrinter_62 : decode cX10_addPrinter 62 = .ok (.iadd, 1) := by decide +kernel
theorem dX10_addPrinter_63 : decode cX10_addPrinter 63 = .ok (.iastore, 1) := by decide +kernel
theorem dX10_addPrinter_64 : decode cX10_addPrinter 64 = .ok (.aload_n 0, 1) := by decide +kernel
theorem dX10_addPrinter_65 : decode cX10_addPrinter 65 = .ok (.iload 4, 2) := by decide +kernel
theorem dX10_addPrinter_67 : decode cX10_addPrinter 67 = .ok (.iconst 0, 1) := by decide +kernel
theorem dX10_addPrinter_68 : decode cX10_addPrinter 68 = .ok (.iload_n 1, 1) := by decide +kernel
theorem dX10_addPrinter_69 : decode cX10_addPrinter 69 = .ok (.invokevirtual 184, 3) := by decide +kernel
theorem dX10_addPrinter_72 : decode cX10_addPrinter 72 = .ok (.aload_n 0, 1) := by decide +kernel
theorem dX10_addPrinter_73 : decode cX10_addPrinter 73 = .ok (.iload 4, 2) := by decide +kernel
theorem dX10_addPrinter_75 : decode cX10_addPrinter 75 = .ok (.iconst 1, 1) := by decide +kernel
theorem dX10_addPrinter_76 : decode cX10_addPrinter 76 = .ok (.iload_n 2, 1) := by decide +kernel
theorem dX10_addPrinter_77 : decode cX10_addPrinter 77 = .ok (.invokevirtual 184, 3) := by decide +kernel
theorem dX10_addPrinter_80 : decode cX10_addPrinter 80 = .ok (.aload_n 0, 1) := by decide +kernel
theorem dX10_addPrinter_81 : decode cX10_addPrinter 81 = .ok (.iload 4, 2) := by decide +kernel
theorem dX10_addPrinter_83 : decode cX10_addPrinter 83 = .ok (.iconst 2, 1) := by decide +kernel
theorem dX10_addPrinter_84 : decode cX10_addPrinter 84 = .ok (.iload_n 3, 1) := by decide +kernel
theorem dX10_addPrinter_85 : decode cX10_addPrinter 85 = .ok (.invokevirtual 184, 3) := by decide +kernel
theorem dX10_addPrinter_88 : decode cX10_addPrinter 88 = .ok (.iconst 3, 1) := by decide +kernel
theorem dX10_addPrinter_89 : decode cX10_addPrinter 89 = .ok (.istore 5, 2) := by decide +kernel
theorem dX10_addPrinter_91 : decode cX10_addPrinter 91 = .ok (.iload 5, 2) := by decide +kernel
theorem dX10_addPrinter_93 : decode cX10_addPrinter 93 = .ok (.bipush 9, 2) := by decide +kernel
theorem dX10_addPrinter_95 : decode cX10_addPrinter 95 = .ok (.if_icmp .gt 18, 3) := by decide +kernel
theorem dX10_addPrinter_98 : decode cX10_addPrinter 98 = .ok (.aload_n 0, 1) := by decide +kernel
theorem dX10_addPrinter_99 : decode cX10_addPrinter 99 = .ok (.iload 4, 2) := by decide +kernel
theorem dX10_addPrinter_101 : decode cX10_addPrinter 101 = .ok (.iload 5, 2) := by decide +kernel
theorem dX10_addPrinter_103 : decode cX10_addPrinter 103 = .ok (.iconst 0, 1) := by decide +kernel
theorem dX10_addPrinter_104 : decode cX10_addPrinter 104 = .ok (.invokevirtual 184, 3) := by decide +kernel
theorem dX10_addPrinter_107 : decode cX10_addPrinter 107 = .ok (.iinc 5 1, 3) := by decide +kernel
theorem dX10_addPrinter_110 : decode cX10_addPrinter 110 = .ok (.goto (-19), 3) := by decide +kernel
theorem dX10_addPrinter_113 : decode cX10_addPrinter 113 = .ok (.iload 4, 2) := by decide +kernel
theorem dX10_addPrinter_115 : decode cX10_addPrinter 115 = .ok (.ireturn, 1) := by decide +kernel
def f10_addPrinter_b91 : Nat → Nat → Int32 → Int32 → GS_ → Option (Int32 × GS_)
  | 0, _, _, _, _ => none
  | n + 1, v0, v4, v5, g =>
    if (9 : Int32) < v5 then some (v4, g) else bd_ (f10_setPrinter v0 v4 v5 (0 : Int32) g) fun _ g1 => (f10_addPrinter_b91 n) v0 v4 (v5 + (1 : Int32)) g1
theorem t10_addPrinter_b91 : ∀ (n : Nat) (v0 : Nat) (v4 : Int32) (v5 : Int32) (g : GS_), K_ RX10 cX10_addPrinter 6 (some .int) 1 23 false EI_ 91 [some (.inr (10, some v0)), none, none, none, some (.inl v4), some (.inl v5)] [] g (f10_addPrinter_b91 n v0 v4 v5 g) := by
  intro n
  induction n with
  | zero =>
    intro v0 v4 v5 g
    exact k_fail
  | succ n ih =>
    intro v0 v4 v5 g
    show K_ RX10 cX10_addPrinter 6 (some .int) 1 23 false EI_ 91 [some (.inr (10, some v0)), none, none, none, some (.inl v4), some (.inl v5)] [] g (if (9 : Int32) < v5 then some (v4, g) else bd_ (f10_setPrinter v0 v4 v5 (0 : Int32) g) fun _ g1 => (f10_addPrinter_b91 n) v0 v4 (v5 + (1 : Int32)) g1)
    refine k_iload dX10_addPrinter_91 rfl ?_
    refine k_bipush (v := (9 : Int32)) dX10_addPrinter_93 rfl ?_
    refine k_icmpgt (tgt := 113) dX10_addPrinter_95 (by decide) (fun _ => ?_) (fun _ => ?_)
    · refine k_iload dX10_addPrinter_113 rfl ?_
      exact k_ireturn rfl dX10_addPrinter_115
    refine k_aloadn (j := 0) dX10_addPrinter_98 rfl rfl ?_
    refine k_iload dX10_addPrinter_99 rfl ?_
    refine k_iload dX10_addPrinter_101 rfl ?_
    refine k_iconst (v := (0 : Int32)) dX10_addPrinter_103 rfl ?_
    refine k_callVv [.inl v4, .inl v5, .inl (0 : Int32)] (t10_setPrinter v0 v4 v5 (0 : Int32) g) cw_cX10_setPrinter (Or.inl ml_10_184) rfl rfl (by decide) (by decide) (Nat.le_of_ble_eq_true rfl) dX10_addPrinter_104 (fun _ g1 => ?_)
    refine k_iinc (v := (v5 + (1 : Int32))) (L' := [some (.inr (10, some v0)), none, none, none, some (.inl v4), some (.inl (v5 + (1 : Int32)))]) dX10_addPrinter_107 rfl rfl (by decide) rfl ?_
    refine k_goto (tgt := 91) dX10_addPrinter_110 (by decide) ?_
    exact ih v0 v4 (v5 + (1 : Int32)) g1
def f10_addPrinter (v0 : Nat) (v1 : Int32) (v2 : Int32) (v3 : Int32) (g : GS_) : Option (Int32 × GS_) :=
  bd_ (f10_in v1 (1 : Int32) (50 : Int32) g) fun z3 g2 => if z3 = 0 then some ((-2 : Int32), g2) else bd_ (f10_in v2 (1 : Int32) (2000 : Int32) g2) fun z5 g4 => if z5 = 0 then some ((-2 : Int32), g4) else bd_ (f10_in v3 (0 : Int32) (1 : Int32) g4) fun z7 g6 => if z7 = 0 then some ((-2 : Int32), g6) else lr_ (gfr g6 320 v0) fun x8 => oc_ x8 none fun a9 => if inb (5 : Int32) (gln g6 20 a9) then if (gai g6 20 a9 (5 : Int32).toInt.toNat) = (3 : Int32) then some ((-4 : Int32), g6) else lr_ (gfr g6 320 v0) fun x10 => oc_ x10 none fun a11 => if inb (5 : Int32) (gln g6 20 a11) then lr_ (gai g6 20 a11 (5 : Int32).toInt.toNat) fun z12 => lr_ (gfr g6 320 v0) fun x13 => oc_ x13 none fun a14 => if inb (5 : Int32) (gln g6 20 a14) then if inb (5 : Int32) (gln g6 20 a14) then lr_ (sai g6 20 a14 (5 : Int32).toInt.toNat ((gai g6 20 a14 (5 : Int32).toInt.toNat) + (1 : Int32))) (fun g15 => bd_ (f10_setPrinter v0 z12 (0 : Int32) v1 g15) fun _ g16 => bd_ (f10_setPrinter v0 z12 (1 : Int32) v2 g16) fun _ g17 => bd_ (f10_setPrinter v0 z12 (2 : Int32) v3 g17) fun _ g18 => f10_addPrinter_b91 FU_ v0 z12 (3 : Int32) g18) else none else none else none else none
theorem t10_addPrinter (v0 : Nat) (v1 : Int32) (v2 : Int32) (v3 : Int32) (g : GS_) : Cn_ yX10_addPrinter cX10_addPrinter 6 (some .int) 1 23 EI_ [.inr (10, some v0), .inl v1, .inl v2, .inl v3] g (f10_addPrinter v0 v1 v2 v3 g) := by
  refine k_method (own := RX10) (ini := false) (L1 := [some (.inr (10, some v0)), some (.inl v1), some (.inl v2), some (.inl v3), none, none]) (by decide +kernel) rfl (fun h => by cases h) (Nat.le_of_ble_eq_true rfl) rfl ?_
  unfold f10_addPrinter
  refine k_iloadn (j := 1) dX10_addPrinter_0 rfl rfl ?_
  refine k_iconst (v := (1 : Int32)) dX10_addPrinter_1 rfl ?_
  refine k_bipush (v := (50 : Int32)) dX10_addPrinter_2 rfl ?_
  refine k_callSi [.inl v1, .inl (1 : Int32), .inl (50 : Int32)] (t10_in v1 (1 : Int32) (50 : Int32) g) cw_cX10_in ml_10_44 rfl rfl (by decide) (by decide) (Nat.le_of_ble_eq_true rfl) dX10_addPrinter_4 (fun z3 g2 => ?_)
  refine k_ifeq (tgt := 30) dX10_addPrinter_7 (by decide) (fun _ => ?_) (fun _ => ?_)
  · refine k_bipush (v := (-2 : Int32)) dX10_addPrinter_30 rfl ?_
    exact k_ireturn rfl dX10_addPrinter_32
  refine k_iloadn (j := 2) dX10_addPrinter_10 rfl rfl ?_
  refine k_iconst (v := (1 : Int32)) dX10_addPrinter_11 rfl ?_
  refine k_sipush (v := (2000 : Int32)) dX10_addPrinter_12 rfl ?_
  refine k_callSi [.inl v2, .inl (1 : Int32), .inl (2000 : Int32)] (t10_in v2 (1 : Int32) (2000 : Int32) g2) cw_cX10_in ml_10_44 rfl rfl (by decide) (by decide) (Nat.le_of_ble_eq_true rfl) dX10_addPrinter_15 (fun z5 g4 => ?_)
  refine k_ifeq (tgt := 30) dX10_addPrinter_18 (by decide) (fun _ => ?_) (fun _ => ?_)
  · refine k_bipush (v := (-2 : Int32)) dX10_addPrinter_30 rfl ?_
    exact k_ireturn rfl dX10_addPrinter_32
  refine k_iloadn (j := 3) dX10_addPrinter_21 rfl rfl ?_
  refine k_iconst (v := (0 : Int32)) dX10_addPrinter_22 rfl ?_
  refine k_iconst (v := (1 : Int32)) dX10_addPrinter_23 rfl ?_
  refine k_callSi [.inl v3, .inl (0 : Int32), .inl (1 : Int32)] (t10_in v3 (0 : Int32) (1 : Int32) g4) cw_cX10_in ml_10_44 rfl rfl (by decide) (by decide) (Nat.le_of_ble_eq_true rfl) dX10_addPrinter_24 (fun z7 g6 => ?_)
  refine k_ifne (tgt := 33) dX10_addPrinter_27 (by decide) (fun _ => ?_) (fun _ => ?_)
  · refine k_bipush (v := (-2 : Int32)) dX10_addPrinter_30 rfl ?_
    exact k_ireturn rfl dX10_addPrinter_32
  refine k_aloadn (j := 0) dX10_addPrinter_33 rfl rfl ?_
  refine k_getr fg_10_7 rfl rfl dX10_addPrinter_34 (fun x8 => ?_)
  refine k_iconst (v := (5 : Int32)) dX10_addPrinter_37 rfl ?_
  rcases x8 with _ | a9
  · exact k_ocn
  refine k_ocs ?_
  refine k_iald dX10_addPrinter_38 ?_
  refine k_iconst (v := (3 : Int32)) dX10_addPrinter_39 rfl ?_
  refine k_icmpne (tgt := 46) dX10_addPrinter_40 (by decide) (fun _ => ?_) (fun _ => ?_)
  · refine k_bipush (v := (-4 : Int32)) dX10_addPrinter_43 rfl ?_
    exact k_ireturn rfl dX10_addPrinter_45
  refine k_aloadn (j := 0) dX10_addPrinter_46 rfl rfl ?_
  refine k_getr fg_10_7 rfl rfl dX10_addPrinter_47 (fun x10 => ?_)
  refine k_iconst (v := (5 : Int32)) dX10_addPrinter_50 rfl ?_
  rcases x10 with _ | a11
  · exact k_ocn
  refine k_ocs ?_
  refine k_iald dX10_addPrinter_51 ?_
  refine k_istl (L2 := fun z12 => [some (.inr (10, some v0)), some (.inl v1), some (.inl v2), some (.inl v3), some (.inl z12), none]) dX10_addPrinter_52 (by decide) (fun _ => rfl) (fun z12 => ?_)
  refine k_aloadn (j := 0) dX10_addPrinter_54 rfl rfl ?_
  refine k_getr fg_10_7 rfl rfl dX10_addPrinter_55 (fun x13 => ?_)
  refine k_iconst (v := (5 : Int32)) dX10_addPrinter_58 rfl ?_
  refine k_dup2 dX10_addPrinter_59 ?_
  rcases x13 with _ | a14
  · exact k_ocn
  refine k_ocs ?_
  refine k_iald dX10_addPrinter_60 ?_
  refine k_iconst (v := (1 : Int32)) dX10_addPrinter_61 rfl ?_
  refine k_iadd dX10_addPrinter_62 ?_
  refine k_iast dX10_addPrinter_63 (fun g15 => ?_)
  refine k_aloadn (j := 0) dX10_addPrinter_64 rfl rfl ?_
  refine k_iload dX10_addPrinter_65 rfl ?_
  refine k_iconst (v := (0 : Int32)) dX10_addPrinter_67 rfl ?_
  refine k_iloadn (j := 1) dX10_addPrinter_68 rfl rfl ?_
  refine k_callVv [.inl z12, .inl (0 : Int32), .inl v1] (t10_setPrinter v0 z12 (0 : Int32) v1 g15) cw_cX10_setPrinter (Or.inl ml_10_184) rfl rfl (by decide) (by decide) (Nat.le_of_ble_eq_true rfl) dX10_addPrinter_69 (fun _ g16 => ?_)
  refine k_aloadn (j := 0) dX10_addPrinter_72 rfl rfl ?_
  refine k_iload dX10_addPrinter_73 rfl ?_
  refine k_iconst (v := (1 : Int32)) dX10_addPrinter_75 rfl ?_
  refine k_iloadn (j := 2) dX10_addPrinter_76 rfl rfl ?_
  refine k_callVv [.inl z12, .inl (1 : Int32), .inl v2] (t10_setPrinter v0 z12 (1 : Int32) v2 g16) cw_cX10_setPrinter (Or.inl ml_10_184) rfl rfl (by decide) (by decide) (Nat.le_of_ble_eq_true rfl) dX10_addPrinter_77 (fun _ g17 => ?_)
  refine k_aloadn (j := 0) dX10_addPrinter_80 rfl rfl ?_
  refine k_iload dX10_addPrinter_81 rfl ?_
  refine k_iconst (v := (2 : Int32)) dX10_addPrinter_83 rfl ?_
  refine k_iloadn (j := 3) dX10_addPrinter_84 rfl rfl ?_
  refine k_callVv [.inl z12, .inl (2 : Int32), .inl v3] (t10_setPrinter v0 z12 (2 : Int32) v3 g17) cw_cX10_setPrinter (Or.inl ml_10_184) rfl rfl (by decide) (by decide) (Nat.le_of_ble_eq_true rfl) dX10_addPrinter_85 (fun _ g18 => ?_)
  refine k_iconst (v := (3 : Int32)) dX10_addPrinter_88 rfl ?_
  refine k_ist (L' := [some (.inr (10, some v0)), some (.inl v1), some (.inl v2), some (.inl v3), some (.inl z12), some (.inl (3 : Int32))]) dX10_addPrinter_89 (by decide) rfl ?_
  refine k_msk (L' := [some (.inr (10, some v0)), none, none, none, some (.inl z12), some (.inl (3 : Int32))]) [true, false, false, false, true, true] rfl ?_
  exact t10_addPrinter_b91 FU_ v0 z12 (3 : Int32) g18
theorem dX10_isPrinter_0 : decode cX10_isPrinter 0 = .ok (.iload_n 1, 1) := by decide +kernel
theorem dX10_isPrinter_1 : decode cX10_isPrinter 1 = .ok (.iconst 0, 1) := by decide +kernel
theorem dX10_isPrinter_2 : decode cX10_isPrinter 2 = .ok (.aload_n 0, 1) := by decide +kernel
theorem dX10_isPrinter_3 : decode cX10_isPrinter 3 = .ok (.getfield 7, 3) := by decide +kernel
theorem dX10_isPrinter_6 : decode cX10_isPrinter 6 = .ok (.iconst 5, 1) := by decide +kernel
theorem dX10_isPrinter_7 : decode cX10_isPrinter 7 = .ok (.iaload, 1) := by decide +kernel
theorem dX10_isPrinter_8 : decode cX10_isPrinter 8 = .ok (.iconst 1, 1) := by decide +kernel
theorem dX10_isPrinter_9 : decode cX10_isPrinter 9 = .ok (.isub, 1) := by decide +kernel
theorem dX10_isPrinter_10 : decode cX10_isPrinter 10 = .ok (.invokestatic 44, 3) := by decide +kernel
theorem dX10_isPrinter_13 : decode cX10_isPrinter 13 = .ok (.ireturn, 1) := by decide +kernel
def f10_isPrinter (v0 : Nat) (v1 : Int32) (g : GS_) : Option (Int32 × GS_) :=
  lr_ (gfr g 320 v0) fun x1 => oc_ x1 none fun a2 => if inb (5 : Int32) (gln g 20 a2) then bd_ (f10_in v1 (0 : Int32) ((gai g 20 a2 (5 : Int32).toInt.toNat) - (1 : Int32)) g) fun z4 g3 => if z4 = 0 ∨ z4 = 1 then some (z4, g3) else none else none
theorem t10_isPrinter (v0 : Nat) (v1 : Int32) (g : GS_) : Cn_ yX10_isPrinter cX10_isPrinter 2 (some .boolean) 1 22 EI_ [.inr (10, some v0), .inl v1] g (f10_isPrinter v0 v1 g) := by
  refine k_method (own := RX10) (ini := false) (L1 := [some (.inr (10, some v0)), some (.inl v1)]) (by decide +kernel) rfl (fun h => by cases h) (Nat.le_of_ble_eq_true rfl) rfl ?_
  unfold f10_isPrinter
  refine k_iloadn (j := 1) dX10_isPrinter_0 rfl rfl ?_
  refine k_iconst (v := (0 : Int32)) dX10_isPrinter_1 rfl ?_
  refine k_aloadn (j := 0) dX10_isPrinter_2 rfl rfl ?_
  refine k_getr fg_10_7 rfl rfl dX10_isPrinter_3 (fun x1 => ?_)
  refine k_iconst (v := (5 : Int32)) dX10_isPrinter_6 rfl ?_
  rcases x1 with _ | a2
  · exact k_ocn
  refine k_ocs ?_
  refine k_iald dX10_isPrinter_7 ?_
  refine k_iconst (v := (1 : Int32)) dX10_isPrinter_8 rfl ?_
  refine k_isub dX10_isPrinter_9 ?_
  refine k_callSi [.inl v1, .inl (0 : Int32), .inl ((gai g 20 a2 (5 : Int32).toInt.toNat) - (1 : Int32))] (t10_in v1 (0 : Int32) ((gai g 20 a2 (5 : Int32).toInt.toNat) - (1 : Int32)) g) cw_cX10_in ml_10_44 rfl rfl (by decide) (by decide) (Nat.le_of_ble_eq_true rfl) dX10_isPrinter_10 (fun z4 g3 => ?_)
  exact k_zreturnc rfl dX10_isPrinter_13
theorem dX10_fill_0 : decode cX10_fill 0 = .ok (.aload_n 0, 1) := by decide +kernel
theorem dX10_fill_1 : decode cX10_fill 1 = .ok (.iload_n 1, 1) := by decide +kernel
theorem dX10_fill_2 : decode cX10_fill 2 = .ok (.invokevirtual 187, 3) := by decide +kernel
theorem dX10_fill_5 : decode cX10_fill 5 = .ok (.ifCond .ne 5, 3) := by decide +kernel
theorem dX10_fill_8 : decode cX10_fill 8 = .ok (.iconst (-1), 1) := by decide +kernel
theorem dX10_fill_9 : decode cX10_fill 9 = .ok (.ireturn, 1) := by decide +kernel
theorem dX10_fill_10 : decode cX10_fill 10 = .ok (.iload_n 2, 1) := by decide +kernel
theorem dX10_fill_11 : decode cX10_fill 11 = .ok (.iconst 0, 1) := by decide +kernel
theorem dX10_fill_12 : decode cX10_fill 12 = .ok (.iconst 2, 1) := by decide +kernel
theorem dX10_fill_13 : decode cX10_fill 13 = .ok (.invokestatic 44, 3) := by decide +kernel
theorem dX10_fill_16 : decode cX10_fill 16 = .ok (.ifCond .eq 16, 3) := by decide +kernel
theorem dX10_fill_19 : decode cX10_fill 19 = .ok (.iload_n 3, 1) := by decide +kernel
theorem dX10_fill_20 : decode cX10_fill 20 = .ok (.sipush (-500), 3) := by decide +kernel
theorem dX10_fill_23 : decode cX10_fill 23 = .ok (.sipush 500, 3) := by decide +kernel
theorem dX10_fill_26 : decode cX10_fill 26 = .ok (.invokestatic 44, 3) := by decide +kernel
theorem dX10_fill_29 : decode cX10_fill 29 = .ok (.ifCond .ne 6, 3) := by decide +kernel
theorem dX10_fill_32 : decode cX10_fill 32 = .ok (.bipush (-2), 2) := by decide +kernel
theorem dX10_fill_34 : decode cX10_fill 34 = .ok (.ireturn, 1) := by decide +kernel
theorem dX10_fill_35 : decode cX10_fill 35 = .ok (.aload_n 0, 1) := by decide +kernel
theorem dX10_fill_36 : decode cX10_fill 36 = .ok (.iload_n 1, 1) := by decide +kernel
theorem dX10_fill_37 : decode cX10_fill 37 = .ok (.iconst 3, 1) := by decide +kernel
theorem dX10_fill_38 : decode cX10_fill 38 = .ok (.iload_n 2, 1) := by decide +kernel
theorem dX10_fill_39 : decode cX10_fill 39 = .ok (.iadd, 1) := by decide +kernel
theorem dX10_fill_40 : decode cX10_fill 40 = .ok (.invokevirtual 190, 3) := by decide +kernel
theorem dX10_fill_43 : decode cX10_fill 43 = .ok (.iload_n 3, 1) := by decide +kernel
theorem dX10_fill_44 : decode cX10_fill 44 = .ok (.iadd, 1) := by decide +kernel
theorem dX10_fill_45 : decode cX10_fill 45 = .ok (.istore 4, 2) := by decide +kernel
theorem dX10_fill_47 : decode cX10_fill 47 = .ok (.iload 4, 2) := by decide +kernel
theorem dX10_fill_49 : decode cX10_fill 49 = .ok (.iconst 0, 1) := by decide +kernel
theorem dX10_fill_50 : decode cX10_fill 50 = .ok (.sipush 500, 3) := by decide +kernel
theorem dX10_fill_53 : decode cX10_fill 53 = .ok (.invokestatic 44, 3) := by decide +kernel
theorem dX10_fill_56 : decode cX10_fill 56 = .ok (.ifCond .ne 6, 3) := by decide +kernel
theorem dX10_fill_59 : decode cX10_fill 59 = .ok (.bipush (-5), 2) := by decide +kernel
theorem dX10_fill_61 : decode cX10_fill 61 = .ok (.ireturn, 1) := by decide +kernel
theorem dX10_fill_62 : decode cX10_fill 62 = .ok (.aload_n 0, 1) := by decide +kernel
theorem dX10_fill_63 : decode cX10_fill 63 = .ok (.iload_n 1, 1) := by decide +kernel
theorem dX10_fill_64 : decode cX10_fill 64 = .ok (.iconst 3, 1) := by decide +kernel
theorem dX10_fill_65 : decode cX10_fill 65 = .ok (.iload_n 2, 1) := by decide +kernel
theorem dX10_fill_66 : decode cX10_fill 66 = .ok (.iadd, 1) := by decide +kernel
theorem dX10_fill_67 : decode cX10_fill 67 = .ok (.iload 4, 2) := by decide +kernel
theorem dX10_fill_69 : decode cX10_fill 69 = .ok (.invokevirtual 184, 3) := by decide +kernel
theorem dX10_fill_72 : decode cX10_fill 72 = .ok (.iload 4, 2) := by decide +kernel
theorem dX10_fill_74 : decode cX10_fill 74 = .ok (.ireturn, 1) := by decide +kernel
def f10_fill (v0 : Nat) (v1 : Int32) (v2 : Int32) (v3 : Int32) (g : GS_) : Option (Int32 × GS_) :=
  bd_ (f10_isPrinter v0 v1 g) fun z2 g1 => if z2 = 0 then some ((-1 : Int32), g1) else bd_ (f10_in v2 (0 : Int32) (2 : Int32) g1) fun z4 g3 => if z4 = 0 then some ((-2 : Int32), g3) else bd_ (f10_in v3 (-500 : Int32) (500 : Int32) g3) fun z6 g5 => if z6 = 0 then some ((-2 : Int32), g5) else bd_ (f10_ofPrinter v0 v1 ((3 : Int32) + v2) g5) fun z8 g7 => lr_ (z8 + v3) fun z9 => bd_ (f10_in z9 (0 : Int32) (500 : Int32) g7) fun z11 g10 => if z11 = 0 then some ((-5 : Int32), g10) else bd_ (f10_setPrinter v0 v1 ((3 : Int32) + v2) z9 g10) fun _ g12 => some (z9, g12)
theorem t10_fill (v0 : Nat) (v1 : Int32) (v2 : Int32) (v3 : Int32) (g : GS_) : Cn_ yX10_fill cX10_fill 5 (some .int) 2 43 EI_ [.inr (10, some v0), .inl v1, .inl v2, .inl v3] g (f10_fill v0 v1 v2 v3 g) := by
  refine k_method (own := RX10) (ini := false) (L1 := [some (.inr (10, some v0)), some (.inl v1), some (.inl v2), some (.inl v3), none]) (by decide +kernel) rfl (fun h => by cases h) (Nat.le_of_ble_eq_true rfl) rfl ?_
  unfold f10_fill
  refine k_aloadn (j := 0) dX10_fill_0 rfl rfl ?_
  refine k_iloadn (j := 1) dX10_fill_1 rfl rfl ?_
  refine k_callVi [.inl v1] (t10_isPrinter v0 v1 g) cw_cX10_isPrinter (Or.inl ml_10_187) rfl rfl (by decide) (by decide) (Nat.le_of_ble_eq_true rfl) dX10_fill_2 (fun z2 g1 => ?_)
  refine k_ifne (tgt := 10) dX10_fill_5 (by decide) (fun _ => ?_) (fun _ => ?_)
  · refine k_iconst (v := (-1 : Int32)) dX10_fill_8 rfl ?_
    exact k_ireturn rfl dX10_fill_9
  refine k_iloadn (j := 2) dX10_fill_10 rfl rfl ?_
  refine k_iconst (v := (0 : Int32)) dX10_fill_11 rfl ?_
  refine k_iconst (v := (2 : Int32)) dX10_fill_12 rfl ?_
  refine k_callSi [.inl v2, .inl (0 : Int32), .inl (2 : Int32)] (t10_in v2 (0 : Int32) (2 : Int32) g1) cw_cX10_in ml_10_44 rfl rfl (by decide) (by decide) (Nat.le_of_ble_eq_true rfl) dX10_fill_13 (fun z4 g3 => ?_)
  refine k_ifeq (tgt := 32) dX10_fill_16 (by decide) (fun _ => ?_) (fun _ => ?_)
  · refine k_bipush (v := (-2 : Int32)) dX10_fill_32 rfl ?_
    exact k_ireturn rfl dX10_fill_34
  refine k_iloadn (j := 3) dX10_fill_19 rfl rfl ?_
  refine k_sipush (v := (-500 : Int32)) dX10_fill_20 rfl ?_
  refine k_sipush (v := (500 : Int32)) dX10_fill_23 rfl ?_
  refine k_callSi [.inl v3, .inl (-500 : Int32), .inl (500 : Int32)] (t10_in v3 (-500 : Int32) (500 : Int32) g3) cw_cX10_in ml_10_44 rfl rfl (by decide) (by decide) (Nat.le_of_ble_eq_true rfl) dX10_fill_26 (fun z6 g5 => ?_)
  refine k_ifne (tgt := 35) dX10_fill_29 (by decide) (fun _ => ?_) (fun _ => ?_)
  · refine k_bipush (v := (-2 : Int32)) dX10_fill_32 rfl ?_
    exact k_ireturn rfl dX10_fill_34
  refine k_aloadn (j := 0) dX10_fill_35 rfl rfl ?_
  refine k_iloadn (j := 1) dX10_fill_36 rfl rfl ?_
  refine k_iconst (v := (3 : Int32)) dX10_fill_37 rfl ?_
  refine k_iloadn (j := 2) dX10_fill_38 rfl rfl ?_
  refine k_iadd dX10_fill_39 ?_
  refine k_callVi [.inl v1, .inl ((3 : Int32) + v2)] (t10_ofPrinter v0 v1 ((3 : Int32) + v2) g5) cw_cX10_ofPrinter (Or.inl ml_10_190) rfl rfl (by decide) (by decide) (Nat.le_of_ble_eq_true rfl) dX10_fill_40 (fun z8 g7 => ?_)
  refine k_iloadn (j := 3) dX10_fill_43 rfl rfl ?_
  refine k_iadd dX10_fill_44 ?_
  refine k_istl (L2 := fun z9 => [some (.inr (10, some v0)), some (.inl v1), some (.inl v2), some (.inl v3), some (.inl z9)]) dX10_fill_45 (by decide) (fun _ => rfl) (fun z9 => ?_)
  refine k_iload dX10_fill_47 rfl ?_
  refine k_iconst (v := (0 : Int32)) dX10_fill_49 rfl ?_
  refine k_sipush (v := (500 : Int32)) dX10_fill_50 rfl ?_
  refine k_callSi [.inl z9, .inl (0 : Int32), .inl (500 : Int32)] (t10_in z9 (0 : Int32) (500 : Int32) g7) cw_cX10_in ml_10_44 rfl rfl (by decide) (by decide) (Nat.le_of_ble_eq_true rfl) dX10_fill_53 (fun z11 g10 => ?_)
  refine k_ifne (tgt := 62) dX10_fill_56 (by decide) (fun _ => ?_) (fun _ => ?_)
  · refine k_bipush (v := (-5 : Int32)) dX10_fill_59 rfl ?_
    exact k_ireturn rfl dX10_fill_61
  refine k_aloadn (j := 0) dX10_fill_62 rfl rfl ?_
  refine k_iloadn (j := 1) dX10_fill_63 rfl rfl ?_
  refine k_iconst (v := (3 : Int32)) dX10_fill_64 rfl ?_
  refine k_iloadn (j := 2) dX10_fill_65 rfl rfl ?_
  refine k_iadd dX10_fill_66 ?_
  refine k_iload dX10_fill_67 rfl ?_
  refine k_callVv [.inl v1, .inl ((3 : Int32) + v2), .inl z9] (t10_setPrinter v0 v1 ((3 : Int32) + v2) z9 g10) cw_cX10_setPrinter (Or.inl ml_10_184) rfl rfl (by decide) (by decide) (Nat.le_of_ble_eq_true rfl) dX10_fill_69 (fun _ g12 => ?_)
  refine k_iload dX10_fill_72 rfl ?_
  exact k_ireturn rfl dX10_fill_74
theorem dX10_printer_0 : decode cX10_printer 0 = .ok (.aload_n 0, 1) := by decide +kernel
theorem dX10_printer_1 : decode cX10_printer 1 = .ok (.iload_n 1, 1) := by decide +kernel
theorem dX10_printer_2 : decode cX10_printer 2 = .ok (.invokevirtual 187, 3) := by decide +kernel
theorem dX10_printer_5 : decode cX10_printer 5 = .ok (.ifCond .ne 5, 3) := by decide +kernel
theorem dX10_printer_8 : decode cX10_printer 8 = .ok (.iconst (-1), 1) := by decide +kernel
theorem dX10_printer_9 : decode cX10_printer 9 = .ok (.ireturn, 1) := by decide +kernel
theorem dX10_printer_10 : decode cX10_printer 10 = .ok (.aload_n 0, 1) := by decide +kernel
theorem dX10_printer_11 : decode cX10_printer 11 = .ok (.iload_n 1, 1) := by decide +kernel
theorem dX10_printer_12 : decode cX10_printer 12 = .ok (.bipush 6, 2) := by decide +kernel
theorem dX10_printer_14 : decode cX10_printer 14 = .ok (.invokevirtual 190, 3) := by decide +kernel
theorem dX10_printer_17 : decode cX10_printer 17 = .ok (.iconst 1, 1) := by decide +kernel
theorem dX10_printer_18 : decode cX10_printer 18 = .ok (.if_icmp .ne 7, 3) := by decide +kernel
theorem dX10_printer_21 : decode cX10_printer 21 = .ok (.iconst 1, 1) := by decide +kernel
theorem dX10_printer_22 : decode cX10_printer 22 = .ok (.goto 4, 3) := by decide +kernel
theorem dX10_printer_25 : decode cX10_printer 25 = .ok (.iconst 0, 1) := by decide +kernel
theorem dX10_printer_26 : decode cX10_printer 26 = .ok (.istore_n 3, 1) := by decide +kernel
theorem dX10_printer_27 : decode cX10_printer 27 = .ok (.iload_n 2, 1) := by decide +kernel
theorem dX10_printer_28 : decode cX10_printer 28 = .ok (.tableswitch 103 0 6 #[44, 44, 44, 53, 61, 78, 95], 44) := by decide +kernel
theorem dX10_printer_72 : decode cX10_printer 72 = .ok (.aload_n 0, 1) := by decide +kernel
theorem dX10_printer_73 : decode cX10_printer 73 = .ok (.iload_n 1, 1) := by decide +kernel
theorem dX10_printer_74 : decode cX10_printer 74 = .ok (.iconst 3, 1) := by decide +kernel
theorem dX10_printer_75 : decode cX10_printer 75 = .ok (.iload_n 2, 1) := by decide +kernel
theorem dX10_printer_76 : decode cX10_printer 76 = .ok (.iadd, 1) := by decide +kernel
theorem dX10_printer_77 : decode cX10_printer 77 = .ok (.invokevirtual 190, 3) := by decide +kernel
theorem dX10_printer_80 : decode cX10_printer 80 = .ok (.ireturn, 1) := by decide +kernel
theorem dX10_printer_81 : decode cX10_printer 81 = .ok (.aload_n 0, 1) := by decide +kernel
theorem dX10_printer_82 : decode cX10_printer 82 = .ok (.iload_n 1, 1) := by decide +kernel
theorem dX10_printer_83 : decode cX10_printer 83 = .ok (.bipush 6, 2) := by decide +kernel
theorem dX10_printer_85 : decode cX10_printer 85 = .ok (.invokevirtual 190, 3) := by decide +kernel
theorem dX10_printer_88 : decode cX10_printer 88 = .ok (.ireturn, 1) := by decide +kernel
theorem dX10_printer_89 : decode cX10_printer 89 = .ok (.iload_n 3, 1) := by decide +kernel
theorem dX10_printer_90 : decode cX10_printer 90 = .ok (.ifCond .eq 13, 3) := by decide +kernel
theorem dX10_printer_93 : decode cX10_printer 93 = .ok (.aload_n 0, 1) := by decide +kernel
theorem dX10_printer_94 : decode cX10_printer 94 = .ok (.iload_n 1, 1) := by decide +kernel
theorem dX10_printer_95 : decode cX10_printer 95 = .ok (.bipush 7, 2) := by decide +kernel
theorem dX10_printer_97 : decode cX10_printer 97 = .ok (.invokevirtual 190, 3) := by decide +kernel
theorem dX10_printer_100 : decode cX10_printer 100 = .ok (.goto 5, 3) := by decide +kernel
theorem dX10_printer_103 : decode cX10_printer 103 = .ok (.bipush (-6), 2) := by decide +kernel
theorem dX10_printer_105 : decode cX10_printer 105 = .ok (.ireturn, 1) := by decide +kernel
theorem dX10_printer_106 : decode cX10_printer 106 = .ok (.iload_n 3, 1) := by decide +kernel
theorem dX10_printer_107 : decode cX10_printer 107 = .ok (.ifCond .eq 13, 3) := by decide +kernel
theorem dX10_printer_110 : decode cX10_printer 110 = .ok (.aload_n 0, 1) := by decide +kernel
theorem dX10_printer_111 : decode cX10_printer 111 = .ok (.iload_n 1, 1) := by decide +kernel
theorem dX10_printer_112 : decode cX10_printer 112 = .ok (.bipush 8, 2) := by decide +kernel
theorem dX10_printer_114 : decode cX10_printer 114 = .ok (.invokevirtual 190, 3) := by decide +kernel
theorem dX10_printer_117 : decode cX10_printer 117 = .ok (.goto 5, 3) := by decide +kernel
theorem dX10_printer_120 : decode cX10_printer 120 = .ok (.bipush (-6), 2) := by decide +kernel
theorem dX10_printer_122 : decode cX10_printer 122 = .ok (.ireturn, 1) := by decide +kernel
theorem dX10_printer_123 : decode cX10_printer 123 = .ok (.aload_n 0, 1) := by decide +kernel
theorem dX10_printer_124 : decode cX10_printer 124 = .ok (.iload_n 1, 1) := by decide +kernel
theorem dX10_printer_125 : decode cX10_printer 125 = .ok (.bipush 9, 2) := by decide +kernel
theorem dX10_printer_127 : decode cX10_printer 127 = .ok (.invokevirtual 190, 3) := by decide +kernel
theorem dX10_printer_130 : decode cX10_printer 130 = .ok (.ireturn, 1) := by decide +kernel
theorem dX10_printer_131 : decode cX10_printer 131 = .ok (.bipush (-2), 2) := by decide +kernel
theorem dX10_printer_133 : decode cX10_printer 133 = .ok (.ireturn, 1) := by decide +kernel
def f10_printer_b72 (v0 : Nat) (v1 : Int32) (v2 : Int32) (g : GS_) : Option (Int32 × GS_) :=
  bd_ (f10_ofPrinter v0 v1 ((3 : Int32) + v2) g) fun z2 g1 => some (z2, g1)
theorem t10_printer_b72 (v0 : Nat) (v1 : Int32) (v2 : Int32) (g : GS_) : K_ RX10 cX10_printer 4 (some .int) 2 43 false EI_ 72 [some (.inr (10, some v0)), some (.inl v1), some (.inl v2), none] [] g (f10_printer_b72 v0 v1 v2 g) := by
  unfold f10_printer_b72
  refine k_aloadn (j := 0) dX10_printer_72 rfl rfl ?_
  refine k_iloadn (j := 1) dX10_printer_73 rfl rfl ?_
  refine k_iconst (v := (3 : Int32)) dX10_printer_74 rfl ?_
  refine k_iloadn (j := 2) dX10_printer_75 rfl rfl ?_
  refine k_iadd dX10_printer_76 ?_
  refine k_callVi [.inl v1, .inl ((3 : Int32) + v2)] (t10_ofPrinter v0 v1 ((3 : Int32) + v2) g) cw_cX10_ofPrinter (Or.inl ml_10_190) rfl rfl (by decide) (by decide) (Nat.le_of_ble_eq_true rfl) dX10_printer_77 (fun z2 g1 => ?_)
  exact k_ireturn rfl dX10_printer_80
def f10_printer_b26 (v0 : Nat) (v1 : Int32) (v2 : Int32) (s0 : Int32) (g : GS_) : Option (Int32 × GS_) :=
  if v2 = (0 : Int32) then f10_printer_b72 v0 v1 v2 g else if v2 = (1 : Int32) then f10_printer_b72 v0 v1 v2 g else if v2 = (2 : Int32) then f10_printer_b72 v0 v1 v2 g else if v2 = (3 : Int32) then bd_ (f10_ofPrinter v0 v1 (6 : Int32) g) fun z4 g3 => some (z4, g3) else if v2 = (4 : Int32) then if s0 = 0 then some ((-6 : Int32), g) else bd_ (f10_ofPrinter v0 v1 (7 : Int32) g) fun z6 g5 => some (z6, g5) else if v2 = (5 : Int32) then if s0 = 0 then some ((-6 : Int32), g) else bd_ (f10_ofPrinter v0 v1 (8 : Int32) g) fun z8 g7 => some (z8, g7) else if v2 = (6 : Int32) then bd_ (f10_ofPrinter v0 v1 (9 : Int32) g) fun z10 g9 => some (z10, g9) else some ((-2 : Int32), g)
theorem t10_printer_b26 (v0 : Nat) (v1 : Int32) (v2 : Int32) (s0 : Int32) (g : GS_) : K_ RX10 cX10_printer 4 (some .int) 2 43 false EI_ 26 [some (.inr (10, some v0)), some (.inl v1), some (.inl v2), none] [.inl s0] g (f10_printer_b26 v0 v1 v2 s0 g) := by
  unfold f10_printer_b26
  refine k_istn (j := 3) (L' := [some (.inr (10, some v0)), some (.inl v1), some (.inl v2), some (.inl s0)]) dX10_printer_26 rfl (by decide) rfl ?_
  refine k_iloadn (j := 2) dX10_printer_27 rfl rfl ?_
  refine k_case (fun h0_ => ?_) (fun h0_ => ?_)
  · refine k_tin (tgt := 72) dX10_printer_28 h0_ (by decide) (by decide) rfl (by decide) ?_
    refine k_msk (L' := [some (.inr (10, some v0)), some (.inl v1), some (.inl v2), none]) [true, true, true, false] rfl ?_
    exact t10_printer_b72 v0 v1 v2 g
  refine k_case (fun h1_ => ?_) (fun h1_ => ?_)
  · refine k_tin (tgt := 72) dX10_printer_28 h1_ (by decide) (by decide) rfl (by decide) ?_
    refine k_msk (L' := [some (.inr (10, some v0)), some (.inl v1), some (.inl v2), none]) [true, true, true, false] rfl ?_
    exact t10_printer_b72 v0 v1 v2 g
  refine k_case (fun h2_ => ?_) (fun h2_ => ?_)
  · refine k_tin (tgt := 72) dX10_printer_28 h2_ (by decide) (by decide) rfl (by decide) ?_
    refine k_msk (L' := [some (.inr (10, some v0)), some (.inl v1), some (.inl v2), none]) [true, true, true, false] rfl ?_
    exact t10_printer_b72 v0 v1 v2 g
  refine k_case (fun h3_ => ?_) (fun h3_ => ?_)
  · refine k_tin (tgt := 81) dX10_printer_28 h3_ (by decide) (by decide) rfl (by decide) ?_
    refine k_aloadn (j := 0) dX10_printer_81 rfl rfl ?_
    refine k_iloadn (j := 1) dX10_printer_82 rfl rfl ?_
    refine k_bipush (v := (6 : Int32)) dX10_printer_83 rfl ?_
    refine k_callVi [.inl v1, .inl (6 : Int32)] (t10_ofPrinter v0 v1 (6 : Int32) g) cw_cX10_ofPrinter (Or.inl ml_10_190) rfl rfl (by decide) (by decide) (Nat.le_of_ble_eq_true rfl) dX10_printer_85 (fun z4 g3 => ?_)
    exact k_ireturn rfl dX10_printer_88
  refine k_case (fun h4_ => ?_) (fun h4_ => ?_)
  · refine k_tin (tgt := 89) dX10_printer_28 h4_ (by decide) (by decide) rfl (by decide) ?_
    refine k_iloadn (j := 3) dX10_printer_89 rfl rfl ?_
    refine k_ifeq (tgt := 103) dX10_printer_90 (by decide) (fun _ => ?_) (fun _ => ?_)
    · refine k_bipush (v := (-6 : Int32)) dX10_printer_103 rfl ?_
      exact k_ireturn rfl dX10_printer_105
    refine k_aloadn (j := 0) dX10_printer_93 rfl rfl ?_
    refine k_iloadn (j := 1) dX10_printer_94 rfl rfl ?_
    refine k_bipush (v := (7 : Int32)) dX10_printer_95 rfl ?_
    refine k_callVi [.inl v1, .inl (7 : Int32)] (t10_ofPrinter v0 v1 (7 : Int32) g) cw_cX10_ofPrinter (Or.inl ml_10_190) rfl rfl (by decide) (by decide) (Nat.le_of_ble_eq_true rfl) dX10_printer_97 (fun z6 g5 => ?_)
    refine k_goto (tgt := 105) dX10_printer_100 (by decide) ?_
    exact k_ireturn rfl dX10_printer_105
  refine k_case (fun h5_ => ?_) (fun h5_ => ?_)
  · refine k_tin (tgt := 106) dX10_printer_28 h5_ (by decide) (by decide) rfl (by decide) ?_
    refine k_iloadn (j := 3) dX10_printer_106 rfl rfl ?_
    refine k_ifeq (tgt := 120) dX10_printer_107 (by decide) (fun _ => ?_) (fun _ => ?_)
    · refine k_bipush (v := (-6 : Int32)) dX10_printer_120 rfl ?_
      exact k_ireturn rfl dX10_printer_122
    refine k_aloadn (j := 0) dX10_printer_110 rfl rfl ?_
    refine k_iloadn (j := 1) dX10_printer_111 rfl rfl ?_
    refine k_bipush (v := (8 : Int32)) dX10_printer_112 rfl ?_
    refine k_callVi [.inl v1, .inl (8 : Int32)] (t10_ofPrinter v0 v1 (8 : Int32) g) cw_cX10_ofPrinter (Or.inl ml_10_190) rfl rfl (by decide) (by decide) (Nat.le_of_ble_eq_true rfl) dX10_printer_114 (fun z8 g7 => ?_)
    refine k_goto (tgt := 122) dX10_printer_117 (by decide) ?_
    exact k_ireturn rfl dX10_printer_122
  refine k_case (fun h6_ => ?_) (fun h6_ => ?_)
  · refine k_tin (tgt := 123) dX10_printer_28 h6_ (by decide) (by decide) rfl (by decide) ?_
    refine k_aloadn (j := 0) dX10_printer_123 rfl rfl ?_
    refine k_iloadn (j := 1) dX10_printer_124 rfl rfl ?_
    refine k_bipush (v := (9 : Int32)) dX10_printer_125 rfl ?_
    refine k_callVi [.inl v1, .inl (9 : Int32)] (t10_ofPrinter v0 v1 (9 : Int32) g) cw_cX10_ofPrinter (Or.inl ml_10_190) rfl rfl (by decide) (by decide) (Nat.le_of_ble_eq_true rfl) dX10_printer_127 (fun z10 g9 => ?_)
    exact k_ireturn rfl dX10_printer_130
  refine k_tout (tgt := 131) dX10_printer_28 (by have q0 := lv_neT (a := 0) h0_ (by decide); have q1 := lv_neT (a := 1) h1_ (by decide); have q2 := lv_neT (a := 2) h2_ (by decide); have q3 := lv_neT (a := 3) h3_ (by decide); have q4 := lv_neT (a := 4) h4_ (by decide); have q5 := lv_neT (a := 5) h5_ (by decide); have q6 := lv_neT (a := 6) h6_ (by decide); omega) (by decide) ?_
  refine k_bipush (v := (-2 : Int32)) dX10_printer_131 rfl ?_
  exact k_ireturn rfl dX10_printer_133
def f10_printer (v0 : Nat) (v1 : Int32) (v2 : Int32) (g : GS_) : Option (Int32 × GS_) :=
  bd_ (f10_isPrinter v0 v1 g) fun z12 g11 => if z12 = 0 then some ((-1 : Int32), g11) else bd_ (f10_ofPrinter v0 v1 (6 : Int32) g11) fun z14 g13 => if z14 = (1 : Int32) then f10_printer_b26 v0 v1 v2 (1 : Int32) g13 else f10_printer_b26 v0 v1 v2 (0 : Int32) g13
theorem t10_printer (v0 : Nat) (v1 : Int32) (v2 : Int32) (g : GS_) : Cn_ yX10_printer cX10_printer 4 (some .int) 2 43 EI_ [.inr (10, some v0), .inl v1, .inl v2] g (f10_printer v0 v1 v2 g) := by
  refine k_method (own := RX10) (ini := false) (L1 := [some (.inr (10, some v0)), some (.inl v1), some (.inl v2), none]) (by decide +kernel) rfl (fun h => by cases h) (Nat.le_of_ble_eq_true rfl) rfl ?_
  unfold f10_printer
  refine k_aloadn (j := 0) dX10_printer_0 rfl rfl ?_
  refine k_iloadn (j := 1) dX10_printer_1 rfl rfl ?_
  refine k_callVi [.inl v1] (t10_isPrinter v0 v1 g) cw_cX10_isPrinter (Or.inl ml_10_187) rfl rfl (by decide) (by decide) (Nat.le_of_ble_eq_true rfl) dX10_printer_2 (fun z12 g11 => ?_)
  refine k_ifne (tgt := 10) dX10_printer_5 (by decide) (fun _ => ?_) (fun _ => ?_)
  · refine k_iconst (v := (-1 : Int32)) dX10_printer_8 rfl ?_
    exact k_ireturn rfl dX10_printer_9
  refine k_aloadn (j := 0) dX10_printer_10 rfl rfl ?_
  refine k_iloadn (j := 1) dX10_printer_11 rfl rfl ?_
  refine k_bipush (v := (6 : Int32)) dX10_printer_12 rfl ?_
  refine k_callVi [.inl v1, .inl (6 : Int32)] (t10_ofPrinter v0 v1 (6 : Int32) g11) cw_cX10_ofPrinter (Or.inl ml_10_190) rfl rfl (by decide) (by decide) (Nat.le_of_ble_eq_true rfl) dX10_printer_14 (fun z14 g13 => ?_)
  refine k_iconst (v := (1 : Int32)) dX10_printer_17 rfl ?_
  refine k_icmpne (tgt := 25) dX10_printer_18 (by decide) (fun _ => ?_) (fun _ => ?_)
  · refine k_iconst (v := (1 : Int32)) dX10_printer_21 rfl ?_
    refine k_goto (tgt := 26) dX10_printer_22 (by decide) ?_
    exact t10_printer_b26 v0 v1 v2 (1 : Int32) g13
  refine k_iconst (v := (0 : Int32)) dX10_printer_25 rfl ?_
  exact t10_printer_b26 v0 v1 v2 (0 : Int32) g13
theorem dX10_bandsFor_0 : decode cX10_bandsFor 0 = .ok (.iconst 1, 1) := by decide +kernel
theorem dX10_bandsFor_1 : decode cX10_bandsFor 1 = .ok (.istore_n 2, 1) := by decide +kernel
theorem dX10_bandsFor_2 : decode cX10_bandsFor 2 = .ok (.iload_n 2, 1) := by decide +kernel
theorem dX10_bandsFor_3 : decode cX10_bandsFor 3 = .ok (.bipush 16, 2) := by decide +kernel
theorem dX10_bandsFor_5 : decode cX10_bandsFor 5 = .ok (.if_icmp .gt 25, 3) := by decide +kernel
theorem dX10_bandsFor_8 : decode cX10_bandsFor 8 = .ok (.iconst 2, 1) := by decide +kernel
theorem dX10_bandsFor_9 : decode cX10_bandsFor 9 = .ok (.iload_n 0, 1) := by decide +kernel
theorem dX10_bandsFor_10 : decode cX10_bandsFor 10 = .ok (.iload_n 2, 1) := by decide +kernel
theorem dX10_bandsFor_11 : decode cX10_bandsFor 11 = .ok (.iadd, 1) := by decide +kernel
theorem dX10_bandsFor_12 : decode cX10_bandsFor 12 = .ok (.iconst 1, 1) := by decide +kernel
theorem dX10_bandsFor_13 : decode cX10_bandsFor 13 = .ok (.isub, 1) := by decide +kernel
theorem dX10_bandsFor_14 : decode cX10_bandsFor 14 = .ok (.iload_n 2, 1) := by decide +kernel
theorem dX10_bandsFor_15 : decode cX10_bandsFor 15 = .ok (.idiv, 1) := by decide +kernel
theorem dX10_bandsFor_16 : decode cX10_bandsFor 16 = .ok (.imul, 1) := by decide +kernel
theorem dX10_bandsFor_17 : decode cX10_bandsFor 17 = .ok (.iload_n 1, 1) := by decide +kernel
theorem dX10_bandsFor_18 : decode cX10_bandsFor 18 = .ok (.if_icmp .gt 5, 3) := by decide +kernel
theorem dX10_bandsFor_21 : decode cX10_bandsFor 21 = .ok (.iload_n 2, 1) := by decide +kernel
theorem dX10_bandsFor_22 : decode cX10_bandsFor 22 = .ok (.ireturn, 1) := by decide +kernel
theorem dX10_bandsFor_23 : decode cX10_bandsFor 23 = .ok (.iload_n 2, 1) := by decide +kernel
theorem dX10_bandsFor_24 : decode cX10_bandsFor 24 = .ok (.iconst 2, 1) := by decide +kernel
theorem dX10_bandsFor_25 : decode cX10_bandsFor 25 = .ok (.imul, 1) := by decide +kernel
theorem dX10_bandsFor_26 : decode cX10_bandsFor 26 = .ok (.istore_n 2, 1) := by decide +kernel
theorem dX10_bandsFor_27 : decode cX10_bandsFor 27 = .ok (.goto (-25), 3) := by decide +kernel
theorem dX10_bandsFor_30 : decode cX10_bandsFor 30 = .ok (.bipush (-6), 2) := by decide +kernel
theorem dX10_bandsFor_32 : decode cX10_bandsFor 32 = .ok (.ireturn, 1) := by decide +kernel
def f10_bandsFor_b2 : Nat → Int32 → Int32 → Int32 → GS_ → Option (Int32 × GS_)
  | 0, _, _, _, _ => none
  | n + 1, v0, v1, v2, g =>
    if (16 : Int32) < v2 then some ((-6 : Int32), g) else if v2 = 0 then none else if v1 < ((2 : Int32) * (((v0 + v2) - (1 : Int32)) / v2)) then lr_ (v2 * (2 : Int32)) fun z1 => (f10_bandsFor_b2 n) v0 v1 z1 g else some (v2, g)
theorem t10_bandsFor_b2 : ∀ (n : Nat) (v0 : Int32) (v1 : Int32) (v2 : Int32) (g : GS_), K_ RX10 cX10_bandsFor 3 (some .int) 0 0 false EI_ 2 [some (.inl v0), some (.inl v1), some (.inl v2)] [] g (f10_bandsFor_b2 n v0 v1 v2 g) := by
  intro n
  induction n with
  | zero =>
    intro v0 v1 v2 g
    exact k_fail
  | succ n ih =>
    intro v0 v1 v2 g
    show K_ RX10 cX10_bandsFor 3 (some .int) 0 0 false EI_ 2 [some (.inl v0), some (.inl v1), some (.inl v2)] [] g (if (16 : Int32) < v2 then some ((-6 : Int32), g) else if v2 = 0 then none else if v1 < ((2 : Int32) * (((v0 + v2) - (1 : Int32)) / v2)) then lr_ (v2 * (2 : Int32)) fun z1 => (f10_bandsFor_b2 n) v0 v1 z1 g else some (v2, g))
    refine k_iloadn (j := 2) dX10_bandsFor_2 rfl rfl ?_
    refine k_bipush (v := (16 : Int32)) dX10_bandsFor_3 rfl ?_
    refine k_icmpgt (tgt := 30) dX10_bandsFor_5 (by decide) (fun _ => ?_) (fun _ => ?_)
    · refine k_bipush (v := (-6 : Int32)) dX10_bandsFor_30 rfl ?_
      exact k_ireturn rfl dX10_bandsFor_32
    refine k_iconst (v := (2 : Int32)) dX10_bandsFor_8 rfl ?_
    refine k_iloadn (j := 0) dX10_bandsFor_9 rfl rfl ?_
    refine k_iloadn (j := 2) dX10_bandsFor_10 rfl rfl ?_
    refine k_iadd dX10_bandsFor_11 ?_
    refine k_iconst (v := (1 : Int32)) dX10_bandsFor_12 rfl ?_
    refine k_isub dX10_bandsFor_13 ?_
    refine k_iloadn (j := 2) dX10_bandsFor_14 rfl rfl ?_
    refine k_idiv dX10_bandsFor_15 (fun _ => ?_)
    refine k_imul dX10_bandsFor_16 ?_
    refine k_iloadn (j := 1) dX10_bandsFor_17 rfl rfl ?_
    refine k_icmpgt (tgt := 23) dX10_bandsFor_18 (by decide) (fun _ => ?_) (fun _ => ?_)
    · refine k_iloadn (j := 2) dX10_bandsFor_23 rfl rfl ?_
      refine k_iconst (v := (2 : Int32)) dX10_bandsFor_24 rfl ?_
      refine k_imul dX10_bandsFor_25 ?_
      refine k_istnl (j := 2) (L2 := fun z1 => [some (.inl v0), some (.inl v1), some (.inl z1)]) dX10_bandsFor_26 rfl (by decide) (fun _ => rfl) (fun z1 => ?_)
      refine k_goto (tgt := 2) dX10_bandsFor_27 (by decide) ?_
      exact ih v0 v1 z1 g
    refine k_iloadn (j := 2) dX10_bandsFor_21 rfl rfl ?_
    exact k_ireturn rfl dX10_bandsFor_22
def f10_bandsFor (v0 : Int32) (v1 : Int32) (g : GS_) : Option (Int32 × GS_) :=
  f10_bandsFor_b2 FU_ v0 v1 (1 : Int32) g
theorem t10_bandsFor (v0 : Int32) (v1 : Int32) (g : GS_) : Cn_ yX10_bandsFor cX10_bandsFor 3 (some .int) 0 0 EI_ [.inl v0, .inl v1] g (f10_bandsFor v0 v1 g) := by
  refine k_method (own := RX10) (ini := false) (L1 := [some (.inl v0), some (.inl v1), none]) (by decide +kernel) rfl (fun h => by cases h) (Nat.le_of_ble_eq_true rfl) rfl ?_
  unfold f10_bandsFor
  refine k_iconst (v := (1 : Int32)) dX10_bandsFor_0 rfl ?_
  refine k_istn (j := 2) (L' := [some (.inl v0), some (.inl v1), some (.inl (1 : Int32))]) dX10_bandsFor_1 rfl (by decide) rfl ?_
  exact t10_bandsFor_b2 FU_ v0 v1 (1 : Int32) g
theorem dX10_laySide_0 : decode cX10_laySide 0 = .ok (.aload_n 0, 1) := by decide +kernel
theorem dX10_laySide_1 : decode cX10_laySide 1 = .ok (.iconst 0, 1) := by decide +kernel
theorem dX10_laySide_2 : decode cX10_laySide 2 = .ok (.putfield 193, 3) := by decide +kernel
theorem dX10_laySide_5 : decode cX10_laySide 5 = .ok (.aload_n 0, 1) := by decide +kernel
theorem dX10_laySide_6 : decode cX10_laySide 6 = .ok (.iconst 0, 1) := by decide +kernel
theorem dX10_laySide_7 : decode cX10_laySide 7 = .ok (.putfield 196, 3) := by decide +kernel
theorem dX10_laySide_10 : decode cX10_laySide 10 = .ok (.aload_n 0, 1) := by decide +kernel
theorem dX10_laySide_11 : decode cX10_laySide 11 = .ok (.iconst 0, 1) := by decide +kernel
theorem dX10_laySide_12 : decode cX10_laySide 12 = .ok (.putfield 199, 3) := by decide +kernel
theorem dX10_laySide_15 : decode cX10_laySide 15 = .ok (.iconst 1, 1) := by decide +kernel
theorem dX10_laySide_16 : decode cX10_laySide 16 = .ok (.istore 5, 2) := by decide +kernel
theorem dX10_laySide_18 : decode cX10_laySide 18 = .ok (.iconst 0, 1) := by decide +kernel
theorem dX10_laySide_19 : decode cX10_laySide 19 = .ok (.istore 6, 2) := by decide +kernel
theorem dX10_laySide_21 : decode cX10_laySide 21 = .ok (.iload 6, 2) := by decide +kernel
theorem dX10_laySide_23 : decode cX10_laySide 23 = .ok (.aload_n 0, 1) := by decide +kernel
theorem dX10_laySide_24 : decode cX10_laySide 24 = .ok (.iload_n 1, 1) := by decide +kernel
theorem dX10_laySide_25 : decode cX10_laySide 25 = .ok (.invokevirtual 139, 3) := by decide +kernel
theorem dX10_laySide_28 : decode cX10_laySide 28 = .ok (.if_icmp .ge 74, 3) := by decide +kernel
theorem dX10_laySide_31 : decode cX10_laySide 31 = .ok (.aload_n 0, 1) := by decide +kernel
theorem dX10_laySide_32 : decode cX10_laySide 32 = .ok (.iload_n 1, 1) := by decide +kernel
theorem dX10_laySide_33 : decode cX10_laySide 33 = .ok (.iload_n 2, 1) := by decide +kernel
theorem dX10_laySide_34 : decode cX10_laySide 34 = .ok (.iload_n 3, 1) := by decide +kernel
theorem dX10_laySide_35 : decode cX10_laySide 35 = .ok (.iload 6, 2) := by decide +kernel
theorem dX10_laySide_37 : decode cX10_laySide 37 = .ok (.invokevirtual 158, 3) := by decide +kernel
theorem dX10_laySide_40 : decode cX10_laySide 40 = .ok (.istore 7, 2) := by decide +kernel
theorem dX10_laySide_42 : decode cX10_laySide 42 = .ok (.iload 5, 2) := by decide +kernel
theorem dX10_laySide_44 : decode cX10_laySide 44 = .ok (.ifCond .eq 12, 3) := by decide +kernel
theorem dX10_laySide_47 : decode cX10_laySide 47 = .ok (.iload 7, 2) := by decide +kernel
theorem dX10_laySide_49 : decode cX10_laySide 49 = .ok (.ifCond .ne 7, 3) := by decide +kernel
theorem dX10_laySide_52 : decode cX10_laySide 52 = .ok (.iconst 1, 1) := by decide +kernel
theorem dX10_laySide_53 : decode cX10_laySide 53 = .ok (.goto 4, 3) := by decide +kernel
theorem dX10_laySide_56 : decode cX10_laySide 56 = .ok (.iconst 0, 1) := by decide +kernel
theorem dX10_laySide_57 : decode cX10_laySide 57 = .ok (.istore 5, 2) := by decide +kernel
theorem dX10_laySide_59 : decode cX10_laySide 59 = .ok (.aload_n 0, 1) := by decide +kernel
theorem dX10_laySide_60 : decode cX10_laySide 60 = .ok (.dup, 1) := by decide +kernel
theorem dX10_laySide_61 : decode cX10_laySide 61 = .ok (.getfield 193, 3) := by decide +kernel
theorem dX10_laySide_64 : decode cX10_laySide 64 = .ok (.iload 7, 2) := by decide +kernel
theorem dX10_laySide_66 : decode cX10_laySide 66 = .ok (.ifCond .ne 7, 3) := by decide +kernel
theorem dX10_laySide_69 : decode cX10_laySide 69 = .ok (.iconst 0, 1) := by decide +kernel
theorem dX10_laySide_70 : decode cX10_laySide 70 = .ok (.goto 22, 3) := by decide +kernel
theorem dX10_laySide_73 : decode cX10_laySide 73 = .ok (.aload_n 0, 1) := by decide +kernel
theorem dX10_laySide_74 : decode cX10_laySide 74 = .ok (.aload_n 0, 1) := by decide +kernel
theorem dX10_laySide_75 : decode cX10_laySide 75 = .ok (.iload_n 1, 1) := by decide +kernel
theorem dX10_laySide_76 : decode cX10_laySide 76 = .ok (.bipush 6, 2) := by decide +kernel
theorem dX10_laySide_78 : decode cX10_laySide 78 = .ok (.invokevirtual 133, 3) := by decide +kernel
theorem dX10_laySide_81 : decode cX10_laySide 81 = .ok (.iload 7, 2) := by decide +kernel
theorem dX10_laySide_83 : decode cX10_laySide 83 = .ok (.invokevirtual 56, 3) := by decide +kernel
theorem dX10_laySide_86 : decode cX10_laySide 86 = .ok (.aload_n 0, 1) := by decide +kernel
theorem dX10_laySide_87 : decode cX10_laySide 87 = .ok (.iload_n 1, 1) := by decide +kernel
theorem dX10_laySide_88 : decode cX10_laySide 88 = .ok (.invokevirtual 139, 3) := by decide +kernel
theorem dX10_laySide_91 : decode cX10_laySide 91 = .ok (.idiv, 1) := by decide +kernel
theorem dX10_laySide_92 : decode cX10_laySide 92 = .ok (.iadd, 1) := by decide +kernel
theorem dX10_laySide_93 : decode cX10_laySide 93 = .ok (.putfield 193, 3) := by decide +kernel
theorem dX10_laySide_96 : decode cX10_laySide 96 = .ok (.iinc 6 1, 3) := by decide +kernel
theorem dX10_laySide_99 : decode cX10_laySide 99 = .ok (.goto (-78), 3) := by decide +kernel
theorem dX10_laySide_102 : decode cX10_laySide 102 = .ok (.iload 5, 2) := by decide +kernel
theorem dX10_laySide_104 : decode cX10_laySide 104 = .ok (.ifCond .eq 4, 3) := by decide +kernel
theorem dX10_laySide_107 : decode cX10_laySide 107 = .ok (.return_, 1) := by decide +kernel
theorem dX10_laySide_108 : decode cX10_laySide 108 = .ok (.aload_n 0, 1) := by decide +kernel
theorem dX10_laySide_109 : decode cX10_laySide 109 = .ok (.iload 4, 2) := by decide +kernel
theorem dX10_laySide_111 : decode cX10_laySide 111 = .ok (.iconst 1, 1) := by decide +kernel
theorem dX10_laySide_112 : decode cX10_laySide 112 = .ok (.invokevirtual 190, 3) := by decide +kernel
theorem dX10_laySide_115 : decode cX10_laySide 115 = .ok (.istore 6, 2) := by decide +kernel
theorem dX10_laySide_117 : decode cX10_laySide 117 = .ok (.aload_n 0, 1) := by decide +kernel
theorem dX10_laySide_118 : decode cX10_laySide 118 = .ok (.aload_n 0, 1) := by decide +kernel
theorem dX10_laySide_119 : decode cX10_laySide 119 = .ok (.getfield 193, 3) := by decide +kernel
theorem dX10_laySide_122 : decode cX10_laySide 122 = .ok (.iload 6, 2) := by decide +kernel
theorem dX10_laySide_124 : decode cX10_laySide 124 = .ok (.invokestatic 202, 3) := by decide +kernel
theorem dX10_laySide_127 : decode cX10_laySide 127 = .ok (.putfield 196, 3) := by decide +kernel
theorem dX10_laySide_130 : decode cX10_laySide 130 = .ok (.aload_n 0, 1) := by decide +kernel
theorem dX10_laySide_131 : decode cX10_laySide 131 = .ok (.getfield 196, 3) := by decide +kernel
theorem dX10_laySide_134 : decode cX10_laySide 134 = .ok (.bipush (-6), 2) := by decide +kernel
theorem dX10_laySide_136 : decode cX10_laySide 136 = .ok (.if_icmp .ne 45, 3) := by decide +kernel
theorem dX10_laySide_139 : decode cX10_laySide 139 = .ok (.aload_n 0, 1) := by decide +kernel
theorem dX10_laySide_140 : decode cX10_laySide 140 = .ok (.iconst 1, 1) := by decide +kernel
theorem dX10_laySide_141 : decode cX10_laySide 141 = .ok (.putfield 199, 3) := by decide +kernel
theorem dX10_laySide_144 : decode cX10_laySide 144 = .ok (.aload_n 0, 1) := by decide +kernel
theorem dX10_laySide_145 : decode cX10_laySide 145 = .ok (.aload_n 0, 1) := by decide +kernel
theorem dX10_laySide_146 : decode cX10_laySide 146 = .ok (.getfield 193, 3) := by decide +kernel
theorem dX10_laySide_149 : decode cX10_laySide 149 = .ok (.iconst 4, 1) := by decide +kernel
theorem dX10_laySide_150 : decode cX10_laySide 150 = .ok (.idiv, 1) := by decide +kernel
theorem dX10_laySide_151 : decode cX10_laySide 151 = .ok (.iload 6, 2) := by decide +kernel
theorem dX10_laySide_153 : decode cX10_laySide 153 = .ok (.invokestatic 202, 3) := by decide +kernel
theorem dX10_laySide_156 : decode cX10_laySide 156 = .ok (.putfield 196, 3) := by decide +kernel
theorem dX10_laySide_159 : decode cX10_laySide 159 = .ok (.aload_n 0, 1) := by decide +kernel
theorem dX10_laySide_160 : decode cX10_laySide 160 = .ok (.aload_n 0, 1) := by decide +kernel
theorem dX10_laySide_161 : decode cX10_laySide 161 = .ok (.getfield 196, 3) := by decide +kernel
theorem dX10_laySide_164 : decode cX10_laySide 164 = .ok (.bipush (-6), 2) := by decide +kernel
theorem dX10_laySide_166 : decode cX10_laySide 166 = .ok (.if_icmp .ne 8, 3) := by decide +kernel
theorem dX10_laySide_169 : decode cX10_laySide 169 = .ok (.bipush 16, 2) := by decide +kernel
theorem dX10_laySide_171 : decode cX10_laySide 171 = .ok (.goto 7, 3) := by decide +kernel
theorem dX10_laySide_174 : decode cX10_laySide 174 = .ok (.aload_n 0, 1) := by decide +kernel
theorem dX10_laySide_175 : decode cX10_laySide 175 = .ok (.getfield 196, 3) := by decide +kernel
theorem dX10_laySide_178 : decode cX10_laySide 178 = .ok (.putfield 196, 3) := by decide +kernel
theorem dX10_laySide_181 : decode cX10_laySide 181 = .ok (.return_, 1) := by decide +kernel
def f10_laySide_b178 (s0 : Nat) (s1 : Int32) (g : GS_) : Option (Unit × GS_) :=
  lr_ (sfi g 338 s0 s1) fun g1 => some ((), g1)
theorem t10_laySide_b178 (s0 : Nat) (s1 : Int32) (g : GS_) : K_ RX10 cX10_laySide 8 none 6 138 false EV_ 178 [none, none, none, none, none, none, none, none] [.inl s1, .inr (10, some s0)] g (f10_laySide_b178 s0 s1 g) := by
  unfold f10_laySide_b178
  refine k_puti fp_10_196 rfl rfl dX10_laySide_178 (fun g1 => ?_)
  exact k_return rfl dX10_laySide_181
def f10_laySide_b92 (c21 : Nat → Int32 → Int32 → Int32 → Int32 → Int32 → Int32 → GS_ → Option (Unit × GS_)) (v0 : Nat) (v1 : Int32) (v2 : Int32) (v3 : Int32) (v4 : Int32) (v5 : Int32) (v6 : Int32) (s0 : Nat) (s1 : Int32) (s2 : Int32) (g : GS_) : Option (Unit × GS_) :=
  lr_ (sfi g 337 s0 (s1 + s2)) fun g2 => c21 v0 v1 v2 v3 v4 v5 (v6 + (1 : Int32)) g2
theorem t10_laySide_b92 (c21 : Nat → Int32 → Int32 → Int32 → Int32 → Int32 → Int32 → GS_ → Option (Unit × GS_)) (h21 : ∀ (v0 : Nat) (v1 : Int32) (v2 : Int32) (v3 : Int32) (v4 : Int32) (v5 : Int32) (v6 : Int32) (g : GS_), K_ RX10 cX10_laySide 8 none 6 138 false EV_ 21 [some (.inr (10, some v0)), some (.inl v1), some (.inl v2), some (.inl v3), some (.inl v4), some (.inl v5), some (.inl v6), none] [] g (c21 v0 v1 v2 v3 v4 v5 v6 g)) (v0 : Nat) (v1 : Int32) (v2 : Int32) (v3 : Int32) (v4 : Int32) (v5 : Int32) (v6 : Int32) (s0 : Nat) (s1 : Int32) (s2 : Int32) (g : GS_) : K_ RX10 cX10_laySide 8 none 6 138 false EV_ 92 [some (.inr (10, some v0)), some (.inl v1), some (.inl v2), some (.inl v3), some (.inl v4), some (.inl v5), some (.inl v6), none] [.inl s2, .inl s1, .inr (10, some s0)] g (f10_laySide_b92 c21 v0 v1 v2 v3 v4 v5 v6 s0 s1 s2 g) := by
  unfold f10_laySide_b92
  refine k_iadd dX10_laySide_92 ?_
  refine k_puti fp_10_193 rfl rfl dX10_laySide_93 (fun g2 => ?_)
  refine k_iinc (v := (v6 + (1 : Int32))) (L' := [some (.inr (10, some v0)), some (.inl v1), some (.inl v2), some (.inl v3), some (.inl v4), some (.inl v5), some (.inl (v6 + (1 : Int32))), none]) dX10_laySide_96 rfl rfl (by decide) rfl ?_
  refine k_goto (tgt := 21) dX10_laySide_99 (by decide) ?_
  exact h21 v0 v1 v2 v3 v4 v5 (v6 + (1 : Int32)) g2
def f10_laySide_b57 (c21 : Nat → Int32 → Int32 → Int32 → Int32 → Int32 → Int32 → GS_ → Option (Unit × GS_)) (v0 : Nat) (v1 : Int32) (v2 : Int32) (v3 : Int32) (v4 : Int32) (v6 : Int32) (v7 : Int32) (s0 : Int32) (g : GS_) : Option (Unit × GS_) :=
  if v7 = 0 then f10_laySide_b92 c21 v0 v1 v2 v3 v4 s0 v6 v0 (gfi g 337 v0) (0 : Int32) g else bd_ (f10_ofJob v0 v1 (6 : Int32) g) fun z4 g3 => bd_ (f10_weightOf v0 z4 v7 g3) fun z6 g5 => bd_ (f10_perSide v0 v1 g5) fun z8 g7 => if z8 = 0 then none else f10_laySide_b92 c21 v0 v1 v2 v3 v4 s0 v6 v0 (gfi g 337 v0) (z6 / z8) g7
theorem t10_laySide_b57 (c21 : Nat → Int32 → Int32 → Int32 → Int32 → Int32 → Int32 → GS_ → Option (Unit × GS_)) (h21 : ∀ (v0 : Nat) (v1 : Int32) (v2 : Int32) (v3 : Int32) (v4 : Int32) (v5 : Int32) (v6 : Int32) (g : GS_), K_ RX10 cX10_laySide 8 none 6 138 false EV_ 21 [some (.inr (10, some v0)), some (.inl v1), some (.inl v2), some (.inl v3), some (.inl v4), some (.inl v5), some (.inl v6), none] [] g (c21 v0 v1 v2 v3 v4 v5 v6 g)) (v0 : Nat) (v1 : Int32) (v2 : Int32) (v3 : Int32) (v4 : Int32) (v6 : Int32) (v7 : Int32) (s0 : Int32) (g : GS_) : K_ RX10 cX10_laySide 8 none 6 138 false EV_ 57 [some (.inr (10, some v0)), some (.inl v1), some (.inl v2), some (.inl v3), some (.inl v4), none, some (.inl v6), some (.inl v7)] [.inl s0] g (f10_laySide_b57 c21 v0 v1 v2 v3 v4 v6 v7 s0 g) := by
  unfold f10_laySide_b57
  refine k_ist (L' := [some (.inr (10, some v0)), some (.inl v1), some (.inl v2), some (.inl v3), some (.inl v4), some (.inl s0), some (.inl v6), some (.inl v7)]) dX10_laySide_57 (by decide) rfl ?_
  refine k_aloadn (j := 0) dX10_laySide_59 rfl rfl ?_
  refine k_dup dX10_laySide_60 ?_
  refine k_geti fg_10_193 rfl rfl dX10_laySide_61 ?_
  refine k_iload dX10_laySide_64 rfl ?_
  refine k_ifne (tgt := 73) dX10_laySide_66 (by decide) (fun _ => ?_) (fun _ => ?_)
  · refine k_iconst (v := (0 : Int32)) dX10_laySide_69 rfl ?_
    refine k_goto (tgt := 92) dX10_laySide_70 (by decide) ?_
    refine k_msk (L' := [some (.inr (10, some v0)), some (.inl v1), some (.inl v2), some (.inl v3), some (.inl v4), some (.inl s0), some (.inl v6), none]) [true, true, true, true, true, true, true, false] rfl ?_
    exact t10_laySide_b92 c21 h21 v0 v1 v2 v3 v4 s0 v6 v0 (gfi g 337 v0) (0 : Int32) g
  refine k_aloadn (j := 0) dX10_laySide_73 rfl rfl ?_
  refine k_aloadn (j := 0) dX10_laySide_74 rfl rfl ?_
  refine k_iloadn (j := 1) dX10_laySide_75 rfl rfl ?_
  refine k_bipush (v := (6 : Int32)) dX10_laySide_76 rfl ?_
  refine k_callVi [.inl v1, .inl (6 : Int32)] (t10_ofJob v0 v1 (6 : Int32) g) cw_cX10_ofJob (Or.inl ml_10_133) rfl rfl (by decide) (by decide) (Nat.le_of_ble_eq_true rfl) dX10_laySide_78 (fun z4 g3 => ?_)
  refine k_iload dX10_laySide_81 rfl ?_
  refine k_callVi [.inl z4, .inl v7] (t10_weightOf v0 z4 v7 g3) cw_cX10_weightOf (Or.inl ml_10_56) rfl rfl (by decide) (by decide) (Nat.le_of_ble_eq_true rfl) dX10_laySide_83 (fun z6 g5 => ?_)
  refine k_aloadn (j := 0) dX10_laySide_86 rfl rfl ?_
  refine k_iloadn (j := 1) dX10_laySide_87 rfl rfl ?_
  refine k_callVi [.inl v1] (t10_perSide v0 v1 g5) cw_cX10_perSide (Or.inl ml_10_139) rfl rfl (by decide) (by decide) (Nat.le_of_ble_eq_true rfl) dX10_laySide_88 (fun z8 g7 => ?_)
  refine k_idiv dX10_laySide_91 (fun _ => ?_)
  refine k_msk (L' := [some (.inr (10, some v0)), some (.inl v1), some (.inl v2), some (.inl v3), some (.inl v4), some (.inl s0), some (.inl v6), none]) [true, true, true, true, true, true, true, false] rfl ?_
  exact t10_laySide_b92 c21 h21 v0 v1 v2 v3 v4 s0 v6 v0 (gfi g 337 v0) (z6 / z8) g7
def f10_laySide_b56 (c21 : Nat → Int32 → Int32 → Int32 → Int32 → Int32 → Int32 → GS_ → Option (Unit × GS_)) (v0 : Nat) (v1 : Int32) (v2 : Int32) (v3 : Int32) (v4 : Int32) (v6 : Int32) (v7 : Int32) (g : GS_) : Option (Unit × GS_) :=
  f10_laySide_b57 c21 v0 v1 v2 v3 v4 v6 v7 (0 : Int32) g
theorem t10_laySide_b56 (c21 : Nat → Int32 → Int32 → Int32 → Int32 → Int32 → Int32 → GS_ → Option (Unit × GS_)) (h21 : ∀ (v0 : Nat) (v1 : Int32) (v2 : Int32) (v3 : Int32) (v4 : Int32) (v5 : Int32) (v6 : Int32) (g : GS_), K_ RX10 cX10_laySide 8 none 6 138 false EV_ 21 [some (.inr (10, some v0)), some (.inl v1), some (.inl v2), some (.inl v3), some (.inl v4), some (.inl v5), some (.inl v6), none] [] g (c21 v0 v1 v2 v3 v4 v5 v6 g)) (v0 : Nat) (v1 : Int32) (v2 : Int32) (v3 : Int32) (v4 : Int32) (v6 : Int32) (v7 : Int32) (g : GS_) : K_ RX10 cX10_laySide 8 none 6 138 false EV_ 56 [some (.inr (10, some v0)), some (.inl v1), some (.inl v2), some (.inl v3), some (.inl v4), none, some (.inl v6), some (.inl v7)] [] g (f10_laySide_b56 c21 v0 v1 v2 v3 v4 v6 v7 g) := by
  unfold f10_laySide_b56
  refine k_iconst (v := (0 : Int32)) dX10_laySide_56 rfl ?_
  exact t10_laySide_b57 c21 h21 v0 v1 v2 v3 v4 v6 v7 (0 : Int32) g
def f10_laySide_b21 : Nat → Nat → Int32 → Int32 → Int32 → Int32 → Int32 → Int32 → GS_ → Option (Unit × GS_)
  | 0, _, _, _, _, _, _, _, _ => none
  | n + 1, v0, v1, v2, v3, v4, v5, v6, g =>
    bd_ (f10_perSide v0 v1 g) fun z10 g9 => if z10 ≤ v6 then if v5 = 0 then bd_ (f10_ofPrinter v0 v4 (1 : Int32) g9) fun z12 g11 => bd_ (f10_bandsFor (gfi g11 337 v0) z12 g11) fun z14 g13 => lr_ (sfi g13 338 v0 z14) fun g15 => if (gfi g15 338 v0) = (-6 : Int32) then lr_ (sfi g15 339 v0 (1 : Int32)) fun g16 => bd_ (f10_bandsFor ((gfi g16 337 v0) / (4 : Int32)) z12 g16) fun z18 g17 => lr_ (sfi g17 338 v0 z18) fun g19 => if (gfi g19 338 v0) = (-6 : Int32) then f10_laySide_b178 v0 (16 : Int32) g19 else f10_laySide_b178 v0 (gfi g19 338 v0) g19 else some ((), g15) else some ((), g9) else bd_ (f10_pageAt v0 v1 v2 v3 v6 g9) fun z21 g20 => if v5 = 0 then f10_laySide_b56 (f10_laySide_b21 n) v0 v1 v2 v3 v4 v6 z21 g20 else if z21 = 0 then f10_laySide_b57 (f10_laySide_b21 n) v0 v1 v2 v3 v4 v6 z21 (1 : Int32) g20 else f10_laySide_b56 (f10_laySide_b21 n) v0 v1 v2 v3 v4 v6 z21 g20
theorem t10_laySide_b21 : ∀ (n : Nat) (v0 : Nat) (v1 : Int32) (v2 : Int32) (v3 : Int32) (v4 : Int32) (v5 : Int32) (v6 : Int32) (g : GS_), K_ RX10 cX10_laySide 8 none 6 138 false EV_ 21 [some (.inr (10, some v0)), some (.inl v1), some (.inl v2), some (.inl v3), some (.inl v4), some (.inl v5), some (.inl v6), none] [] g (f10_laySide_b21 n v0 v1 v2 v3 v4 v5 v6 g) := by
  intro n
  induction n with
  | zero =>
    intro v0 v1 v2 v3 v4 v5 v6 g
    exact k_fail
  | succ n ih =>
    intro v0 v1 v2 v3 v4 v5 v6 g
    show K_ RX10 cX10_laySide 8 none 6 138 false EV_ 21 [some (.inr (10, some v0)), some (.inl v1), some (.inl v2), some (.inl v3), some (.inl v4), some (.inl v5), some (.inl v6), none] [] g (bd_ (f10_perSide v0 v1 g) fun z10 g9 => if z10 ≤ v6 then if v5 = 0 then bd_ (f10_ofPrinter v0 v4 (1 : Int32) g9) fun z12 g11 => bd_ (f10_bandsFor (gfi g11 337 v0) z12 g11) fun z14 g13 => lr_ (sfi g13 338 v0 z14) fun g15 => if (gfi g15 338 v0) = (-6 : Int32) then lr_ (sfi g15 339 v0 (1 : Int32)) fun g16 => bd_ (f10_bandsFor ((gfi g16 337 v0) / (4 : Int32)) z12 g16) fun z18 g17 => lr_ (sfi g17 338 v0 z18) fun g19 => if (gfi g19 338 v0) = (-6 : Int32) then f10_laySide_b178 v0 (16 : Int32) g19 else f10_laySide_b178 v0 (gfi g19 338 v0) g19 else some ((), g15) else some ((), g9) else bd_ (f10_pageAt v0 v1 v2 v3 v6 g9) fun z21 g20 => if v5 = 0 then f10_laySide_b56 (f10_laySide_b21 n) v0 v1 v2 v3 v4 v6 z21 g20 else if z21 = 0 then f10_laySide_b57 (f10_laySide_b21 n) v0 v1 v2 v3 v4 v6 z21 (1 : Int32) g20 else f10_laySide_b56 (f10_laySide_b21 n) v0 v1 v2 v3 v4 v6 z21 g20)
    refine k_iload dX10_laySide_21 rfl ?_
    refine k_aloadn (j := 0) dX10_laySide_23 rfl rfl ?_
    refine k_iloadn (j := 1) dX10_laySide_24 rfl rfl ?_
    refine k_callVi [.inl v1] (t10_perSide v0 v1 g) cw_cX10_perSide (Or.inl ml_10_139) rfl rfl (by decide) (by decide) (Nat.le_of_ble_eq_true rfl) dX10_laySide_25 (fun z10 g9 => ?_)
    refine k_icmpge (tgt := 102) dX10_laySide_28 (by decide) (fun _ => ?_) (fun _ => ?_)
    · refine k_iload dX10_laySide_102 rfl ?_
      refine k_ifeq (tgt := 108) dX10_laySide_104 (by decide) (fun _ => ?_) (fun _ => ?_)
      · refine k_aloadn (j := 0) dX10_laySide_108 rfl rfl ?_
        refine k_iload dX10_laySide_109 rfl ?_
        refine k_iconst (v := (1 : Int32)) dX10_laySide_111 rfl ?_
        refine k_callVi [.inl v4, .inl (1 : Int32)] (t10_ofPrinter v0 v4 (1 : Int32) g9) cw_cX10_ofPrinter (Or.inl ml_10_190) rfl rfl (by decide) (by decide) (Nat.le_of_ble_eq_true rfl) dX10_laySide_112 (fun z12 g11 => ?_)
        refine k_ist (L' := [some (.inr (10, some v0)), some (.inl v1), some (.inl v2), some (.inl v3), some (.inl v4), some (.inl v5), some (.inl z12), none]) dX10_laySide_115 (by decide) rfl ?_
        refine k_aloadn (j := 0) dX10_laySide_117 rfl rfl ?_
        refine k_aloadn (j := 0) dX10_laySide_118 rfl rfl ?_
        refine k_geti fg_10_193 rfl rfl dX10_laySide_119 ?_
        refine k_iload dX10_laySide_122 rfl ?_
        refine k_callSi [.inl (gfi g11 337 v0), .inl z12] (t10_bandsFor (gfi g11 337 v0) z12 g11) cw_cX10_bandsFor ml_10_202 rfl rfl (by decide) (by decide) (Nat.le_of_ble_eq_true rfl) dX10_laySide_124 (fun z14 g13 => ?_)
        refine k_puti fp_10_196 rfl rfl dX10_laySide_127 (fun g15 => ?_)
        refine k_aloadn (j := 0) dX10_laySide_130 rfl rfl ?_
        refine k_geti fg_10_196 rfl rfl dX10_laySide_131 ?_
        refine k_bipush (v := (-6 : Int32)) dX10_laySide_134 rfl ?_
        refine k_icmpne (tgt := 181) dX10_laySide_136 (by decide) (fun _ => ?_) (fun _ => ?_)
        · refine k_aloadn (j := 0) dX10_laySide_139 rfl rfl ?_
          refine k_iconst (v := (1 : Int32)) dX10_laySide_140 rfl ?_
          refine k_putz fp_10_199 rfl rfl (by decide) dX10_laySide_141 (fun g16 => ?_)
          refine k_aloadn (j := 0) dX10_laySide_144 rfl rfl ?_
          refine k_aloadn (j := 0) dX10_laySide_145 rfl rfl ?_
          refine k_geti fg_10_193 rfl rfl dX10_laySide_146 ?_
          refine k_iconst (v := (4 : Int32)) dX10_laySide_149 rfl ?_
          refine k_idivc (by decide) dX10_laySide_150 ?_
          refine k_iload dX10_laySide_151 rfl ?_
          refine k_callSi [.inl ((gfi g16 337 v0) / (4 : Int32)), .inl z12] (t10_bandsFor ((gfi g16 337 v0) / (4 : Int32)) z12 g16) cw_cX10_bandsFor ml_10_202 rfl rfl (by decide) (by decide) (Nat.le_of_ble_eq_true rfl) dX10_laySide_153 (fun z18 g17 => ?_)
          refine k_puti fp_10_196 rfl rfl dX10_laySide_156 (fun g19 => ?_)
          refine k_aloadn (j := 0) dX10_laySide_159 rfl rfl ?_
          refine k_aloadn (j := 0) dX10_laySide_160 rfl rfl ?_
          refine k_geti fg_10_196 rfl rfl dX10_laySide_161 ?_
          refine k_bipush (v := (-6 : Int32)) dX10_laySide_164 rfl ?_
          refine k_icmpne (tgt := 174) dX10_laySide_166 (by decide) (fun _ => ?_) (fun _ => ?_)
          · refine k_bipush (v := (16 : Int32)) dX10_laySide_169 rfl ?_
            refine k_goto (tgt := 178) dX10_laySide_171 (by decide) ?_
            refine k_msk (L' := [none, none, none, none, none, none, none, none]) [false, false, false, false, false, false, false, true] rfl ?_
            exact t10_laySide_b178 v0 (16 : Int32) g19
          refine k_aloadn (j := 0) dX10_laySide_174 rfl rfl ?_
          refine k_geti fg_10_196 rfl rfl dX10_laySide_175 ?_
          refine k_msk (L' := [none, none, none, none, none, none, none, none]) [false, false, false, false, false, false, false, true] rfl ?_
          exact t10_laySide_b178 v0 (gfi g19 338 v0) g19
        exact k_return rfl dX10_laySide_181
      exact k_return rfl dX10_laySide_107
    refine k_aloadn (j := 0) dX10_laySide_31 rfl rfl ?_
    refine k_iloadn (j := 1) dX10_laySide_32 rfl rfl ?_
    refine k_iloadn (j := 2) dX10_laySide_33 rfl rfl ?_
    refine k_iloadn (j := 3) dX10_laySide_34 rfl rfl ?_
    refine k_iload dX10_laySide_35 rfl ?_
    refine k_callVi [.inl v1, .inl v2, .inl v3, .inl v6] (t10_pageAt v0 v1 v2 v3 v6 g9) cw_cX10_pageAt (Or.inl ml_10_158) rfl rfl (by decide) (by decide) (Nat.le_of_ble_eq_true rfl) dX10_laySide_37 (fun z21 g20 => ?_)
    refine k_ist (L' := [some (.inr (10, some v0)), some (.inl v1), some (.inl v2), some (.inl v3), some (.inl v4), some (.inl v5), some (.inl v6), some (.inl z21)]) dX10_laySide_40 (by decide) rfl ?_
    refine k_iload dX10_laySide_42 rfl ?_
    refine k_ifeq (tgt := 56) dX10_laySide_44 (by decide) (fun _ => ?_) (fun _ => ?_)
    · refine k_msk (L' := [some (.inr (10, some v0)), some (.inl v1), some (.inl v2), some (.inl v3), some (.inl v4), none, some (.inl v6), some (.inl z21)]) [true, true, true, true, true, false, true, true] rfl ?_
      exact t10_laySide_b56 (f10_laySide_b21 n) ih v0 v1 v2 v3 v4 v6 z21 g20
    refine k_iload dX10_laySide_47 rfl ?_
    refine k_ifne (tgt := 56) dX10_laySide_49 (by decide) (fun _ => ?_) (fun _ => ?_)
    · refine k_iconst (v := (1 : Int32)) dX10_laySide_52 rfl ?_
      refine k_goto (tgt := 57) dX10_laySide_53 (by decide) ?_
      refine k_msk (L' := [some (.inr (10, some v0)), some (.inl v1), some (.inl v2), some (.inl v3), some (.inl v4), none, some (.inl v6), some (.inl z21)]) [true, true, true, true, true, false, true, true] rfl ?_
      exact t10_laySide_b57 (f10_laySide_b21 n) ih v0 v1 v2 v3 v4 v6 z21 (1 : Int32) g20
    refine k_msk (L' := [some (.inr (10, some v0)), some (.inl v1), some (.inl v2), some (.inl v3), some (.inl v4), none, some (.inl v6), some (.inl z21)]) [true, true, true, true, true, false, true, true] rfl ?_
    exact t10_laySide_b56 (f10_laySide_b21 n) ih v0 v1 v2 v3 v4 v6 z21 g20
def f10_laySide (v0 : Nat) (v1 : Int32) (v2 : Int32) (v3 : Int32) (v4 : Int32) (g : GS_) : Option (Unit × GS_) :=
  lr_ (sfi g 337 v0 (0 : Int32)) fun g22 => lr_ (sfi g22 338 v0 (0 : Int32)) fun g23 => lr_ (sfi g23 339 v0 (0 : Int32)) fun g24 => f10_laySide_b21 FU_ v0 v1 v2 v3 v4 (1 : Int32) (0 : Int32) g24
theorem t10_laySide (v0 : Nat) (v1 : Int32) (v2 : Int32) (v3 : Int32) (v4 : Int32) (g : GS_) : Cn_ yX10_laySide cX10_laySide 8 none 6 138 EV_ [.inr (10, some v0), .inl v1, .inl v2, .inl v3, .inl v4] g (f10_laySide v0 v1 v2 v3 v4 g) := by
  refine k_method (own := RX10) (ini := false) (L1 := [some (.inr (10, some v0)), some (.inl v1), some (.inl v2), some (.inl v3), some (.inl v4), none, none, none]) (by decide +kernel) rfl (fun h => by cases h) (Nat.le_of_ble_eq_true rfl) rfl ?_
  unfold f10_laySide
  refine k_aloadn (j := 0) dX10_laySide_0 rfl rfl ?_
  refine k_iconst (v := (0 : Int32)) dX10_laySide_1 rfl ?_
  refine k_puti fp_10_193 rfl rfl dX10_laySide_2 (fun g22 => ?_)
  refine k_aloadn (j := 0) dX10_laySide_5 rfl rfl ?_
  refine k_iconst (v := (0 : Int32)) dX10_laySide_6 rfl ?_
  refine k_puti fp_10_196 rfl rfl dX10_laySide_7 (fun g23 => ?_)
  refine k_aloadn (j := 0) dX10_laySide_10 rfl rfl ?_
  refine k_iconst (v := (0 : Int32)) dX10_laySide_11 rfl ?_
  refine k_putz fp_10_199 rfl rfl (by decide) dX10_laySide_12 (fun g24 => ?_)
  refine k_iconst (v := (1 : Int32)) dX10_laySide_15 rfl ?_
  refine k_ist (L' := [some (.inr (10, some v0)), some (.inl v1), some (.inl v2), some (.inl v3), some (.inl v4), some (.inl (1 : Int32)), none, none]) dX10_laySide_16 (by decide) rfl ?_
  refine k_iconst (v := (0 : Int32)) dX10_laySide_18 rfl ?_
  refine k_ist (L' := [some (.inr (10, some v0)), some (.inl v1), some (.inl v2), some (.inl v3), some (.inl v4), some (.inl (1 : Int32)), some (.inl (0 : Int32)), none]) dX10_laySide_19 (by decide) rfl ?_
  exact t10_laySide_b21 FU_ v0 v1 v2 v3 v4 (1 : Int32) (0 : Int32) g24
theorem dX10_side_0 : decode cX10_side 0 = .ok (.aload_n 0, 1) := by decide +kernel
theorem dX10_side_1 : decode cX10_side 1 = .ok (.iload_n 1, 1) := by decide +kernel
theorem dX10_side_2 : decode cX10_side 2 = .ok (.iload_n 2, 1) := by decide +kernel
theorem dX10_side_3 : decode cX10_side 3 = .ok (.invokevirtual 155, 3) := by decide +kernel
theorem dX10_side_6 : decode cX10_side 6 = .ok (.ifCond .eq 12, 3) := by decide +kernel
theorem dX10_side_9 : decode cX10_side 9 = .ok (.aload_n 0, 1) := by decide +kernel
theorem dX10_side_10 : decode cX10_side 10 = .ok (.iload 4, 2) := by decide +kernel
theorem dX10_side_12 : decode cX10_side 12 = .ok (.invokevirtual 187, 3) := by decide +kernel
theorem dX10_side_15 : decode cX10_side 15 = .ok (.ifCond .ne 5, 3) := by decide +kernel
theorem dX10_side_18 : decode cX10_side 18 = .ok (.iconst (-1), 1) := by decide +kernel
theorem dX10_side_19 : decode cX10_side 19 = .ok (.ireturn, 1) := by decide +kernel
theorem dX10_side_20 : decode cX10_side 20 = .ok (.iload_n 3, 1) := by decide +kernel
theorem dX10_side_21 : decode cX10_side 21 = .ok (.iconst 0, 1) := by decide +kernel
theorem dX10_side_22 : decode cX10_side 22 = .ok (.aload_n 0, 1) := by decide +kernel
theorem dX10_side_23 : decode cX10_side 23 = .ok (.iload_n 1, 1) := by decide +kernel
theorem dX10_side_24 : decode cX10_side 24 = .ok (.invokevirtual 142, 3) := by decide +kernel
theorem dX10_side_27 : decode cX10_side 27 = .ok (.iconst 1, 1) := by decide +kernel
theorem dX10_side_28 : decode cX10_side 28 = .ok (.isub, 1) := by decide +kernel
theorem dX10_side_29 : decode cX10_side 29 = .ok (.invokestatic 44, 3) := by decide +kernel
theorem dX10_side_32 : decode cX10_side 32 = .ok (.ifCond .eq 13, 3) := by decide +kernel
theorem dX10_side_35 : decode cX10_side 35 = .ok (.iload 5, 2) := by decide +kernel
theorem dX10_side_37 : decode cX10_side 37 = .ok (.iconst 0, 1) := by decide +kernel
theorem dX10_side_38 : decode cX10_side 38 = .ok (.iconst 2, 1) := by decide +kernel
theorem dX10_side_39 : decode cX10_side 39 = .ok (.invokestatic 44, 3) := by decide +kernel
theorem dX10_side_42 : decode cX10_side 42 = .ok (.ifCond .ne 6, 3) := by decide +kernel
theorem dX10_side_45 : decode cX10_side 45 = .ok (.bipush (-2), 2) := by decide +kernel
theorem dX10_side_47 : decode cX10_side 47 = .ok (.ireturn, 1) := by decide +kernel
theorem dX10_side_48 : decode cX10_side 48 = .ok (.aload_n 0, 1) := by decide +kernel
theorem dX10_side_49 : decode cX10_side 49 = .ok (.iload_n 1, 1) := by decide +kernel
theorem dX10_side_50 : decode cX10_side 50 = .ok (.iload_n 2, 1) := by decide +kernel
theorem dX10_side_51 : decode cX10_side 51 = .ok (.iload_n 3, 1) := by decide +kernel
theorem dX10_side_52 : decode cX10_side 52 = .ok (.iload 4, 2) := by decide +kernel
theorem dX10_side_54 : decode cX10_side 54 = .ok (.invokevirtual 205, 3) := by decide +kernel
theorem dX10_side_57 : decode cX10_side 57 = .ok (.iload 5, 2) := by decide +kernel
theorem dX10_side_59 : decode cX10_side 59 = .ok (.ifCond .ne 10, 3) := by decide +kernel
theorem dX10_side_62 : decode cX10_side 62 = .ok (.aload_n 0, 1) := by decide +kernel
theorem dX10_side_63 : decode cX10_side 63 = .ok (.getfield 193, 3) := by decide +kernel
theorem dX10_side_66 : decode cX10_side 66 = .ok (.goto 28, 3) := by decide +kernel
theorem dX10_side_69 : decode cX10_side 69 = .ok (.iload 5, 2) := by decide +kernel
theorem dX10_side_71 : decode cX10_side 71 = .ok (.iconst 1, 1) := by decide +kernel
theorem dX10_side_72 : decode cX10_side 72 = .ok (.if_icmp .ne 10, 3) := by decide +kernel
theorem dX10_side_75 : decode cX10_side 75 = .ok (.aload_n 0, 1) := by decide +kernel
theorem dX10_side_76 : decode cX10_side 76 = .ok (.getfield 196, 3) := by decide +kernel
theorem dX10_side_79 : decode cX10_side 79 = .ok (.goto 15, 3) := by decide +kernel
theorem dX10_side_82 : decode cX10_side 82 = .ok (.aload_n 0, 1) := by decide +kernel
theorem dX10_side_83 : decode cX10_side 83 = .ok (.getfield 199, 3) := by decide +kernel
theorem dX10_side_86 : decode cX10_side 86 = .ok (.ifCond .eq 7, 3) := by decide +kernel
theorem dX10_side_89 : decode cX10_side 89 = .ok (.iconst 1, 1) := by decide +kernel
theorem dX10_side_90 : decode cX10_side 90 = .ok (.goto 4, 3) := by decide +kernel
theorem dX10_side_93 : decode cX10_side 93 = .ok (.iconst 0, 1) := by decide +kernel
theorem dX10_side_94 : decode cX10_side 94 = .ok (.ireturn, 1) := by decide +kernel
def f10_side (v0 : Nat) (v1 : Int32) (v2 : Int32) (v3 : Int32) (v4 : Int32) (v5 : Int32) (g : GS_) : Option (Int32 × GS_) :=
  bd_ (f10_isSheet v0 v1 v2 g) fun z2 g1 => if z2 = 0 then some ((-1 : Int32), g1) else bd_ (f10_isPrinter v0 v4 g1) fun z4 g3 => if z4 = 0 then some ((-1 : Int32), g3) else bd_ (f10_sidesOf v0 v1 g3) fun z6 g5 => bd_ (f10_in v3 (0 : Int32) (z6 - (1 : Int32)) g5) fun z8 g7 => if z8 = 0 then some ((-2 : Int32), g7) else bd_ (f10_in v5 (0 : Int32) (2 : Int32) g7) fun z10 g9 => if z10 = 0 then some ((-2 : Int32), g9) else bd_ (f10_laySide v0 v1 v2 v3 v4 g9) fun _ g11 => if v5 = 0 then some ((gfi g11 337 v0), g11) else if v5 = (1 : Int32) then some ((gfi g11 338 v0), g11) else if (gfi g11 339 v0) = 0 then some ((0 : Int32), g11) else some ((1 : Int32), g11)
theorem t10_side (v0 : Nat) (v1 : Int32) (v2 : Int32) (v3 : Int32) (v4 : Int32) (v5 : Int32) (g : GS_) : Cn_ yX10_side cX10_side 6 (some .int) 7 165 EI_ [.inr (10, some v0), .inl v1, .inl v2, .inl v3, .inl v4, .inl v5] g (f10_side v0 v1 v2 v3 v4 v5 g) := by
  refine k_method (own := RX10) (ini := false) (L1 := [some (.inr (10, some v0)), some (.inl v1), some (.inl v2), some (.inl v3), some (.inl v4), some (.inl v5)]) (by decide +kernel) rfl (fun h => by cases h) (Nat.le_of_ble_eq_true rfl) rfl ?_
  unfold f10_side
  refine k_aloadn (j := 0) dX10_side_0 rfl rfl ?_
  refine k_iloadn (j := 1) dX10_side_1 rfl rfl ?_
  refine k_iloadn (j := 2) dX10_side_2 rfl rfl ?_
  refine k_callVi [.inl v1, .inl v2] (t10_isSheet v0 v1 v2 g) cw_cX10_isSheet (Or.inl ml_10_155) rfl rfl (by decide) (by decide) (Nat.le_of_ble_eq_true rfl) dX10_side_3 (fun z2 g1 => ?_)
  refine k_ifeq (tgt := 18) dX10_side_6 (by decide) (fun _ => ?_) (fun _ => ?_)
  · refine k_iconst (v := (-1 : Int32)) dX10_side_18 rfl ?_
    exact k_ireturn rfl dX10_side_19
  refine k_aloadn (j := 0) dX10_side_9 rfl rfl ?_
  refine k_iload dX10_side_10 rfl ?_
  refine k_callVi [.inl v4] (t10_isPrinter v0 v4 g1) cw_cX10_isPrinter (Or.inl ml_10_187) rfl rfl (by decide) (by decide) (Nat.le_of_ble_eq_true rfl) dX10_side_12 (fun z4 g3 => ?_)
  refine k_ifne (tgt := 20) dX10_side_15 (by decide) (fun _ => ?_) (fun _ => ?_)
  · refine k_iconst (v := (-1 : Int32)) dX10_side_18 rfl ?_
    exact k_ireturn rfl dX10_side_19
  refine k_iloadn (j := 3) dX10_side_20 rfl rfl ?_
  refine k_iconst (v := (0 : Int32)) dX10_side_21 rfl ?_
  refine k_aloadn (j := 0) dX10_side_22 rfl rfl ?_
  refine k_iloadn (j := 1) dX10_side_23 rfl rfl ?_
  refine k_callVi [.inl v1] (t10_sidesOf v0 v1 g3) cw_cX10_sidesOf (Or.inl ml_10_142) rfl rfl (by decide) (by decide) (Nat.le_of_ble_eq_true rfl) dX10_side_24 (fun z6 g5 => ?_)
  refine k_iconst (v := (1 : Int32)) dX10_side_27 rfl ?_
  refine k_isub dX10_side_28 ?_
  refine k_callSi [.inl v3, .inl (0 : Int32), .inl (z6 - (1 : Int32))] (t10_in v3 (0 : Int32) (z6 - (1 : Int32)) g5) cw_cX10_in ml_10_44 rfl rfl (by decide) (by decide) (Nat.le_of_ble_eq_true rfl) dX10_side_29 (fun z8 g7 => ?_)
  refine k_ifeq (tgt := 45) dX10_side_32 (by decide) (fun _ => ?_) (fun _ => ?_)
  · refine k_bipush (v := (-2 : Int32)) dX10_side_45 rfl ?_
    exact k_ireturn rfl dX10_side_47
  refine k_iload dX10_side_35 rfl ?_
  refine k_iconst (v := (0 : Int32)) dX10_side_37 rfl ?_
  refine k_iconst (v := (2 : Int32)) dX10_side_38 rfl ?_
  refine k_callSi [.inl v5, .inl (0 : Int32), .inl (2 : Int32)] (t10_in v5 (0 : Int32) (2 : Int32) g7) cw_cX10_in ml_10_44 rfl rfl (by decide) (by decide) (Nat.le_of_ble_eq_true rfl) dX10_side_39 (fun z10 g9 => ?_)
  refine k_ifne (tgt := 48) dX10_side_42 (by decide) (fun _ => ?_) (fun _ => ?_)
  · refine k_bipush (v := (-2 : Int32)) dX10_side_45 rfl ?_
    exact k_ireturn rfl dX10_side_47
  refine k_aloadn (j := 0) dX10_side_48 rfl rfl ?_
  refine k_iloadn (j := 1) dX10_side_49 rfl rfl ?_
  refine k_iloadn (j := 2) dX10_side_50 rfl rfl ?_
  refine k_iloadn (j := 3) dX10_side_51 rfl rfl ?_
  refine k_iload dX10_side_52 rfl ?_
  refine k_callVv [.inl v1, .inl v2, .inl v3, .inl v4] (t10_laySide v0 v1 v2 v3 v4 g9) cw_cX10_laySide (Or.inl ml_10_205) rfl rfl (by decide) (by decide) (Nat.le_of_ble_eq_true rfl) dX10_side_54 (fun _ g11 => ?_)
  refine k_iload dX10_side_57 rfl ?_
  refine k_ifne (tgt := 69) dX10_side_59 (by decide) (fun _ => ?_) (fun _ => ?_)
  · refine k_aloadn (j := 0) dX10_side_62 rfl rfl ?_
    refine k_geti fg_10_193 rfl rfl dX10_side_63 ?_
    refine k_goto (tgt := 94) dX10_side_66 (by decide) ?_
    exact k_ireturn rfl dX10_side_94
  refine k_iload dX10_side_69 rfl ?_
  refine k_iconst (v := (1 : Int32)) dX10_side_71 rfl ?_
  refine k_icmpne (tgt := 82) dX10_side_72 (by decide) (fun _ => ?_) (fun _ => ?_)
  · refine k_aloadn (j := 0) dX10_side_75 rfl rfl ?_
    refine k_geti fg_10_196 rfl rfl dX10_side_76 ?_
    refine k_goto (tgt := 94) dX10_side_79 (by decide) ?_
    exact k_ireturn rfl dX10_side_94
  refine k_aloadn (j := 0) dX10_side_82 rfl rfl ?_
  refine k_geti fg_10_199 rfl rfl dX10_side_83 ?_
  refine k_ifeq (tgt := 93) dX10_side_86 (by decide) (fun _ => ?_) (fun _ => ?_)
  · refine k_iconst (v := (0 : Int32)) dX10_side_93 rfl ?_
    exact k_ireturn rfl dX10_side_94
  refine k_iconst (v := (1 : Int32)) dX10_side_89 rfl ?_
  refine k_goto (tgt := 94) dX10_side_90 (by decide) ?_
  exact k_ireturn rfl dX10_side_94
theorem dX10_ticksFor_0 : decode cX10_ticksFor 0 = .ok (.iconst 0, 1) := by decide +kernel
theorem dX10_ticksFor_1 : decode cX10_ticksFor 1 = .ok (.istore 4, 2) := by decide +kernel
theorem dX10_ticksFor_3 : decode cX10_ticksFor 3 = .ok (.iconst 0, 1) := by decide +kernel
theorem dX10_ticksFor_4 : decode cX10_ticksFor 4 = .ok (.istore 5, 2) := by decide +kernel
theorem dX10_ticksFor_6 : decode cX10_ticksFor 6 = .ok (.iload 5, 2) := by decide +kernel
theorem dX10_ticksFor_8 : decode cX10_ticksFor 8 = .ok (.aload_n 0, 1) := by decide +kernel
theorem dX10_ticksFor_9 : decode cX10_ticksFor 9 = .ok (.iload_n 1, 1) := by decide +kernel
theorem dX10_ticksFor_10 : decode cX10_ticksFor 10 = .ok (.invokevirtual 142, 3) := by decide +kernel
theorem dX10_ticksFor_13 : decode cX10_ticksFor 13 = .ok (.if_icmp .ge 45, 3) := by decide +kernel
theorem dX10_ticksFor_16 : decode cX10_ticksFor 16 = .ok (.aload_n 0, 1) := by decide +kernel
theorem dX10_ticksFor_17 : decode cX10_ticksFor 17 = .ok (.iload_n 1, 1) := by decide +kernel
theorem dX10_ticksFor_18 : decode cX10_ticksFor 18 = .ok (.iload_n 2, 1) := by decide +kernel
theorem dX10_ticksFor_19 : decode cX10_ticksFor 19 = .ok (.iload 5, 2) := by decide +kernel
theorem dX10_ticksFor_21 : decode cX10_ticksFor 21 = .ok (.iload_n 3, 1) := by decide +kernel
theorem dX10_ticksFor_22 : decode cX10_ticksFor 22 = .ok (.invokevirtual 205, 3) := by decide +kernel
theorem dX10_ticksFor_25 : decode cX10_ticksFor 25 = .ok (.iload 4, 2) := by decide +kernel
theorem dX10_ticksFor_27 : decode cX10_ticksFor 27 = .ok (.aload_n 0, 1) := by decide +kernel
theorem dX10_ticksFor_28 : decode cX10_ticksFor 28 = .ok (.getfield 196, 3) := by decide +kernel
theorem dX10_ticksFor_31 : decode cX10_ticksFor 31 = .ok (.ifCond .ne 7, 3) := by decide +kernel
theorem dX10_ticksFor_34 : decode cX10_ticksFor 34 = .ok (.iconst 0, 1) := by decide +kernel
theorem dX10_ticksFor_35 : decode cX10_ticksFor 35 = .ok (.goto 14, 3) := by decide +kernel
theorem dX10_ticksFor_38 : decode cX10_ticksFor 38 = .ok (.aload_n 0, 1) := by decide +kernel
theorem dX10_ticksFor_39 : decode cX10_ticksFor 39 = .ok (.iload_n 3, 1) := by decide +kernel
theorem dX10_ticksFor_40 : decode cX10_ticksFor 40 = .ok (.iconst 0, 1) := by decide +kernel
theorem dX10_ticksFor_41 : decode cX10_ticksFor 41 = .ok (.invokevirtual 190, 3) := by decide +kernel
theorem dX10_ticksFor_44 : decode cX10_ticksFor 44 = .ok (.aload_n 0, 1) := by decide +kernel
theorem dX10_ticksFor_45 : decode cX10_ticksFor 45 = .ok (.getfield 196, 3) := by decide +kernel
theorem dX10_ticksFor_48 : decode cX10_ticksFor 48 = .ok (.iadd, 1) := by decide +kernel
theorem dX10_ticksFor_49 : decode cX10_ticksFor 49 = .ok (.iadd, 1) := by decide +kernel
theorem dX10_ticksFor_50 : decode cX10_ticksFor 50 = .ok (.istore 4, 2) := by decide +kernel
theorem dX10_ticksFor_52 : decode cX10_ticksFor 52 = .ok (.iinc 5 1, 3) := by decide +kernel
theorem dX10_ticksFor_55 : decode cX10_ticksFor 55 = .ok (.goto (-49), 3) := by decide +kernel
theorem dX10_ticksFor_58 : decode cX10_ticksFor 58 = .ok (.iload 4, 2) := by decide +kernel
theorem dX10_ticksFor_60 : decode cX10_ticksFor 60 = .ok (.ireturn, 1) := by decide +kernel
def f10_ticksFor_b49 (c6 : Nat → Int32 → Int32 → Int32 → Int32 → Int32 → GS_ → Option (Int32 × GS_)) (v0 : Nat) (v1 : Int32) (v2 : Int32) (v3 : Int32) (v5 : Int32) (s0 : Int32) (s1 : Int32) (g : GS_) : Option (Int32 × GS_) :=
  lr_ (s0 + s1) fun z1 => c6 v0 v1 v2 v3 z1 (v5 + (1 : Int32)) g
theorem t10_ticksFor_b49 (c6 : Nat → Int32 → Int32 → Int32 → Int32 → Int32 → GS_ → Option (Int32 × GS_)) (h6 : ∀ (v0 : Nat) (v1 : Int32) (v2 : Int32) (v3 : Int32) (v4 : Int32) (v5 : Int32) (g : GS_), K_ RX10 cX10_ticksFor 6 (some .int) 7 165 false EI_ 6 [some (.inr (10, some v0)), some (.inl v1), some (.inl v2), some (.inl v3), some (.inl v4), some (.inl v5)] [] g (c6 v0 v1 v2 v3 v4 v5 g)) (v0 : Nat) (v1 : Int32) (v2 : Int32) (v3 : Int32) (v5 : Int32) (s0 : Int32) (s1 : Int32) (g : GS_) : K_ RX10 cX10_ticksFor 6 (some .int) 7 165 false EI_ 49 [some (.inr (10, some v0)), some (.inl v1), some (.inl v2), some (.inl v3), none, some (.inl v5)] [.inl s1, .inl s0] g (f10_ticksFor_b49 c6 v0 v1 v2 v3 v5 s0 s1 g) := by
  unfold f10_ticksFor_b49
  refine k_iadd dX10_ticksFor_49 ?_
  refine k_istl (L2 := fun z1 => [some (.inr (10, some v0)), some (.inl v1), some (.inl v2), some (.inl v3), some (.inl z1), some (.inl v5)]) dX10_ticksFor_50 (by decide) (fun _ => rfl) (fun z1 => ?_)
  refine k_iinc (v := (v5 + (1 : Int32))) (L' := [some (.inr (10, some v0)), some (.inl v1), some (.inl v2), some (.inl v3), some (.inl z1), some (.inl (v5 + (1 : Int32)))]) dX10_ticksFor_52 rfl rfl (by decide) rfl ?_
  refine k_goto (tgt := 6) dX10_ticksFor_55 (by decide) ?_
  exact h6 v0 v1 v2 v3 z1 (v5 + (1 : Int32)) g
def f10_ticksFor_b6 : Nat → Nat → Int32 → Int32 → Int32 → Int32 → Int32 → GS_ → Option (Int32 × GS_)
  | 0, _, _, _, _, _, _, _ => none
  | n + 1, v0, v1, v2, v3, v4, v5, g =>
    bd_ (f10_sidesOf v0 v1 g) fun z3 g2 => if z3 ≤ v5 then some (v4, g2) else bd_ (f10_laySide v0 v1 v2 v5 v3 g2) fun _ g4 => if (gfi g4 338 v0) = 0 then f10_ticksFor_b49 (f10_ticksFor_b6 n) v0 v1 v2 v3 v5 v4 (0 : Int32) g4 else bd_ (f10_ofPrinter v0 v3 (0 : Int32) g4) fun z6 g5 => f10_ticksFor_b49 (f10_ticksFor_b6 n) v0 v1 v2 v3 v5 v4 (z6 + (gfi g5 338 v0)) g5
theorem t10_ticksFor_b6 : ∀ (n : Nat) (v0 : Nat) (v1 : Int32) (v2 : Int32) (v3 : Int32) (v4 : Int32) (v5 : Int32) (g : GS_), K_ RX10 cX10_ticksFor 6 (some .int) 7 165 false EI_ 6 [some (.inr (10, some v0)), some (.inl v1), some (.inl v2), some (.inl v3), some (.inl v4), some (.inl v5)] [] g (f10_ticksFor_b6 n v0 v1 v2 v3 v4 v5 g) := by
  intro n
  induction n with
  | zero =>
    intro v0 v1 v2 v3 v4 v5 g
    exact k_fail
  | succ n ih =>
    intro v0 v1 v2 v3 v4 v5 g
    show K_ RX10 cX10_ticksFor 6 (some .int) 7 165 false EI_ 6 [some (.inr (10, some v0)), some (.inl v1), some (.inl v2), some (.inl v3), some (.inl v4), some (.inl v5)] [] g (bd_ (f10_sidesOf v0 v1 g) fun z3 g2 => if z3 ≤ v5 then some (v4, g2) else bd_ (f10_laySide v0 v1 v2 v5 v3 g2) fun _ g4 => if (gfi g4 338 v0) = 0 then f10_ticksFor_b49 (f10_ticksFor_b6 n) v0 v1 v2 v3 v5 v4 (0 : Int32) g4 else bd_ (f10_ofPrinter v0 v3 (0 : Int32) g4) fun z6 g5 => f10_ticksFor_b49 (f10_ticksFor_b6 n) v0 v1 v2 v3 v5 v4 (z6 + (gfi g5 338 v0)) g5)
    refine k_iload dX10_ticksFor_6 rfl ?_
    refine k_aloadn (j := 0) dX10_ticksFor_8 rfl rfl ?_
    refine k_iloadn (j := 1) dX10_ticksFor_9 rfl rfl ?_
    refine k_callVi [.inl v1] (t10_sidesOf v0 v1 g) cw_cX10_sidesOf (Or.inl ml_10_142) rfl rfl (by decide) (by decide) (Nat.le_of_ble_eq_true rfl) dX10_ticksFor_10 (fun z3 g2 => ?_)
    refine k_icmpge (tgt := 58) dX10_ticksFor_13 (by decide) (fun _ => ?_) (fun _ => ?_)
    · refine k_iload dX10_ticksFor_58 rfl ?_
      exact k_ireturn rfl dX10_ticksFor_60
    refine k_aloadn (j := 0) dX10_ticksFor_16 rfl rfl ?_
    refine k_iloadn (j := 1) dX10_ticksFor_17 rfl rfl ?_
    refine k_iloadn (j := 2) dX10_ticksFor_18 rfl rfl ?_
    refine k_iload dX10_ticksFor_19 rfl ?_
    refine k_iloadn (j := 3) dX10_ticksFor_21 rfl rfl ?_
    refine k_callVv [.inl v1, .inl v2, .inl v5, .inl v3] (t10_laySide v0 v1 v2 v5 v3 g2) cw_cX10_laySide (Or.inl ml_10_205) rfl rfl (by decide) (by decide) (Nat.le_of_ble_eq_true rfl) dX10_ticksFor_22 (fun _ g4 => ?_)
    refine k_iload dX10_ticksFor_25 rfl ?_
    refine k_aloadn (j := 0) dX10_ticksFor_27 rfl rfl ?_
    refine k_geti fg_10_196 rfl rfl dX10_ticksFor_28 ?_
    refine k_ifne (tgt := 38) dX10_ticksFor_31 (by decide) (fun _ => ?_) (fun _ => ?_)
    · refine k_iconst (v := (0 : Int32)) dX10_ticksFor_34 rfl ?_
      refine k_goto (tgt := 49) dX10_ticksFor_35 (by decide) ?_
      refine k_msk (L' := [some (.inr (10, some v0)), some (.inl v1), some (.inl v2), some (.inl v3), none, some (.inl v5)]) [true, true, true, true, false, true] rfl ?_
      exact t10_ticksFor_b49 (f10_ticksFor_b6 n) ih v0 v1 v2 v3 v5 v4 (0 : Int32) g4
    refine k_aloadn (j := 0) dX10_ticksFor_38 rfl rfl ?_
    refine k_iloadn (j := 3) dX10_ticksFor_39 rfl rfl ?_
    refine k_iconst (v := (0 : Int32)) dX10_ticksFor_40 rfl ?_
    refine k_callVi [.inl v3, .inl (0 : Int32)] (t10_ofPrinter v0 v3 (0 : Int32) g4) cw_cX10_ofPrinter (Or.inl ml_10_190) rfl rfl (by decide) (by decide) (Nat.le_of_ble_eq_true rfl) dX10_ticksFor_41 (fun z6 g5 => ?_)
    refine k_aloadn (j := 0) dX10_ticksFor_44 rfl rfl ?_
    refine k_geti fg_10_196 rfl rfl dX10_ticksFor_45 ?_
    refine k_iadd dX10_ticksFor_48 ?_
    refine k_msk (L' := [some (.inr (10, some v0)), some (.inl v1), some (.inl v2), some (.inl v3), none, some (.inl v5)]) [true, true, true, true, false, true] rfl ?_
    exact t10_ticksFor_b49 (f10_ticksFor_b6 n) ih v0 v1 v2 v3 v5 v4 (z6 + (gfi g5 338 v0)) g5
def f10_ticksFor (v0 : Nat) (v1 : Int32) (v2 : Int32) (v3 : Int32) (g : GS_) : Option (Int32 × GS_) :=
  f10_ticksFor_b6 FU_ v0 v1 v2 v3 (0 : Int32) (0 : Int32) g
theorem t10_ticksFor (v0 : Nat) (v1 : Int32) (v2 : Int32) (v3 : Int32) (g : GS_) : Cn_ yX10_ticksFor cX10_ticksFor 6 (some .int) 7 165 EI_ [.inr (10, some v0), .inl v1, .inl v2, .inl v3] g (f10_ticksFor v0 v1 v2 v3 g) := by
  refine k_method (own := RX10) (ini := false) (L1 := [some (.inr (10, some v0)), some (.inl v1), some (.inl v2), some (.inl v3), none, none]) (by decide +kernel) rfl (fun h => by cases h) (Nat.le_of_ble_eq_true rfl) rfl ?_
  unfold f10_ticksFor
  refine k_iconst (v := (0 : Int32)) dX10_ticksFor_0 rfl ?_
  refine k_ist (L' := [some (.inr (10, some v0)), some (.inl v1), some (.inl v2), some (.inl v3), some (.inl (0 : Int32)), none]) dX10_ticksFor_1 (by decide) rfl ?_
  refine k_iconst (v := (0 : Int32)) dX10_ticksFor_3 rfl ?_
  refine k_ist (L' := [some (.inr (10, some v0)), some (.inl v1), some (.inl v2), some (.inl v3), some (.inl (0 : Int32)), some (.inl (0 : Int32))]) dX10_ticksFor_4 (by decide) rfl ?_
  exact t10_ticksFor_b6 FU_ v0 v1 v2 v3 (0 : Int32) (0 : Int32) g
theorem dX10_duration_0 : decode cX10_duration 0 = .ok (.aload_n 0, 1) := by decide +kernel
theorem dX10_duration_1 : decode cX10_duration 1 = .ok (.iload_n 1, 1) := by decide +kernel
theorem dX10_duration_2 : decode cX10_duration 2 = .ok (.invokevirtual 149, 3) := by decide +kernel
theorem dX10_duration_5 : decode cX10_duration 5 = .ok (.ifCond .eq 11, 3) := by decide +kernel
theorem dX10_duration_8 : decode cX10_duration 8 = .ok (.aload_n 0, 1) := by decide +kernel
theorem dX10_duration_9 : decode cX10_duration 9 = .ok (.iload_n 2, 1) := by decide +kernel
theorem dX10_duration_10 : decode cX10_duration 10 = .ok (.invokevirtual 187, 3) := by decide +kernel
theorem dX10_duration_13 : decode cX10_duration 13 = .ok (.ifCond .ne 5, 3) := by decide +kernel
theorem dX10_duration_16 : decode cX10_duration 16 = .ok (.iconst (-1), 1) := by decide +kernel
theorem dX10_duration_17 : decode cX10_duration 17 = .ok (.ireturn, 1) := by decide +kernel
theorem dX10_duration_18 : decode cX10_duration 18 = .ok (.iconst 0, 1) := by decide +kernel
theorem dX10_duration_19 : decode cX10_duration 19 = .ok (.istore_n 3, 1) := by decide +kernel
theorem dX10_duration_20 : decode cX10_duration 20 = .ok (.iconst 0, 1) := by decide +kernel
theorem dX10_duration_21 : decode cX10_duration 21 = .ok (.istore 4, 2) := by decide +kernel
theorem dX10_duration_23 : decode cX10_duration 23 = .ok (.iload 4, 2) := by decide +kernel
theorem dX10_duration_25 : decode cX10_duration 25 = .ok (.aload_n 0, 1) := by decide +kernel
theorem dX10_duration_26 : decode cX10_duration 26 = .ok (.iload_n 1, 1) := by decide +kernel
theorem dX10_duration_27 : decode cX10_duration 27 = .ok (.bipush 8, 2) := by decide +kernel
theorem dX10_duration_29 : decode cX10_duration 29 = .ok (.invokevirtual 133, 3) := by decide +kernel
theorem dX10_duration_32 : decode cX10_duration 32 = .ok (.if_icmp .ge 20, 3) := by decide +kernel
theorem dX10_duration_35 : decode cX10_duration 35 = .ok (.iload_n 3, 1) := by decide +kernel
theorem dX10_duration_36 : decode cX10_duration 36 = .ok (.aload_n 0, 1) := by decide +kernel
theorem dX10_duration_37 : decode cX10_duration 37 = .ok (.iload_n 1, 1) := by decide +kernel
theorem dX10_duration_38 : decode cX10_duration 38 = .ok (.iload 4, 2) := by decide +kernel
theorem dX10_duration_40 : decode cX10_duration 40 = .ok (.iload_n 2, 1) := by decide +kernel
theorem dX10_duration_41 : decode cX10_duration 41 = .ok (.invokevirtual 208, 3) := by decide +kernel
theorem dX10_duration_44 : decode cX10_duration 44 = .ok (.iadd, 1) := by decide +kernel
theorem dX10_duration_45 : decode cX10_duration 45 = .ok (.istore_n 3, 1) := by decide +kernel
theorem dX10_duration_46 : decode cX10_duration 46 = .ok (.iinc 4 1, 3) := by decide +kernel
theorem dX10_duration_49 : decode cX10_duration 49 = .ok (.goto (-26), 3) := by decide +kernel
theorem dX10_duration_52 : decode cX10_duration 52 = .ok (.iload_n 3, 1) := by decide +kernel
theorem dX10_duration_53 : decode cX10_duration 53 = .ok (.ireturn, 1) := by decide +kernel
def f10_duration_b23 : Nat → Nat → Int32 → Int32 → Int32 → Int32 → GS_ → Option (Int32 × GS_)
  | 0, _, _, _, _, _, _ => none
  | n + 1, v0, v1, v2, v3, v4, g =>
    bd_ (f10_ofJob v0 v1 (8 : Int32) g) fun z2 g1 => if z2 ≤ v4 then some (v3, g1) else bd_ (f10_ticksFor v0 v1 v4 v2 g1) fun z4 g3 => lr_ (v3 + z4) fun z5 => (f10_duration_b23 n) v0 v1 v2 z5 (v4 + (1 : Int32)) g3
theorem t10_duration_b23 : ∀ (n : Nat) (v0 : Nat) (v1 : Int32) (v2 : Int32) (v3 : Int32) (v4 : Int32) (g : GS_), K_ RX10 cX10_duration 5 (some .int) 8 190 false EI_ 23 [some (.inr (10, some v0)), some (.inl v1), some (.inl v2), some (.inl v3), some (.inl v4)] [] g (f10_duration_b23 n v0 v1 v2 v3 v4 g) := by
  intro n
  induction n with
  | zero =>
    intro v0 v1 v2 v3 v4 g
    exact k_fail
  | succ n ih =>
    intro v0 v1 v2 v3 v4 g
    show K_ RX10 cX10_duration 5 (some .int) 8 190 false EI_ 23 [some (.inr (10, some v0)), some (.inl v1), some (.inl v2), some (.inl v3), some (.inl v4)] [] g (bd_ (f10_ofJob v0 v1 (8 : Int32) g) fun z2 g1 => if z2 ≤ v4 then some (v3, g1) else bd_ (f10_ticksFor v0 v1 v4 v2 g1) fun z4 g3 => lr_ (v3 + z4) fun z5 => (f10_duration_b23 n) v0 v1 v2 z5 (v4 + (1 : Int32)) g3)
    refine k_iload dX10_duration_23 rfl ?_
    refine k_aloadn (j := 0) dX10_duration_25 rfl rfl ?_
    refine k_iloadn (j := 1) dX10_duration_26 rfl rfl ?_
    refine k_bipush (v := (8 : Int32)) dX10_duration_27 rfl ?_
    refine k_callVi [.inl v1, .inl (8 : Int32)] (t10_ofJob v0 v1 (8 : Int32) g) cw_cX10_ofJob (Or.inl ml_10_133) rfl rfl (by decide) (by decide) (Nat.le_of_ble_eq_true rfl) dX10_duration_29 (fun z2 g1 => ?_)
    refine k_icmpge (tgt := 52) dX10_duration_32 (by decide) (fun _ => ?_) (fun _ => ?_)
    · refine k_iloadn (j := 3) dX10_duration_52 rfl rfl ?_
      exact k_ireturn rfl dX10_duration_53
    refine k_iloadn (j := 3) dX10_duration_35 rfl rfl ?_
    refine k_aloadn (j := 0) dX10_duration_36 rfl rfl ?_
    refine k_iloadn (j := 1) dX10_duration_37 rfl rfl ?_
    refine k_iload dX10_duration_38 rfl ?_
    refine k_iloadn (j := 2) dX10_duration_40 rfl rfl ?_
    refine k_callVi [.inl v1, .inl v4, .inl v2] (t10_ticksFor v0 v1 v4 v2 g1) cw_cX10_ticksFor (Or.inl ml_10_208) rfl rfl (by decide) (by decide) (Nat.le_of_ble_eq_true rfl) dX10_duration_41 (fun z4 g3 => ?_)
    refine k_iadd dX10_duration_44 ?_
    refine k_istnl (j := 3) (L2 := fun z5 => [some (.inr (10, some v0)), some (.inl v1), some (.inl v2), some (.inl z5), some (.inl v4)]) dX10_duration_45 rfl (by decide) (fun _ => rfl) (fun z5 => ?_)
    refine k_iinc (v := (v4 + (1 : Int32))) (L' := [some (.inr (10, some v0)), some (.inl v1), some (.inl v2), some (.inl z5), some (.inl (v4 + (1 : Int32)))]) dX10_duration_46 rfl rfl (by decide) rfl ?_
    refine k_goto (tgt := 23) dX10_duration_49 (by decide) ?_
    exact ih v0 v1 v2 z5 (v4 + (1 : Int32)) g3
def f10_duration (v0 : Nat) (v1 : Int32) (v2 : Int32) (g : GS_) : Option (Int32 × GS_) :=
  bd_ (f10_isJob v0 v1 g) fun z7 g6 => if z7 = 0 then some ((-1 : Int32), g6) else bd_ (f10_isPrinter v0 v2 g6) fun z9 g8 => if z9 = 0 then some ((-1 : Int32), g8) else f10_duration_b23 FU_ v0 v1 v2 (0 : Int32) (0 : Int32) g8
theorem t10_duration (v0 : Nat) (v1 : Int32) (v2 : Int32) (g : GS_) : Cn_ yX10_duration cX10_duration 5 (some .int) 8 190 EI_ [.inr (10, some v0), .inl v1, .inl v2] g (f10_duration v0 v1 v2 g) := by
  refine k_method (own := RX10) (ini := false) (L1 := [some (.inr (10, some v0)), some (.inl v1), some (.inl v2), none, none]) (by decide +kernel) rfl (fun h => by cases h) (Nat.le_of_ble_eq_true rfl) rfl ?_
  unfold f10_duration
  refine k_aloadn (j := 0) dX10_duration_0 rfl rfl ?_
  refine k_iloadn (j := 1) dX10_duration_1 rfl rfl ?_
  refine k_callVi [.inl v1] (t10_isJob v0 v1 g) cw_cX10_isJob (Or.inl ml_10_149) rfl rfl (by decide) (by decide) (Nat.le_of_ble_eq_true rfl) dX10_duration_2 (fun z7 g6 => ?_)
  refine k_ifeq (tgt := 16) dX10_duration_5 (by decide) (fun _ => ?_) (fun _ => ?_)
  · refine k_iconst (v := (-1 : Int32)) dX10_duration_16 rfl ?_
    exact k_ireturn rfl dX10_duration_17
  refine k_aloadn (j := 0) dX10_duration_8 rfl rfl ?_
  refine k_iloadn (j := 2) dX10_duration_9 rfl rfl ?_
  refine k_callVi [.inl v2] (t10_isPrinter v0 v2 g6) cw_cX10_isPrinter (Or.inl ml_10_187) rfl rfl (by decide) (by decide) (Nat.le_of_ble_eq_true rfl) dX10_duration_10 (fun z9 g8 => ?_)
  refine k_ifne (tgt := 18) dX10_duration_13 (by decide) (fun _ => ?_) (fun _ => ?_)
  · refine k_iconst (v := (-1 : Int32)) dX10_duration_16 rfl ?_
    exact k_ireturn rfl dX10_duration_17
  refine k_iconst (v := (0 : Int32)) dX10_duration_18 rfl ?_
  refine k_istn (j := 3) (L' := [some (.inr (10, some v0)), some (.inl v1), some (.inl v2), some (.inl (0 : Int32)), none]) dX10_duration_19 rfl (by decide) rfl ?_
  refine k_iconst (v := (0 : Int32)) dX10_duration_20 rfl ?_
  refine k_ist (L' := [some (.inr (10, some v0)), some (.inl v1), some (.inl v2), some (.inl (0 : Int32)), some (.inl (0 : Int32))]) dX10_duration_21 (by decide) rfl ?_
  exact t10_duration_b23 FU_ v0 v1 v2 (0 : Int32) (0 : Int32) g8
theorem dX10_setRules_0 : decode cX10_setRules 0 = .ok (.iload_n 1, 1) := by decide +kernel
theorem dX10_setRules_1 : decode cX10_setRules 1 = .ok (.iconst 1, 1) := by decide +kernel
theorem dX10_setRules_2 : decode cX10_setRules 2 = .ok (.sipush 1000, 3) := by decide +kernel
theorem dX10_setRules_5 : decode cX10_setRules 5 = .ok (.invokestatic 44, 3) := by decide +kernel
theorem dX10_setRules_8 : decode cX10_setRules 8 = .ok (.ifCond .eq 14, 3) := by decide +kernel
theorem dX10_setRules_11 : decode cX10_setRules 11 = .ok (.iload_n 2, 1) := by decide +kernel
theorem dX10_setRules_12 : decode cX10_setRules 12 = .ok (.iconst 0, 1) := by decide +kernel
theorem dX10_setRules_13 : decode cX10_setRules 13 = .ok (.sipush 1000, 3) := by decide +kernel
theorem dX10_setRules_16 : decode cX10_setRules 16 = .ok (.invokestatic 44, 3) := by decide +kernel
theorem dX10_setRules_19 : decode cX10_setRules 19 = .ok (.ifCond .ne 6, 3) := by decide +kernel
theorem dX10_setRules_22 : decode cX10_setRules 22 = .ok (.bipush (-2), 2) := by decide +kernel
theorem dX10_setRules_24 : decode cX10_setRules 24 = .ok (.ireturn, 1) := by decide +kernel
theorem dX10_setRules_25 : decode cX10_setRules 25 = .ok (.aload_n 0, 1) := by decide +kernel
theorem dX10_setRules_26 : decode cX10_setRules 26 = .ok (.getfield 7, 3) := by decide +kernel
theorem dX10_setRules_29 : decode cX10_setRules 29 = .ok (.iconst 1, 1) := by decide +kernel
theorem dX10_setRules_30 : decode cX10_setRules 30 = .ok (.iaload, 1) := by decide +kernel
theorem dX10_setRules_31 : decode cX10_setRules 31 = .ok (.istore_n 3, 1) := by decide +kernel
theorem dX10_setRules_32 : decode cX10_setRules 32 = .ok (.aload_n 0, 1) := by decide +kernel
theorem dX10_setRules_33 : decode cX10_setRules 33 = .ok (.getfield 7, 3) := by decide +kernel
theorem dX10_setRules_36 : decode cX10_setRules 36 = .ok (.iconst 1, 1) := by decide +kernel
theorem dX10_setRules_37 : decode cX10_setRules 37 = .ok (.iload_n 1, 1) := by decide +kernel
theorem dX10_setRules_38 : decode cX10_setRules 38 = .ok (.iastore, 1) := by decide +kernel
theorem dX10_setRules_39 : decode cX10_setRules 39 = .ok (.aload_n 0, 1) := by decide +kernel
theorem dX10_setRules_40 : decode cX10_setRules 40 = .ok (.getfield 7, 3) := by decide +kernel
theorem dX10_setRules_43 : decode cX10_setRules 43 = .ok (.iconst 2, 1) := by decide +kernel
theorem dX10_setRules_44 : decode cX10_setRules 44 = .ok (.iload_n 2, 1) := by decide +kernel
theorem dX10_setRules_45 : decode cX10_setRules 45 = .ok (.iastore, 1) := by decide +kernel
theorem dX10_setRules_46 : decode cX10_setRules 46 = .ok (.iload_n 3, 1) := by decide +kernel
theorem dX10_setRules_47 : decode cX10_setRules 47 = .ok (.ireturn, 1) := by decide +kernel
def f10_setRules (v0 : Nat) (v1 : Int32) (v2 : Int32) (g : GS_) : Option (Int32 × GS_) :=
  bd_ (f10_in v1 (1 : Int32) (1000 : Int32) g) fun z2 g1 => if z2 = 0 then some ((-2 : Int32), g1) else bd_ (f10_in v2 (0 : Int32) (1000 : Int32) g1) fun z4 g3 => if z4 = 0 then some ((-2 : Int32), g3) else lr_ (gfr g3 320 v0) fun x5 => oc_ x5 none fun a6 => if inb (1 : Int32) (gln g3 20 a6) then lr_ (gai g3 20 a6 (1 : Int32).toInt.toNat) fun z7 => lr_ (gfr g3 320 v0) fun x8 => oc_ x8 none fun a9 => if inb (1 : Int32) (gln g3 20 a9) then lr_ (sai g3 20 a9 (1 : Int32).toInt.toNat v1) (fun g10 => lr_ (gfr g10 320 v0) fun x11 => oc_ x11 none fun a12 => if inb (2 : Int32) (gln g10 20 a12) then lr_ (sai g10 20 a12 (2 : Int32).toInt.toNat v2) (fun g13 => some (z7, g13)) else none) else none else none
theorem t10_setRules (v0 : Nat) (v1 : Int32) (v2 : Int32) (g : GS_) : Cn_ yX10_setRules cX10_setRules 4 (some .int) 1 22 EI_ [.inr (10, some v0), .inl v1, .inl v2] g (f10_setRules v0 v1 v2 g) := by
  refine k_method (own := RX10) (ini := false) (L1 := [some (.inr (10, some v0)), some (.inl v1), some (.inl v2), none]) (by decide +kernel) rfl (fun h => by cases h) (Nat.le_of_ble_eq_true rfl) rfl ?_
  unfold f10_setRules
  refine k_iloadn (j := 1) dX10_setRules_0 rfl rfl ?_
  refine k_iconst (v := (1 : Int32)) dX10_setRules_1 rfl ?_
  refine k_sipush (v := (1000 : Int32)) dX10_setRules_2 rfl ?_
  refine k_callSi [.inl v1, .inl (1 : Int32), .inl (1000 : Int32)] (t10_in v1 (1 : Int32) (1000 : Int32) g) cw_cX10_in ml_10_44 rfl rfl (by decide) (by decide) (Nat.le_of_ble_eq_true rfl) dX10_setRules_5 (fun z2 g1 => ?_)
  refine k_ifeq (tgt := 22) dX10_setRules_8 (by decide) (fun _ => ?_) (fun _ => ?_)
  · refine k_bipush (v := (-2 : Int32)) dX10_setRules_22 rfl ?_
    exact k_ireturn rfl dX10_setRules_24
  refine k_iloadn (j := 2) dX10_setRules_11 rfl rfl ?_
  refine k_iconst (v := (0 : Int32)) dX10_setRules_12 rfl ?_
  refine k_sipush (v := (1000 : Int32)) dX10_setRules_13 rfl ?_
  refine k_callSi [.inl v2, .inl (0 : Int32), .inl (1000 : Int32)] (t10_in v2 (0 : Int32) (1000 : Int32) g1) cw_cX10_in ml_10_44 rfl rfl (by decide) (by decide) (Nat.le_of_ble_eq_true rfl) dX10_setRules_16 (fun z4 g3 => ?_)
  refine k_ifne (tgt := 25) dX10_setRules_19 (by decide) (fun _ => ?_) (fun _ => ?_)
  · refine k_bipush (v := (-2 : Int32)) dX10_setRules_22 rfl ?_
    exact k_ireturn rfl dX10_setRules_24
  refine k_aloadn (j := 0) dX10_setRules_25 rfl rfl ?_
  refine k_getr fg_10_7 rfl rfl dX10_setRules_26 (fun x5 => ?_)
  refine k_iconst (v := (1 : Int32)) dX10_setRules_29 rfl ?_
  rcases x5 with _ | a6
  · exact k_ocn
  refine k_ocs ?_
  refine k_iald dX10_setRules_30 ?_
  refine k_istnl (j := 3) (L2 := fun z7 => [some (.inr (10, some v0)), some (.inl v1), some (.inl v2), some (.inl z7)]) dX10_setRules_31 rfl (by decide) (fun _ => rfl) (fun z7 => ?_)
  refine k_aloadn (j := 0) dX10_setRules_32 rfl rfl ?_
  refine k_getr fg_10_7 rfl rfl dX10_setRules_33 (fun x8 => ?_)
  refine k_iconst (v := (1 : Int32)) dX10_setRules_36 rfl ?_
  refine k_iloadn (j := 1) dX10_setRules_37 rfl rfl ?_
  rcases x8 with _ | a9
  · exact k_ocn
  refine k_ocs ?_
  refine k_iast dX10_setRules_38 (fun g10 => ?_)
  refine k_aloadn (j := 0) dX10_setRules_39 rfl rfl ?_
  refine k_getr fg_10_7 rfl rfl dX10_setRules_40 (fun x11 => ?_)
  refine k_iconst (v := (2 : Int32)) dX10_setRules_43 rfl ?_
  refine k_iloadn (j := 2) dX10_setRules_44 rfl rfl ?_
  rcases x11 with _ | a12
  · exact k_ocn
  refine k_ocs ?_
  refine k_iast dX10_setRules_45 (fun g13 => ?_)
  refine k_iloadn (j := 3) dX10_setRules_46 rfl rfl ?_
  exact k_ireturn rfl dX10_setRules_47
theorem dX10_setQuota_0 : decode cX10_setQuota 0 = .ok (.iload_n 1, 1) := by decide +kernel
theorem dX10_setQuota_1 : decode cX10_setQuota 1 = .ok (.invokestatic 120, 3) := by decide +kernel
theorem dX10_setQuota_4 : decode cX10_setQuota 4 = .ok (.ifCond .ne 5, 3) := by decide +kernel
theorem dX10_setQuota_7 : decode cX10_setQuota 7 = .ok (.iconst (-1), 1) := by decide +kernel
theorem dX10_setQuota_8 : decode cX10_setQuota 8 = .ok (.ireturn, 1) := by decide +kernel
theorem dX10_setQuota_9 : decode cX10_setQuota 9 = .ok (.iload_n 2, 1) := by decide +kernel
theorem dX10_setQuota_10 : decode cX10_setQuota 10 = .ok (.iconst 0, 1) := by decide +kernel
theorem dX10_setQuota_11 : decode cX10_setQuota 11 = .ok (.sipush 10000, 3) := by decide +kernel
theorem dX10_setQuota_14 : decode cX10_setQuota 14 = .ok (.invokestatic 44, 3) := by decide +kernel
theorem dX10_setQuota_17 : decode cX10_setQuota 17 = .ok (.ifCond .ne 6, 3) := by decide +kernel
theorem dX10_setQuota_20 : decode cX10_setQuota 20 = .ok (.bipush (-2), 2) := by decide +kernel
theorem dX10_setQuota_22 : decode cX10_setQuota 22 = .ok (.ireturn, 1) := by decide +kernel
theorem dX10_setQuota_23 : decode cX10_setQuota 23 = .ok (.aload_n 0, 1) := by decide +kernel
theorem dX10_setQuota_24 : decode cX10_setQuota 24 = .ok (.getfield 7, 3) := by decide +kernel
theorem dX10_setQuota_27 : decode cX10_setQuota 27 = .ok (.bipush 14, 2) := by decide +kernel
theorem dX10_setQuota_29 : decode cX10_setQuota 29 = .ok (.iload_n 1, 1) := by decide +kernel
theorem dX10_setQuota_30 : decode cX10_setQuota 30 = .ok (.iadd, 1) := by decide +kernel
theorem dX10_setQuota_31 : decode cX10_setQuota 31 = .ok (.iaload, 1) := by decide +kernel
theorem dX10_setQuota_32 : decode cX10_setQuota 32 = .ok (.istore_n 3, 1) := by decide +kernel
theorem dX10_setQuota_33 : decode cX10_setQuota 33 = .ok (.aload_n 0, 1) := by decide +kernel
theorem dX10_setQuota_34 : decode cX10_setQuota 34 = .ok (.getfield 7, 3) := by decide +kernel
theorem dX10_setQuota_37 : decode cX10_setQuota 37 = .ok (.bipush 14, 2) := by decide +kernel
theorem dX10_setQuota_39 : decode cX10_setQuota 39 = .ok (.iload_n 1, 1) := by decide +kernel
theorem dX10_setQuota_40 : decode cX10_setQuota 40 = .ok (.iadd, 1) := by decide +kernel
theorem dX10_setQuota_41 : decode cX10_setQuota 41 = .ok (.iload_n 2, 1) := by decide +kernel
theorem dX10_setQuota_42 : decode cX10_setQuota 42 = .ok (.iastore, 1) := by decide +kernel
theorem dX10_setQuota_43 : decode cX10_setQuota 43 = .ok (.iload_n 3, 1) := by decide +kernel
theorem dX10_setQuota_44 : decode cX10_setQuota 44 = .ok (.ireturn, 1) := by decide +kernel
def f10_setQuota (v0 : Nat) (v1 : Int32) (v2 : Int32) (g : GS_) : Option (Int32 × GS_) :=
  bd_ (f10_isUser v1 g) fun z2 g1 => if z2 = 0 then some ((-1 : Int32), g1) else bd_ (f10_in v2 (0 : Int32) (10000 : Int32) g1) fun z4 g3 => if z4 = 0 then some ((-2 : Int32), g3) else lr_ (gfr g3 320 v0) fun x5 => oc_ x5 none fun a6 => if inb ((14 : Int32) + v1) (gln g3 20 a6) then lr_ (gai g3 20 a6 ((14 : Int32) + v1).toInt.toNat) fun z7 => lr_ (gfr g3 320 v0) fun x8 => oc_ x8 none fun a9 => if inb ((14 : Int32) + v1) (gln g3 20 a9) then lr_ (sai g3 20 a9 ((14 : Int32) + v1).toInt.toNat v2) (fun g10 => some (z7, g10)) else none else none
theorem t10_setQuota (v0 : Nat) (v1 : Int32) (v2 : Int32) (g : GS_) : Cn_ yX10_setQuota cX10_setQuota 4 (some .int) 2 42 EI_ [.inr (10, some v0), .inl v1, .inl v2] g (f10_setQuota v0 v1 v2 g) := by
  refine k_method (own := RX10) (ini := false) (L1 := [some (.inr (10, some v0)), some (.inl v1), some (.inl v2), none]) (by decide +kernel) rfl (fun h => by cases h) (Nat.le_of_ble_eq_true rfl) rfl ?_
  unfold f10_setQuota
  refine k_iloadn (j := 1) dX10_setQuota_0 rfl rfl ?_
  refine k_callSi [.inl v1] (t10_isUser v1 g) cw_cX10_isUser ml_10_120 rfl rfl (by decide) (by decide) (Nat.le_of_ble_eq_true rfl) dX10_setQuota_1 (fun z2 g1 => ?_)
  refine k_ifne (tgt := 9) dX10_setQuota_4 (by decide) (fun _ => ?_) (fun _ => ?_)
  · refine k_iconst (v := (-1 : Int32)) dX10_setQuota_7 rfl ?_
    exact k_ireturn rfl dX10_setQuota_8
  refine k_iloadn (j := 2) dX10_setQuota_9 rfl rfl ?_
  refine k_iconst (v := (0 : Int32)) dX10_setQuota_10 rfl ?_
  refine k_sipush (v := (10000 : Int32)) dX10_setQuota_11 rfl ?_
  refine k_callSi [.inl v2, .inl (0 : Int32), .inl (10000 : Int32)] (t10_in v2 (0 : Int32) (10000 : Int32) g1) cw_cX10_in ml_10_44 rfl rfl (by decide) (by decide) (Nat.le_of_ble_eq_true rfl) dX10_setQuota_14 (fun z4 g3 => ?_)
  refine k_ifne (tgt := 23) dX10_setQuota_17 (by decide) (fun _ => ?_) (fun _ => ?_)
  · refine k_bipush (v := (-2 : Int32)) dX10_setQuota_20 rfl ?_
    exact k_ireturn rfl dX10_setQuota_22
  refine k_aloadn (j := 0) dX10_setQuota_23 rfl rfl ?_
  refine k_getr fg_10_7 rfl rfl dX10_setQuota_24 (fun x5 => ?_)
  refine k_bipush (v := (14 : Int32)) dX10_setQuota_27 rfl ?_
  refine k_iloadn (j := 1) dX10_setQuota_29 rfl rfl ?_
  refine k_iadd dX10_setQuota_30 ?_
  rcases x5 with _ | a6
  · exact k_ocn
  refine k_ocs ?_
  refine k_iald dX10_setQuota_31 ?_
  refine k_istnl (j := 3) (L2 := fun z7 => [some (.inr (10, some v0)), some (.inl v1), some (.inl v2), some (.inl z7)]) dX10_setQuota_32 rfl (by decide) (fun _ => rfl) (fun z7 => ?_)
  refine k_aloadn (j := 0) dX10_setQuota_33 rfl rfl ?_
  refine k_getr fg_10_7 rfl rfl dX10_setQuota_34 (fun x8 => ?_)
  refine k_bipush (v := (14 : Int32)) dX10_setQuota_37 rfl ?_
  refine k_iloadn (j := 1) dX10_setQuota_39 rfl rfl ?_
  refine k_iadd dX10_setQuota_40 ?_
  refine k_iloadn (j := 2) dX10_setQuota_41 rfl rfl ?_
  rcases x8 with _ | a9
  · exact k_ocn
  refine k_ocs ?_
  refine k_iast dX10_setQuota_42 (fun g10 => ?_)
  refine k_iloadn (j := 3) dX10_setQuota_43 rfl rfl ?_
  exact k_ireturn rfl dX10_setQuota_44
theorem dX10_isOver_0 : decode cX10_isOver 0 = .ok (.aload_n 0, 1) := by decide +kernel
theorem dX10_isOver_1 : decode cX10_isOver 1 = .ok (.iload_n 1, 1) := by decide +kernel
theorem dX10_isOver_2 : decode cX10_isOver 2 = .ok (.bipush 9, 2) := by decide +kernel
theorem dX10_isOver_4 : decode cX10_isOver 4 = .ok (.invokevirtual 133, 3) := by decide +kernel
theorem dX10_isOver_7 : decode cX10_isOver 7 = .ok (.iconst 3, 1) := by decide +kernel
theorem dX10_isOver_8 : decode cX10_isOver 8 = .ok (.if_icmp .eq 14, 3) := by decide +kernel
theorem dX10_isOver_11 : decode cX10_isOver 11 = .ok (.aload_n 0, 1) := by decide +kernel
theorem dX10_isOver_12 : decode cX10_isOver 12 = .ok (.iload_n 1, 1) := by decide +kernel
theorem dX10_isOver_13 : decode cX10_isOver 13 = .ok (.bipush 9, 2) := by decide +kernel
theorem dX10_isOver_15 : decode cX10_isOver 15 = .ok (.invokevirtual 133, 3) := by decide +kernel
theorem dX10_isOver_18 : decode cX10_isOver 18 = .ok (.iconst 4, 1) := by decide +kernel
theorem dX10_isOver_19 : decode cX10_isOver 19 = .ok (.if_icmp .ne 7, 3) := by decide +kernel
theorem dX10_isOver_22 : decode cX10_isOver 22 = .ok (.iconst 1, 1) := by decide +kernel
theorem dX10_isOver_23 : decode cX10_isOver 23 = .ok (.goto 4, 3) := by decide +kernel
theorem dX10_isOver_26 : decode cX10_isOver 26 = .ok (.iconst 0, 1) := by decide +kernel
theorem dX10_isOver_27 : decode cX10_isOver 27 = .ok (.ireturn, 1) := by decide +kernel
def f10_isOver_b22 (g : GS_) : Option (Int32 × GS_) :=
  some ((1 : Int32), g)
theorem t10_isOver_b22 (g : GS_) : K_ RX10 cX10_isOver 2 (some .boolean) 1 22 false EI_ 22 [none, none] [] g (f10_isOver_b22 g) := by
  unfold f10_isOver_b22
  refine k_iconst (v := (1 : Int32)) dX10_isOver_22 rfl ?_
  refine k_goto (tgt := 27) dX10_isOver_23 (by decide) ?_
  exact k_zreturn rfl (by decide) dX10_isOver_27
def f10_isOver (v0 : Nat) (v1 : Int32) (g : GS_) : Option (Int32 × GS_) :=
  bd_ (f10_ofJob v0 v1 (9 : Int32) g) fun z2 g1 => if z2 = (3 : Int32) then f10_isOver_b22 g1 else bd_ (f10_ofJob v0 v1 (9 : Int32) g1) fun z4 g3 => if z4 = (4 : Int32) then f10_isOver_b22 g3 else some ((0 : Int32), g3)
theorem t10_isOver (v0 : Nat) (v1 : Int32) (g : GS_) : Cn_ yX10_isOver cX10_isOver 2 (some .boolean) 1 22 EI_ [.inr (10, some v0), .inl v1] g (f10_isOver v0 v1 g) := by
  refine k_method (own := RX10) (ini := false) (L1 := [some (.inr (10, some v0)), some (.inl v1)]) (by decide +kernel) rfl (fun h => by cases h) (Nat.le_of_ble_eq_true rfl) rfl ?_
  unfold f10_isOver
  refine k_aloadn (j := 0) dX10_isOver_0 rfl rfl ?_
  refine k_iloadn (j := 1) dX10_isOver_1 rfl rfl ?_
  refine k_bipush (v := (9 : Int32)) dX10_isOver_2 rfl ?_
  refine k_callVi [.inl v1, .inl (9 : Int32)] (t10_ofJob v0 v1 (9 : Int32) g) cw_cX10_ofJob (Or.inl ml_10_133) rfl rfl (by decide) (by decide) (Nat.le_of_ble_eq_true rfl) dX10_isOver_4 (fun z2 g1 => ?_)
  refine k_iconst (v := (3 : Int32)) dX10_isOver_7 rfl ?_
  refine k_icmpeq (tgt := 22) dX10_isOver_8 (by decide) (fun _ => ?_) (fun _ => ?_)
  · refine k_msk (L' := [none, none]) [false, false] rfl ?_
    exact t10_isOver_b22 g1
  refine k_aloadn (j := 0) dX10_isOver_11 rfl rfl ?_
  refine k_iloadn (j := 1) dX10_isOver_12 rfl rfl ?_
  refine k_bipush (v := (9 : Int32)) dX10_isOver_13 rfl ?_
  refine k_callVi [.inl v1, .inl (9 : Int32)] (t10_ofJob v0 v1 (9 : Int32) g1) cw_cX10_ofJob (Or.inl ml_10_133) rfl rfl (by decide) (by decide) (Nat.le_of_ble_eq_true rfl) dX10_isOver_15 (fun z4 g3 => ?_)
  refine k_iconst (v := (4 : Int32)) dX10_isOver_18 rfl ?_
  refine k_icmpne (tgt := 26) dX10_isOver_19 (by decide) (fun _ => ?_) (fun _ => ?_)
  · refine k_msk (L' := [none, none]) [false, false] rfl ?_
    exact t10_isOver_b22 g3
  refine k_iconst (v := (0 : Int32)) dX10_isOver_26 rfl ?_
  exact k_zreturn rfl (by decide) dX10_isOver_27
theorem dX10_promote_0 : decode cX10_promote 0 = .ok (.aload_n 0, 1) := by decide +kernel
theorem dX10_promote_1 : decode cX10_promote 1 = .ok (.iload_n 1, 1) := by decide +kernel
theorem dX10_promote_2 : decode cX10_promote 2 = .ok (.invokevirtual 149, 3) := by decide +kernel
theorem dX10_promote_5 : decode cX10_promote 5 = .ok (.ifCond .ne 5, 3) := by decide +kernel
theorem dX10_promote_8 : decode cX10_promote 8 = .ok (.iconst (-1), 1) := by decide +kernel
theorem dX10_promote_9 : decode cX10_promote 9 = .ok (.ireturn, 1) := by decide +kernel
theorem dX10_promote_10 : decode cX10_promote 10 = .ok (.iload_n 2, 1) := by decide +kernel
theorem dX10_promote_11 : decode cX10_promote 11 = .ok (.iconst 0, 1) := by decide +kernel
theorem dX10_promote_12 : decode cX10_promote 12 = .ok (.bipush 9, 2) := by decide +kernel
theorem dX10_promote_14 : decode cX10_promote 14 = .ok (.invokestatic 44, 3) := by decide +kernel
theorem dX10_promote_17 : decode cX10_promote 17 = .ok (.ifCond .ne 6, 3) := by decide +kernel
theorem dX10_promote_20 : decode cX10_promote 20 = .ok (.bipush (-2), 2) := by decide +kernel
theorem dX10_promote_22 : decode cX10_promote 22 = .ok (.ireturn, 1) := by decide +kernel
theorem dX10_promote_23 : decode cX10_promote 23 = .ok (.aload_n 0, 1) := by decide +kernel
theorem dX10_promote_24 : decode cX10_promote 24 = .ok (.iload_n 1, 1) := by decide +kernel
theorem dX10_promote_25 : decode cX10_promote 25 = .ok (.invokevirtual 211, 3) := by decide +kernel
theorem dX10_promote_28 : decode cX10_promote 28 = .ok (.ifCond .eq 6, 3) := by decide +kernel
theorem dX10_promote_31 : decode cX10_promote 31 = .ok (.bipush (-5), 2) := by decide +kernel
theorem dX10_promote_33 : decode cX10_promote 33 = .ok (.ireturn, 1) := by decide +kernel
theorem dX10_promote_34 : decode cX10_promote 34 = .ok (.aload_n 0, 1) := by decide +kernel
theorem dX10_promote_35 : decode cX10_promote 35 = .ok (.iload_n 1, 1) := by decide +kernel
theorem dX10_promote_36 : decode cX10_promote 36 = .ok (.iconst 4, 1) := by decide +kernel
theorem dX10_promote_37 : decode cX10_promote 37 = .ok (.invokevirtual 133, 3) := by decide +kernel
theorem dX10_promote_40 : decode cX10_promote 40 = .ok (.istore_n 3, 1) := by decide +kernel
theorem dX10_promote_41 : decode cX10_promote 41 = .ok (.aload_n 0, 1) := by decide +kernel
theorem dX10_promote_42 : decode cX10_promote 42 = .ok (.iload_n 1, 1) := by decide +kernel
theorem dX10_promote_43 : decode cX10_promote 43 = .ok (.iconst 4, 1) := by decide +kernel
theorem dX10_promote_44 : decode cX10_promote 44 = .ok (.iload_n 2, 1) := by decide +kernel
theorem dX10_promote_45 : decode cX10_promote 45 = .ok (.invokevirtual 126, 3) := by decide +kernel
theorem dX10_promote_48 : decode cX10_promote 48 = .ok (.iload_n 3, 1) := by decide +kernel
theorem dX10_promote_49 : decode cX10_promote 49 = .ok (.ireturn, 1) := by decide +kernel
def f10_promote (v0 : Nat) (v1 : Int32) (v2 : Int32) (g : GS_) : Option (Int32 × GS_) :=
  bd_ (f10_isJob v0 v1 g) fun z2 g1 => if z2 = 0 then some ((-1 : Int32), g1) else bd_ (f10_in v2 (0 : Int32) (9 : Int32) g1) fun z4 g3 => if z4 = 0 then some ((-2 : Int32), g3) else bd_ (f10_isOver v0 v1 g3) fun z6 g5 => if z6 = 0 then bd_ (f10_ofJob v0 v1 (4 : Int32) g5) fun z8 g7 => bd_ (f10_setJob v0 v1 (4 : Int32) v2 g7) fun _ g9 => some (z8, g9) else some ((-5 : Int32), g5)
theorem t10_promote (v0 : Nat) (v1 : Int32) (v2 : Int32) (g : GS_) : Cn_ yX10_promote cX10_promote 4 (some .int) 2 43 EI_ [.inr (10, some v0), .inl v1, .inl v2] g (f10_promote v0 v1 v2 g) := by
  refine k_method (own := RX10) (ini := false) (L1 := [some (.inr (10, some v0)), some (.inl v1), some (.inl v2), none]) (by decide +kernel) rfl (fun h => by cases h) (Nat.le_of_ble_eq_true rfl) rfl ?_
  unfold f10_promote
  refine k_aloadn (j := 0) dX10_promote_0 rfl rfl ?_
  refine k_iloadn (j := 1) dX10_promote_1 rfl rfl ?_
  refine k_callVi [.inl v1] (t10_isJob v0 v1 g) cw_cX10_isJob (Or.inl ml_10_149) rfl rfl (by decide) (by decide) (Nat.le_of_ble_eq_true rfl) dX10_promote_2 (fun z2 g1 => ?_)
  refine k_ifne (tgt := 10) dX10_promote_5 (by decide) (fun _ => ?_) (fun _ => ?_)
  · refine k_iconst (v := (-1 : Int32)) dX10_promote_8 rfl ?_
    exact k_ireturn rfl dX10_promote_9
  refine k_iloadn (j := 2) dX10_promote_10 rfl rfl ?_
  refine k_iconst (v := (0 : Int32)) dX10_promote_11 rfl ?_
  refine k_bipush (v := (9 : Int32)) dX10_promote_12 rfl ?_
  refine k_callSi [.inl v2, .inl (0 : Int32), .inl (9 : Int32)] (t10_in v2 (0 : Int32) (9 : Int32) g1) cw_cX10_in ml_10_44 rfl rfl (by decide) (by decide) (Nat.le_of_ble_eq_true rfl) dX10_promote_14 (fun z4 g3 => ?_)
  refine k_ifne (tgt := 23) dX10_promote_17 (by decide) (fun _ => ?_) (fun _ => ?_)
  · refine k_bipush (v := (-2 : Int32)) dX10_promote_20 rfl ?_
    exact k_ireturn rfl dX10_promote_22
  refine k_aloadn (j := 0) dX10_promote_23 rfl rfl ?_
  refine k_iloadn (j := 1) dX10_promote_24 rfl rfl ?_
  refine k_callVi [.inl v1] (t10_isOver v0 v1 g3) cw_cX10_isOver (Or.inl ml_10_211) rfl rfl (by decide) (by decide) (Nat.le_of_ble_eq_true rfl) dX10_promote_25 (fun z6 g5 => ?_)
  refine k_ifeq (tgt := 34) dX10_promote_28 (by decide) (fun _ => ?_) (fun _ => ?_)
  · refine k_aloadn (j := 0) dX10_promote_34 rfl rfl ?_
    refine k_iloadn (j := 1) dX10_promote_35 rfl rfl ?_
    refine k_iconst (v := (4 : Int32)) dX10_promote_36 rfl ?_
    refine k_callVi [.inl v1, .inl (4 : Int32)] (t10_ofJob v0 v1 (4 : Int32) g5) cw_cX10_ofJob (Or.inl ml_10_133) rfl rfl (by decide) (by decide) (Nat.le_of_ble_eq_true rfl) dX10_promote_37 (fun z8 g7 => ?_)
    refine k_istn (j := 3) (L' := [some (.inr (10, some v0)), some (.inl v1), some (.inl v2), some (.inl z8)]) dX10_promote_40 rfl (by decide) rfl ?_
    refine k_aloadn (j := 0) dX10_promote_41 rfl rfl ?_
    refine k_iloadn (j := 1) dX10_promote_42 rfl rfl ?_
    refine k_iconst (v := (4 : Int32)) dX10_promote_43 rfl ?_
    refine k_iloadn (j := 2) dX10_promote_44 rfl rfl ?_
    refine k_callVv [.inl v1, .inl (4 : Int32), .inl v2] (t10_setJob v0 v1 (4 : Int32) v2 g7) cw_cX10_setJob (Or.inl ml_10_126) rfl rfl (by decide) (by decide) (Nat.le_of_ble_eq_true rfl) dX10_promote_45 (fun _ g9 => ?_)
    refine k_iloadn (j := 3) dX10_promote_48 rfl rfl ?_
    exact k_ireturn rfl dX10_promote_49
  refine k_bipush (v := (-5 : Int32)) dX10_promote_31 rfl ?_
  exact k_ireturn rfl dX10_promote_33
theorem dX10_hold_0 : decode cX10_hold 0 = .ok (.aload_n 0, 1) := by decide +kernel
theorem dX10_hold_1 : decode cX10_hold 1 = .ok (.iload_n 1, 1) := by decide +kernel
theorem dX10_hold_2 : decode cX10_hold 2 = .ok (.invokevirtual 149, 3) := by decide +kernel
theorem dX10_hold_5 : decode cX10_hold 5 = .ok (.ifCond .ne 5, 3) := by decide +kernel
theorem dX10_hold_8 : decode cX10_hold 8 = .ok (.iconst (-1), 1) := by decide +kernel
theorem dX10_hold_9 : decode cX10_hold 9 = .ok (.ireturn, 1) := by decide +kernel
theorem dX10_hold_10 : decode cX10_hold 10 = .ok (.aload_n 0, 1) := by decide +kernel
theorem dX10_hold_11 : decode cX10_hold 11 = .ok (.iload_n 1, 1) := by decide +kernel
theorem dX10_hold_12 : decode cX10_hold 12 = .ok (.bipush 9, 2) := by decide +kernel
theorem dX10_hold_14 : decode cX10_hold 14 = .ok (.invokevirtual 133, 3) := by decide +kernel
theorem dX10_hold_17 : decode cX10_hold 17 = .ok (.istore_n 2, 1) := by decide +kernel
theorem dX10_hold_18 : decode cX10_hold 18 = .ok (.iload_n 2, 1) := by decide +kernel
theorem dX10_hold_19 : decode cX10_hold 19 = .ok (.ifCond .eq 11, 3) := by decide +kernel
theorem dX10_hold_22 : decode cX10_hold 22 = .ok (.iload_n 2, 1) := by decide +kernel
theorem dX10_hold_23 : decode cX10_hold 23 = .ok (.iconst 1, 1) := by decide +kernel
theorem dX10_hold_24 : decode cX10_hold 24 = .ok (.if_icmp .eq 6, 3) := by decide +kernel
theorem dX10_hold_27 : decode cX10_hold 27 = .ok (.bipush (-5), 2) := by decide +kernel
theorem dX10_hold_29 : decode cX10_hold 29 = .ok (.ireturn, 1) := by decide +kernel
theorem dX10_hold_30 : decode cX10_hold 30 = .ok (.aload_n 0, 1) := by decide +kernel
theorem dX10_hold_31 : decode cX10_hold 31 = .ok (.iload_n 1, 1) := by decide +kernel
theorem dX10_hold_32 : decode cX10_hold 32 = .ok (.iload_n 2, 1) := by decide +kernel
theorem dX10_hold_33 : decode cX10_hold 33 = .ok (.ifCond .ne 8, 3) := by decide +kernel
theorem dX10_hold_36 : decode cX10_hold 36 = .ok (.bipush 9, 2) := by decide +kernel
theorem dX10_hold_38 : decode cX10_hold 38 = .ok (.goto 5, 3) := by decide +kernel
theorem dX10_hold_41 : decode cX10_hold 41 = .ok (.bipush 12, 2) := by decide +kernel
theorem dX10_hold_43 : decode cX10_hold 43 = .ok (.iconst 2, 1) := by decide +kernel
theorem dX10_hold_44 : decode cX10_hold 44 = .ok (.invokevirtual 126, 3) := by decide +kernel
theorem dX10_hold_47 : decode cX10_hold 47 = .ok (.aload_n 0, 1) := by decide +kernel
theorem dX10_hold_48 : decode cX10_hold 48 = .ok (.iload_n 1, 1) := by decide +kernel
theorem dX10_hold_49 : decode cX10_hold 49 = .ok (.bipush 9, 2) := by decide +kernel
theorem dX10_hold_51 : decode cX10_hold 51 = .ok (.invokevirtual 133, 3) := by decide +kernel
theorem dX10_hold_54 : decode cX10_hold 54 = .ok (.ireturn, 1) := by decide +kernel
def f10_hold_b43 (v0 : Nat) (v1 : Int32) (s0 : Nat) (s1 : Int32) (s2 : Int32) (g : GS_) : Option (Int32 × GS_) :=
  bd_ (f10_setJob s0 s1 s2 (2 : Int32) g) fun _ g1 => bd_ (f10_ofJob v0 v1 (9 : Int32) g1) fun z3 g2 => some (z3, g2)
theorem t10_hold_b43 (v0 : Nat) (v1 : Int32) (s0 : Nat) (s1 : Int32) (s2 : Int32) (g : GS_) : K_ RX10 cX10_hold 3 (some .int) 2 43 false EI_ 43 [some (.inr (10, some v0)), some (.inl v1), none] [.inl s2, .inl s1, .inr (10, some s0)] g (f10_hold_b43 v0 v1 s0 s1 s2 g) := by
  unfold f10_hold_b43
  refine k_iconst (v := (2 : Int32)) dX10_hold_43 rfl ?_
  refine k_callVv [.inl s1, .inl s2, .inl (2 : Int32)] (t10_setJob s0 s1 s2 (2 : Int32) g) cw_cX10_setJob (Or.inl ml_10_126) rfl rfl (by decide) (by decide) (Nat.le_of_ble_eq_true rfl) dX10_hold_44 (fun _ g1 => ?_)
  refine k_aloadn (j := 0) dX10_hold_47 rfl rfl ?_
  refine k_iloadn (j := 1) dX10_hold_48 rfl rfl ?_
  refine k_bipush (v := (9 : Int32)) dX10_hold_49 rfl ?_
  refine k_callVi [.inl v1, .inl (9 : Int32)] (t10_ofJob v0 v1 (9 : Int32) g1) cw_cX10_ofJob (Or.inl ml_10_133) rfl rfl (by decide) (by decide) (Nat.le_of_ble_eq_true rfl) dX10_hold_51 (fun z3 g2 => ?_)
  exact k_ireturn rfl dX10_hold_54
def f10_hold_b30 (v0 : Nat) (v1 : Int32) (v2 : Int32) (g : GS_) : Option (Int32 × GS_) :=
  if v2 = 0 then f10_hold_b43 v0 v1 v0 v1 (9 : Int32) g else f10_hold_b43 v0 v1 v0 v1 (12 : Int32) g
theorem t10_hold_b30 (v0 : Nat) (v1 : Int32) (v2 : Int32) (g : GS_) : K_ RX10 cX10_hold 3 (some .int) 2 43 false EI_ 30 [some (.inr (10, some v0)), some (.inl v1), some (.inl v2)] [] g (f10_hold_b30 v0 v1 v2 g) := by
  unfold f10_hold_b30
  refine k_aloadn (j := 0) dX10_hold_30 rfl rfl ?_
  refine k_iloadn (j := 1) dX10_hold_31 rfl rfl ?_
  refine k_iloadn (j := 2) dX10_hold_32 rfl rfl ?_
  refine k_ifne (tgt := 41) dX10_hold_33 (by decide) (fun _ => ?_) (fun _ => ?_)
  · refine k_bipush (v := (9 : Int32)) dX10_hold_36 rfl ?_
    refine k_goto (tgt := 43) dX10_hold_38 (by decide) ?_
    refine k_msk (L' := [some (.inr (10, some v0)), some (.inl v1), none]) [true, true, false] rfl ?_
    exact t10_hold_b43 v0 v1 v0 v1 (9 : Int32) g
  refine k_bipush (v := (12 : Int32)) dX10_hold_41 rfl ?_
  refine k_msk (L' := [some (.inr (10, some v0)), some (.inl v1), none]) [true, true, false] rfl ?_
  exact t10_hold_b43 v0 v1 v0 v1 (12 : Int32) g
def f10_hold (v0 : Nat) (v1 : Int32) (g : GS_) : Option (Int32 × GS_) :=
  bd_ (f10_isJob v0 v1 g) fun z5 g4 => if z5 = 0 then some ((-1 : Int32), g4) else bd_ (f10_ofJob v0 v1 (9 : Int32) g4) fun z7 g6 => if z7 = 0 then f10_hold_b30 v0 v1 z7 g6 else if z7 = (1 : Int32) then f10_hold_b30 v0 v1 z7 g6 else some ((-5 : Int32), g6)
theorem t10_hold (v0 : Nat) (v1 : Int32) (g : GS_) : Cn_ yX10_hold cX10_hold 3 (some .int) 2 43 EI_ [.inr (10, some v0), .inl v1] g (f10_hold v0 v1 g) := by
  refine k_method (own := RX10) (ini := false) (L1 := [some (.inr (10, some v0)), some (.inl v1), none]) (by decide +kernel) rfl (fun h => by cases h) (Nat.le_of_ble_eq_true rfl) rfl ?_
  unfold f10_hold
  refine k_aloadn (j := 0) dX10_hold_0 rfl rfl ?_
  refine k_iloadn (j := 1) dX10_hold_1 rfl rfl ?_
  refine k_callVi [.inl v1] (t10_isJob v0 v1 g) cw_cX10_isJob (Or.inl ml_10_149) rfl rfl (by decide) (by decide) (Nat.le_of_ble_eq_true rfl) dX10_hold_2 (fun z5 g4 => ?_)
  refine k_ifne (tgt := 10) dX10_hold_5 (by decide) (fun _ => ?_) (fun _ => ?_)
  · refine k_iconst (v := (-1 : Int32)) dX10_hold_8 rfl ?_
    exact k_ireturn rfl dX10_hold_9
  refine k_aloadn (j := 0) dX10_hold_10 rfl rfl ?_
  refine k_iloadn (j := 1) dX10_hold_11 rfl rfl ?_
  refine k_bipush (v := (9 : Int32)) dX10_hold_12 rfl ?_
  refine k_callVi [.inl v1, .inl (9 : Int32)] (t10_ofJob v0 v1 (9 : Int32) g4) cw_cX10_ofJob (Or.inl ml_10_133) rfl rfl (by decide) (by decide) (Nat.le_of_ble_eq_true rfl) dX10_hold_14 (fun z7 g6 => ?_)
  refine k_istn (j := 2) (L' := [some (.inr (10, some v0)), some (.inl v1), some (.inl z7)]) dX10_hold_17 rfl (by decide) rfl ?_
  refine k_iloadn (j := 2) dX10_hold_18 rfl rfl ?_
  refine k_ifeq (tgt := 30) dX10_hold_19 (by decide) (fun _ => ?_) (fun _ => ?_)
  · exact t10_hold_b30 v0 v1 z7 g6
  refine k_iloadn (j := 2) dX10_hold_22 rfl rfl ?_
  refine k_iconst (v := (1 : Int32)) dX10_hold_23 rfl ?_
  refine k_icmpeq (tgt := 30) dX10_hold_24 (by decide) (fun _ => ?_) (fun _ => ?_)
  · exact t10_hold_b30 v0 v1 z7 g6
  refine k_bipush (v := (-5 : Int32)) dX10_hold_27 rfl ?_
  exact k_ireturn rfl dX10_hold_29
theorem dX10_becomeWaiting_0 : decode cX10_becomeWaiting 0 = .ok (.aload_n 0, 1) := by decide +kernel
theorem dX10_becomeWaiting_1 : decode cX10_becomeWaiting 1 = .ok (.iload_n 1, 1) := by decide +kernel
theorem dX10_becomeWaiting_2 : decode cX10_becomeWaiting 2 = .ok (.bipush 9, 2) := by decide +kernel
theorem dX10_becomeWaiting_4 : decode cX10_becomeWaiting 4 = .ok (.iconst 0, 1) := by decide +kernel
theorem dX10_becomeWaiting_5 : decode cX10_becomeWaiting 5 = .ok (.invokevirtual 126, 3) := by decide +kernel
theorem dX10_becomeWaiting_8 : decode cX10_becomeWaiting 8 = .ok (.aload_n 0, 1) := by decide +kernel
theorem dX10_becomeWaiting_9 : decode cX10_becomeWaiting 9 = .ok (.iload_n 1, 1) := by decide +kernel
theorem dX10_becomeWaiting_10 : decode cX10_becomeWaiting 10 = .ok (.bipush 11, 2) := by decide +kernel
theorem dX10_becomeWaiting_12 : decode cX10_becomeWaiting 12 = .ok (.aload_n 0, 1) := by decide +kernel
theorem dX10_becomeWaiting_13 : decode cX10_becomeWaiting 13 = .ok (.getfield 7, 3) := by decide +kernel
theorem dX10_becomeWaiting_16 : decode cX10_becomeWaiting 16 = .ok (.iconst 0, 1) := by decide +kernel
theorem dX10_becomeWaiting_17 : decode cX10_becomeWaiting 17 = .ok (.iaload, 1) := by decide +kernel
theorem dX10_becomeWaiting_18 : decode cX10_becomeWaiting 18 = .ok (.invokevirtual 126, 3) := by decide +kernel
theorem dX10_becomeWaiting_21 : decode cX10_becomeWaiting 21 = .ok (.return_, 1) := by decide +kernel
def f10_becomeWaiting (v0 : Nat) (v1 : Int32) (g : GS_) : Option (Unit × GS_) :=
  bd_ (f10_setJob v0 v1 (9 : Int32) (0 : Int32) g) fun _ g1 => lr_ (gfr g1 320 v0) fun x2 => oc_ x2 none fun a3 => if inb (0 : Int32) (gln g1 20 a3) then bd_ (f10_setJob v0 v1 (11 : Int32) (gai g1 20 a3 (0 : Int32).toInt.toNat) g1) fun _ g4 => some ((), g4) else none
theorem t10_becomeWaiting (v0 : Nat) (v1 : Int32) (g : GS_) : Cn_ yX10_becomeWaiting cX10_becomeWaiting 2 none 1 23 EV_ [.inr (10, some v0), .inl v1] g (f10_becomeWaiting v0 v1 g) := by
  refine k_method (own := RX10) (ini := false) (L1 := [some (.inr (10, some v0)), some (.inl v1)]) (by decide +kernel) rfl (fun h => by cases h) (Nat.le_of_ble_eq_true rfl) rfl ?_
  unfold f10_becomeWaiting
  refine k_aloadn (j := 0) dX10_becomeWaiting_0 rfl rfl ?_
  refine k_iloadn (j := 1) dX10_becomeWaiting_1 rfl rfl ?_
  refine k_bipush (v := (9 : Int32)) dX10_becomeWaiting_2 rfl ?_
  refine k_iconst (v := (0 : Int32)) dX10_becomeWaiting_4 rfl ?_
  refine k_callVv [.inl v1, .inl (9 : Int32), .inl (0 : Int32)] (t10_setJob v0 v1 (9 : Int32) (0 : Int32) g) cw_cX10_setJob (Or.inl ml_10_126) rfl rfl (by decide) (by decide) (Nat.le_of_ble_eq_true rfl) dX10_becomeWaiting_5 (fun _ g1 => ?_)
  refine k_aloadn (j := 0) dX10_becomeWaiting_8 rfl rfl ?_
  refine k_iloadn (j := 1) dX10_becomeWaiting_9 rfl rfl ?_
  refine k_bipush (v := (11 : Int32)) dX10_becomeWaiting_10 rfl ?_
  refine k_aloadn (j := 0) dX10_becomeWaiting_12 rfl rfl ?_
  refine k_getr fg_10_7 rfl rfl dX10_becomeWaiting_13 (fun x2 => ?_)
  refine k_iconst (v := (0 : Int32)) dX10_becomeWaiting_16 rfl ?_
  rcases x2 with _ | a3
  · exact k_ocn
  refine k_ocs ?_
  refine k_iald dX10_becomeWaiting_17 ?_
  refine k_callVv [.inl v1, .inl (11 : Int32), .inl (gai g1 20 a3 (0 : Int32).toInt.toNat)] (t10_setJob v0 v1 (11 : Int32) (gai g1 20 a3 (0 : Int32).toInt.toNat) g1) cw_cX10_setJob (Or.inl ml_10_126) rfl rfl (by decide) (by decide) (Nat.le_of_ble_eq_true rfl) dX10_becomeWaiting_18 (fun _ g4 => ?_)
  exact k_return rfl dX10_becomeWaiting_21
theorem dX10_release_0 : decode cX10_release 0 = .ok (.aload_n 0, 1) := by decide +kernel
theorem dX10_release_1 : decode cX10_release 1 = .ok (.iload_n 1, 1) := by decide +kernel
theorem dX10_release_2 : decode cX10_release 2 = .ok (.invokevirtual 149, 3) := by decide +kernel
theorem dX10_release_5 : decode cX10_release 5 = .ok (.ifCond .ne 5, 3) := by decide +kernel
theorem dX10_release_8 : decode cX10_release 8 = .ok (.iconst (-1), 1) := by decide +kernel
theorem dX10_release_9 : decode cX10_release 9 = .ok (.ireturn, 1) := by decide +kernel
theorem dX10_release_10 : decode cX10_release 10 = .ok (.aload_n 0, 1) := by decide +kernel
theorem dX10_release_11 : decode cX10_release 11 = .ok (.iload_n 1, 1) := by decide +kernel
theorem dX10_release_12 : decode cX10_release 12 = .ok (.bipush 9, 2) := by decide +kernel
theorem dX10_release_14 : decode cX10_release 14 = .ok (.invokevirtual 133, 3) := by decide +kernel
theorem dX10_release_17 : decode cX10_release 17 = .ok (.istore_n 2, 1) := by decide +kernel
theorem dX10_release_18 : decode cX10_release 18 = .ok (.iload_n 2, 1) := by decide +kernel
theorem dX10_release_19 : decode cX10_release 19 = .ok (.iconst 2, 1) := by decide +kernel
theorem dX10_release_20 : decode cX10_release 20 = .ok (.if_icmp .ne 11, 3) := by decide +kernel
theorem dX10_release_23 : decode cX10_release 23 = .ok (.aload_n 0, 1) := by decide +kernel
theorem dX10_release_24 : decode cX10_release 24 = .ok (.iload_n 1, 1) := by decide +kernel
theorem dX10_release_25 : decode cX10_release 25 = .ok (.invokevirtual 214, 3) := by decide +kernel
theorem dX10_release_28 : decode cX10_release 28 = .ok (.goto 32, 3) := by decide +kernel
theorem dX10_release_31 : decode cX10_release 31 = .ok (.iload_n 2, 1) := by decide +kernel
theorem dX10_release_32 : decode cX10_release 32 = .ok (.iconst 1, 1) := by decide +kernel
theorem dX10_release_33 : decode cX10_release 33 = .ok (.if_icmp .ne 24, 3) := by decide +kernel
theorem dX10_release_36 : decode cX10_release 36 = .ok (.aload_n 0, 1) := by decide +kernel
theorem dX10_release_37 : decode cX10_release 37 = .ok (.iload_n 1, 1) := by decide +kernel
theorem dX10_release_38 : decode cX10_release 38 = .ok (.bipush 12, 2) := by decide +kernel
theorem dX10_release_40 : decode cX10_release 40 = .ok (.invokevirtual 133, 3) := by decide +kernel
theorem dX10_release_43 : decode cX10_release 43 = .ok (.ifCond .eq 14, 3) := by decide +kernel
theorem dX10_release_46 : decode cX10_release 46 = .ok (.aload_n 0, 1) := by decide +kernel
theorem dX10_release_47 : decode cX10_release 47 = .ok (.iload_n 1, 1) := by decide +kernel
theorem dX10_release_48 : decode cX10_release 48 = .ok (.bipush 12, 2) := by decide +kernel
theorem dX10_release_50 : decode cX10_release 50 = .ok (.iconst 0, 1) := by decide +kernel
theorem dX10_release_51 : decode cX10_release 51 = .ok (.invokevirtual 126, 3) := by decide +kernel
theorem dX10_release_54 : decode cX10_release 54 = .ok (.goto 6, 3) := by decide +kernel
theorem dX10_release_57 : decode cX10_release 57 = .ok (.bipush (-5), 2) := by decide +kernel
theorem dX10_release_59 : decode cX10_release 59 = .ok (.ireturn, 1) := by decide +kernel
theorem dX10_release_60 : decode cX10_release 60 = .ok (.aload_n 0, 1) := by decide +kernel
theorem dX10_release_61 : decode cX10_release 61 = .ok (.iload_n 1, 1) := by decide +kernel
theorem dX10_release_62 : decode cX10_release 62 = .ok (.bipush 9, 2) := by decide +kernel
theorem dX10_release_64 : decode cX10_release 64 = .ok (.invokevirtual 133, 3) := by decide +kernel
theorem dX10_release_67 : decode cX10_release 67 = .ok (.ireturn, 1) := by decide +kernel
def f10_release_b60 (v0 : Nat) (v1 : Int32) (g : GS_) : Option (Int32 × GS_) :=
  bd_ (f10_ofJob v0 v1 (9 : Int32) g) fun z2 g1 => some (z2, g1)
theorem t10_release_b60 (v0 : Nat) (v1 : Int32) (g : GS_) : K_ RX10 cX10_release 3 (some .int) 2 44 false EI_ 60 [some (.inr (10, some v0)), some (.inl v1), none] [] g (f10_release_b60 v0 v1 g) := by
  unfold f10_release_b60
  refine k_aloadn (j := 0) dX10_release_60 rfl rfl ?_
  refine k_iloadn (j := 1) dX10_release_61 rfl rfl ?_
  refine k_bipush (v := (9 : Int32)) dX10_release_62 rfl ?_
  refine k_callVi [.inl v1, .inl (9 : Int32)] (t10_ofJob v0 v1 (9 : Int32) g) cw_cX10_ofJob (Or.inl ml_10_133) rfl rfl (by decide) (by decide) (Nat.le_of_ble_eq_true rfl) dX10_release_64 (fun z2 g1 => ?_)
  exact k_ireturn rfl dX10_release_67
def f10_release (v0 : Nat) (v1 : Int32) (g : GS_) : Option (Int32 × GS_) :=
  bd_ (f10_isJob v0 v1 g) fun z4 g3 => if z4 = 0 then some ((-1 : Int32), g3) else bd_ (f10_ofJob v0 v1 (9 : Int32) g3) fun z6 g5 => if z6 = (2 : Int32) then bd_ (f10_becomeWaiting v0 v1 g5) fun _ g7 => f10_release_b60 v0 v1 g7 else if z6 = (1 : Int32) then bd_ (f10_ofJob v0 v1 (12 : Int32) g5) fun z9 g8 => if z9 = 0 then some ((-5 : Int32), g8) else bd_ (f10_setJob v0 v1 (12 : Int32) (0 : Int32) g8) fun _ g10 => f10_release_b60 v0 v1 g10 else some ((-5 : Int32), g5)
theorem t10_release (v0 : Nat) (v1 : Int32) (g : GS_) : Cn_ yX10_release cX10_release 3 (some .int) 2 44 EI_ [.inr (10, some v0), .inl v1] g (f10_release v0 v1 g) := by
  refine k_method (own := RX10) (ini := false) (L1 := [some (.inr (10, some v0)), some (.inl v1), none]) (by decide +kernel) rfl (fun h => by cases h) (Nat.le_of_ble_eq_true rfl) rfl ?_
  unfold f10_release
  refine k_aloadn (j := 0) dX10_release_0 rfl rfl ?_
  refine k_iloadn (j := 1) dX10_release_1 rfl rfl ?_
  refine k_callVi [.inl v1] (t10_isJob v0 v1 g) cw_cX10_isJob (Or.inl ml_10_149) rfl rfl (by decide) (by decide) (Nat.le_of_ble_eq_true rfl) dX10_release_2 (fun z4 g3 => ?_)
  refine k_ifne (tgt := 10) dX10_release_5 (by decide) (fun _ => ?_) (fun _ => ?_)
  · refine k_iconst (v := (-1 : Int32)) dX10_release_8 rfl ?_
    exact k_ireturn rfl dX10_release_9
  refine k_aloadn (j := 0) dX10_release_10 rfl rfl ?_
  refine k_iloadn (j := 1) dX10_release_11 rfl rfl ?_
  refine k_bipush (v := (9 : Int32)) dX10_release_12 rfl ?_
  refine k_callVi [.inl v1, .inl (9 : Int32)] (t10_ofJob v0 v1 (9 : Int32) g3) cw_cX10_ofJob (Or.inl ml_10_133) rfl rfl (by decide) (by decide) (Nat.le_of_ble_eq_true rfl) dX10_release_14 (fun z6 g5 => ?_)
  refine k_istn (j := 2) (L' := [some (.inr (10, some v0)), some (.inl v1), some (.inl z6)]) dX10_release_17 rfl (by decide) rfl ?_
  refine k_iloadn (j := 2) dX10_release_18 rfl rfl ?_
  refine k_iconst (v := (2 : Int32)) dX10_release_19 rfl ?_
  refine k_icmpne (tgt := 31) dX10_release_20 (by decide) (fun _ => ?_) (fun _ => ?_)
  · refine k_aloadn (j := 0) dX10_release_23 rfl rfl ?_
    refine k_iloadn (j := 1) dX10_release_24 rfl rfl ?_
    refine k_callVv [.inl v1] (t10_becomeWaiting v0 v1 g5) cw_cX10_becomeWaiting (Or.inl ml_10_214) rfl rfl (by decide) (by decide) (Nat.le_of_ble_eq_true rfl) dX10_release_25 (fun _ g7 => ?_)
    refine k_goto (tgt := 60) dX10_release_28 (by decide) ?_
    refine k_msk (L' := [some (.inr (10, some v0)), some (.inl v1), none]) [true, true, false] rfl ?_
    exact t10_release_b60 v0 v1 g7
  refine k_iloadn (j := 2) dX10_release_31 rfl rfl ?_
  refine k_iconst (v := (1 : Int32)) dX10_release_32 rfl ?_
  refine k_icmpne (tgt := 57) dX10_release_33 (by decide) (fun _ => ?_) (fun _ => ?_)
  · refine k_aloadn (j := 0) dX10_release_36 rfl rfl ?_
    refine k_iloadn (j := 1) dX10_release_37 rfl rfl ?_
    refine k_bipush (v := (12 : Int32)) dX10_release_38 rfl ?_
    refine k_callVi [.inl v1, .inl (12 : Int32)] (t10_ofJob v0 v1 (12 : Int32) g5) cw_cX10_ofJob (Or.inl ml_10_133) rfl rfl (by decide) (by decide) (Nat.le_of_ble_eq_true rfl) dX10_release_40 (fun z9 g8 => ?_)
    refine k_ifeq (tgt := 57) dX10_release_43 (by decide) (fun _ => ?_) (fun _ => ?_)
    · refine k_bipush (v := (-5 : Int32)) dX10_release_57 rfl ?_
      exact k_ireturn rfl dX10_release_59
    refine k_aloadn (j := 0) dX10_release_46 rfl rfl ?_
    refine k_iloadn (j := 1) dX10_release_47 rfl rfl ?_
    refine k_bipush (v := (12 : Int32)) dX10_release_48 rfl ?_
    refine k_iconst (v := (0 : Int32)) dX10_release_50 rfl ?_
    refine k_callVv [.inl v1, .inl (12 : Int32), .inl (0 : Int32)] (t10_setJob v0 v1 (12 : Int32) (0 : Int32) g8) cw_cX10_setJob (Or.inl ml_10_126) rfl rfl (by decide) (by decide) (Nat.le_of_ble_eq_true rfl) dX10_release_51 (fun _ g10 => ?_)
    refine k_goto (tgt := 60) dX10_release_54 (by decide) ?_
    refine k_msk (L' := [some (.inr (10, some v0)), some (.inl v1), none]) [true, true, false] rfl ?_
    exact t10_release_b60 v0 v1 g10
  refine k_bipush (v := (-5 : Int32)) dX10_release_57 rfl ?_
  exact k_ireturn rfl dX10_release_59
theorem dX10_cancel_0 : decode cX10_cancel 0 = .ok (.aload_n 0, 1) := by decide +kernel
theorem dX10_cancel_1 : decode cX10_cancel 1 = .ok (.iload_n 1, 1) := by decide +kernel
theorem dX10_cancel_2 : decode cX10_cancel 2 = .ok (.invokevirtual 149, 3) := by decide +kernel
theorem dX10_cancel_5 : decode cX10_cancel 5 = .ok (.ifCond .ne 5, 3) := by decide +kernel
theorem dX10_cancel_8 : decode cX10_cancel 8 = .ok (.iconst (-1), 1) := by decide +kernel
theorem dX10_cancel_9 : decode cX10_cancel 9 = .ok (.ireturn, 1) := by decide +kernel
theorem dX10_cancel_10 : decode cX10_cancel 10 = .ok (.aload_n 0, 1) := by decide +kernel
theorem dX10_cancel_11 : decode cX10_cancel 11 = .ok (.iload_n 1, 1) := by decide +kernel
theorem dX10_cancel_12 : decode cX10_cancel 12 = .ok (.invokevirtual 211, 3) := by decide +kernel
theorem dX10_cancel_15 : decode cX10_cancel 15 = .ok (.ifCond .eq 6, 3) := by decide +kernel
theorem dX10_cancel_18 : decode cX10_cancel 18 = .ok (.bipush (-5), 2) := by decide +kernel
theorem dX10_cancel_20 : decode cX10_cancel 20 = .ok (.ireturn, 1) := by decide +kernel
theorem dX10_cancel_21 : decode cX10_cancel 21 = .ok (.aload_n 0, 1) := by decide +kernel
theorem dX10_cancel_22 : decode cX10_cancel 22 = .ok (.iload_n 1, 1) := by decide +kernel
theorem dX10_cancel_23 : decode cX10_cancel 23 = .ok (.aload_n 0, 1) := by decide +kernel
theorem dX10_cancel_24 : decode cX10_cancel 24 = .ok (.iload_n 1, 1) := by decide +kernel
theorem dX10_cancel_25 : decode cX10_cancel 25 = .ok (.bipush 9, 2) := by decide +kernel
theorem dX10_cancel_27 : decode cX10_cancel 27 = .ok (.invokevirtual 133, 3) := by decide +kernel
theorem dX10_cancel_30 : decode cX10_cancel 30 = .ok (.iconst 1, 1) := by decide +kernel
theorem dX10_cancel_31 : decode cX10_cancel 31 = .ok (.if_icmp .ne 8, 3) := by decide +kernel
theorem dX10_cancel_34 : decode cX10_cancel 34 = .ok (.bipush 12, 2) := by decide +kernel
theorem dX10_cancel_36 : decode cX10_cancel 36 = .ok (.goto 5, 3) := by decide +kernel
theorem dX10_cancel_39 : decode cX10_cancel 39 = .ok (.bipush 9, 2) := by decide +kernel
theorem dX10_cancel_41 : decode cX10_cancel 41 = .ok (.iconst 4, 1) := by decide +kernel
theorem dX10_cancel_42 : decode cX10_cancel 42 = .ok (.invokevirtual 126, 3) := by decide +kernel
theorem dX10_cancel_45 : decode cX10_cancel 45 = .ok (.aload_n 0, 1) := by decide +kernel
theorem dX10_cancel_46 : decode cX10_cancel 46 = .ok (.iload_n 1, 1) := by decide +kernel
theorem dX10_cancel_47 : decode cX10_cancel 47 = .ok (.bipush 9, 2) := by decide +kernel
theorem dX10_cancel_49 : decode cX10_cancel 49 = .ok (.invokevirtual 133, 3) := by decide +kernel
theorem dX10_cancel_52 : decode cX10_cancel 52 = .ok (.ireturn, 1) := by decide +kernel
def f10_cancel_b41 (v0 : Nat) (v1 : Int32) (s0 : Nat) (s1 : Int32) (s2 : Int32) (g : GS_) : Option (Int32 × GS_) :=
  bd_ (f10_setJob s0 s1 s2 (4 : Int32) g) fun _ g1 => bd_ (f10_ofJob v0 v1 (9 : Int32) g1) fun z3 g2 => some (z3, g2)
theorem t10_cancel_b41 (v0 : Nat) (v1 : Int32) (s0 : Nat) (s1 : Int32) (s2 : Int32) (g : GS_) : K_ RX10 cX10_cancel 2 (some .int) 2 43 false EI_ 41 [some (.inr (10, some v0)), some (.inl v1)] [.inl s2, .inl s1, .inr (10, some s0)] g (f10_cancel_b41 v0 v1 s0 s1 s2 g) := by
  unfold f10_cancel_b41
  refine k_iconst (v := (4 : Int32)) dX10_cancel_41 rfl ?_
  refine k_callVv [.inl s1, .inl s2, .inl (4 : Int32)] (t10_setJob s0 s1 s2 (4 : Int32) g) cw_cX10_setJob (Or.inl ml_10_126) rfl rfl (by decide) (by decide) (Nat.le_of_ble_eq_true rfl) dX10_cancel_42 (fun _ g1 => ?_)
  refine k_aloadn (j := 0) dX10_cancel_45 rfl rfl ?_
  refine k_iloadn (j := 1) dX10_cancel_46 rfl rfl ?_
  refine k_bipush (v := (9 : Int32)) dX10_cancel_47 rfl ?_
  refine k_callVi [.inl v1, .inl (9 : Int32)] (t10_ofJob v0 v1 (9 : Int32) g1) cw_cX10_ofJob (Or.inl ml_10_133) rfl rfl (by decide) (by decide) (Nat.le_of_ble_eq_true rfl) dX10_cancel_49 (fun z3 g2 => ?_)
  exact k_ireturn rfl dX10_cancel_52
def f10_cancel (v0 : Nat) (v1 : Int32) (g : GS_) : Option (Int32 × GS_) :=
  bd_ (f10_isJob v0 v1 g) fun z5 g4 => if z5 = 0 then some ((-1 : Int32), g4) else bd_ (f10_isOver v0 v1 g4) fun z7 g6 => if z7 = 0 then bd_ (f10_ofJob v0 v1 (9 : Int32) g6) fun z9 g8 => if z9 = (1 : Int32) then f10_cancel_b41 v0 v1 v0 v1 (12 : Int32) g8 else f10_cancel_b41 v0 v1 v0 v1 (9 : Int32) g8 else some ((-5 : Int32), g6)
theorem t10_cancel (v0 : Nat) (v1 : Int32) (g : GS_) : Cn_ yX10_cancel cX10_cancel 2 (some .int) 2 43 EI_ [.inr (10, some v0), .inl v1] g (f10_cancel v0 v1 g) := by
  refine k_method (own := RX10) (ini := false) (L1 := [some (.inr (10, some v0)), some (.inl v1)]) (by decide +kernel) rfl (fun h => by cases h) (Nat.le_of_ble_eq_true rfl) rfl ?_
  unfold f10_cancel
  refine k_aloadn (j := 0) dX10_cancel_0 rfl rfl ?_
  refine k_iloadn (j := 1) dX10_cancel_1 rfl rfl ?_
  refine k_callVi [.inl v1] (t10_isJob v0 v1 g) cw_cX10_isJob (Or.inl ml_10_149) rfl rfl (by decide) (by decide) (Nat.le_of_ble_eq_true rfl) dX10_cancel_2 (fun z5 g4 => ?_)
  refine k_ifne (tgt := 10) dX10_cancel_5 (by decide) (fun _ => ?_) (fun _ => ?_)
  · refine k_iconst (v := (-1 : Int32)) dX10_cancel_8 rfl ?_
    exact k_ireturn rfl dX10_cancel_9
  refine k_aloadn (j := 0) dX10_cancel_10 rfl rfl ?_
  refine k_iloadn (j := 1) dX10_cancel_11 rfl rfl ?_
  refine k_callVi [.inl v1] (t10_isOver v0 v1 g4) cw_cX10_isOver (Or.inl ml_10_211) rfl rfl (by decide) (by decide) (Nat.le_of_ble_eq_true rfl) dX10_cancel_12 (fun z7 g6 => ?_)
  refine k_ifeq (tgt := 21) dX10_cancel_15 (by decide) (fun _ => ?_) (fun _ => ?_)
  · refine k_aloadn (j := 0) dX10_cancel_21 rfl rfl ?_
    refine k_iloadn (j := 1) dX10_cancel_22 rfl rfl ?_
    refine k_aloadn (j := 0) dX10_cancel_23 rfl rfl ?_
    refine k_iloadn (j := 1) dX10_cancel_24 rfl rfl ?_
    refine k_bipush (v := (9 : Int32)) dX10_cancel_25 rfl ?_
    refine k_callVi [.inl v1, .inl (9 : Int32)] (t10_ofJob v0 v1 (9 : Int32) g6) cw_cX10_ofJob (Or.inl ml_10_133) rfl rfl (by decide) (by decide) (Nat.le_of_ble_eq_true rfl) dX10_cancel_27 (fun z9 g8 => ?_)
    refine k_iconst (v := (1 : Int32)) dX10_cancel_30 rfl ?_
    refine k_icmpne (tgt := 39) dX10_cancel_31 (by decide) (fun _ => ?_) (fun _ => ?_)
    · refine k_bipush (v := (12 : Int32)) dX10_cancel_34 rfl ?_
      refine k_goto (tgt := 41) dX10_cancel_36 (by decide) ?_
      exact t10_cancel_b41 v0 v1 v0 v1 (12 : Int32) g8
    refine k_bipush (v := (9 : Int32)) dX10_cancel_39 rfl ?_
    exact t10_cancel_b41 v0 v1 v0 v1 (9 : Int32) g8
  refine k_bipush (v := (-5 : Int32)) dX10_cancel_18 rfl ?_
  exact k_ireturn rfl dX10_cancel_20
theorem dX10_leave_0 : decode cX10_leave 0 = .ok (.aload_n 0, 1) := by decide +kernel
theorem dX10_leave_1 : decode cX10_leave 1 = .ok (.iload_n 1, 1) := by decide +kernel
theorem dX10_leave_2 : decode cX10_leave 2 = .ok (.bipush 12, 2) := by decide +kernel
theorem dX10_leave_4 : decode cX10_leave 4 = .ok (.invokevirtual 133, 3) := by decide +kernel
theorem dX10_leave_7 : decode cX10_leave 7 = .ok (.ifCond .eq 28, 3) := by decide +kernel
theorem dX10_leave_10 : decode cX10_leave 10 = .ok (.aload_n 0, 1) := by decide +kernel
theorem dX10_leave_11 : decode cX10_leave 11 = .ok (.iload_n 1, 1) := by decide +kernel
theorem dX10_leave_12 : decode cX10_leave 12 = .ok (.bipush 9, 2) := by decide +kernel
theorem dX10_leave_14 : decode cX10_leave 14 = .ok (.aload_n 0, 1) := by decide +kernel
theorem dX10_leave_15 : decode cX10_leave 15 = .ok (.iload_n 1, 1) := by decide +kernel
theorem dX10_leave_16 : decode cX10_leave 16 = .ok (.bipush 12, 2) := by decide +kernel
theorem dX10_leave_18 : decode cX10_leave 18 = .ok (.invokevirtual 133, 3) := by decide +kernel
theorem dX10_leave_21 : decode cX10_leave 21 = .ok (.invokevirtual 126, 3) := by decide +kernel
theorem dX10_leave_24 : decode cX10_leave 24 = .ok (.aload_n 0, 1) := by decide +kernel
theorem dX10_leave_25 : decode cX10_leave 25 = .ok (.iload_n 1, 1) := by decide +kernel
theorem dX10_leave_26 : decode cX10_leave 26 = .ok (.bipush 12, 2) := by decide +kernel
theorem dX10_leave_28 : decode cX10_leave 28 = .ok (.iconst 0, 1) := by decide +kernel
theorem dX10_leave_29 : decode cX10_leave 29 = .ok (.invokevirtual 126, 3) := by decide +kernel
theorem dX10_leave_32 : decode cX10_leave 32 = .ok (.goto 8, 3) := by decide +kernel
theorem dX10_leave_35 : decode cX10_leave 35 = .ok (.aload_n 0, 1) := by decide +kernel
theorem dX10_leave_36 : decode cX10_leave 36 = .ok (.iload_n 1, 1) := by decide +kernel
theorem dX10_leave_37 : decode cX10_leave 37 = .ok (.invokevirtual 214, 3) := by decide +kernel
theorem dX10_leave_40 : decode cX10_leave 40 = .ok (.return_, 1) := by decide +kernel
def f10_leave (v0 : Nat) (v1 : Int32) (g : GS_) : Option (Unit × GS_) :=
  bd_ (f10_ofJob v0 v1 (12 : Int32) g) fun z2 g1 => if z2 = 0 then bd_ (f10_becomeWaiting v0 v1 g1) fun _ g3 => some ((), g3) else bd_ (f10_ofJob v0 v1 (12 : Int32) g1) fun z5 g4 => bd_ (f10_setJob v0 v1 (9 : Int32) z5 g4) fun _ g6 => bd_ (f10_setJob v0 v1 (12 : Int32) (0 : Int32) g6) fun _ g7 => some ((), g7)
theorem t10_leave (v0 : Nat) (v1 : Int32) (g : GS_) : Cn_ yX10_leave cX10_leave 2 none 2 44 EV_ [.inr (10, some v0), .inl v1] g (f10_leave v0 v1 g) := by
  refine k_method (own := RX10) (ini := false) (L1 := [some (.inr (10, some v0)), some (.inl v1)]) (by decide +kernel) rfl (fun h => by cases h) (Nat.le_of_ble_eq_true rfl) rfl ?_
  unfold f10_leave
  refine k_aloadn (j := 0) dX10_leave_0 rfl rfl ?_
  refine k_iloadn (j := 1) dX10_leave_1 rfl rfl ?_
  refine k_bipush (v := (12 : Int32)) dX10_leave_2 rfl ?_
  refine k_callVi [.inl v1, .inl (12 : Int32)] (t10_ofJob v0 v1 (12 : Int32) g) cw_cX10_ofJob (Or.inl ml_10_133) rfl rfl (by decide) (by decide) (Nat.le_of_ble_eq_true rfl) dX10_leave_4 (fun z2 g1 => ?_)
  refine k_ifeq (tgt := 35) dX10_leave_7 (by decide) (fun _ => ?_) (fun _ => ?_)
  · refine k_aloadn (j := 0) dX10_leave_35 rfl rfl ?_
    refine k_iloadn (j := 1) dX10_leave_36 rfl rfl ?_
    refine k_callVv [.inl v1] (t10_becomeWaiting v0 v1 g1) cw_cX10_becomeWaiting (Or.inl ml_10_214) rfl rfl (by decide) (by decide) (Nat.le_of_ble_eq_true rfl) dX10_leave_37 (fun _ g3 => ?_)
    exact k_return rfl dX10_leave_40
  refine k_aloadn (j := 0) dX10_leave_10 rfl rfl ?_
  refine k_iloadn (j := 1) dX10_leave_11 rfl rfl ?_
  refine k_bipush (v := (9 : Int32)) dX10_leave_12 rfl ?_
  refine k_aloadn (j := 0) dX10_leave_14 rfl rfl ?_
  refine k_iloadn (j := 1) dX10_leave_15 rfl rfl ?_
  refine k_bipush (v := (12 : Int32)) dX10_leave_16 rfl ?_
  refine k_callVi [.inl v1, .inl (12 : Int32)] (t10_ofJob v0 v1 (12 : Int32) g1) cw_cX10_ofJob (Or.inl ml_10_133) rfl rfl (by decide) (by decide) (Nat.le_of_ble_eq_true rfl) dX10_leave_18 (fun z5 g4 => ?_)
  refine k_callVv [.inl v1, .inl (9 : Int32), .inl z5] (t10_setJob v0 v1 (9 : Int32) z5 g4) cw_cX10_setJob (Or.inl ml_10_126) rfl rfl (by decide) (by decide) (Nat.le_of_ble_eq_true rfl) dX10_leave_21 (fun _ g6 => ?_)
  refine k_aloadn (j := 0) dX10_leave_24 rfl rfl ?_
  refine k_iloadn (j := 1) dX10_leave_25 rfl rfl ?_
  refine k_bipush (v := (12 : Int32)) dX10_leave_26 rfl ?_
  refine k_iconst (v := (0 : Int32)) dX10_leave_28 rfl ?_
  refine k_callVv [.inl v1, .inl (12 : Int32), .inl (0 : Int32)] (t10_setJob v0 v1 (12 : Int32) (0 : Int32) g6) cw_cX10_setJob (Or.inl ml_10_126) rfl rfl (by decide) (by decide) (Nat.le_of_ble_eq_true rfl) dX10_leave_29 (fun _ g7 => ?_)
  refine k_goto (tgt := 40) dX10_leave_32 (by decide) ?_
  exact k_return rfl dX10_leave_40
theorem dX10_jam_0 : decode cX10_jam 0 = .ok (.aload_n 0, 1) := by decide +kernel
theorem dX10_jam_1 : decode cX10_jam 1 = .ok (.iload_n 1, 1) := by decide +kernel
theorem dX10_jam_2 : decode cX10_jam 2 = .ok (.invokevirtual 187, 3) := by decide +kernel
theorem dX10_jam_5 : decode cX10_jam 5 = .ok (.ifCond .ne 5, 3) := by decide +kernel
theorem dX10_jam_8 : decode cX10_jam 8 = .ok (.iconst (-1), 1) := by decide +kernel
theorem dX10_jam_9 : decode cX10_jam 9 = .ok (.ireturn, 1) := by decide +kernel
theorem dX10_jam_10 : decode cX10_jam 10 = .ok (.aload_n 0, 1) := by decide +kernel
theorem dX10_jam_11 : decode cX10_jam 11 = .ok (.iload_n 1, 1) := by decide +kernel
theorem dX10_jam_12 : decode cX10_jam 12 = .ok (.bipush 6, 2) := by decide +kernel
theorem dX10_jam_14 : decode cX10_jam 14 = .ok (.invokevirtual 190, 3) := by decide +kernel
theorem dX10_jam_17 : decode cX10_jam 17 = .ok (.istore_n 2, 1) := by decide +kernel
theorem dX10_jam_18 : decode cX10_jam 18 = .ok (.iload_n 2, 1) := by decide +kernel
theorem dX10_jam_19 : decode cX10_jam 19 = .ok (.iconst 2, 1) := by decide +kernel
theorem dX10_jam_20 : decode cX10_jam 20 = .ok (.if_icmp .ne 6, 3) := by decide +kernel
theorem dX10_jam_23 : decode cX10_jam 23 = .ok (.bipush (-5), 2) := by decide +kernel
theorem dX10_jam_25 : decode cX10_jam 25 = .ok (.ireturn, 1) := by decide +kernel
theorem dX10_jam_26 : decode cX10_jam 26 = .ok (.aload_n 0, 1) := by decide +kernel
theorem dX10_jam_27 : decode cX10_jam 27 = .ok (.iload_n 1, 1) := by decide +kernel
theorem dX10_jam_28 : decode cX10_jam 28 = .ok (.bipush 6, 2) := by decide +kernel
theorem dX10_jam_30 : decode cX10_jam 30 = .ok (.iconst 2, 1) := by decide +kernel
theorem dX10_jam_31 : decode cX10_jam 31 = .ok (.invokevirtual 184, 3) := by decide +kernel
theorem dX10_jam_34 : decode cX10_jam 34 = .ok (.iload_n 2, 1) := by decide +kernel
theorem dX10_jam_35 : decode cX10_jam 35 = .ok (.iconst 1, 1) := by decide +kernel
theorem dX10_jam_36 : decode cX10_jam 36 = .ok (.if_icmp .eq 5, 3) := by decide +kernel
theorem dX10_jam_39 : decode cX10_jam 39 = .ok (.iconst 0, 1) := by decide +kernel
theorem dX10_jam_40 : decode cX10_jam 40 = .ok (.ireturn, 1) := by decide +kernel
theorem dX10_jam_41 : decode cX10_jam 41 = .ok (.aload_n 0, 1) := by decide +kernel
theorem dX10_jam_42 : decode cX10_jam 42 = .ok (.iload_n 1, 1) := by decide +kernel
theorem dX10_jam_43 : decode cX10_jam 43 = .ok (.bipush 9, 2) := by decide +kernel
theorem dX10_jam_45 : decode cX10_jam 45 = .ok (.aload_n 0, 1) := by decide +kernel
theorem dX10_jam_46 : decode cX10_jam 46 = .ok (.iload_n 1, 1) := by decide +kernel
theorem dX10_jam_47 : decode cX10_jam 47 = .ok (.bipush 9, 2) := by decide +kernel
theorem dX10_jam_49 : decode cX10_jam 49 = .ok (.invokevirtual 190, 3) := by decide +kernel
theorem dX10_jam_52 : decode cX10_jam 52 = .ok (.iconst 1, 1) := by decide +kernel
theorem dX10_jam_53 : decode cX10_jam 53 = .ok (.iadd, 1) := by decide +kernel
theorem dX10_jam_54 : decode cX10_jam 54 = .ok (.invokevirtual 184, 3) := by decide +kernel
theorem dX10_jam_57 : decode cX10_jam 57 = .ok (.aload_n 0, 1) := by decide +kernel
theorem dX10_jam_58 : decode cX10_jam 58 = .ok (.aload_n 0, 1) := by decide +kernel
theorem dX10_jam_59 : decode cX10_jam 59 = .ok (.iload_n 1, 1) := by decide +kernel
theorem dX10_jam_60 : decode cX10_jam 60 = .ok (.bipush 7, 2) := by decide +kernel
theorem dX10_jam_62 : decode cX10_jam 62 = .ok (.invokevirtual 190, 3) := by decide +kernel
theorem dX10_jam_65 : decode cX10_jam 65 = .ok (.invokevirtual 217, 3) := by decide +kernel
theorem dX10_jam_68 : decode cX10_jam 68 = .ok (.iconst 1, 1) := by decide +kernel
theorem dX10_jam_69 : decode cX10_jam 69 = .ok (.ireturn, 1) := by decide +kernel
def f10_jam (v0 : Nat) (v1 : Int32) (g : GS_) : Option (Int32 × GS_) :=
  bd_ (f10_isPrinter v0 v1 g) fun z2 g1 => if z2 = 0 then some ((-1 : Int32), g1) else bd_ (f10_ofPrinter v0 v1 (6 : Int32) g1) fun z4 g3 => if z4 = (2 : Int32) then some ((-5 : Int32), g3) else bd_ (f10_setPrinter v0 v1 (6 : Int32) (2 : Int32) g3) fun _ g5 => if z4 = (1 : Int32) then bd_ (f10_ofPrinter v0 v1 (9 : Int32) g5) fun z7 g6 => bd_ (f10_setPrinter v0 v1 (9 : Int32) (z7 + (1 : Int32)) g6) fun _ g8 => bd_ (f10_ofPrinter v0 v1 (7 : Int32) g8) fun z10 g9 => bd_ (f10_leave v0 z10 g9) fun _ g11 => some ((1 : Int32), g11) else some ((0 : Int32), g5)
theorem t10_jam (v0 : Nat) (v1 : Int32) (g : GS_) : Cn_ yX10_jam cX10_jam 3 (some .int) 3 65 EI_ [.inr (10, some v0), .inl v1] g (f10_jam v0 v1 g) := by
  refine k_method (own := RX10) (ini := false) (L1 := [some (.inr (10, some v0)), some (.inl v1), none]) (by decide +kernel) rfl (fun h => by cases h) (Nat.le_of_ble_eq_true rfl) rfl ?_
  unfold f10_jam
  refine k_aloadn (j := 0) dX10_jam_0 rfl rfl ?_
  refine k_iloadn (j := 1) dX10_jam_1 rfl rfl ?_
  refine k_callVi [.inl v1] (t10_isPrinter v0 v1 g) cw_cX10_isPrinter (Or.inl ml_10_187) rfl rfl (by decide) (by decide) (Nat.le_of_ble_eq_true rfl) dX10_jam_2 (fun z2 g1 => ?_)
  refine k_ifne (tgt := 10) dX10_jam_5 (by decide) (fun _ => ?_) (fun _ => ?_)
  · refine k_iconst (v := (-1 : Int32)) dX10_jam_8 rfl ?_
    exact k_ireturn rfl dX10_jam_9
  refine k_aloadn (j := 0) dX10_jam_10 rfl rfl ?_
  refine k_iloadn (j := 1) dX10_jam_11 rfl rfl ?_
  refine k_bipush (v := (6 : Int32)) dX10_jam_12 rfl ?_
  refine k_callVi [.inl v1, .inl (6 : Int32)] (t10_ofPrinter v0 v1 (6 : Int32) g1) cw_cX10_ofPrinter (Or.inl ml_10_190) rfl rfl (by decide) (by decide) (Nat.le_of_ble_eq_true rfl) dX10_jam_14 (fun z4 g3 => ?_)
  refine k_istn (j := 2) (L' := [some (.inr (10, some v0)), some (.inl v1), some (.inl z4)]) dX10_jam_17 rfl (by decide) rfl ?_
  refine k_iloadn (j := 2) dX10_jam_18 rfl rfl ?_
  refine k_iconst (v := (2 : Int32)) dX10_jam_19 rfl ?_
  refine k_icmpne (tgt := 26) dX10_jam_20 (by decide) (fun _ => ?_) (fun _ => ?_)
  · refine k_bipush (v := (-5 : Int32)) dX10_jam_23 rfl ?_
    exact k_ireturn rfl dX10_jam_25
  refine k_aloadn (j := 0) dX10_jam_26 rfl rfl ?_
  refine k_iloadn (j := 1) dX10_jam_27 rfl rfl ?_
  refine k_bipush (v := (6 : Int32)) dX10_jam_28 rfl ?_
  refine k_iconst (v := (2 : Int32)) dX10_jam_30 rfl ?_
  refine k_callVv [.inl v1, .inl (6 : Int32), .inl (2 : Int32)] (t10_setPrinter v0 v1 (6 : Int32) (2 : Int32) g3) cw_cX10_setPrinter (Or.inl ml_10_184) rfl rfl (by decide) (by decide) (Nat.le_of_ble_eq_true rfl) dX10_jam_31 (fun _ g5 => ?_)
  refine k_iloadn (j := 2) dX10_jam_34 rfl rfl ?_
  refine k_iconst (v := (1 : Int32)) dX10_jam_35 rfl ?_
  refine k_icmpeq (tgt := 41) dX10_jam_36 (by decide) (fun _ => ?_) (fun _ => ?_)
  · refine k_aloadn (j := 0) dX10_jam_41 rfl rfl ?_
    refine k_iloadn (j := 1) dX10_jam_42 rfl rfl ?_
    refine k_bipush (v := (9 : Int32)) dX10_jam_43 rfl ?_
    refine k_aloadn (j := 0) dX10_jam_45 rfl rfl ?_
    refine k_iloadn (j := 1) dX10_jam_46 rfl rfl ?_
    refine k_bipush (v := (9 : Int32)) dX10_jam_47 rfl ?_
    refine k_callVi [.inl v1, .inl (9 : Int32)] (t10_ofPrinter v0 v1 (9 : Int32) g5) cw_cX10_ofPrinter (Or.inl ml_10_190) rfl rfl (by decide) (by decide) (Nat.le_of_ble_eq_true rfl) dX10_jam_49 (fun z7 g6 => ?_)
    refine k_iconst (v := (1 : Int32)) dX10_jam_52 rfl ?_
    refine k_iadd dX10_jam_53 ?_
    refine k_callVv [.inl v1, .inl (9 : Int32), .inl (z7 + (1 : Int32))] (t10_setPrinter v0 v1 (9 : Int32) (z7 + (1 : Int32)) g6) cw_cX10_setPrinter (Or.inl ml_10_184) rfl rfl (by decide) (by decide) (Nat.le_of_ble_eq_true rfl) dX10_jam_54 (fun _ g8 => ?_)
    refine k_aloadn (j := 0) dX10_jam_57 rfl rfl ?_
    refine k_aloadn (j := 0) dX10_jam_58 rfl rfl ?_
    refine k_iloadn (j := 1) dX10_jam_59 rfl rfl ?_
    refine k_bipush (v := (7 : Int32)) dX10_jam_60 rfl ?_
    refine k_callVi [.inl v1, .inl (7 : Int32)] (t10_ofPrinter v0 v1 (7 : Int32) g8) cw_cX10_ofPrinter (Or.inl ml_10_190) rfl rfl (by decide) (by decide) (Nat.le_of_ble_eq_true rfl) dX10_jam_62 (fun z10 g9 => ?_)
    refine k_callVv [.inl z10] (t10_leave v0 z10 g9) cw_cX10_leave (Or.inl ml_10_217) rfl rfl (by decide) (by decide) (Nat.le_of_ble_eq_true rfl) dX10_jam_65 (fun _ g11 => ?_)
    refine k_iconst (v := (1 : Int32)) dX10_jam_68 rfl ?_
    exact k_ireturn rfl dX10_jam_69
  refine k_iconst (v := (0 : Int32)) dX10_jam_39 rfl ?_
  exact k_ireturn rfl dX10_jam_40
theorem dX10_clear_0 : decode cX10_clear 0 = .ok (.aload_n 0, 1) := by decide +kernel
theorem dX10_clear_1 : decode cX10_clear 1 = .ok (.iload_n 1, 1) := by decide +kernel
theorem dX10_clear_2 : decode cX10_clear 2 = .ok (.invokevirtual 187, 3) := by decide +kernel
theorem dX10_clear_5 : decode cX10_clear 5 = .ok (.ifCond .ne 5, 3) := by decide +kernel
theorem dX10_clear_8 : decode cX10_clear 8 = .ok (.iconst (-1), 1) := by decide +kernel
theorem dX10_clear_9 : decode cX10_clear 9 = .ok (.ireturn, 1) := by decide +kernel
theorem dX10_clear_10 : decode cX10_clear 10 = .ok (.aload_n 0, 1) := by decide +kernel
theorem dX10_clear_11 : decode cX10_clear 11 = .ok (.iload_n 1, 1) := by decide +kernel
theorem dX10_clear_12 : decode cX10_clear 12 = .ok (.bipush 6, 2) := by decide +kernel
theorem dX10_clear_14 : decode cX10_clear 14 = .ok (.invokevirtual 190, 3) := by decide +kernel
theorem dX10_clear_17 : decode cX10_clear 17 = .ok (.iconst 2, 1) := by decide +kernel
theorem dX10_clear_18 : decode cX10_clear 18 = .ok (.if_icmp .eq 6, 3) := by decide +kernel
theorem dX10_clear_21 : decode cX10_clear 21 = .ok (.bipush (-5), 2) := by decide +kernel
theorem dX10_clear_23 : decode cX10_clear 23 = .ok (.ireturn, 1) := by decide +kernel
theorem dX10_clear_24 : decode cX10_clear 24 = .ok (.aload_n 0, 1) := by decide +kernel
theorem dX10_clear_25 : decode cX10_clear 25 = .ok (.iload_n 1, 1) := by decide +kernel
theorem dX10_clear_26 : decode cX10_clear 26 = .ok (.bipush 6, 2) := by decide +kernel
theorem dX10_clear_28 : decode cX10_clear 28 = .ok (.iconst 0, 1) := by decide +kernel
theorem dX10_clear_29 : decode cX10_clear 29 = .ok (.invokevirtual 184, 3) := by decide +kernel
theorem dX10_clear_32 : decode cX10_clear 32 = .ok (.iconst 1, 1) := by decide +kernel
theorem dX10_clear_33 : decode cX10_clear 33 = .ok (.ireturn, 1) := by decide +kernel
def f10_clear (v0 : Nat) (v1 : Int32) (g : GS_) : Option (Int32 × GS_) :=
  bd_ (f10_isPrinter v0 v1 g) fun z2 g1 => if z2 = 0 then some ((-1 : Int32), g1) else bd_ (f10_ofPrinter v0 v1 (6 : Int32) g1) fun z4 g3 => if z4 = (2 : Int32) then bd_ (f10_setPrinter v0 v1 (6 : Int32) (0 : Int32) g3) fun _ g5 => some ((1 : Int32), g5) else some ((-5 : Int32), g3)
theorem t10_clear (v0 : Nat) (v1 : Int32) (g : GS_) : Cn_ yX10_clear cX10_clear 2 (some .int) 2 43 EI_ [.inr (10, some v0), .inl v1] g (f10_clear v0 v1 g) := by
  refine k_method (own := RX10) (ini := false) (L1 := [some (.inr (10, some v0)), some (.inl v1)]) (by decide +kernel) rfl (fun h => by cases h) (Nat.le_of_ble_eq_true rfl) rfl ?_
  unfold f10_clear
  refine k_aloadn (j := 0) dX10_clear_0 rfl rfl ?_
  refine k_iloadn (j := 1) dX10_clear_1 rfl rfl ?_
  refine k_callVi [.inl v1] (t10_isPrinter v0 v1 g) cw_cX10_isPrinter (Or.inl ml_10_187) rfl rfl (by decide) (by decide) (Nat.le_of_ble_eq_true rfl) dX10_clear_2 (fun z2 g1 => ?_)
  refine k_ifne (tgt := 10) dX10_clear_5 (by decide) (fun _ => ?_) (fun _ => ?_)
  · refine k_iconst (v := (-1 : Int32)) dX10_clear_8 rfl ?_
    exact k_ireturn rfl dX10_clear_9
  refine k_aloadn (j := 0) dX10_clear_10 rfl rfl ?_
  refine k_iloadn (j := 1) dX10_clear_11 rfl rfl ?_
  refine k_bipush (v := (6 : Int32)) dX10_clear_12 rfl ?_
  refine k_callVi [.inl v1, .inl (6 : Int32)] (t10_ofPrinter v0 v1 (6 : Int32) g1) cw_cX10_ofPrinter (Or.inl ml_10_190) rfl rfl (by decide) (by decide) (Nat.le_of_ble_eq_true rfl) dX10_clear_14 (fun z4 g3 => ?_)
  refine k_iconst (v := (2 : Int32)) dX10_clear_17 rfl ?_
  refine k_icmpeq (tgt := 24) dX10_clear_18 (by decide) (fun _ => ?_) (fun _ => ?_)
  · refine k_aloadn (j := 0) dX10_clear_24 rfl rfl ?_
    refine k_iloadn (j := 1) dX10_clear_25 rfl rfl ?_
    refine k_bipush (v := (6 : Int32)) dX10_clear_26 rfl ?_
    refine k_iconst (v := (0 : Int32)) dX10_clear_28 rfl ?_
    refine k_callVv [.inl v1, .inl (6 : Int32), .inl (0 : Int32)] (t10_setPrinter v0 v1 (6 : Int32) (0 : Int32) g3) cw_cX10_setPrinter (Or.inl ml_10_184) rfl rfl (by decide) (by decide) (Nat.le_of_ble_eq_true rfl) dX10_clear_29 (fun _ g5 => ?_)
    refine k_iconst (v := (1 : Int32)) dX10_clear_32 rfl ?_
    exact k_ireturn rfl dX10_clear_33
  refine k_bipush (v := (-5 : Int32)) dX10_clear_21 rfl ?_
  exact k_ireturn rfl dX10_clear_23
theorem dX10_trayFor_0 : decode cX10_trayFor 0 = .ok (.aload_n 0, 1) := by decide +kernel
theorem dX10_trayFor_1 : decode cX10_trayFor 1 = .ok (.iload_n 2, 1) := by decide +kernel
theorem dX10_trayFor_2 : decode cX10_trayFor 2 = .ok (.iconst 3, 1) := by decide +kernel
theorem dX10_trayFor_3 : decode cX10_trayFor 3 = .ok (.aload_n 0, 1) := by decide +kernel
theorem dX10_trayFor_4 : decode cX10_trayFor 4 = .ok (.aload_n 0, 1) := by decide +kernel
theorem dX10_trayFor_5 : decode cX10_trayFor 5 = .ok (.iload_n 1, 1) := by decide +kernel
theorem dX10_trayFor_6 : decode cX10_trayFor 6 = .ok (.bipush 6, 2) := by decide +kernel
theorem dX10_trayFor_8 : decode cX10_trayFor 8 = .ok (.invokevirtual 133, 3) := by decide +kernel
theorem dX10_trayFor_11 : decode cX10_trayFor 11 = .ok (.iconst 1, 1) := by decide +kernel
theorem dX10_trayFor_12 : decode cX10_trayFor 12 = .ok (.invokevirtual 48, 3) := by decide +kernel
theorem dX10_trayFor_15 : decode cX10_trayFor 15 = .ok (.iadd, 1) := by decide +kernel
theorem dX10_trayFor_16 : decode cX10_trayFor 16 = .ok (.invokevirtual 190, 3) := by decide +kernel
theorem dX10_trayFor_19 : decode cX10_trayFor 19 = .ok (.ireturn, 1) := by decide +kernel
def f10_trayFor (v0 : Nat) (v1 : Int32) (v2 : Int32) (g : GS_) : Option (Int32 × GS_) :=
  bd_ (f10_ofJob v0 v1 (6 : Int32) g) fun z2 g1 => bd_ (f10_ofDocument v0 z2 (1 : Int32) g1) fun z4 g3 => bd_ (f10_ofPrinter v0 v2 ((3 : Int32) + z4) g3) fun z6 g5 => some (z6, g5)
theorem t10_trayFor (v0 : Nat) (v1 : Int32) (v2 : Int32) (g : GS_) : Cn_ yX10_trayFor cX10_trayFor 3 (some .int) 1 22 EI_ [.inr (10, some v0), .inl v1, .inl v2] g (f10_trayFor v0 v1 v2 g) := by
  refine k_method (own := RX10) (ini := false) (L1 := [some (.inr (10, some v0)), some (.inl v1), some (.inl v2)]) (by decide +kernel) rfl (fun h => by cases h) (Nat.le_of_ble_eq_true rfl) rfl ?_
  unfold f10_trayFor
  refine k_aloadn (j := 0) dX10_trayFor_0 rfl rfl ?_
  refine k_iloadn (j := 2) dX10_trayFor_1 rfl rfl ?_
  refine k_iconst (v := (3 : Int32)) dX10_trayFor_2 rfl ?_
  refine k_aloadn (j := 0) dX10_trayFor_3 rfl rfl ?_
  refine k_aloadn (j := 0) dX10_trayFor_4 rfl rfl ?_
  refine k_iloadn (j := 1) dX10_trayFor_5 rfl rfl ?_
  refine k_bipush (v := (6 : Int32)) dX10_trayFor_6 rfl ?_
  refine k_callVi [.inl v1, .inl (6 : Int32)] (t10_ofJob v0 v1 (6 : Int32) g) cw_cX10_ofJob (Or.inl ml_10_133) rfl rfl (by decide) (by decide) (Nat.le_of_ble_eq_true rfl) dX10_trayFor_8 (fun z2 g1 => ?_)
  refine k_iconst (v := (1 : Int32)) dX10_trayFor_11 rfl ?_
  refine k_callVi [.inl z2, .inl (1 : Int32)] (t10_ofDocument v0 z2 (1 : Int32) g1) cw_cX10_ofDocument (Or.inl ml_10_48) rfl rfl (by decide) (by decide) (Nat.le_of_ble_eq_true rfl) dX10_trayFor_12 (fun z4 g3 => ?_)
  refine k_iadd dX10_trayFor_15 ?_
  refine k_callVi [.inl v2, .inl ((3 : Int32) + z4)] (t10_ofPrinter v0 v2 ((3 : Int32) + z4) g3) cw_cX10_ofPrinter (Or.inl ml_10_190) rfl rfl (by decide) (by decide) (Nat.le_of_ble_eq_true rfl) dX10_trayFor_16 (fun z6 g5 => ?_)
  exact k_ireturn rfl dX10_trayFor_19
