/-! methods as functions over numbers, and that the machine does them: written by wip/whole/gen/mkparts.py (decode rows: printed names) -/
theorem dX10_addDocument_0 : decode cX10_addDocument 0 = .ok (.iload_n 1, 1) := by decide +kernel
theorem dX10_addDocument_1 : decode cX10_addDocument 1 = .ok (.iconst 1, 1) := by decide +kernel
theorem dX10_addDocument_2 : decode cX10_addDocument 2 = .ok (.sipush 400, 3) := by decide +kernel
theorem dX10_addDocument_5 : decode cX10_addDocument 5 = .ok (.invokestatic 44, 3) := by decide +kernel
theorem dX10_addDocument_8 : decode cX10_addDocument 8 = .ok (.ifCond .eq 46, 3) := by decide +kernel
theorem dX10_addDocument_11 : decode cX10_addDocument 11 = .ok (.iload_n 2, 1) := by decide +kernel
theorem dX10_addDocument_12 : decode cX10_addDocument 12 = .ok (.iconst 0, 1) := by decide +kernel
theorem dX10_addDocument_13 : decode cX10_addDocument 13 = .ok (.iconst 2, 1) := by decide +kernel
theorem dX10_addDocument_14 : decode cX10_addDocument 14 = .ok (.invokestatic 44, 3) := by decide +kernel
theorem dX10_addDocument_17 : decode cX10_addDocument 17 = .ok (.ifCond .eq 37, 3) := by decide +kernel
theorem dX10_addDocument_20 : decode cX10_addDocument 20 = .ok (.iload_n 3, 1) := by decide +kernel
theorem dX10_addDocument_21 : decode cX10_addDocument 21 = .ok (.iconst 1, 1) := by decide +kernel
theorem dX10_addDocument_22 : decode cX10_addDocument 22 = .ok (.sipush 500, 3) := by decide +kernel
theorem dX10_addDocument_25 : decode cX10_addDocument 25 = .ok (.invokestatic 44, 3) := by decide +kernel
theorem dX10_addDocument_28 : decode cX10_addDocument 28 = .ok (.ifCond .eq 26, 3) := by decide +kernel
theorem dX10_addDocument_31 : decode cX10_addDocument 31 = .ok (.iload 4, 2) := by decide +kernel
theorem dX10_addDocument_33 : decode cX10_addDocument 33 = .ok (.iconst 0, 1) := by decide +kernel
theorem dX10_addDocument_34 : decode cX10_addDocument 34 = .ok (.bipush 50, 2) := by decide +kernel
theorem dX10_addDocument_36 : decode cX10_addDocument 36 = .ok (.invokestatic 44, 3) := by decide +kernel
theorem dX10_addDocument_39 : decode cX10_addDocument 39 = .ok (.ifCond .eq 15, 3) := by decide +kernel
theorem dX10_addDocument_42 : decode cX10_addDocument 42 = .ok (.iload 5, 2) := by decide +kernel
theorem dX10_addDocument_44 : decode cX10_addDocument 44 = .ok (.iconst 1, 1) := by decide +kernel
theorem dX10_addDocument_45 : decode cX10_addDocument 45 = .ok (.sipush 500, 3) := by decide +kernel
theorem dX10_addDocument_48 : decode cX10_addDocument 48 = .ok (.invokestatic 44, 3) := by decide +kernel
theorem dX10_addDocument_51 : decode cX10_addDocument 51 = .ok (.ifCond .ne 6, 3) := by decide +kernel
theorem dX10_addDocument_54 : decode cX10_addDocument 54 = .ok (.bipush (-2), 2) := by decide +kernel
theorem dX10_addDocument_56 : decode cX10_addDocument 56 = .ok (.ireturn, 1) := by decide +kernel
theorem dX10_addDocument_57 : decode cX10_addDocument 57 = .ok (.aload_n 0, 1) := by decide +kernel
theorem dX10_addDocument_58 : decode cX10_addDocument 58 = .ok (.getfield 7, 3) := by decide +kernel
theorem dX10_addDocument_61 : decode cX10_addDocument 61 = .ok (.iconst 3, 1) := by decide +kernel
theorem dX10_addDocument_62 : decode cX10_addDocument 62 = .ok (.iaload, 1) := by decide +kernel
theorem dX10_addDocument_63 : decode cX10_addDocument 63 = .ok (.bipush 10, 2) := by decide +kernel
theorem dX10_addDocument_65 : decode cX10_addDocument 65 = .ok (.if_icmp .ne 6, 3) := by decide +kernel
theorem dX10_addDocument_68 : decode cX10_addDocument 68 = .ok (.bipush (-4), 2) := by decide +kernel
theorem dX10_addDocument_70 : decode cX10_addDocument 70 = .ok (.ireturn, 1) := by decide +kernel
theorem dX10_addDocument_71 : decode cX10_addDocument 71 = .ok (.bipush 26, 2) := by decide +kernel
theorem dX10_addDocument_73 : decode cX10_addDocument 73 = .ok (.iconst 5, 1) := by decide +kernel
theorem dX10_addDocument_74 : decode cX10_addDocument 74 = .ok (.aload_n 0, 1) := by decide +kernel
theorem dX10_addDocument_75 : decode cX10_addDocument 75 = .ok (.getfield 7, 3) := by decide +kernel
theorem dX10_addDocument_78 : decode cX10_addDocument 78 = .ok (.iconst 3, 1) := by decide +kernel
theorem dX10_addDocument_79 : decode cX10_addDocument 79 = .ok (.iaload, 1) := by decide +kernel
theorem dX10_addDocument_80 : decode cX10_addDocument 80 = .ok (.imul, 1) := by decide +kernel
theorem dX10_addDocument_81 : decode cX10_addDocument 81 = .ok (.iadd, 1) := by decide +kernel
theorem dX10_addDocument_82 : decode cX10_addDocument 82 = .ok (.istore 6, 2) := by decide +kernel
theorem dX10_addDocument_84 : decode cX10_addDocument 84 = .ok (.aload_n 0, 1) := by decide +kernel
theorem dX10_addDocument_85 : decode cX10_addDocument 85 = .ok (.getfield 7, 3) := by decide +kernel
theorem dX10_addDocument_88 : decode cX10_addDocument 88 = .ok (.iload 6, 2) := by decide +kernel
theorem dX10_addDocument_90 : decode cX10_addDocument 90 = .ok (.iload_n 1, 1) := by decide +kernel
theorem dX10_addDocument_91 : decode cX10_addDocument 91 = .ok (.iastore, 1) := by decide +kernel
theorem dX10_addDocument_92 : decode cX10_addDocument 92 = .ok (.aload_n 0, 1) := by decide +kernel
theorem dX10_addDocument_93 : decode cX10_addDocument 93 = .ok (.getfield 7, 3) := by decide +kernel
theorem dX10_addDocument_96 : decode cX10_addDocument 96 = .ok (.iload 6, 2) := by decide +kernel
theorem dX10_addDocument_98 : decode cX10_addDocument 98 = .ok (.iconst 1, 1) := by decide +kernel
theorem dX10_addDocument_99 : decode cX10_addDocument 99 = .ok (.iadd, 1) := by decide +kernel
theorem dX10_addDocument_100 : decode cX10_addDocument 100 = .ok (.iload_n 2, 1) := by decide +kernel
theorem dX10_addDocument_101 : decode cX10_addDocument 101 = .ok (.iastore, 1) := by decide +kernel
theorem dX10_addDocument_102 : decode cX10_addDocument 102 = .ok (.aload_n 0, 1) := by decide +kernel
theorem dX10_addDocument_103 : decode cX10_addDocument 103 = .ok (.getfield 7, 3) := by decide +kernel
theorem dX10_addDocument_106 : decode cX10_addDocument 106 = .ok (.iload 6, 2) := by decide +kernel
theorem dX10_addDocument_108 : decode cX10_addDocument 108 = .ok (.iconst 2, 1) := by decide +kernel
theorem dX10_addDocument_109 : decode cX10_addDocument 109 = .ok (.iadd, 1) := by decide +kernel
theorem dX10_addDocument_110 : decode cX10_addDocument 110 = .ok (.iload_n 3, 1) := by decide +kernel
theorem dX10_addDocument_111 : decode cX10_addDocument 111 = .ok (.iastore, 1) := by decide +kernel
theorem dX10_addDocument_112 : decode cX10_addDocument 112 = .ok (.aload_n 0, 1) := by decide +kernel
theorem dX10_addDocument_113 : decode cX10_addDocument 113 = .ok (.getfield 7, 3) := by decide +kernel
theorem dX10_addDocument_116 : decode cX10_addDocument 116 = .ok (.iload 6, 2) := by decide +kernel
theorem dX10_addDocument_118 : decode cX10_addDocument 118 = .ok (.iconst 3, 1) := by decide +kernel
theorem dX10_addDocument_119 : decode cX10_addDocument 119 = .ok (.iadd, 1) := by decide +kernel
theorem dX10_addDocument_120 : decode cX10_addDocument 120 = .ok (.iload 4, 2) := by decide +kernel
theorem dX10_addDocument_122 : decode cX10_addDocument 122 = .ok (.iastore, 1) := by decide +kernel
theorem dX10_addDocument_123 : decode cX10_addDocument 123 = .ok (.aload_n 0, 1) := by decide +kernel
theorem dX10_addDocument_124 : decode cX10_addDocument 124 = .ok (.getfield 7, 3) := by decide +kernel
theorem dX10_addDocument_127 : decode cX10_addDocument 127 = .ok (.iload 6, 2) := by decide +kernel
theorem dX10_addDocument_129 : decode cX10_addDocument 129 = .ok (.iconst 4, 1) := by decide +kernel
theorem dX10_addDocument_130 : decode cX10_addDocument 130 = .ok (.iadd, 1) := by decide +kernel
theorem dX10_addDocument_131 : decode cX10_addDocument 131 = .ok (.iload 5, 2) := by decide +kernel
theorem dX10_addDocument_133 : decode cX10_addDocument 133 = .ok (.iastore, 1) := by decide +kernel
theorem dX10_addDocument_134 : decode cX10_addDocument 134 = .ok (.aload_n 0, 1) := by decide +kernel
theorem dX10_addDocument_135 : decode cX10_addDocument 135 = .ok (.getfield 7, 3) := by decide +kernel
theorem dX10_addDocument_138 : decode cX10_addDocument 138 = .ok (.iconst 3, 1) := by decide +kernel
theorem dX10_addDocument_139 : decode cX10_addDocument 139 = .ok (.dup2, 1) := by decide +kernel
theorem dX10_addDocument_140 : decode cX10_addDocument 140 = .ok (.iaload, 1) := by decide +kernel
theorem dX10_addDocument_141 : decode cX10_addDocument 141 = .ok (.iconst 1, 1) := by decide +kernel
theorem dX10_addDocument_142 : decode cX10_addDocument 142 = .ok (.iadd, 1) := by decide +kernel
theorem dX10_addDocument_143 : decode cX10_addDocument 143 = .ok (.iastore, 1) := by decide +kernel
theorem dX10_addDocument_144 : decode cX10_addDocument 144 = .ok (.aload_n 0, 1) := by decide +kernel
theorem dX10_addDocument_145 : decode cX10_addDocument 145 = .ok (.getfield 7, 3) := by decide +kernel
theorem dX10_addDocument_148 : decode cX10_addDocument 148 = .ok (.iconst 3, 1) := by decide +kernel
theorem dX10_addDocument_149 : decode cX10_addDocument 149 = .ok (.iaload, 1) := by decide +kernel
theorem dX10_addDocument_150 : decode cX10_addDocument 150 = .ok (.iconst 1, 1) := by decide +kernel
theorem dX10_addDocument_151 : decode cX10_addDocument 151 = .ok (.isub, 1) := by decide +kernel
theorem dX10_addDocument_152 : decode cX10_addDocument 152 = .ok (.ireturn, 1) := by decide +kernel
def f10_addDocument (v0 : Nat) (v1 : Int32) (v2 : Int32) (v3 : Int32) (v4 : Int32) (v5 : Int32) (g : GS_) : Option (Int32 × GS_) :=
  bd_ (f10_in v1 (1 : Int32) (400 : Int32) g) fun z2 g1 => if z2 = 0 then some ((-2 : Int32), g1) else bd_ (f10_in v2 (0 : Int32) (2 : Int32) g1) fun z4 g3 => if z4 = 0 then some ((-2 : Int32), g3) else bd_ (f10_in v3 (1 : Int32) (500 : Int32) g3) fun z6 g5 => if z6 = 0 then some ((-2 : Int32), g5) else bd_ (f10_in v4 (0 : Int32) (50 : Int32) g5) fun z8 g7 => if z8 = 0 then some ((-2 : Int32), g7) else bd_ (f10_in v5 (1 : Int32) (500 : Int32) g7) fun z10 g9 => if z10 = 0 then some ((-2 : Int32), g9) else lr_ (gfr g9 320 v0) fun x11 => oc_ x11 none fun a12 => if inb (3 : Int32) (gln g9 20 a12) then if (gai g9 20 a12 (3 : Int32).toInt.toNat) = (10 : Int32) then some ((-4 : Int32), g9) else lr_ (gfr g9 320 v0) fun x13 => oc_ x13 none fun a14 => if inb (3 : Int32) (gln g9 20 a14) then lr_ ((26 : Int32) + ((5 : Int32) * (gai g9 20 a14 (3 : Int32).toInt.toNat))) fun z15 => lr_ (gfr g9 320 v0) fun x16 => oc_ x16 none fun a17 => if inb z15 (gln g9 20 a17) then lr_ (sai g9 20 a17 z15.toInt.toNat v1) (fun g18 => lr_ (gfr g18 320 v0) fun x19 => oc_ x19 none fun a20 => if inb (z15 + (1 : Int32)) (gln g18 20 a20) then lr_ (sai g18 20 a20 (z15 + (1 : Int32)).toInt.toNat v2) (fun g21 => lr_ (gfr g21 320 v0) fun x22 => oc_ x22 none fun a23 => if inb (z15 + (2 : Int32)) (gln g21 20 a23) then lr_ (sai g21 20 a23 (z15 + (2 : Int32)).toInt.toNat v3) (fun g24 => lr_ (gfr g24 320 v0) fun x25 => oc_ x25 none fun a26 => if inb (z15 + (3 : Int32)) (gln g24 20 a26) then lr_ (sai g24 20 a26 (z15 + (3 : Int32)).toInt.toNat v4) (fun g27 => lr_ (gfr g27 320 v0) fun x28 => oc_ x28 none fun a29 => if inb (z15 + (4 : Int32)) (gln g27 20 a29) then lr_ (sai g27 20 a29 (z15 + (4 : Int32)).toInt.toNat v5) (fun g30 => lr_ (gfr g30 320 v0) fun x31 => oc_ x31 none fun a32 => if inb (3 : Int32) (gln g30 20 a32) then if inb (3 : Int32) (gln g30 20 a32) then lr_ (sai g30 20 a32 (3 : Int32).toInt.toNat ((gai g30 20 a32 (3 : Int32).toInt.toNat) + (1 : Int32))) (fun g33 => lr_ (gfr g33 320 v0) fun x34 => oc_ x34 none fun a35 => if inb (3 : Int32) (gln g33 20 a35) then some (((gai g33 20 a35 (3 : Int32).toInt.toNat) - (1 : Int32)), g33) else none) else none else none) else none) else none) else none) else none) else none else none else none
theorem t10_addDocument (v0 : Nat) (v1 : Int32) (v2 : Int32) (v3 : Int32) (v4 : Int32) (v5 : Int32) (g : GS_) : Cn_ yX10_addDocument cX10_addDocument 7 (some .int) 1 22 EI_ [.inr (10, some v0), .inl v1, .inl v2, .inl v3, .inl v4, .inl v5] g (f10_addDocument v0 v1 v2 v3 v4 v5 g) := by
  refine k_method (own := RX10) (ini := false) (L1 := [some (.inr (10, some v0)), some (.inl v1), some (.inl v2), some (.inl v3), some (.inl v4), some (.inl v5), none]) (by decide +kernel) rfl (fun h => by cases h) (Nat.le_of_ble_eq_true rfl) rfl ?_
  unfold f10_addDocument
  refine k_iloadn (j := 1) dX10_addDocument_0 rfl rfl ?_
  refine k_iconst (v := (1 : Int32)) dX10_addDocument_1 rfl ?_
  refine k_sipush (v := (400 : Int32)) dX10_addDocument_2 rfl ?_
  refine k_callSi [.inl v1, .inl (1 : Int32), .inl (400 : Int32)] (t10_in v1 (1 : Int32) (400 : Int32) g) cw_cX10_in ml_10_44 rfl rfl (by decide) (by decide) (Nat.le_of_ble_eq_true rfl) dX10_addDocument_5 (fun z2 g1 => ?_)
  refine k_ifeq (tgt := 54) dX10_addDocument_8 (by decide) (fun _ => ?_) (fun _ => ?_)
  · refine k_bipush (v := (-2 : Int32)) dX10_addDocument_54 rfl ?_
    exact k_ireturn rfl dX10_addDocument_56
  refine k_iloadn (j := 2) dX10_addDocument_11 rfl rfl ?_
  refine k_iconst (v := (0 : Int32)) dX10_addDocument_12 rfl ?_
  refine k_iconst (v := (2 : Int32)) dX10_addDocument_13 rfl ?_
  refine k_callSi [.inl v2, .inl (0 : Int32), .inl (2 : Int32)] (t10_in v2 (0 : Int32) (2 : Int32) g1) cw_cX10_in ml_10_44 rfl rfl (by decide) (by decide) (Nat.le_of_ble_eq_true rfl) dX10_addDocument_14 (fun z4 g3 => ?_)
  refine k_ifeq (tgt := 54) dX10_addDocument_17 (by decide) (fun _ => ?_) (fun _ => ?_)
  · refine k_bipush (v := (-2 : Int32)) dX10_addDocument_54 rfl ?_
    exact k_ireturn rfl dX10_addDocument_56
  refine k_iloadn (j := 3) dX10_addDocument_20 rfl rfl ?_
  refine k_iconst (v := (1 : Int32)) dX10_addDocument_21 rfl ?_
  refine k_sipush (v := (500 : Int32)) dX10_addDocument_22 rfl ?_
  refine k_callSi [.inl v3, .inl (1 : Int32), .inl (500 : Int32)] (t10_in v3 (1 : Int32) (500 : Int32) g3) cw_cX10_in ml_10_44 rfl rfl (by decide) (by decide) (Nat.le_of_ble_eq_true rfl) dX10_addDocument_25 (fun z6 g5 => ?_)
  refine k_ifeq (tgt := 54) dX10_addDocument_28 (by decide) (fun _ => ?_) (fun _ => ?_)
  · refine k_bipush (v := (-2 : Int32)) dX10_addDocument_54 rfl ?_
    exact k_ireturn rfl dX10_addDocument_56
  refine k_iload dX10_addDocument_31 rfl ?_
  refine k_iconst (v := (0 : Int32)) dX10_addDocument_33 rfl ?_
  refine k_bipush (v := (50 : Int32)) dX10_addDocument_34 rfl ?_
  refine k_callSi [.inl v4, .inl (0 : Int32), .inl (50 : Int32)] (t10_in v4 (0 : Int32) (50 : Int32) g5) cw_cX10_in ml_10_44 rfl rfl (by decide) (by decide) (Nat.le_of_ble_eq_true rfl) dX10_addDocument_36 (fun z8 g7 => ?_)
  refine k_ifeq (tgt := 54) dX10_addDocument_39 (by decide) (fun _ => ?_) (fun _ => ?_)
  · refine k_bipush (v := (-2 : Int32)) dX10_addDocument_54 rfl ?_
    exact k_ireturn rfl dX10_addDocument_56
  refine k_iload dX10_addDocument_42 rfl ?_
  refine k_iconst (v := (1 : Int32)) dX10_addDocument_44 rfl ?_
  refine k_sipush (v := (500 : Int32)) dX10_addDocument_45 rfl ?_
  refine k_callSi [.inl v5, .inl (1 : Int32), .inl (500 : Int32)] (t10_in v5 (1 : Int32) (500 : Int32) g7) cw_cX10_in ml_10_44 rfl rfl (by decide) (by decide) (Nat.le_of_ble_eq_true rfl) dX10_addDocument_48 (fun z10 g9 => ?_)
  refine k_ifne (tgt := 57) dX10_addDocument_51 (by decide) (fun _ => ?_) (fun _ => ?_)
  · refine k_bipush (v := (-2 : Int32)) dX10_addDocument_54 rfl ?_
    exact k_ireturn rfl dX10_addDocument_56
  refine k_aloadn (j := 0) dX10_addDocument_57 rfl rfl ?_
  refine k_getr fg_10_7 rfl rfl dX10_addDocument_58 (fun x11 => ?_)
  refine k_iconst (v := (3 : Int32)) dX10_addDocument_61 rfl ?_
  rcases x11 with _ | a12
  · exact k_ocn
  refine k_ocs ?_
  refine k_iald dX10_addDocument_62 ?_
  refine k_bipush (v := (10 : Int32)) dX10_addDocument_63 rfl ?_
  refine k_icmpne (tgt := 71) dX10_addDocument_65 (by decide) (fun _ => ?_) (fun _ => ?_)
  · refine k_bipush (v := (-4 : Int32)) dX10_addDocument_68 rfl ?_
    exact k_ireturn rfl dX10_addDocument_70
  refine k_bipush (v := (26 : Int32)) dX10_addDocument_71 rfl ?_
  refine k_iconst (v := (5 : Int32)) dX10_addDocument_73 rfl ?_
  refine k_aloadn (j := 0) dX10_addDocument_74 rfl rfl ?_
  refine k_getr fg_10_7 rfl rfl dX10_addDocument_75 (fun x13 => ?_)
  refine k_iconst (v := (3 : Int32)) dX10_addDocument_78 rfl ?_
  rcases x13 with _ | a14
  · exact k_ocn
  refine k_ocs ?_
  refine k_iald dX10_addDocument_79 ?_
  refine k_imul dX10_addDocument_80 ?_
  refine k_iadd dX10_addDocument_81 ?_
  refine k_istl (L2 := fun z15 => [some (.inr (10, some v0)), some (.inl v1), some (.inl v2), some (.inl v3), some (.inl v4), some (.inl v5), some (.inl z15)]) dX10_addDocument_82 (by decide) (fun _ => rfl) (fun z15 => ?_)
  refine k_aloadn (j := 0) dX10_addDocument_84 rfl rfl ?_
  refine k_getr fg_10_7 rfl rfl dX10_addDocument_85 (fun x16 => ?_)
  refine k_iload dX10_addDocument_88 rfl ?_
  refine k_iloadn (j := 1) dX10_addDocument_90 rfl rfl ?_
  rcases x16 with _ | a17
  · exact k_ocn
  refine k_ocs ?_
  refine k_iast dX10_addDocument_91 (fun g18 => ?_)
  refine k_aloadn (j := 0) dX10_addDocument_92 rfl rfl ?_
  refine k_getr fg_10_7 rfl rfl dX10_addDocument_93 (fun x19 => ?_)
  refine k_iload dX10_addDocument_96 rfl ?_
  refine k_iconst (v := (1 : Int32)) dX10_addDocument_98 rfl ?_
  refine k_iadd dX10_addDocument_99 ?_
  refine k_iloadn (j := 2) dX10_addDocument_100 rfl rfl ?_
  rcases x19 with _ | a20
  · exact k_ocn
  refine k_ocs ?_
  refine k_iast dX10_addDocument_101 (fun g21 => ?_)
  refine k_aloadn (j := 0) dX10_addDocument_102 rfl rfl ?_
  refine k_getr fg_10_7 rfl rfl dX10_addDocument_103 (fun x22 => ?_)
  refine k_iload dX10_addDocument_106 rfl ?_
  refine k_iconst (v := (2 : Int32)) dX10_addDocument_108 rfl ?_
  refine k_iadd dX10_addDocument_109 ?_
  refine k_iloadn (j := 3) dX10_addDocument_110 rfl rfl ?_
  rcases x22 with _ | a23
  · exact k_ocn
  refine k_ocs ?_
  refine k_iast dX10_addDocument_111 (fun g24 => ?_)
  refine k_aloadn (j := 0) dX10_addDocument_112 rfl rfl ?_
  refine k_getr fg_10_7 rfl rfl dX10_addDocument_113 (fun x25 => ?_)
  refine k_iload dX10_addDocument_116 rfl ?_
  refine k_iconst (v := (3 : Int32)) dX10_addDocument_118 rfl ?_
  refine k_iadd dX10_addDocument_119 ?_
  refine k_iload dX10_addDocument_120 rfl ?_
  rcases x25 with _ | a26
  · exact k_ocn
  refine k_ocs ?_
  refine k_iast dX10_addDocument_122 (fun g27 => ?_)
  refine k_aloadn (j := 0) dX10_addDocument_123 rfl rfl ?_
  refine k_getr fg_10_7 rfl rfl dX10_addDocument_124 (fun x28 => ?_)
  refine k_iload dX10_addDocument_127 rfl ?_
  refine k_iconst (v := (4 : Int32)) dX10_addDocument_129 rfl ?_
  refine k_iadd dX10_addDocument_130 ?_
  refine k_iload dX10_addDocument_131 rfl ?_
  rcases x28 with _ | a29
  · exact k_ocn
  refine k_ocs ?_
  refine k_iast dX10_addDocument_133 (fun g30 => ?_)
  refine k_aloadn (j := 0) dX10_addDocument_134 rfl rfl ?_
  refine k_getr fg_10_7 rfl rfl dX10_addDocument_135 (fun x31 => ?_)
  refine k_iconst (v := (3 : Int32)) dX10_addDocument_138 rfl ?_
  refine k_dup2 dX10_addDocument_139 ?_
  rcases x31 with _ | a32
  · exact k_ocn
  refine k_ocs ?_
  refine k_iald dX10_addDocument_140 ?_
  refine k_iconst (v := (1 : Int32)) dX10_addDocument_141 rfl ?_
  refine k_iadd dX10_addDocument_142 ?_
  refine k_iast dX10_addDocument_143 (fun g33 => ?_)
  refine k_aloadn (j := 0) dX10_addDocument_144 rfl rfl ?_
  refine k_getr fg_10_7 rfl rfl dX10_addDocument_145 (fun x34 => ?_)
  refine k_iconst (v := (3 : Int32)) dX10_addDocument_148 rfl ?_
  rcases x34 with _ | a35
  · exact k_ocn
  refine k_ocs ?_
  refine k_iald dX10_addDocument_149 ?_
  refine k_iconst (v := (1 : Int32)) dX10_addDocument_150 rfl ?_
  refine k_isub dX10_addDocument_151 ?_
  exact k_ireturn rfl dX10_addDocument_152
theorem dX10_ofDocument_0 : decode cX10_ofDocument 0 = .ok (.aload_n 0, 1) := by decide +kernel
theorem dX10_ofDocument_1 : decode cX10_ofDocument 1 = .ok (.getfield 7, 3) := by decide +kernel
theorem dX10_ofDocument_4 : decode cX10_ofDocument 4 = .ok (.bipush 26, 2) := by decide +kernel
theorem dX10_ofDocument_6 : decode cX10_ofDocument 6 = .ok (.iconst 5, 1) := by decide +kernel
theorem dX10_ofDocument_7 : decode cX10_ofDocument 7 = .ok (.iload_n 1, 1) := by decide +kernel
theorem dX10_ofDocument_8 : decode cX10_ofDocument 8 = .ok (.imul, 1) := by decide +kernel
theorem dX10_ofDocument_9 : decode cX10_ofDocument 9 = .ok (.iadd, 1) := by decide +kernel
theorem dX10_ofDocument_10 : decode cX10_ofDocument 10 = .ok (.iload_n 2, 1) := by decide +kernel
theorem dX10_ofDocument_11 : decode cX10_ofDocument 11 = .ok (.iadd, 1) := by decide +kernel
theorem dX10_ofDocument_12 : decode cX10_ofDocument 12 = .ok (.iaload, 1) := by decide +kernel
theorem dX10_ofDocument_13 : decode cX10_ofDocument 13 = .ok (.ireturn, 1) := by decide +kernel
def f10_ofDocument (v0 : Nat) (v1 : Int32) (v2 : Int32) (g : GS_) : Option (Int32 × GS_) :=
  lr_ (gfr g 320 v0) fun x1 => oc_ x1 none fun a2 => if inb (((26 : Int32) + ((5 : Int32) * v1)) + v2) (gln g 20 a2) then some ((gai g 20 a2 (((26 : Int32) + ((5 : Int32) * v1)) + v2).toInt.toNat), g) else none
theorem t10_ofDocument (v0 : Nat) (v1 : Int32) (v2 : Int32) (g : GS_) : Cn_ yX10_ofDocument cX10_ofDocument 3 (some .int) 0 0 EI_ [.inr (10, some v0), .inl v1, .inl v2] g (f10_ofDocument v0 v1 v2 g) := by
  refine k_method (own := RX10) (ini := false) (L1 := [some (.inr (10, some v0)), some (.inl v1), some (.inl v2)]) (by decide +kernel) rfl (fun h => by cases h) (Nat.le_of_ble_eq_true rfl) rfl ?_
  unfold f10_ofDocument
  refine k_aloadn (j := 0) dX10_ofDocument_0 rfl rfl ?_
  refine k_getr fg_10_7 rfl rfl dX10_ofDocument_1 (fun x1 => ?_)
  refine k_bipush (v := (26 : Int32)) dX10_ofDocument_4 rfl ?_
  refine k_iconst (v := (5 : Int32)) dX10_ofDocument_6 rfl ?_
  refine k_iloadn (j := 1) dX10_ofDocument_7 rfl rfl ?_
  refine k_imul dX10_ofDocument_8 ?_
  refine k_iadd dX10_ofDocument_9 ?_
  refine k_iloadn (j := 2) dX10_ofDocument_10 rfl rfl ?_
  refine k_iadd dX10_ofDocument_11 ?_
  rcases x1 with _ | a2
  · exact k_ocn
  refine k_ocs ?_
  refine k_iald dX10_ofDocument_12 ?_
  exact k_ireturn rfl dX10_ofDocument_13
theorem dX10_weightOf_0 : decode cX10_weightOf 0 = .ok (.aload_n 0, 1) := by decide +kernel
theorem dX10_weightOf_1 : decode cX10_weightOf 1 = .ok (.iload_n 1, 1) := by decide +kernel
theorem dX10_weightOf_2 : decode cX10_weightOf 2 = .ok (.iconst 2, 1) := by decide +kernel
theorem dX10_weightOf_3 : decode cX10_weightOf 3 = .ok (.invokevirtual 48, 3) := by decide +kernel
theorem dX10_weightOf_6 : decode cX10_weightOf 6 = .ok (.iload_n 2, 1) := by decide +kernel
theorem dX10_weightOf_7 : decode cX10_weightOf 7 = .ok (.aload_n 0, 1) := by decide +kernel
theorem dX10_weightOf_8 : decode cX10_weightOf 8 = .ok (.iload_n 1, 1) := by decide +kernel
theorem dX10_weightOf_9 : decode cX10_weightOf 9 = .ok (.iconst 3, 1) := by decide +kernel
theorem dX10_weightOf_10 : decode cX10_weightOf 10 = .ok (.invokevirtual 48, 3) := by decide +kernel
theorem dX10_weightOf_13 : decode cX10_weightOf 13 = .ok (.imul, 1) := by decide +kernel
theorem dX10_weightOf_14 : decode cX10_weightOf 14 = .ok (.aload_n 0, 1) := by decide +kernel
theorem dX10_weightOf_15 : decode cX10_weightOf 15 = .ok (.iload_n 1, 1) := by decide +kernel
theorem dX10_weightOf_16 : decode cX10_weightOf 16 = .ok (.iconst 4, 1) := by decide +kernel
theorem dX10_weightOf_17 : decode cX10_weightOf 17 = .ok (.invokevirtual 48, 3) := by decide +kernel
theorem dX10_weightOf_20 : decode cX10_weightOf 20 = .ok (.irem, 1) := by decide +kernel
theorem dX10_weightOf_21 : decode cX10_weightOf 21 = .ok (.iadd, 1) := by decide +kernel
theorem dX10_weightOf_22 : decode cX10_weightOf 22 = .ok (.ireturn, 1) := by decide +kernel
def f10_weightOf (v0 : Nat) (v1 : Int32) (v2 : Int32) (g : GS_) : Option (Int32 × GS_) :=
  bd_ (f10_ofDocument v0 v1 (2 : Int32) g) fun z2 g1 => bd_ (f10_ofDocument v0 v1 (3 : Int32) g1) fun z4 g3 => bd_ (f10_ofDocument v0 v1 (4 : Int32) g3) fun z6 g5 => if z6 = 0 then none else some ((z2 + (jrem (v2 * z4) z6)), g5)
theorem t10_weightOf (v0 : Nat) (v1 : Int32) (v2 : Int32) (g : GS_) : Cn_ yX10_weightOf cX10_weightOf 3 (some .int) 1 22 EI_ [.inr (10, some v0), .inl v1, .inl v2] g (f10_weightOf v0 v1 v2 g) := by
  refine k_method (own := RX10) (ini := false) (L1 := [some (.inr (10, some v0)), some (.inl v1), some (.inl v2)]) (by decide +kernel) rfl (fun h => by cases h) (Nat.le_of_ble_eq_true rfl) rfl ?_
  unfold f10_weightOf
  refine k_aloadn (j := 0) dX10_weightOf_0 rfl rfl ?_
  refine k_iloadn (j := 1) dX10_weightOf_1 rfl rfl ?_
  refine k_iconst (v := (2 : Int32)) dX10_weightOf_2 rfl ?_
  refine k_callVi [.inl v1, .inl (2 : Int32)] (t10_ofDocument v0 v1 (2 : Int32) g) cw_cX10_ofDocument (Or.inl ml_10_48) rfl rfl (by decide) (by decide) (Nat.le_of_ble_eq_true rfl) dX10_weightOf_3 (fun z2 g1 => ?_)
  refine k_iloadn (j := 2) dX10_weightOf_6 rfl rfl ?_
  refine k_aloadn (j := 0) dX10_weightOf_7 rfl rfl ?_
  refine k_iloadn (j := 1) dX10_weightOf_8 rfl rfl ?_
  refine k_iconst (v := (3 : Int32)) dX10_weightOf_9 rfl ?_
  refine k_callVi [.inl v1, .inl (3 : Int32)] (t10_ofDocument v0 v1 (3 : Int32) g1) cw_cX10_ofDocument (Or.inl ml_10_48) rfl rfl (by decide) (by decide) (Nat.le_of_ble_eq_true rfl) dX10_weightOf_10 (fun z4 g3 => ?_)
  refine k_imul dX10_weightOf_13 ?_
  refine k_aloadn (j := 0) dX10_weightOf_14 rfl rfl ?_
  refine k_iloadn (j := 1) dX10_weightOf_15 rfl rfl ?_
  refine k_iconst (v := (4 : Int32)) dX10_weightOf_16 rfl ?_
  refine k_callVi [.inl v1, .inl (4 : Int32)] (t10_ofDocument v0 v1 (4 : Int32) g3) cw_cX10_ofDocument (Or.inl ml_10_48) rfl rfl (by decide) (by decide) (Nat.le_of_ble_eq_true rfl) dX10_weightOf_17 (fun z6 g5 => ?_)
  refine k_irem dX10_weightOf_20 (fun _ => ?_)
  refine k_iadd dX10_weightOf_21 ?_
  exact k_ireturn rfl dX10_weightOf_22
theorem dX10_isDocument_0 : decode cX10_isDocument 0 = .ok (.iload_n 1, 1) := by decide +kernel
theorem dX10_isDocument_1 : decode cX10_isDocument 1 = .ok (.iconst 0, 1) := by decide +kernel
theorem dX10_isDocument_2 : decode cX10_isDocument 2 = .ok (.aload_n 0, 1) := by decide +kernel
theorem dX10_isDocument_3 : decode cX10_isDocument 3 = .ok (.getfield 7, 3) := by decide +kernel
theorem dX10_isDocument_6 : decode cX10_isDocument 6 = .ok (.iconst 3, 1) := by decide +kernel
theorem dX10_isDocument_7 : decode cX10_isDocument 7 = .ok (.iaload, 1) := by decide +kernel
theorem dX10_isDocument_8 : decode cX10_isDocument 8 = .ok (.iconst 1, 1) := by decide +kernel
theorem dX10_isDocument_9 : decode cX10_isDocument 9 = .ok (.isub, 1) := by decide +kernel
theorem dX10_isDocument_10 : decode cX10_isDocument 10 = .ok (.invokestatic 44, 3) := by decide +kernel
theorem dX10_isDocument_13 : decode cX10_isDocument 13 = .ok (.ireturn, 1) := by decide +kernel
def f10_isDocument (v0 : Nat) (v1 : Int32) (g : GS_) : Option (Int32 × GS_) :=
  lr_ (gfr g 320 v0) fun x1 => oc_ x1 none fun a2 => if inb (3 : Int32) (gln g 20 a2) then bd_ (f10_in v1 (0 : Int32) ((gai g 20 a2 (3 : Int32).toInt.toNat) - (1 : Int32)) g) fun z4 g3 => if z4 = 0 ∨ z4 = 1 then some (z4, g3) else none else none
theorem t10_isDocument (v0 : Nat) (v1 : Int32) (g : GS_) : Cn_ yX10_isDocument cX10_isDocument 2 (some .boolean) 1 22 EI_ [.inr (10, some v0), .inl v1] g (f10_isDocument v0 v1 g) := by
  refine k_method (own := RX10) (ini := false) (L1 := [some (.inr (10, some v0)), some (.inl v1)]) (by decide +kernel) rfl (fun h => by cases h) (Nat.le_of_ble_eq_true rfl) rfl ?_
  unfold f10_isDocument
  refine k_iloadn (j := 1) dX10_isDocument_0 rfl rfl ?_
  refine k_iconst (v := (0 : Int32)) dX10_isDocument_1 rfl ?_
  refine k_aloadn (j := 0) dX10_isDocument_2 rfl rfl ?_
  refine k_getr fg_10_7 rfl rfl dX10_isDocument_3 (fun x1 => ?_)
  refine k_iconst (v := (3 : Int32)) dX10_isDocument_6 rfl ?_
  rcases x1 with _ | a2
  · exact k_ocn
  refine k_ocs ?_
  refine k_iald dX10_isDocument_7 ?_
  refine k_iconst (v := (1 : Int32)) dX10_isDocument_8 rfl ?_
  refine k_isub dX10_isDocument_9 ?_
  refine k_callSi [.inl v1, .inl (0 : Int32), .inl ((gai g 20 a2 (3 : Int32).toInt.toNat) - (1 : Int32))] (t10_in v1 (0 : Int32) ((gai g 20 a2 (3 : Int32).toInt.toNat) - (1 : Int32)) g) cw_cX10_in ml_10_44 rfl rfl (by decide) (by decide) (Nat.le_of_ble_eq_true rfl) dX10_isDocument_10 (fun z4 g3 => ?_)
  exact k_zreturnc rfl dX10_isDocument_13
theorem dX10_weight_0 : decode cX10_weight 0 = .ok (.aload_n 0, 1) := by decide +kernel
theorem dX10_weight_1 : decode cX10_weight 1 = .ok (.iload_n 1, 1) := by decide +kernel
theorem dX10_weight_2 : decode cX10_weight 2 = .ok (.invokevirtual 52, 3) := by decide +kernel
theorem dX10_weight_5 : decode cX10_weight 5 = .ok (.ifCond .ne 5, 3) := by decide +kernel
theorem dX10_weight_8 : decode cX10_weight 8 = .ok (.iconst (-1), 1) := by decide +kernel
theorem dX10_weight_9 : decode cX10_weight 9 = .ok (.ireturn, 1) := by decide +kernel
theorem dX10_weight_10 : decode cX10_weight 10 = .ok (.iload_n 2, 1) := by decide +kernel
theorem dX10_weight_11 : decode cX10_weight 11 = .ok (.iconst 1, 1) := by decide +kernel
theorem dX10_weight_12 : decode cX10_weight 12 = .ok (.aload_n 0, 1) := by decide +kernel
theorem dX10_weight_13 : decode cX10_weight 13 = .ok (.iload_n 1, 1) := by decide +kernel
theorem dX10_weight_14 : decode cX10_weight 14 = .ok (.iconst 0, 1) := by decide +kernel
theorem dX10_weight_15 : decode cX10_weight 15 = .ok (.invokevirtual 48, 3) := by decide +kernel
theorem dX10_weight_18 : decode cX10_weight 18 = .ok (.invokestatic 44, 3) := by decide +kernel
theorem dX10_weight_21 : decode cX10_weight 21 = .ok (.ifCond .eq 12, 3) := by decide +kernel
theorem dX10_weight_24 : decode cX10_weight 24 = .ok (.aload_n 0, 1) := by decide +kernel
theorem dX10_weight_25 : decode cX10_weight 25 = .ok (.iload_n 1, 1) := by decide +kernel
theorem dX10_weight_26 : decode cX10_weight 26 = .ok (.iload_n 2, 1) := by decide +kernel
theorem dX10_weight_27 : decode cX10_weight 27 = .ok (.invokevirtual 56, 3) := by decide +kernel
theorem dX10_weight_30 : decode cX10_weight 30 = .ok (.goto 5, 3) := by decide +kernel
theorem dX10_weight_33 : decode cX10_weight 33 = .ok (.bipush (-2), 2) := by decide +kernel
theorem dX10_weight_35 : decode cX10_weight 35 = .ok (.ireturn, 1) := by decide +kernel
def f10_weight (v0 : Nat) (v1 : Int32) (v2 : Int32) (g : GS_) : Option (Int32 × GS_) :=
  bd_ (f10_isDocument v0 v1 g) fun z2 g1 => if z2 = 0 then some ((-1 : Int32), g1) else bd_ (f10_ofDocument v0 v1 (0 : Int32) g1) fun z4 g3 => bd_ (f10_in v2 (1 : Int32) z4 g3) fun z6 g5 => if z6 = 0 then some ((-2 : Int32), g5) else bd_ (f10_weightOf v0 v1 v2 g5) fun z8 g7 => some (z8, g7)
theorem t10_weight (v0 : Nat) (v1 : Int32) (v2 : Int32) (g : GS_) : Cn_ yX10_weight cX10_weight 3 (some .int) 2 44 EI_ [.inr (10, some v0), .inl v1, .inl v2] g (f10_weight v0 v1 v2 g) := by
  refine k_method (own := RX10) (ini := false) (L1 := [some (.inr (10, some v0)), some (.inl v1), some (.inl v2)]) (by decide +kernel) rfl (fun h => by cases h) (Nat.le_of_ble_eq_true rfl) rfl ?_
  unfold f10_weight
  refine k_aloadn (j := 0) dX10_weight_0 rfl rfl ?_
  refine k_iloadn (j := 1) dX10_weight_1 rfl rfl ?_
  refine k_callVi [.inl v1] (t10_isDocument v0 v1 g) cw_cX10_isDocument (Or.inl ml_10_52) rfl rfl (by decide) (by decide) (Nat.le_of_ble_eq_true rfl) dX10_weight_2 (fun z2 g1 => ?_)
  refine k_ifne (tgt := 10) dX10_weight_5 (by decide) (fun _ => ?_) (fun _ => ?_)
  · refine k_iconst (v := (-1 : Int32)) dX10_weight_8 rfl ?_
    exact k_ireturn rfl dX10_weight_9
  refine k_iloadn (j := 2) dX10_weight_10 rfl rfl ?_
  refine k_iconst (v := (1 : Int32)) dX10_weight_11 rfl ?_
  refine k_aloadn (j := 0) dX10_weight_12 rfl rfl ?_
  refine k_iloadn (j := 1) dX10_weight_13 rfl rfl ?_
  refine k_iconst (v := (0 : Int32)) dX10_weight_14 rfl ?_
  refine k_callVi [.inl v1, .inl (0 : Int32)] (t10_ofDocument v0 v1 (0 : Int32) g1) cw_cX10_ofDocument (Or.inl ml_10_48) rfl rfl (by decide) (by decide) (Nat.le_of_ble_eq_true rfl) dX10_weight_15 (fun z4 g3 => ?_)
  refine k_callSi [.inl v2, .inl (1 : Int32), .inl z4] (t10_in v2 (1 : Int32) z4 g3) cw_cX10_in ml_10_44 rfl rfl (by decide) (by decide) (Nat.le_of_ble_eq_true rfl) dX10_weight_18 (fun z6 g5 => ?_)
  refine k_ifeq (tgt := 33) dX10_weight_21 (by decide) (fun _ => ?_) (fun _ => ?_)
  · refine k_bipush (v := (-2 : Int32)) dX10_weight_33 rfl ?_
    exact k_ireturn rfl dX10_weight_35
  refine k_aloadn (j := 0) dX10_weight_24 rfl rfl ?_
  refine k_iloadn (j := 1) dX10_weight_25 rfl rfl ?_
  refine k_iloadn (j := 2) dX10_weight_26 rfl rfl ?_
  refine k_callVi [.inl v1, .inl v2] (t10_weightOf v0 v1 v2 g5) cw_cX10_weightOf (Or.inl ml_10_56) rfl rfl (by decide) (by decide) (Nat.le_of_ble_eq_true rfl) dX10_weight_27 (fun z8 g7 => ?_)
  refine k_goto (tgt := 35) dX10_weight_30 (by decide) ?_
  exact k_ireturn rfl dX10_weight_35
theorem dX10_say_0 : decode cX10_say 0 = .ok (.iload_n 1, 1) := by decide +kernel
theorem dX10_say_1 : decode cX10_say 1 = .ok (.bipush 33, 2) := by decide +kernel
theorem dX10_say_3 : decode cX10_say 3 = .ok (.bipush 126, 2) := by decide +kernel
theorem dX10_say_5 : decode cX10_say 5 = .ok (.invokestatic 44, 3) := by decide +kernel
theorem dX10_say_8 : decode cX10_say 8 = .ok (.ifCond .ne 6, 3) := by decide +kernel
theorem dX10_say_11 : decode cX10_say 11 = .ok (.bipush (-2), 2) := by decide +kernel
theorem dX10_say_13 : decode cX10_say 13 = .ok (.ireturn, 1) := by decide +kernel
theorem dX10_say_14 : decode cX10_say 14 = .ok (.aload_n 0, 1) := by decide +kernel
theorem dX10_say_15 : decode cX10_say 15 = .ok (.getfield 7, 3) := by decide +kernel
theorem dX10_say_18 : decode cX10_say 18 = .ok (.bipush 7, 2) := by decide +kernel
theorem dX10_say_20 : decode cX10_say 20 = .ok (.iaload, 1) := by decide +kernel
theorem dX10_say_21 : decode cX10_say 21 = .ok (.bipush 40, 2) := by decide +kernel
theorem dX10_say_23 : decode cX10_say 23 = .ok (.if_icmp .ne 6, 3) := by decide +kernel
theorem dX10_say_26 : decode cX10_say 26 = .ok (.bipush (-4), 2) := by decide +kernel
theorem dX10_say_28 : decode cX10_say 28 = .ok (.ireturn, 1) := by decide +kernel
theorem dX10_say_29 : decode cX10_say 29 = .ok (.aload_n 0, 1) := by decide +kernel
theorem dX10_say_30 : decode cX10_say 30 = .ok (.getfield 7, 3) := by decide +kernel
theorem dX10_say_33 : decode cX10_say 33 = .ok (.sipush 418, 3) := by decide +kernel
theorem dX10_say_36 : decode cX10_say 36 = .ok (.aload_n 0, 1) := by decide +kernel
theorem dX10_say_37 : decode cX10_say 37 = .ok (.getfield 7, 3) := by decide +kernel
theorem dX10_say_40 : decode cX10_say 40 = .ok (.bipush 7, 2) := by decide +kernel
theorem dX10_say_42 : decode cX10_say 42 = .ok (.iaload, 1) := by decide +kernel
theorem dX10_say_43 : decode cX10_say 43 = .ok (.iadd, 1) := by decide +kernel
theorem dX10_say_44 : decode cX10_say 44 = .ok (.iload_n 1, 1) := by decide +kernel
theorem dX10_say_45 : decode cX10_say 45 = .ok (.iastore, 1) := by decide +kernel
theorem dX10_say_46 : decode cX10_say 46 = .ok (.aload_n 0, 1) := by decide +kernel
theorem dX10_say_47 : decode cX10_say 47 = .ok (.getfield 7, 3) := by decide +kernel
theorem dX10_say_50 : decode cX10_say 50 = .ok (.bipush 7, 2) := by decide +kernel
theorem dX10_say_52 : decode cX10_say 52 = .ok (.dup2, 1) := by decide +kernel
theorem dX10_say_53 : decode cX10_say 53 = .ok (.iaload, 1) := by decide +kernel
theorem dX10_say_54 : decode cX10_say 54 = .ok (.iconst 1, 1) := by decide +kernel
theorem dX10_say_55 : decode cX10_say 55 = .ok (.iadd, 1) := by decide +kernel
theorem dX10_say_56 : decode cX10_say 56 = .ok (.iastore, 1) := by decide +kernel
theorem dX10_say_57 : decode cX10_say 57 = .ok (.aload_n 0, 1) := by decide +kernel
theorem dX10_say_58 : decode cX10_say 58 = .ok (.getfield 7, 3) := by decide +kernel
theorem dX10_say_61 : decode cX10_say 61 = .ok (.bipush 7, 2) := by decide +kernel
theorem dX10_say_63 : decode cX10_say 63 = .ok (.iaload, 1) := by decide +kernel
theorem dX10_say_64 : decode cX10_say 64 = .ok (.ireturn, 1) := by decide +kernel
def f10_say (v0 : Nat) (v1 : Int32) (g : GS_) : Option (Int32 × GS_) :=
  bd_ (f10_in v1 (33 : Int32) (126 : Int32) g) fun z2 g1 => if z2 = 0 then some ((-2 : Int32), g1) else lr_ (gfr g1 320 v0) fun x3 => oc_ x3 none fun a4 => if inb (7 : Int32) (gln g1 20 a4) then if (gai g1 20 a4 (7 : Int32).toInt.toNat) = (40 : Int32) then some ((-4 : Int32), g1) else lr_ (gfr g1 320 v0) fun x5 => lr_ (gfr g1 320 v0) fun x6 => oc_ x6 none fun a7 => if inb (7 : Int32) (gln g1 20 a7) then oc_ x5 none fun a8 => if inb ((418 : Int32) + (gai g1 20 a7 (7 : Int32).toInt.toNat)) (gln g1 20 a8) then lr_ (sai g1 20 a8 ((418 : Int32) + (gai g1 20 a7 (7 : Int32).toInt.toNat)).toInt.toNat v1) (fun g9 => lr_ (gfr g9 320 v0) fun x10 => oc_ x10 none fun a11 => if inb (7 : Int32) (gln g9 20 a11) then if inb (7 : Int32) (gln g9 20 a11) then lr_ (sai g9 20 a11 (7 : Int32).toInt.toNat ((gai g9 20 a11 (7 : Int32).toInt.toNat) + (1 : Int32))) (fun g12 => lr_ (gfr g12 320 v0) fun x13 => oc_ x13 none fun a14 => if inb (7 : Int32) (gln g12 20 a14) then some ((gai g12 20 a14 (7 : Int32).toInt.toNat), g12) else none) else none else none) else none else none else none
theorem t10_say (v0 : Nat) (v1 : Int32) (g : GS_) : Cn_ yX10_say cX10_say 2 (some .int) 1 22 EI_ [.inr (10, some v0), .inl v1] g (f10_say v0 v1 g) := by
  refine k_method (own := RX10) (ini := false) (L1 := [some (.inr (10, some v0)), some (.inl v1)]) (by decide +kernel) rfl (fun h => by cases h) (Nat.le_of_ble_eq_true rfl) rfl ?_
  unfold f10_say
  refine k_iloadn (j := 1) dX10_say_0 rfl rfl ?_
  refine k_bipush (v := (33 : Int32)) dX10_say_1 rfl ?_
  refine k_bipush (v := (126 : Int32)) dX10_say_3 rfl ?_
  refine k_callSi [.inl v1, .inl (33 : Int32), .inl (126 : Int32)] (t10_in v1 (33 : Int32) (126 : Int32) g) cw_cX10_in ml_10_44 rfl rfl (by decide) (by decide) (Nat.le_of_ble_eq_true rfl) dX10_say_5 (fun z2 g1 => ?_)
  refine k_ifne (tgt := 14) dX10_say_8 (by decide) (fun _ => ?_) (fun _ => ?_)
  · refine k_bipush (v := (-2 : Int32)) dX10_say_11 rfl ?_
    exact k_ireturn rfl dX10_say_13
  refine k_aloadn (j := 0) dX10_say_14 rfl rfl ?_
  refine k_getr fg_10_7 rfl rfl dX10_say_15 (fun x3 => ?_)
  refine k_bipush (v := (7 : Int32)) dX10_say_18 rfl ?_
  rcases x3 with _ | a4
  · exact k_ocn
  refine k_ocs ?_
  refine k_iald dX10_say_20 ?_
  refine k_bipush (v := (40 : Int32)) dX10_say_21 rfl ?_
  refine k_icmpne (tgt := 29) dX10_say_23 (by decide) (fun _ => ?_) (fun _ => ?_)
  · refine k_bipush (v := (-4 : Int32)) dX10_say_26 rfl ?_
    exact k_ireturn rfl dX10_say_28
  refine k_aloadn (j := 0) dX10_say_29 rfl rfl ?_
  refine k_getr fg_10_7 rfl rfl dX10_say_30 (fun x5 => ?_)
  refine k_sipush (v := (418 : Int32)) dX10_say_33 rfl ?_
  refine k_aloadn (j := 0) dX10_say_36 rfl rfl ?_
  refine k_getr fg_10_7 rfl rfl dX10_say_37 (fun x6 => ?_)
  refine k_bipush (v := (7 : Int32)) dX10_say_40 rfl ?_
  rcases x6 with _ | a7
  · exact k_ocn
  refine k_ocs ?_
  refine k_iald dX10_say_42 ?_
  refine k_iadd dX10_say_43 ?_
  refine k_iloadn (j := 1) dX10_say_44 rfl rfl ?_
  rcases x5 with _ | a8
  · exact k_ocn
  refine k_ocs ?_
  refine k_iast dX10_say_45 (fun g9 => ?_)
  refine k_aloadn (j := 0) dX10_say_46 rfl rfl ?_
  refine k_getr fg_10_7 rfl rfl dX10_say_47 (fun x10 => ?_)
  refine k_bipush (v := (7 : Int32)) dX10_say_50 rfl ?_
  refine k_dup2 dX10_say_52 ?_
  rcases x10 with _ | a11
  · exact k_ocn
  refine k_ocs ?_
  refine k_iald dX10_say_53 ?_
  refine k_iconst (v := (1 : Int32)) dX10_say_54 rfl ?_
  refine k_iadd dX10_say_55 ?_
  refine k_iast dX10_say_56 (fun g12 => ?_)
  refine k_aloadn (j := 0) dX10_say_57 rfl rfl ?_
  refine k_getr fg_10_7 rfl rfl dX10_say_58 (fun x13 => ?_)
  refine k_bipush (v := (7 : Int32)) dX10_say_61 rfl ?_
  rcases x13 with _ | a14
  · exact k_ocn
  refine k_ocs ?_
  refine k_iald dX10_say_63 ?_
  exact k_ireturn rfl dX10_say_64
theorem dX10_wipe_0 : decode cX10_wipe 0 = .ok (.aload_n 0, 1) := by decide +kernel
theorem dX10_wipe_1 : decode cX10_wipe 1 = .ok (.getfield 7, 3) := by decide +kernel
theorem dX10_wipe_4 : decode cX10_wipe 4 = .ok (.bipush 7, 2) := by decide +kernel
theorem dX10_wipe_6 : decode cX10_wipe 6 = .ok (.iaload, 1) := by decide +kernel
theorem dX10_wipe_7 : decode cX10_wipe 7 = .ok (.istore_n 1, 1) := by decide +kernel
theorem dX10_wipe_8 : decode cX10_wipe 8 = .ok (.aload_n 0, 1) := by decide +kernel
theorem dX10_wipe_9 : decode cX10_wipe 9 = .ok (.getfield 7, 3) := by decide +kernel
theorem dX10_wipe_12 : decode cX10_wipe 12 = .ok (.bipush 7, 2) := by decide +kernel
theorem dX10_wipe_14 : decode cX10_wipe 14 = .ok (.iconst 0, 1) := by decide +kernel
theorem dX10_wipe_15 : decode cX10_wipe 15 = .ok (.iastore, 1) := by decide +kernel
theorem dX10_wipe_16 : decode cX10_wipe 16 = .ok (.iload_n 1, 1) := by decide +kernel
theorem dX10_wipe_17 : decode cX10_wipe 17 = .ok (.ireturn, 1) := by decide +kernel
def f10_wipe (v0 : Nat) (g : GS_) : Option (Int32 × GS_) :=
  lr_ (gfr g 320 v0) fun x1 => oc_ x1 none fun a2 => if inb (7 : Int32) (gln g 20 a2) then lr_ (gai g 20 a2 (7 : Int32).toInt.toNat) fun z3 => lr_ (gfr g 320 v0) fun x4 => oc_ x4 none fun a5 => if inb (7 : Int32) (gln g 20 a5) then lr_ (sai g 20 a5 (7 : Int32).toInt.toNat (0 : Int32)) (fun g6 => some (z3, g6)) else none else none
theorem t10_wipe (v0 : Nat) (g : GS_) : Cn_ yX10_wipe cX10_wipe 2 (some .int) 0 0 EI_ [.inr (10, some v0)] g (f10_wipe v0 g) := by
  refine k_method (own := RX10) (ini := false) (L1 := [some (.inr (10, some v0)), none]) (by decide +kernel) rfl (fun h => by cases h) (Nat.le_of_ble_eq_true rfl) rfl ?_
  unfold f10_wipe
  refine k_aloadn (j := 0) dX10_wipe_0 rfl rfl ?_
  refine k_getr fg_10_7 rfl rfl dX10_wipe_1 (fun x1 => ?_)
  refine k_bipush (v := (7 : Int32)) dX10_wipe_4 rfl ?_
  rcases x1 with _ | a2
  · exact k_ocn
  refine k_ocs ?_
  refine k_iald dX10_wipe_6 ?_
  refine k_istnl (j := 1) (L2 := fun z3 => [some (.inr (10, some v0)), some (.inl z3)]) dX10_wipe_7 rfl (by decide) (fun _ => rfl) (fun z3 => ?_)
  refine k_aloadn (j := 0) dX10_wipe_8 rfl rfl ?_
  refine k_getr fg_10_7 rfl rfl dX10_wipe_9 (fun x4 => ?_)
  refine k_bipush (v := (7 : Int32)) dX10_wipe_12 rfl ?_
  refine k_iconst (v := (0 : Int32)) dX10_wipe_14 rfl ?_
  rcases x4 with _ | a5
  · exact k_ocn
  refine k_ocs ?_
  refine k_iast dX10_wipe_15 (fun g6 => ?_)
  refine k_iloadn (j := 1) dX10_wipe_16 rfl rfl ?_
  exact k_ireturn rfl dX10_wipe_17
theorem dX10_signAt_0 : decode cX10_signAt 0 = .ok (.iload_n 1, 1) := by decide +kernel
theorem dX10_signAt_1 : decode cX10_signAt 1 = .ok (.aload_n 0, 1) := by decide +kernel
theorem dX10_signAt_2 : decode cX10_signAt 2 = .ok (.getfield 7, 3) := by decide +kernel
theorem dX10_signAt_5 : decode cX10_signAt 5 = .ok (.bipush 7, 2) := by decide +kernel
theorem dX10_signAt_7 : decode cX10_signAt 7 = .ok (.iaload, 1) := by decide +kernel
theorem dX10_signAt_8 : decode cX10_signAt 8 = .ok (.if_icmp .ge 16, 3) := by decide +kernel
theorem dX10_signAt_11 : decode cX10_signAt 11 = .ok (.aload_n 0, 1) := by decide +kernel
theorem dX10_signAt_12 : decode cX10_signAt 12 = .ok (.getfield 7, 3) := by decide +kernel
theorem dX10_signAt_15 : decode cX10_signAt 15 = .ok (.sipush 418, 3) := by decide +kernel
theorem dX10_signAt_18 : decode cX10_signAt 18 = .ok (.iload_n 1, 1) := by decide +kernel
theorem dX10_signAt_19 : decode cX10_signAt 19 = .ok (.iadd, 1) := by decide +kernel
theorem dX10_signAt_20 : decode cX10_signAt 20 = .ok (.iaload, 1) := by decide +kernel
theorem dX10_signAt_21 : decode cX10_signAt 21 = .ok (.goto 4, 3) := by decide +kernel
theorem dX10_signAt_24 : decode cX10_signAt 24 = .ok (.iconst 0, 1) := by decide +kernel
theorem dX10_signAt_25 : decode cX10_signAt 25 = .ok (.ireturn, 1) := by decide +kernel
def f10_signAt (v0 : Nat) (v1 : Int32) (g : GS_) : Option (Int32 × GS_) :=
  lr_ (gfr g 320 v0) fun x1 => oc_ x1 none fun a2 => if inb (7 : Int32) (gln g 20 a2) then if (gai g 20 a2 (7 : Int32).toInt.toNat) ≤ v1 then some ((0 : Int32), g) else lr_ (gfr g 320 v0) fun x3 => oc_ x3 none fun a4 => if inb ((418 : Int32) + v1) (gln g 20 a4) then some ((gai g 20 a4 ((418 : Int32) + v1).toInt.toNat), g) else none else none
theorem t10_signAt (v0 : Nat) (v1 : Int32) (g : GS_) : Cn_ yX10_signAt cX10_signAt 2 (some .int) 0 0 EI_ [.inr (10, some v0), .inl v1] g (f10_signAt v0 v1 g) := by
  refine k_method (own := RX10) (ini := false) (L1 := [some (.inr (10, some v0)), some (.inl v1)]) (by decide +kernel) rfl (fun h => by cases h) (Nat.le_of_ble_eq_true rfl) rfl ?_
  unfold f10_signAt
  refine k_iloadn (j := 1) dX10_signAt_0 rfl rfl ?_
  refine k_aloadn (j := 0) dX10_signAt_1 rfl rfl ?_
  refine k_getr fg_10_7 rfl rfl dX10_signAt_2 (fun x1 => ?_)
  refine k_bipush (v := (7 : Int32)) dX10_signAt_5 rfl ?_
  rcases x1 with _ | a2
  · exact k_ocn
  refine k_ocs ?_
  refine k_iald dX10_signAt_7 ?_
  refine k_icmpge (tgt := 24) dX10_signAt_8 (by decide) (fun _ => ?_) (fun _ => ?_)
  · refine k_iconst (v := (0 : Int32)) dX10_signAt_24 rfl ?_
    exact k_ireturn rfl dX10_signAt_25
  refine k_aloadn (j := 0) dX10_signAt_11 rfl rfl ?_
  refine k_getr fg_10_7 rfl rfl dX10_signAt_12 (fun x3 => ?_)
  refine k_sipush (v := (418 : Int32)) dX10_signAt_15 rfl ?_
  refine k_iloadn (j := 1) dX10_signAt_18 rfl rfl ?_
  refine k_iadd dX10_signAt_19 ?_
  rcases x3 with _ | a4
  · exact k_ocn
  refine k_ocs ?_
  refine k_iald dX10_signAt_20 ?_
  refine k_goto (tgt := 25) dX10_signAt_21 (by decide) ?_
  exact k_ireturn rfl dX10_signAt_25
theorem dX10_isDigit_0 : decode cX10_isDigit 0 = .ok (.iload_n 0, 1) := by decide +kernel
theorem dX10_isDigit_1 : decode cX10_isDigit 1 = .ok (.bipush 48, 2) := by decide +kernel
theorem dX10_isDigit_3 : decode cX10_isDigit 3 = .ok (.iload_n 1, 1) := by decide +kernel
theorem dX10_isDigit_4 : decode cX10_isDigit 4 = .ok (.iadd, 1) := by decide +kernel
theorem dX10_isDigit_5 : decode cX10_isDigit 5 = .ok (.bipush 57, 2) := by decide +kernel
theorem dX10_isDigit_7 : decode cX10_isDigit 7 = .ok (.invokestatic 44, 3) := by decide +kernel
theorem dX10_isDigit_10 : decode cX10_isDigit 10 = .ok (.ireturn, 1) := by decide +kernel
def f10_isDigit (v0 : Int32) (v1 : Int32) (g : GS_) : Option (Int32 × GS_) :=
  bd_ (f10_in v0 ((48 : Int32) + v1) (57 : Int32) g) fun z2 g1 => if z2 = 0 ∨ z2 = 1 then some (z2, g1) else none
theorem t10_isDigit (v0 : Int32) (v1 : Int32) (g : GS_) : Cn_ yX10_isDigit cX10_isDigit 2 (some .boolean) 1 22 EI_ [.inl v0, .inl v1] g (f10_isDigit v0 v1 g) := by
  refine k_method (own := RX10) (ini := false) (L1 := [some (.inl v0), some (.inl v1)]) (by decide +kernel) rfl (fun h => by cases h) (Nat.le_of_ble_eq_true rfl) rfl ?_
  unfold f10_isDigit
  refine k_iloadn (j := 0) dX10_isDigit_0 rfl rfl ?_
  refine k_bipush (v := (48 : Int32)) dX10_isDigit_1 rfl ?_
  refine k_iloadn (j := 1) dX10_isDigit_3 rfl rfl ?_
  refine k_iadd dX10_isDigit_4 ?_
  refine k_bipush (v := (57 : Int32)) dX10_isDigit_5 rfl ?_
  refine k_callSi [.inl v0, .inl ((48 : Int32) + v1), .inl (57 : Int32)] (t10_in v0 ((48 : Int32) + v1) (57 : Int32) g) cw_cX10_in ml_10_44 rfl rfl (by decide) (by decide) (Nat.le_of_ble_eq_true rfl) dX10_isDigit_7 (fun z2 g1 => ?_)
  exact k_zreturnc rfl dX10_isDigit_10
theorem dX10_isHalf_0 : decode cX10_isHalf 0 = .ok (.iload_n 0, 1) := by decide +kernel
theorem dX10_isHalf_1 : decode cX10_isHalf 1 = .ok (.bipush 111, 2) := by decide +kernel
theorem dX10_isHalf_3 : decode cX10_isHalf 3 = .ok (.if_icmp .eq 9, 3) := by decide +kernel
theorem dX10_isHalf_6 : decode cX10_isHalf 6 = .ok (.iload_n 0, 1) := by decide +kernel
theorem dX10_isHalf_7 : decode cX10_isHalf 7 = .ok (.bipush 101, 2) := by decide +kernel
theorem dX10_isHalf_9 : decode cX10_isHalf 9 = .ok (.if_icmp .ne 7, 3) := by decide +kernel
theorem dX10_isHalf_12 : decode cX10_isHalf 12 = .ok (.iconst 1, 1) := by decide +kernel
theorem dX10_isHalf_13 : decode cX10_isHalf 13 = .ok (.goto 4, 3) := by decide +kernel
theorem dX10_isHalf_16 : decode cX10_isHalf 16 = .ok (.iconst 0, 1) := by decide +kernel
theorem dX10_isHalf_17 : decode cX10_isHalf 17 = .ok (.ireturn, 1) := by decide +kernel
def f10_isHalf_b12 (g : GS_) : Option (Int32 × GS_) :=
  some ((1 : Int32), g)
theorem t10_isHalf_b12 (g : GS_) : K_ RX10 cX10_isHalf 1 (some .boolean) 0 0 false EI_ 12 [none] [] g (f10_isHalf_b12 g) := by
  unfold f10_isHalf_b12
  refine k_iconst (v := (1 : Int32)) dX10_isHalf_12 rfl ?_
  refine k_goto (tgt := 17) dX10_isHalf_13 (by decide) ?_
  exact k_zreturn rfl (by decide) dX10_isHalf_17
def f10_isHalf (v0 : Int32) (g : GS_) : Option (Int32 × GS_) :=
  if v0 = (111 : Int32) then f10_isHalf_b12 g else if v0 = (101 : Int32) then f10_isHalf_b12 g else some ((0 : Int32), g)
theorem t10_isHalf (v0 : Int32) (g : GS_) : Cn_ yX10_isHalf cX10_isHalf 1 (some .boolean) 0 0 EI_ [.inl v0] g (f10_isHalf v0 g) := by
  refine k_method (own := RX10) (ini := false) (L1 := [some (.inl v0)]) (by decide +kernel) rfl (fun h => by cases h) (Nat.le_of_ble_eq_true rfl) rfl ?_
  unfold f10_isHalf
  refine k_iloadn (j := 0) dX10_isHalf_0 rfl rfl ?_
  refine k_bipush (v := (111 : Int32)) dX10_isHalf_1 rfl ?_
  refine k_icmpeq (tgt := 12) dX10_isHalf_3 (by decide) (fun _ => ?_) (fun _ => ?_)
  · refine k_msk (L' := [none]) [false] rfl ?_
    exact t10_isHalf_b12 g
  refine k_iloadn (j := 0) dX10_isHalf_6 rfl rfl ?_
  refine k_bipush (v := (101 : Int32)) dX10_isHalf_7 rfl ?_
  refine k_icmpne (tgt := 16) dX10_isHalf_9 (by decide) (fun _ => ?_) (fun _ => ?_)
  · refine k_msk (L' := [none]) [false] rfl ?_
    exact t10_isHalf_b12 g
  refine k_iconst (v := (0 : Int32)) dX10_isHalf_16 rfl ?_
  exact k_zreturn rfl (by decide) dX10_isHalf_17
theorem dX10_init_0 : decode cX10_init 0 = .ok (.aload_n 0, 1) := by decide +kernel
theorem dX10_init_1 : decode cX10_init 1 = .ok (.invokespecial 1, 3) := by decide +kernel
theorem dX10_init_4 : decode cX10_init 4 = .ok (.aload_n 0, 1) := by decide +kernel
theorem dX10_init_5 : decode cX10_init 5 = .ok (.sipush 858, 3) := by decide +kernel
theorem dX10_init_8 : decode cX10_init 8 = .ok (.newarray .int, 2) := by decide +kernel
theorem dX10_init_10 : decode cX10_init 10 = .ok (.putfield 7, 3) := by decide +kernel
theorem dX10_init_13 : decode cX10_init 13 = .ok (.aload_n 0, 1) := by decide +kernel
theorem dX10_init_14 : decode cX10_init 14 = .ok (.sipush 858, 3) := by decide +kernel
theorem dX10_init_17 : decode cX10_init 17 = .ok (.newarray .int, 2) := by decide +kernel
theorem dX10_init_19 : decode cX10_init 19 = .ok (.putfield 13, 3) := by decide +kernel
theorem dX10_init_22 : decode cX10_init 22 = .ok (.aload_n 0, 1) := by decide +kernel
theorem dX10_init_23 : decode cX10_init 23 = .ok (.sipush 9600, 3) := by decide +kernel
theorem dX10_init_26 : decode cX10_init 26 = .ok (.newarray .int, 2) := by decide +kernel
theorem dX10_init_28 : decode cX10_init 28 = .ok (.putfield 16, 3) := by decide +kernel
theorem dX10_init_31 : decode cX10_init 31 = .ok (.aload_n 0, 1) := by decide +kernel
theorem dX10_init_32 : decode cX10_init 32 = .ok (.sipush 1716, 3) := by decide +kernel
theorem dX10_init_35 : decode cX10_init 35 = .ok (.newarray .int, 2) := by decide +kernel
theorem dX10_init_37 : decode cX10_init 37 = .ok (.putfield 19, 3) := by decide +kernel
theorem dX10_init_40 : decode cX10_init 40 = .ok (.aload_n 0, 1) := by decide +kernel
theorem dX10_init_41 : decode cX10_init 41 = .ok (.sipush 19200, 3) := by decide +kernel
theorem dX10_init_44 : decode cX10_init 44 = .ok (.newarray .int, 2) := by decide +kernel
theorem dX10_init_46 : decode cX10_init 46 = .ok (.putfield 22, 3) := by decide +kernel
theorem dX10_init_49 : decode cX10_init 49 = .ok (.aload_n 0, 1) := by decide +kernel
theorem dX10_init_50 : decode cX10_init 50 = .ok (.iconst 2, 1) := by decide +kernel
theorem dX10_init_51 : decode cX10_init 51 = .ok (.newarray .boolean, 2) := by decide +kernel
theorem dX10_init_53 : decode cX10_init 53 = .ok (.putfield 25, 3) := by decide +kernel
theorem dX10_init_56 : decode cX10_init 56 = .ok (.aload_n 0, 1) := by decide +kernel
theorem dX10_init_57 : decode cX10_init 57 = .ok (.sipush 801, 3) := by decide +kernel
theorem dX10_init_60 : decode cX10_init 60 = .ok (.newarray .int, 2) := by decide +kernel
theorem dX10_init_62 : decode cX10_init 62 = .ok (.putfield 29, 3) := by decide +kernel
theorem dX10_init_65 : decode cX10_init 65 = .ok (.aload_n 0, 1) := by decide +kernel
theorem dX10_init_66 : decode cX10_init 66 = .ok (.sipush 401, 3) := by decide +kernel
theorem dX10_init_69 : decode cX10_init 69 = .ok (.newarray .int, 2) := by decide +kernel
theorem dX10_init_71 : decode cX10_init 71 = .ok (.putfield 32, 3) := by decide +kernel
theorem dX10_init_74 : decode cX10_init 74 = .ok (.aload_n 0, 1) := by decide +kernel
theorem dX10_init_75 : decode cX10_init 75 = .ok (.sipush 401, 3) := by decide +kernel
theorem dX10_init_78 : decode cX10_init 78 = .ok (.newarray .int, 2) := by decide +kernel
theorem dX10_init_80 : decode cX10_init 80 = .ok (.putfield 35, 3) := by decide +kernel
theorem dX10_init_83 : decode cX10_init 83 = .ok (.aload_n 0, 1) := by decide +kernel
theorem dX10_init_84 : decode cX10_init 84 = .ok (.sipush 401, 3) := by decide +kernel
theorem dX10_init_87 : decode cX10_init 87 = .ok (.newarray .int, 2) := by decide +kernel
theorem dX10_init_89 : decode cX10_init 89 = .ok (.putfield 38, 3) := by decide +kernel
theorem dX10_init_92 : decode cX10_init 92 = .ok (.aload_n 0, 1) := by decide +kernel
theorem dX10_init_93 : decode cX10_init 93 = .ok (.bipush 24, 2) := by decide +kernel
theorem dX10_init_95 : decode cX10_init 95 = .ok (.newarray .int, 2) := by decide +kernel
theorem dX10_init_97 : decode cX10_init 97 = .ok (.putfield 41, 3) := by decide +kernel
theorem dX10_init_100 : decode cX10_init 100 = .ok (.aload_n 0, 1) := by decide +kernel
theorem dX10_init_101 : decode cX10_init 101 = .ok (.getfield 7, 3) := by decide +kernel
theorem dX10_init_104 : decode cX10_init 104 = .ok (.iconst 1, 1) := by decide +kernel
theorem dX10_init_105 : decode cX10_init 105 = .ok (.bipush 20, 2) := by decide +kernel
theorem dX10_init_107 : decode cX10_init 107 = .ok (.iastore, 1) := by decide +kernel
theorem dX10_init_108 : decode cX10_init 108 = .ok (.aload_n 0, 1) := by decide +kernel
theorem dX10_init_109 : decode cX10_init 109 = .ok (.getfield 7, 3) := by decide +kernel
theorem dX10_init_112 : decode cX10_init 112 = .ok (.iconst 2, 1) := by decide +kernel
theorem dX10_init_113 : decode cX10_init 113 = .ok (.sipush 1000, 3) := by decide +kernel
theorem dX10_init_116 : decode cX10_init 116 = .ok (.iastore, 1) := by decide +kernel
theorem dX10_init_117 : decode cX10_init 117 = .ok (.aload_n 0, 1) := by decide +kernel
theorem dX10_init_118 : decode cX10_init 118 = .ok (.getfield 7, 3) := by decide +kernel
theorem dX10_init_121 : decode cX10_init 121 = .ok (.bipush 8, 2) := by decide +kernel
theorem dX10_init_123 : decode cX10_init 123 = .ok (.iconst 1, 1) := by decide +kernel
theorem dX10_init_124 : decode cX10_init 124 = .ok (.iastore, 1) := by decide +kernel
theorem dX10_init_125 : decode cX10_init 125 = .ok (.aload_n 0, 1) := by decide +kernel
theorem dX10_init_126 : decode cX10_init 126 = .ok (.getfield 7, 3) := by decide +kernel
theorem dX10_init_129 : decode cX10_init 129 = .ok (.bipush 9, 2) := by decide +kernel
theorem dX10_init_131 : decode cX10_init 131 = .ok (.iconst 1, 1) := by decide +kernel
theorem dX10_init_132 : decode cX10_init 132 = .ok (.iastore, 1) := by decide +kernel
theorem dX10_init_133 : decode cX10_init 133 = .ok (.aload_n 0, 1) := by decide +kernel
theorem dX10_init_134 : decode cX10_init 134 = .ok (.getfield 7, 3) := by decide +kernel
theorem dX10_init_137 : decode cX10_init 137 = .ok (.bipush 11, 2) := by decide +kernel
theorem dX10_init_139 : decode cX10_init 139 = .ok (.iconst 1, 1) := by decide +kernel
theorem dX10_init_140 : decode cX10_init 140 = .ok (.iastore, 1) := by decide +kernel
theorem dX10_init_141 : decode cX10_init 141 = .ok (.aload_n 0, 1) := by decide +kernel
theorem dX10_init_142 : decode cX10_init 142 = .ok (.getfield 7, 3) := by decide +kernel
theorem dX10_init_145 : decode cX10_init 145 = .ok (.bipush 12, 2) := by decide +kernel
theorem dX10_init_147 : decode cX10_init 147 = .ok (.iconst 5, 1) := by decide +kernel
theorem dX10_init_148 : decode cX10_init 148 = .ok (.iastore, 1) := by decide +kernel
theorem dX10_init_149 : decode cX10_init 149 = .ok (.iconst 0, 1) := by decide +kernel
theorem dX10_init_150 : decode cX10_init 150 = .ok (.istore_n 1, 1) := by decide +kernel
theorem dX10_init_151 : decode cX10_init 151 = .ok (.iload_n 1, 1) := by decide +kernel
theorem dX10_init_152 : decode cX10_init 152 = .ok (.bipush 6, 2) := by decide +kernel
theorem dX10_init_154 : decode cX10_init 154 = .ok (.if_icmp .ge 21, 3) := by decide +kernel
theorem dX10_init_157 : decode cX10_init 157 = .ok (.aload_n 0, 1) := by decide +kernel
theorem dX10_init_158 : decode cX10_init 158 = .ok (.getfield 7, 3) := by decide +kernel
theorem dX10_init_161 : decode cX10_init 161 = .ok (.bipush 14, 2) := by decide +kernel
theorem dX10_init_163 : decode cX10_init 163 = .ok (.iload_n 1, 1) := by decide +kernel
theorem dX10_init_164 : decode cX10_init 164 = .ok (.iadd, 1) := by decide +kernel
theorem dX10_init_165 : decode cX10_init 165 = .ok (.sipush 10000, 3) := by decide +kernel
theorem dX10_init_168 : decode cX10_init 168 = .ok (.iastore, 1) := by decide +kernel
theorem dX10_init_169 : decode cX10_init 169 = .ok (.iinc 1 1, 3) := by decide +kernel
theorem dX10_init_172 : decode cX10_init 172 = .ok (.goto (-21), 3) := by decide +kernel
theorem dX10_init_175 : decode cX10_init 175 = .ok (.return_, 1) := by decide +kernel
def f10_init_b151 : Nat → Nat → Int32 → GS_ → Option (Unit × GS_)
  | 0, _, _, _ => none
  | n + 1, v0, v1, g =>
    if (6 : Int32) ≤ v1 then some ((), g) else lr_ (gfr g 320 v0) fun x1 => oc_ x1 none fun a2 => if inb ((14 : Int32) + v1) (gln g 20 a2) then lr_ (sai g 20 a2 ((14 : Int32) + v1).toInt.toNat (10000 : Int32)) (fun g3 => (f10_init_b151 n) v0 (v1 + (1 : Int32)) g3) else none
theorem t10_init_b151 : ∀ (n : Nat) (v0 : Nat) (v1 : Int32) (g : GS_), K_ RX10 cX10_init 2 none 1 12 true EV_ 151 [some (.inr (10, some v0)), some (.inl v1)] [] g (f10_init_b151 n v0 v1 g) := by
  intro n
  induction n with
  | zero =>
    intro v0 v1 g
    exact k_fail
  | succ n ih =>
    intro v0 v1 g
    show K_ RX10 cX10_init 2 none 1 12 true EV_ 151 [some (.inr (10, some v0)), some (.inl v1)] [] g (if (6 : Int32) ≤ v1 then some ((), g) else lr_ (gfr g 320 v0) fun x1 => oc_ x1 none fun a2 => if inb ((14 : Int32) + v1) (gln g 20 a2) then lr_ (sai g 20 a2 ((14 : Int32) + v1).toInt.toNat (10000 : Int32)) (fun g3 => (f10_init_b151 n) v0 (v1 + (1 : Int32)) g3) else none)
    refine k_iloadn (j := 1) dX10_init_151 rfl rfl ?_
    refine k_bipush (v := (6 : Int32)) dX10_init_152 rfl ?_
    refine k_icmpge (tgt := 175) dX10_init_154 (by decide) (fun _ => ?_) (fun _ => ?_)
    · exact k_return rfl dX10_init_175
    refine k_aloadn (j := 0) dX10_init_157 rfl rfl ?_
    refine k_getr fg_10_7 rfl rfl dX10_init_158 (fun x1 => ?_)
    refine k_bipush (v := (14 : Int32)) dX10_init_161 rfl ?_
    refine k_iloadn (j := 1) dX10_init_163 rfl rfl ?_
    refine k_iadd dX10_init_164 ?_
    refine k_sipush (v := (10000 : Int32)) dX10_init_165 rfl ?_
    rcases x1 with _ | a2
    · exact k_ocn
    refine k_ocs ?_
    refine k_iast dX10_init_168 (fun g3 => ?_)
    refine k_iinc (v := (v1 + (1 : Int32))) (L' := [some (.inr (10, some v0)), some (.inl (v1 + (1 : Int32)))]) dX10_init_169 rfl rfl (by decide) rfl ?_
    refine k_goto (tgt := 151) dX10_init_172 (by decide) ?_
    exact ih v0 (v1 + (1 : Int32)) g3
def f10_init (v0 : Nat) (g : GS_) : Option (Unit × GS_) :=
  na_ g 20 (858 : Int32) fun a4 g5 => lr_ (sfr g5 320 v0 (some a4)) fun g6 => na_ g6 20 (858 : Int32) fun a7 g8 => lr_ (sfr g8 321 v0 (some a7)) fun g9 => na_ g9 20 (9600 : Int32) fun a10 g11 => lr_ (sfr g11 322 v0 (some a10)) fun g12 => na_ g12 20 (1716 : Int32) fun a13 g14 => lr_ (sfr g14 323 v0 (some a13)) fun g15 => na_ g15 20 (19200 : Int32) fun a16 g17 => lr_ (sfr g17 324 v0 (some a16)) fun g18 => na_ g18 21 (2 : Int32) fun a19 g20 => lr_ (sfr g20 325 v0 (some a19)) fun g21 => na_ g21 20 (801 : Int32) fun a22 g23 => lr_ (sfr g23 332 v0 (some a22)) fun g24 => na_ g24 20 (401 : Int32) fun a25 g26 => lr_ (sfr g26 334 v0 (some a25)) fun g27 => na_ g27 20 (401 : Int32) fun a28 g29 => lr_ (sfr g29 335 v0 (some a28)) fun g30 => na_ g30 20 (401 : Int32) fun a31 g32 => lr_ (sfr g32 336 v0 (some a31)) fun g33 => na_ g33 20 (24 : Int32) fun a34 g35 => lr_ (sfr g35 340 v0 (some a34)) fun g36 => lr_ (gfr g36 320 v0) fun x37 => oc_ x37 none fun a38 => if inb (1 : Int32) (gln g36 20 a38) then lr_ (sai g36 20 a38 (1 : Int32).toInt.toNat (20 : Int32)) (fun g39 => lr_ (gfr g39 320 v0) fun x40 => oc_ x40 none fun a41 => if inb (2 : Int32) (gln g39 20 a41) then lr_ (sai g39 20 a41 (2 : Int32).toInt.toNat (1000 : Int32)) (fun g42 => lr_ (gfr g42 320 v0) fun x43 => oc_ x43 none fun a44 => if inb (8 : Int32) (gln g42 20 a44) then lr_ (sai g42 20 a44 (8 : Int32).toInt.toNat (1 : Int32)) (fun g45 => lr_ (gfr g45 320 v0) fun x46 => oc_ x46 none fun a47 => if inb (9 : Int32) (gln g45 20 a47) then lr_ (sai g45 20 a47 (9 : Int32).toInt.toNat (1 : Int32)) (fun g48 => lr_ (gfr g48 320 v0) fun x49 => oc_ x49 none fun a50 => if inb (11 : Int32) (gln g48 20 a50) then lr_ (sai g48 20 a50 (11 : Int32).toInt.toNat (1 : Int32)) (fun g51 => lr_ (gfr g51 320 v0) fun x52 => oc_ x52 none fun a53 => if inb (12 : Int32) (gln g51 20 a53) then lr_ (sai g51 20 a53 (12 : Int32).toInt.toNat (5 : Int32)) (fun g54 => f10_init_b151 FU_ v0 (0 : Int32) g54) else none) else none) else none) else none) else none) else none
theorem t10_init (v0 : Nat) (g : GS_) : Cn_ yX10_init cX10_init 2 none 1 12 EV_ [.inr (10, some v0)] g (f10_init v0 g) := by
  refine k_method (own := RX10) (ini := true) (L1 := [some (.inr (10, some v0)), none]) (by decide +kernel) rfl (fun _ => rfl) (Nat.le_of_ble_eq_true rfl) rfl ?_
  unfold f10_init
  refine k_aloadn (j := 0) dX10_init_0 rfl rfl ?_
  refine k_objInit ml_10_1 oi_.1 oi_.2 (by decide) (Nat.le_of_ble_eq_true rfl) dX10_init_1 ?_
  refine k_aloadn (j := 0) dX10_init_4 rfl rfl ?_
  refine k_sipush (v := (858 : Int32)) dX10_init_5 rfl ?_
  refine k_newa ac_20 dX10_init_8 (fun a4 g5 => ?_)
  refine k_putfr fp_10_7 ty_arr rfl rfl rfl dX10_init_10 (fun g6 => ?_)
  refine k_aloadn (j := 0) dX10_init_13 rfl rfl ?_
  refine k_sipush (v := (858 : Int32)) dX10_init_14 rfl ?_
  refine k_newa ac_20 dX10_init_17 (fun a7 g8 => ?_)
  refine k_putfr fp_10_13 ty_arr rfl rfl rfl dX10_init_19 (fun g9 => ?_)
  refine k_aloadn (j := 0) dX10_init_22 rfl rfl ?_
  refine k_sipush (v := (9600 : Int32)) dX10_init_23 rfl ?_
  refine k_newa ac_20 dX10_init_26 (fun a10 g11 => ?_)
  refine k_putfr fp_10_16 ty_arr rfl rfl rfl dX10_init_28 (fun g12 => ?_)
  refine k_aloadn (j := 0) dX10_init_31 rfl rfl ?_
  refine k_sipush (v := (1716 : Int32)) dX10_init_32 rfl ?_
  refine k_newa ac_20 dX10_init_35 (fun a13 g14 => ?_)
  refine k_putfr fp_10_19 ty_arr rfl rfl rfl dX10_init_37 (fun g15 => ?_)
  refine k_aloadn (j := 0) dX10_init_40 rfl rfl ?_
  refine k_sipush (v := (19200 : Int32)) dX10_init_41 rfl ?_
  refine k_newa ac_20 dX10_init_44 (fun a16 g17 => ?_)
  refine k_putfr fp_10_22 ty_arr rfl rfl rfl dX10_init_46 (fun g18 => ?_)
  refine k_aloadn (j := 0) dX10_init_49 rfl rfl ?_
  refine k_iconst (v := (2 : Int32)) dX10_init_50 rfl ?_
  refine k_newz ac_21 dX10_init_51 (fun a19 g20 => ?_)
  refine k_putfr fp_10_25 ty_arr rfl rfl rfl dX10_init_53 (fun g21 => ?_)
  refine k_aloadn (j := 0) dX10_init_56 rfl rfl ?_
  refine k_sipush (v := (801 : Int32)) dX10_init_57 rfl ?_
  refine k_newa ac_20 dX10_init_60 (fun a22 g23 => ?_)
  refine k_putfr fp_10_29 ty_arr rfl rfl rfl dX10_init_62 (fun g24 => ?_)
  refine k_aloadn (j := 0) dX10_init_65 rfl rfl ?_
  refine k_sipush (v := (401 : Int32)) dX10_init_66 rfl ?_
  refine k_newa ac_20 dX10_init_69 (fun a25 g26 => ?_)
  refine k_putfr fp_10_32 ty_arr rfl rfl rfl dX10_init_71 (fun g27 => ?_)
  refine k_aloadn (j := 0) dX10_init_74 rfl rfl ?_
  refine k_sipush (v := (401 : Int32)) dX10_init_75 rfl ?_
  refine k_newa ac_20 dX10_init_78 (fun a28 g29 => ?_)
  refine k_putfr fp_10_35 ty_arr rfl rfl rfl dX10_init_80 (fun g30 => ?_)
  refine k_aloadn (j := 0) dX10_init_83 rfl rfl ?_
  refine k_sipush (v := (401 : Int32)) dX10_init_84 rfl ?_
  refine k_newa ac_20 dX10_init_87 (fun a31 g32 => ?_)
  refine k_putfr fp_10_38 ty_arr rfl rfl rfl dX10_init_89 (fun g33 => ?_)
  refine k_aloadn (j := 0) dX10_init_92 rfl rfl ?_
  refine k_bipush (v := (24 : Int32)) dX10_init_93 rfl ?_
  refine k_newa ac_20 dX10_init_95 (fun a34 g35 => ?_)
  refine k_putfr fp_10_41 ty_arr rfl rfl rfl dX10_init_97 (fun g36 => ?_)
  refine k_aloadn (j := 0) dX10_init_100 rfl rfl ?_
  refine k_getr fg_10_7 rfl rfl dX10_init_101 (fun x37 => ?_)
  refine k_iconst (v := (1 : Int32)) dX10_init_104 rfl ?_
  refine k_bipush (v := (20 : Int32)) dX10_init_105 rfl ?_
  rcases x37 with _ | a38
  · exact k_ocn
  refine k_ocs ?_
  refine k_iast dX10_init_107 (fun g39 => ?_)
  refine k_aloadn (j := 0) dX10_init_108 rfl rfl ?_
  refine k_getr fg_10_7 rfl rfl dX10_init_109 (fun x40 => ?_)
  refine k_iconst (v := (2 : Int32)) dX10_init_112 rfl ?_
  refine k_sipush (v := (1000 : Int32)) dX10_init_113 rfl ?_
  rcases x40 with _ | a41
  · exact k_ocn
  refine k_ocs ?_
  refine k_iast dX10_init_116 (fun g42 => ?_)
  refine k_aloadn (j := 0) dX10_init_117 rfl rfl ?_
  refine k_getr fg_10_7 rfl rfl dX10_init_118 (fun x43 => ?_)
  refine k_bipush (v := (8 : Int32)) dX10_init_121 rfl ?_
  refine k_iconst (v := (1 : Int32)) dX10_init_123 rfl ?_
  rcases x43 with _ | a44
  · exact k_ocn
  refine k_ocs ?_
  refine k_iast dX10_init_124 (fun g45 => ?_)
  refine k_aloadn (j := 0) dX10_init_125 rfl rfl ?_
  refine k_getr fg_10_7 rfl rfl dX10_init_126 (fun x46 => ?_)
  refine k_bipush (v := (9 : Int32)) dX10_init_129 rfl ?_
  refine k_iconst (v := (1 : Int32)) dX10_init_131 rfl ?_
  rcases x46 with _ | a47
  · exact k_ocn
  refine k_ocs ?_
  refine k_iast dX10_init_132 (fun g48 => ?_)
  refine k_aloadn (j := 0) dX10_init_133 rfl rfl ?_
  refine k_getr fg_10_7 rfl rfl dX10_init_134 (fun x49 => ?_)
  refine k_bipush (v := (11 : Int32)) dX10_init_137 rfl ?_
  refine k_iconst (v := (1 : Int32)) dX10_init_139 rfl ?_
  rcases x49 with _ | a50
  · exact k_ocn
  refine k_ocs ?_
  refine k_iast dX10_init_140 (fun g51 => ?_)
  refine k_aloadn (j := 0) dX10_init_141 rfl rfl ?_
  refine k_getr fg_10_7 rfl rfl dX10_init_142 (fun x52 => ?_)
  refine k_bipush (v := (12 : Int32)) dX10_init_145 rfl ?_
  refine k_iconst (v := (5 : Int32)) dX10_init_147 rfl ?_
  rcases x52 with _ | a53
  · exact k_ocn
  refine k_ocs ?_
  refine k_iast dX10_init_148 (fun g54 => ?_)
  refine k_iconst (v := (0 : Int32)) dX10_init_149 rfl ?_
  refine k_istn (j := 1) (L' := [some (.inr (10, some v0)), some (.inl (0 : Int32))]) dX10_init_150 rfl (by decide) rfl ?_
  exact t10_init_b151 FU_ v0 (0 : Int32) g54
theorem dX10_readNumber_0 : decode cX10_readNumber 0 = .ok (.aload_n 0, 1) := by decide +kernel
theorem dX10_readNumber_1 : decode cX10_readNumber 1 = .ok (.aload_n 0, 1) := by decide +kernel
theorem dX10_readNumber_2 : decode cX10_readNumber 2 = .ok (.getfield 59, 3) := by decide +kernel
theorem dX10_readNumber_5 : decode cX10_readNumber 5 = .ok (.invokevirtual 63, 3) := by decide +kernel
theorem dX10_readNumber_8 : decode cX10_readNumber 8 = .ok (.iconst 1, 1) := by decide +kernel
theorem dX10_readNumber_9 : decode cX10_readNumber 9 = .ok (.invokestatic 67, 3) := by decide +kernel
theorem dX10_readNumber_12 : decode cX10_readNumber 12 = .ok (.ifCond .ne 10, 3) := by decide +kernel
theorem dX10_readNumber_15 : decode cX10_readNumber 15 = .ok (.aload_n 0, 1) := by decide +kernel
theorem dX10_readNumber_16 : decode cX10_readNumber 16 = .ok (.iconst 1, 1) := by decide +kernel
theorem dX10_readNumber_17 : decode cX10_readNumber 17 = .ok (.putfield 71, 3) := by decide +kernel
theorem dX10_readNumber_20 : decode cX10_readNumber 20 = .ok (.iconst 0, 1) := by decide +kernel
theorem dX10_readNumber_21 : decode cX10_readNumber 21 = .ok (.ireturn, 1) := by decide +kernel
theorem dX10_readNumber_22 : decode cX10_readNumber 22 = .ok (.iconst 0, 1) := by decide +kernel
theorem dX10_readNumber_23 : decode cX10_readNumber 23 = .ok (.istore_n 1, 1) := by decide +kernel
theorem dX10_readNumber_24 : decode cX10_readNumber 24 = .ok (.iconst 0, 1) := by decide +kernel
theorem dX10_readNumber_25 : decode cX10_readNumber 25 = .ok (.istore_n 2, 1) := by decide +kernel
theorem dX10_readNumber_26 : decode cX10_readNumber 26 = .ok (.iload_n 2, 1) := by decide +kernel
theorem dX10_readNumber_27 : decode cX10_readNumber 27 = .ok (.iconst 3, 1) := by decide +kernel
theorem dX10_readNumber_28 : decode cX10_readNumber 28 = .ok (.if_icmp .ge 51, 3) := by decide +kernel
theorem dX10_readNumber_31 : decode cX10_readNumber 31 = .ok (.aload_n 0, 1) := by decide +kernel
theorem dX10_readNumber_32 : decode cX10_readNumber 32 = .ok (.aload_n 0, 1) := by decide +kernel
theorem dX10_readNumber_33 : decode cX10_readNumber 33 = .ok (.getfield 59, 3) := by decide +kernel
theorem dX10_readNumber_36 : decode cX10_readNumber 36 = .ok (.invokevirtual 63, 3) := by decide +kernel
theorem dX10_readNumber_39 : decode cX10_readNumber 39 = .ok (.iconst 0, 1) := by decide +kernel
theorem dX10_readNumber_40 : decode cX10_readNumber 40 = .ok (.invokestatic 67, 3) := by decide +kernel
theorem dX10_readNumber_43 : decode cX10_readNumber 43 = .ok (.ifCond .eq 36, 3) := by decide +kernel
theorem dX10_readNumber_46 : decode cX10_readNumber 46 = .ok (.bipush 10, 2) := by decide +kernel
theorem dX10_readNumber_48 : decode cX10_readNumber 48 = .ok (.iload_n 1, 1) := by decide +kernel
theorem dX10_readNumber_49 : decode cX10_readNumber 49 = .ok (.imul, 1) := by decide +kernel
theorem dX10_readNumber_50 : decode cX10_readNumber 50 = .ok (.aload_n 0, 1) := by decide +kernel
theorem dX10_readNumber_51 : decode cX10_readNumber 51 = .ok (.aload_n 0, 1) := by decide +kernel
theorem dX10_readNumber_52 : decode cX10_readNumber 52 = .ok (.getfield 59, 3) := by decide +kernel
theorem dX10_readNumber_55 : decode cX10_readNumber 55 = .ok (.invokevirtual 63, 3) := by decide +kernel
theorem dX10_readNumber_58 : decode cX10_readNumber 58 = .ok (.iadd, 1) := by decide +kernel
theorem dX10_readNumber_59 : decode cX10_readNumber 59 = .ok (.bipush 48, 2) := by decide +kernel
theorem dX10_readNumber_61 : decode cX10_readNumber 61 = .ok (.isub, 1) := by decide +kernel
theorem dX10_readNumber_62 : decode cX10_readNumber 62 = .ok (.istore_n 1, 1) := by decide +kernel
theorem dX10_readNumber_63 : decode cX10_readNumber 63 = .ok (.aload_n 0, 1) := by decide +kernel
theorem dX10_readNumber_64 : decode cX10_readNumber 64 = .ok (.dup, 1) := by decide +kernel
theorem dX10_readNumber_65 : decode cX10_readNumber 65 = .ok (.getfield 59, 3) := by decide +kernel
theorem dX10_readNumber_68 : decode cX10_readNumber 68 = .ok (.iconst 1, 1) := by decide +kernel
theorem dX10_readNumber_69 : decode cX10_readNumber 69 = .ok (.iadd, 1) := by decide +kernel
theorem dX10_readNumber_70 : decode cX10_readNumber 70 = .ok (.putfield 59, 3) := by decide +kernel
theorem dX10_readNumber_73 : decode cX10_readNumber 73 = .ok (.iinc 2 1, 3) := by decide +kernel
theorem dX10_readNumber_76 : decode cX10_readNumber 76 = .ok (.goto (-50), 3) := by decide +kernel
theorem dX10_readNumber_79 : decode cX10_readNumber 79 = .ok (.iload_n 1, 1) := by decide +kernel
theorem dX10_readNumber_80 : decode cX10_readNumber 80 = .ok (.ireturn, 1) := by decide +kernel
def f10_readNumber_b26 : Nat → Nat → Int32 → Int32 → GS_ → Option (Int32 × GS_)
  | 0, _, _, _, _ => none
  | n + 1, v0, v1, v2, g =>
    if (3 : Int32) ≤ v2 then some (v1, g) else bd_ (f10_signAt v0 (gfi g 326 v0) g) fun z2 g1 => bd_ (f10_isDigit z2 (0 : Int32) g1) fun z4 g3 => if z4 = 0 then some (v1, g3) else bd_ (f10_signAt v0 (gfi g3 326 v0) g3) fun z6 g5 => lr_ ((((10 : Int32) * v1) + z6) - (48 : Int32)) fun z7 => lr_ (sfi g5 326 v0 ((gfi g5 326 v0) + (1 : Int32))) fun g8 => (f10_readNumber_b26 n) v0 z7 (v2 + (1 : Int32)) g8
theorem t10_readNumber_b26 : ∀ (n : Nat) (v0 : Nat) (v1 : Int32) (v2 : Int32) (g : GS_), K_ RX10 cX10_readNumber 3 (some .int) 2 43 false EI_ 26 [some (.inr (10, some v0)), some (.inl v1), some (.inl v2)] [] g (f10_readNumber_b26 n v0 v1 v2 g) := by
  intro n
  induction n with
  | zero =>
    intro v0 v1 v2 g
    exact k_fail
  | succ n ih =>
    intro v0 v1 v2 g
    show K_ RX10 cX10_readNumber 3 (some .int) 2 43 false EI_ 26 [some (.inr (10, some v0)), some (.inl v1), some (.inl v2)] [] g (if (3 : Int32) ≤ v2 then some (v1, g) else bd_ (f10_signAt v0 (gfi g 326 v0) g) fun z2 g1 => bd_ (f10_isDigit z2 (0 : Int32) g1) fun z4 g3 => if z4 = 0 then some (v1, g3) else bd_ (f10_signAt v0 (gfi g3 326 v0) g3) fun z6 g5 => lr_ ((((10 : Int32) * v1) + z6) - (48 : Int32)) fun z7 => lr_ (sfi g5 326 v0 ((gfi g5 326 v0) + (1 : Int32))) fun g8 => (f10_readNumber_b26 n) v0 z7 (v2 + (1 : Int32)) g8)
    refine k_iloadn (j := 2) dX10_readNumber_26 rfl rfl ?_
    refine k_iconst (v := (3 : Int32)) dX10_readNumber_27 rfl ?_
    refine k_icmpge (tgt := 79) dX10_readNumber_28 (by decide) (fun _ => ?_) (fun _ => ?_)
    · refine k_iloadn (j := 1) dX10_readNumber_79 rfl rfl ?_
      exact k_ireturn rfl dX10_readNumber_80
    refine k_aloadn (j := 0) dX10_readNumber_31 rfl rfl ?_
    refine k_aloadn (j := 0) dX10_readNumber_32 rfl rfl ?_
    refine k_geti fg_10_59 rfl rfl dX10_readNumber_33 ?_
    refine k_callVi [.inl (gfi g 326 v0)] (t10_signAt v0 (gfi g 326 v0) g) cw_cX10_signAt (Or.inl ml_10_63) rfl rfl (by decide) (by decide) (Nat.le_of_ble_eq_true rfl) dX10_readNumber_36 (fun z2 g1 => ?_)
    refine k_iconst (v := (0 : Int32)) dX10_readNumber_39 rfl ?_
    refine k_callSi [.inl z2, .inl (0 : Int32)] (t10_isDigit z2 (0 : Int32) g1) cw_cX10_isDigit ml_10_67 rfl rfl (by decide) (by decide) (Nat.le_of_ble_eq_true rfl) dX10_readNumber_40 (fun z4 g3 => ?_)
    refine k_ifeq (tgt := 79) dX10_readNumber_43 (by decide) (fun _ => ?_) (fun _ => ?_)
    · refine k_iloadn (j := 1) dX10_readNumber_79 rfl rfl ?_
      exact k_ireturn rfl dX10_readNumber_80
    refine k_bipush (v := (10 : Int32)) dX10_readNumber_46 rfl ?_
    refine k_iloadn (j := 1) dX10_readNumber_48 rfl rfl ?_
    refine k_imul dX10_readNumber_49 ?_
    refine k_aloadn (j := 0) dX10_readNumber_50 rfl rfl ?_
    refine k_aloadn (j := 0) dX10_readNumber_51 rfl rfl ?_
    refine k_geti fg_10_59 rfl rfl dX10_readNumber_52 ?_
    refine k_callVi [.inl (gfi g3 326 v0)] (t10_signAt v0 (gfi g3 326 v0) g3) cw_cX10_signAt (Or.inl ml_10_63) rfl rfl (by decide) (by decide) (Nat.le_of_ble_eq_true rfl) dX10_readNumber_55 (fun z6 g5 => ?_)
    refine k_iadd dX10_readNumber_58 ?_
    refine k_bipush (v := (48 : Int32)) dX10_readNumber_59 rfl ?_
    refine k_isub dX10_readNumber_61 ?_
    refine k_istnl (j := 1) (L2 := fun z7 => [some (.inr (10, some v0)), some (.inl z7), some (.inl v2)]) dX10_readNumber_62 rfl (by decide) (fun _ => rfl) (fun z7 => ?_)
    refine k_aloadn (j := 0) dX10_readNumber_63 rfl rfl ?_
    refine k_dup dX10_readNumber_64 ?_
    refine k_geti fg_10_59 rfl rfl dX10_readNumber_65 ?_
    refine k_iconst (v := (1 : Int32)) dX10_readNumber_68 rfl ?_
    refine k_iadd dX10_readNumber_69 ?_
    refine k_puti fp_10_59 rfl rfl dX10_readNumber_70 (fun g8 => ?_)
    refine k_iinc (v := (v2 + (1 : Int32))) (L' := [some (.inr (10, some v0)), some (.inl z7), some (.inl (v2 + (1 : Int32)))]) dX10_readNumber_73 rfl rfl (by decide) rfl ?_
    refine k_goto (tgt := 26) dX10_readNumber_76 (by decide) ?_
    exact ih v0 z7 (v2 + (1 : Int32)) g8
def f10_readNumber (v0 : Nat) (g : GS_) : Option (Int32 × GS_) :=
  bd_ (f10_signAt v0 (gfi g 326 v0) g) fun z10 g9 => bd_ (f10_isDigit z10 (1 : Int32) g9) fun z12 g11 => if z12 = 0 then lr_ (sfi g11 327 v0 (1 : Int32)) fun g13 => some ((0 : Int32), g13) else f10_readNumber_b26 FU_ v0 (0 : Int32) (0 : Int32) g11
theorem t10_readNumber (v0 : Nat) (g : GS_) : Cn_ yX10_readNumber cX10_readNumber 3 (some .int) 2 43 EI_ [.inr (10, some v0)] g (f10_readNumber v0 g) := by
  refine k_method (own := RX10) (ini := false) (L1 := [some (.inr (10, some v0)), none, none]) (by decide +kernel) rfl (fun h => by cases h) (Nat.le_of_ble_eq_true rfl) rfl ?_
  unfold f10_readNumber
  refine k_aloadn (j := 0) dX10_readNumber_0 rfl rfl ?_
  refine k_aloadn (j := 0) dX10_readNumber_1 rfl rfl ?_
  refine k_geti fg_10_59 rfl rfl dX10_readNumber_2 ?_
  refine k_callVi [.inl (gfi g 326 v0)] (t10_signAt v0 (gfi g 326 v0) g) cw_cX10_signAt (Or.inl ml_10_63) rfl rfl (by decide) (by decide) (Nat.le_of_ble_eq_true rfl) dX10_readNumber_5 (fun z10 g9 => ?_)
  refine k_iconst (v := (1 : Int32)) dX10_readNumber_8 rfl ?_
  refine k_callSi [.inl z10, .inl (1 : Int32)] (t10_isDigit z10 (1 : Int32) g9) cw_cX10_isDigit ml_10_67 rfl rfl (by decide) (by decide) (Nat.le_of_ble_eq_true rfl) dX10_readNumber_9 (fun z12 g11 => ?_)
  refine k_ifne (tgt := 22) dX10_readNumber_12 (by decide) (fun _ => ?_) (fun _ => ?_)
  · refine k_aloadn (j := 0) dX10_readNumber_15 rfl rfl ?_
    refine k_iconst (v := (1 : Int32)) dX10_readNumber_16 rfl ?_
    refine k_putz fp_10_71 rfl rfl (by decide) dX10_readNumber_17 (fun g13 => ?_)
    refine k_iconst (v := (0 : Int32)) dX10_readNumber_20 rfl ?_
    exact k_ireturn rfl dX10_readNumber_21
  refine k_iconst (v := (0 : Int32)) dX10_readNumber_22 rfl ?_
  refine k_istn (j := 1) (L' := [some (.inr (10, some v0)), some (.inl (0 : Int32)), none]) dX10_readNumber_23 rfl (by decide) rfl ?_
  refine k_iconst (v := (0 : Int32)) dX10_readNumber_24 rfl ?_
  refine k_istn (j := 2) (L' := [some (.inr (10, some v0)), some (.inl (0 : Int32)), some (.inl (0 : Int32))]) dX10_readNumber_25 rfl (by decide) rfl ?_
  exact t10_readNumber_b26 FU_ v0 (0 : Int32) (0 : Int32) g11
theorem dX10_readItem_0 : decode cX10_readItem 0 = .ok (.aload_n 0, 1) := by decide +kernel
theorem dX10_readItem_1 : decode cX10_readItem 1 = .ok (.aload_n 0, 1) := by decide +kernel
theorem dX10_readItem_2 : decode cX10_readItem 2 = .ok (.aload_n 0, 1) := by decide +kernel
theorem dX10_readItem_3 : decode cX10_readItem 3 = .ok (.getfield 59, 3) := by decide +kernel
theorem dX10_readItem_6 : decode cX10_readItem 6 = .ok (.invokevirtual 63, 3) := by decide +kernel
theorem dX10_readItem_9 : decode cX10_readItem 9 = .ok (.bipush 33, 2) := by decide +kernel
theorem dX10_readItem_11 : decode cX10_readItem 11 = .ok (.if_icmp .ne 7, 3) := by decide +kernel
theorem dX10_readItem_14 : decode cX10_readItem 14 = .ok (.iconst 1, 1) := by decide +kernel
theorem dX10_readItem_15 : decode cX10_readItem 15 = .ok (.goto 4, 3) := by decide +kernel
theorem dX10_readItem_18 : decode cX10_readItem 18 = .ok (.iconst 0, 1) := by decide +kernel
theorem dX10_readItem_19 : decode cX10_readItem 19 = .ok (.putfield 75, 3) := by decide +kernel
theorem dX10_readItem_22 : decode cX10_readItem 22 = .ok (.aload_n 0, 1) := by decide +kernel
theorem dX10_readItem_23 : decode cX10_readItem 23 = .ok (.dup, 1) := by decide +kernel
theorem dX10_readItem_24 : decode cX10_readItem 24 = .ok (.getfield 59, 3) := by decide +kernel
theorem dX10_readItem_27 : decode cX10_readItem 27 = .ok (.aload_n 0, 1) := by decide +kernel
theorem dX10_readItem_28 : decode cX10_readItem 28 = .ok (.getfield 75, 3) := by decide +kernel
theorem dX10_readItem_31 : decode cX10_readItem 31 = .ok (.ifCond .eq 7, 3) := by decide +kernel
theorem dX10_readItem_34 : decode cX10_readItem 34 = .ok (.iconst 1, 1) := by decide +kernel
theorem dX10_readItem_35 : decode cX10_readItem 35 = .ok (.goto 4, 3) := by decide +kernel
theorem dX10_readItem_38 : decode cX10_readItem 38 = .ok (.iconst 0, 1) := by decide +kernel
theorem dX10_readItem_39 : decode cX10_readItem 39 = .ok (.iadd, 1) := by decide +kernel
theorem dX10_readItem_40 : decode cX10_readItem 40 = .ok (.putfield 59, 3) := by decide +kernel
theorem dX10_readItem_43 : decode cX10_readItem 43 = .ok (.aload_n 0, 1) := by decide +kernel
theorem dX10_readItem_44 : decode cX10_readItem 44 = .ok (.iconst 0, 1) := by decide +kernel
theorem dX10_readItem_45 : decode cX10_readItem 45 = .ok (.putfield 78, 3) := by decide +kernel
theorem dX10_readItem_48 : decode cX10_readItem 48 = .ok (.aload_n 0, 1) := by decide +kernel
theorem dX10_readItem_49 : decode cX10_readItem 49 = .ok (.aload_n 0, 1) := by decide +kernel
theorem dX10_readItem_50 : decode cX10_readItem 50 = .ok (.getfield 59, 3) := by decide +kernel
theorem dX10_readItem_53 : decode cX10_readItem 53 = .ok (.invokevirtual 63, 3) := by decide +kernel
theorem dX10_readItem_56 : decode cX10_readItem 56 = .ok (.bipush 42, 2) := by decide +kernel
theorem dX10_readItem_58 : decode cX10_readItem 58 = .ok (.if_icmp .ne 26, 3) := by decide +kernel
theorem dX10_readItem_61 : decode cX10_readItem 61 = .ok (.aload_n 0, 1) := by decide +kernel
theorem dX10_readItem_62 : decode cX10_readItem 62 = .ok (.dup, 1) := by decide +kernel
theorem dX10_readItem_63 : decode cX10_readItem 63 = .ok (.getfield 59, 3) := by decide +kernel
theorem dX10_readItem_66 : decode cX10_readItem 66 = .ok (.iconst 1, 1) := by decide +kernel
theorem dX10_readItem_67 : decode cX10_readItem 67 = .ok (.iadd, 1) := by decide +kernel
theorem dX10_readItem_68 : decode cX10_readItem 68 = .ok (.putfield 59, 3) := by decide +kernel
theorem dX10_readItem_71 : decode cX10_readItem 71 = .ok (.aload_n 0, 1) := by decide +kernel
theorem dX10_readItem_72 : decode cX10_readItem 72 = .ok (.iconst 1, 1) := by decide +kernel
theorem dX10_readItem_73 : decode cX10_readItem 73 = .ok (.putfield 81, 3) := by decide +kernel
theorem dX10_readItem_76 : decode cX10_readItem 76 = .ok (.aload_n 0, 1) := by decide +kernel
theorem dX10_readItem_77 : decode cX10_readItem 77 = .ok (.iconst 0, 1) := by decide +kernel
theorem dX10_readItem_78 : decode cX10_readItem 78 = .ok (.putfield 84, 3) := by decide +kernel
theorem dX10_readItem_81 : decode cX10_readItem 81 = .ok (.goto 115, 3) := by decide +kernel
theorem dX10_readItem_84 : decode cX10_readItem 84 = .ok (.aload_n 0, 1) := by decide +kernel
theorem dX10_readItem_85 : decode cX10_readItem 85 = .ok (.aload_n 0, 1) := by decide +kernel
theorem dX10_readItem_86 : decode cX10_readItem 86 = .ok (.getfield 59, 3) := by decide +kernel
theorem dX10_readItem_89 : decode cX10_readItem 89 = .ok (.invokevirtual 63, 3) := by decide +kernel
theorem dX10_readItem_92 : decode cX10_readItem 92 = .ok (.bipush 45, 2) := by decide +kernel
theorem dX10_readItem_94 : decode cX10_readItem 94 = .ok (.if_icmp .ne 29, 3) := by decide +kernel
theorem dX10_readItem_97 : decode cX10_readItem 97 = .ok (.aload_n 0, 1) := by decide +kernel
theorem dX10_readItem_98 : decode cX10_readItem 98 = .ok (.dup, 1) := by decide +kernel
theorem dX10_readItem_99 : decode cX10_readItem 99 = .ok (.getfield 59, 3) := by decide +kernel
theorem dX10_readItem_102 : decode cX10_readItem 102 = .ok (.iconst 1, 1) := by decide +kernel
theorem dX10_readItem_103 : decode cX10_readItem 103 = .ok (.iadd, 1) := by decide +kernel
theorem dX10_readItem_104 : decode cX10_readItem 104 = .ok (.putfield 59, 3) := by decide +kernel
theorem dX10_readItem_107 : decode cX10_readItem 107 = .ok (.aload_n 0, 1) := by decide +kernel
theorem dX10_readItem_108 : decode cX10_readItem 108 = .ok (.iconst 1, 1) := by decide +kernel
theorem dX10_readItem_109 : decode cX10_readItem 109 = .ok (.putfield 81, 3) := by decide +kernel
theorem dX10_readItem_112 : decode cX10_readItem 112 = .ok (.aload_n 0, 1) := by decide +kernel
theorem dX10_readItem_113 : decode cX10_readItem 113 = .ok (.aload_n 0, 1) := by decide +kernel
theorem dX10_readItem_114 : decode cX10_readItem 114 = .ok (.invokevirtual 87, 3) := by decide +kernel
theorem dX10_readItem_117 : decode cX10_readItem 117 = .ok (.putfield 84, 3) := by decide +kernel
theorem dX10_readItem_120 : decode cX10_readItem 120 = .ok (.goto 76, 3) := by decide +kernel
theorem dX10_readItem_123 : decode cX10_readItem 123 = .ok (.aload_n 0, 1) := by decide +kernel
theorem dX10_readItem_124 : decode cX10_readItem 124 = .ok (.aload_n 0, 1) := by decide +kernel
theorem dX10_readItem_125 : decode cX10_readItem 125 = .ok (.invokevirtual 87, 3) := by decide +kernel
theorem dX10_readItem_128 : decode cX10_readItem 128 = .ok (.putfield 81, 3) := by decide +kernel
theorem dX10_readItem_131 : decode cX10_readItem 131 = .ok (.aload_n 0, 1) := by decide +kernel
theorem dX10_readItem_132 : decode cX10_readItem 132 = .ok (.aload_n 0, 1) := by decide +kernel
theorem dX10_readItem_133 : decode cX10_readItem 133 = .ok (.getfield 81, 3) := by decide +kernel
theorem dX10_readItem_136 : decode cX10_readItem 136 = .ok (.putfield 84, 3) := by decide +kernel
theorem dX10_readItem_139 : decode cX10_readItem 139 = .ok (.aload_n 0, 1) := by decide +kernel
theorem dX10_readItem_140 : decode cX10_readItem 140 = .ok (.getfield 71, 3) := by decide +kernel
theorem dX10_readItem_143 : decode cX10_readItem 143 = .ok (.ifCond .ne 53, 3) := by decide +kernel
theorem dX10_readItem_146 : decode cX10_readItem 146 = .ok (.aload_n 0, 1) := by decide +kernel
theorem dX10_readItem_147 : decode cX10_readItem 147 = .ok (.aload_n 0, 1) := by decide +kernel
theorem dX10_readItem_148 : decode cX10_readItem 148 = .ok (.getfield 59, 3) := by decide +kernel
theorem dX10_readItem_151 : decode cX10_readItem 151 = .ok (.invokevirtual 63, 3) := by decide +kernel
theorem dX10_readItem_154 : decode cX10_readItem 154 = .ok (.bipush 45, 2) := by decide +kernel
theorem dX10_readItem_156 : decode cX10_readItem 156 = .ok (.if_icmp .ne 40, 3) := by decide +kernel
theorem dX10_readItem_159 : decode cX10_readItem 159 = .ok (.aload_n 0, 1) := by decide +kernel
theorem dX10_readItem_160 : decode cX10_readItem 160 = .ok (.dup, 1) := by decide +kernel
theorem dX10_readItem_161 : decode cX10_readItem 161 = .ok (.getfield 59, 3) := by decide +kernel
theorem dX10_readItem_164 : decode cX10_readItem 164 = .ok (.iconst 1, 1) := by decide +kernel
theorem dX10_readItem_165 : decode cX10_readItem 165 = .ok (.iadd, 1) := by decide +kernel
theorem dX10_readItem_166 : decode cX10_readItem 166 = .ok (.putfield 59, 3) := by decide +kernel
theorem dX10_readItem_169 : decode cX10_readItem 169 = .ok (.aload_n 0, 1) := by decide +kernel
theorem dX10_readItem_170 : decode cX10_readItem 170 = .ok (.aload_n 0, 1) := by decide +kernel
theorem dX10_readItem_171 : decode cX10_readItem 171 = .ok (.aload_n 0, 1) := by decide +kernel
theorem dX10_readItem_172 : decode cX10_readItem 172 = .ok (.getfield 59, 3) := by decide +kernel
theorem dX10_readItem_175 : decode cX10_readItem 175 = .ok (.invokevirtual 63, 3) := by decide +kernel
theorem dX10_readItem_178 : decode cX10_readItem 178 = .ok (.iconst 1, 1) := by decide +kernel
theorem dX10_readItem_179 : decode cX10_readItem 179 = .ok (.invokestatic 67, 3) := by decide +kernel
theorem dX10_readItem_182 : decode cX10_readItem 182 = .ok (.ifCond .eq 10, 3) := by decide +kernel
theorem dX10_readItem_185 : decode cX10_readItem 185 = .ok (.aload_n 0, 1) := by decide +kernel
theorem dX10_readItem_186 : decode cX10_readItem 186 = .ok (.invokevirtual 87, 3) := by decide +kernel
theorem dX10_readItem_189 : decode cX10_readItem 189 = .ok (.goto 4, 3) := by decide +kernel
theorem dX10_readItem_192 : decode cX10_readItem 192 = .ok (.iconst 0, 1) := by decide +kernel
theorem dX10_readItem_193 : decode cX10_readItem 193 = .ok (.putfield 84, 3) := by decide +kernel
theorem dX10_readItem_196 : decode cX10_readItem 196 = .ok (.aload_n 0, 1) := by decide +kernel
theorem dX10_readItem_197 : decode cX10_readItem 197 = .ok (.getfield 71, 3) := by decide +kernel
theorem dX10_readItem_200 : decode cX10_readItem 200 = .ok (.ifCond .ne 39, 3) := by decide +kernel
theorem dX10_readItem_203 : decode cX10_readItem 203 = .ok (.aload_n 0, 1) := by decide +kernel
theorem dX10_readItem_204 : decode cX10_readItem 204 = .ok (.aload_n 0, 1) := by decide +kernel
theorem dX10_readItem_205 : decode cX10_readItem 205 = .ok (.getfield 59, 3) := by decide +kernel
theorem dX10_readItem_208 : decode cX10_readItem 208 = .ok (.invokevirtual 63, 3) := by decide +kernel
theorem dX10_readItem_211 : decode cX10_readItem 211 = .ok (.invokestatic 91, 3) := by decide +kernel
theorem dX10_readItem_214 : decode cX10_readItem 214 = .ok (.ifCond .eq 25, 3) := by decide +kernel
theorem dX10_readItem_217 : decode cX10_readItem 217 = .ok (.aload_n 0, 1) := by decide +kernel
theorem dX10_readItem_218 : decode cX10_readItem 218 = .ok (.aload_n 0, 1) := by decide +kernel
theorem dX10_readItem_219 : decode cX10_readItem 219 = .ok (.aload_n 0, 1) := by decide +kernel
theorem dX10_readItem_220 : decode cX10_readItem 220 = .ok (.getfield 59, 3) := by decide +kernel
theorem dX10_readItem_223 : decode cX10_readItem 223 = .ok (.invokevirtual 63, 3) := by decide +kernel
theorem dX10_readItem_226 : decode cX10_readItem 226 = .ok (.putfield 78, 3) := by decide +kernel
theorem dX10_readItem_229 : decode cX10_readItem 229 = .ok (.aload_n 0, 1) := by decide +kernel
theorem dX10_readItem_230 : decode cX10_readItem 230 = .ok (.dup, 1) := by decide +kernel
theorem dX10_readItem_231 : decode cX10_readItem 231 = .ok (.getfield 59, 3) := by decide +kernel
theorem dX10_readItem_234 : decode cX10_readItem 234 = .ok (.iconst 1, 1) := by decide +kernel
theorem dX10_readItem_235 : decode cX10_readItem 235 = .ok (.iadd, 1) := by decide +kernel
theorem dX10_readItem_236 : decode cX10_readItem 236 = .ok (.putfield 59, 3) := by decide +kernel
theorem dX10_readItem_239 : decode cX10_readItem 239 = .ok (.return_, 1) := by decide +kernel
def f10_readItem_b196 (v0 : Nat) (g : GS_) : Option (Unit × GS_) :=
  if (gfi g 327 v0) = 0 then bd_ (f10_signAt v0 (gfi g 326 v0) g) fun z2 g1 => bd_ (f10_isHalf z2 g1) fun z4 g3 => if z4 = 0 then some ((), g3) else bd_ (f10_signAt v0 (gfi g3 326 v0) g3) fun z6 g5 => lr_ (sfi g5 331 v0 z6) fun g7 => lr_ (sfi g7 326 v0 ((gfi g7 326 v0) + (1 : Int32))) fun g8 => some ((), g8) else some ((), g)
theorem t10_readItem_b196 (v0 : Nat) (g : GS_) : K_ RX10 cX10_readItem 1 none 3 65 false EV_ 196 [some (.inr (10, some v0))] [] g (f10_readItem_b196 v0 g) := by
  unfold f10_readItem_b196
  refine k_aloadn (j := 0) dX10_readItem_196 rfl rfl ?_
  refine k_geti fg_10_71 rfl rfl dX10_readItem_197 ?_
  refine k_ifne (tgt := 239) dX10_readItem_200 (by decide) (fun _ => ?_) (fun _ => ?_)
  · refine k_aloadn (j := 0) dX10_readItem_203 rfl rfl ?_
    refine k_aloadn (j := 0) dX10_readItem_204 rfl rfl ?_
    refine k_geti fg_10_59 rfl rfl dX10_readItem_205 ?_
    refine k_callVi [.inl (gfi g 326 v0)] (t10_signAt v0 (gfi g 326 v0) g) cw_cX10_signAt (Or.inl ml_10_63) rfl rfl (by decide) (by decide) (Nat.le_of_ble_eq_true rfl) dX10_readItem_208 (fun z2 g1 => ?_)
    refine k_callSi [.inl z2] (t10_isHalf z2 g1) cw_cX10_isHalf ml_10_91 rfl rfl (by decide) (by decide) (Nat.le_of_ble_eq_true rfl) dX10_readItem_211 (fun z4 g3 => ?_)
    refine k_ifeq (tgt := 239) dX10_readItem_214 (by decide) (fun _ => ?_) (fun _ => ?_)
    · exact k_return rfl dX10_readItem_239
    refine k_aloadn (j := 0) dX10_readItem_217 rfl rfl ?_
    refine k_aloadn (j := 0) dX10_readItem_218 rfl rfl ?_
    refine k_aloadn (j := 0) dX10_readItem_219 rfl rfl ?_
    refine k_geti fg_10_59 rfl rfl dX10_readItem_220 ?_
    refine k_callVi [.inl (gfi g3 326 v0)] (t10_signAt v0 (gfi g3 326 v0) g3) cw_cX10_signAt (Or.inl ml_10_63) rfl rfl (by decide) (by decide) (Nat.le_of_ble_eq_true rfl) dX10_readItem_223 (fun z6 g5 => ?_)
    refine k_puti fp_10_78 rfl rfl dX10_readItem_226 (fun g7 => ?_)
    refine k_aloadn (j := 0) dX10_readItem_229 rfl rfl ?_
    refine k_dup dX10_readItem_230 ?_
    refine k_geti fg_10_59 rfl rfl dX10_readItem_231 ?_
    refine k_iconst (v := (1 : Int32)) dX10_readItem_234 rfl ?_
    refine k_iadd dX10_readItem_235 ?_
    refine k_puti fp_10_59 rfl rfl dX10_readItem_236 (fun g8 => ?_)
    exact k_return rfl dX10_readItem_239
  exact k_return rfl dX10_readItem_239
def f10_readItem_b193 (v0 : Nat) (s0 : Nat) (s1 : Int32) (g : GS_) : Option (Unit × GS_) :=
  lr_ (sfi g 330 s0 s1) fun g9 => f10_readItem_b196 v0 g9
theorem t10_readItem_b193 (v0 : Nat) (s0 : Nat) (s1 : Int32) (g : GS_) : K_ RX10 cX10_readItem 1 none 3 65 false EV_ 193 [some (.inr (10, some v0))] [.inl s1, .inr (10, some s0)] g (f10_readItem_b193 v0 s0 s1 g) := by
  unfold f10_readItem_b193
  refine k_puti fp_10_84 rfl rfl dX10_readItem_193 (fun g9 => ?_)
  exact t10_readItem_b196 v0 g9
def f10_readItem_b39 (v0 : Nat) (s0 : Nat) (s1 : Int32) (s2 : Int32) (g : GS_) : Option (Unit × GS_) :=
  lr_ (sfi g 326 s0 (s1 + s2)) fun g10 => lr_ (sfi g10 331 v0 (0 : Int32)) fun g11 => bd_ (f10_signAt v0 (gfi g11 326 v0) g11) fun z13 g12 => if z13 = (42 : Int32) then lr_ (sfi g12 326 v0 ((gfi g12 326 v0) + (1 : Int32))) fun g14 => lr_ (sfi g14 329 v0 (1 : Int32)) fun g15 => lr_ (sfi g15 330 v0 (0 : Int32)) fun g16 => f10_readItem_b196 v0 g16 else bd_ (f10_signAt v0 (gfi g12 326 v0) g12) fun z18 g17 => if z18 = (45 : Int32) then lr_ (sfi g17 326 v0 ((gfi g17 326 v0) + (1 : Int32))) fun g19 => lr_ (sfi g19 329 v0 (1 : Int32)) fun g20 => bd_ (f10_readNumber v0 g20) fun z22 g21 => lr_ (sfi g21 330 v0 z22) fun g23 => f10_readItem_b196 v0 g23 else bd_ (f10_readNumber v0 g17) fun z25 g24 => lr_ (sfi g24 329 v0 z25) fun g26 => lr_ (sfi g26 330 v0 (gfi g26 329 v0)) fun g27 => if (gfi g27 327 v0) = 0 then bd_ (f10_signAt v0 (gfi g27 326 v0) g27) fun z29 g28 => if z29 = (45 : Int32) then lr_ (sfi g28 326 v0 ((gfi g28 326 v0) + (1 : Int32))) fun g30 => bd_ (f10_signAt v0 (gfi g30 326 v0) g30) fun z32 g31 => bd_ (f10_isDigit z32 (1 : Int32) g31) fun z34 g33 => if z34 = 0 then f10_readItem_b193 v0 v0 (0 : Int32) g33 else bd_ (f10_readNumber v0 g33) fun z36 g35 => f10_readItem_b193 v0 v0 z36 g35 else f10_readItem_b196 v0 g28 else f10_readItem_b196 v0 g27
theorem t10_readItem_b39 (v0 : Nat) (s0 : Nat) (s1 : Int32) (s2 : Int32) (g : GS_) : K_ RX10 cX10_readItem 1 none 3 65 false EV_ 39 [some (.inr (10, some v0))] [.inl s2, .inl s1, .inr (10, some s0)] g (f10_readItem_b39 v0 s0 s1 s2 g) := by
  unfold f10_readItem_b39
  refine k_iadd dX10_readItem_39 ?_
  refine k_puti fp_10_59 rfl rfl dX10_readItem_40 (fun g10 => ?_)
  refine k_aloadn (j := 0) dX10_readItem_43 rfl rfl ?_
  refine k_iconst (v := (0 : Int32)) dX10_readItem_44 rfl ?_
  refine k_puti fp_10_78 rfl rfl dX10_readItem_45 (fun g11 => ?_)
  refine k_aloadn (j := 0) dX10_readItem_48 rfl rfl ?_
  refine k_aloadn (j := 0) dX10_readItem_49 rfl rfl ?_
  refine k_geti fg_10_59 rfl rfl dX10_readItem_50 ?_
  refine k_callVi [.inl (gfi g11 326 v0)] (t10_signAt v0 (gfi g11 326 v0) g11) cw_cX10_signAt (Or.inl ml_10_63) rfl rfl (by decide) (by decide) (Nat.le_of_ble_eq_true rfl) dX10_readItem_53 (fun z13 g12 => ?_)
  refine k_bipush (v := (42 : Int32)) dX10_readItem_56 rfl ?_
  refine k_icmpne (tgt := 84) dX10_readItem_58 (by decide) (fun _ => ?_) (fun _ => ?_)
  · refine k_aloadn (j := 0) dX10_readItem_61 rfl rfl ?_
    refine k_dup dX10_readItem_62 ?_
    refine k_geti fg_10_59 rfl rfl dX10_readItem_63 ?_
    refine k_iconst (v := (1 : Int32)) dX10_readItem_66 rfl ?_
    refine k_iadd dX10_readItem_67 ?_
    refine k_puti fp_10_59 rfl rfl dX10_readItem_68 (fun g14 => ?_)
    refine k_aloadn (j := 0) dX10_readItem_71 rfl rfl ?_
    refine k_iconst (v := (1 : Int32)) dX10_readItem_72 rfl ?_
    refine k_puti fp_10_81 rfl rfl dX10_readItem_73 (fun g15 => ?_)
    refine k_aloadn (j := 0) dX10_readItem_76 rfl rfl ?_
    refine k_iconst (v := (0 : Int32)) dX10_readItem_77 rfl ?_
    refine k_puti fp_10_84 rfl rfl dX10_readItem_78 (fun g16 => ?_)
    refine k_goto (tgt := 196) dX10_readItem_81 (by decide) ?_
    exact t10_readItem_b196 v0 g16
  refine k_aloadn (j := 0) dX10_readItem_84 rfl rfl ?_
  refine k_aloadn (j := 0) dX10_readItem_85 rfl rfl ?_
  refine k_geti fg_10_59 rfl rfl dX10_readItem_86 ?_
  refine k_callVi [.inl (gfi g12 326 v0)] (t10_signAt v0 (gfi g12 326 v0) g12) cw_cX10_signAt (Or.inl ml_10_63) rfl rfl (by decide) (by decide) (Nat.le_of_ble_eq_true rfl) dX10_readItem_89 (fun z18 g17 => ?_)
  refine k_bipush (v := (45 : Int32)) dX10_readItem_92 rfl ?_
  refine k_icmpne (tgt := 123) dX10_readItem_94 (by decide) (fun _ => ?_) (fun _ => ?_)
  · refine k_aloadn (j := 0) dX10_readItem_97 rfl rfl ?_
    refine k_dup dX10_readItem_98 ?_
    refine k_geti fg_10_59 rfl rfl dX10_readItem_99 ?_
    refine k_iconst (v := (1 : Int32)) dX10_readItem_102 rfl ?_
    refine k_iadd dX10_readItem_103 ?_
    refine k_puti fp_10_59 rfl rfl dX10_readItem_104 (fun g19 => ?_)
    refine k_aloadn (j := 0) dX10_readItem_107 rfl rfl ?_
    refine k_iconst (v := (1 : Int32)) dX10_readItem_108 rfl ?_
    refine k_puti fp_10_81 rfl rfl dX10_readItem_109 (fun g20 => ?_)
    refine k_aloadn (j := 0) dX10_readItem_112 rfl rfl ?_
    refine k_aloadn (j := 0) dX10_readItem_113 rfl rfl ?_
    refine k_callVi [] (t10_readNumber v0 g20) cw_cX10_readNumber (Or.inl ml_10_87) rfl rfl (by decide) (by decide) (Nat.le_of_ble_eq_true rfl) dX10_readItem_114 (fun z22 g21 => ?_)
    refine k_puti fp_10_84 rfl rfl dX10_readItem_117 (fun g23 => ?_)
    refine k_goto (tgt := 196) dX10_readItem_120 (by decide) ?_
    exact t10_readItem_b196 v0 g23
  refine k_aloadn (j := 0) dX10_readItem_123 rfl rfl ?_
  refine k_aloadn (j := 0) dX10_readItem_124 rfl rfl ?_
  refine k_callVi [] (t10_readNumber v0 g17) cw_cX10_readNumber (Or.inl ml_10_87) rfl rfl (by decide) (by decide) (Nat.le_of_ble_eq_true rfl) dX10_readItem_125 (fun z25 g24 => ?_)
  refine k_puti fp_10_81 rfl rfl dX10_readItem_128 (fun g26 => ?_)
  refine k_aloadn (j := 0) dX10_readItem_131 rfl rfl ?_
  refine k_aloadn (j := 0) dX10_readItem_132 rfl rfl ?_
  refine k_geti fg_10_81 rfl rfl dX10_readItem_133 ?_
  refine k_puti fp_10_84 rfl rfl dX10_readItem_136 (fun g27 => ?_)
  refine k_aloadn (j := 0) dX10_readItem_139 rfl rfl ?_
  refine k_geti fg_10_71 rfl rfl dX10_readItem_140 ?_
  refine k_ifne (tgt := 196) dX10_readItem_143 (by decide) (fun _ => ?_) (fun _ => ?_)
  · refine k_aloadn (j := 0) dX10_readItem_146 rfl rfl ?_
    refine k_aloadn (j := 0) dX10_readItem_147 rfl rfl ?_
    refine k_geti fg_10_59 rfl rfl dX10_readItem_148 ?_
    refine k_callVi [.inl (gfi g27 326 v0)] (t10_signAt v0 (gfi g27 326 v0) g27) cw_cX10_signAt (Or.inl ml_10_63) rfl rfl (by decide) (by decide) (Nat.le_of_ble_eq_true rfl) dX10_readItem_151 (fun z29 g28 => ?_)
    refine k_bipush (v := (45 : Int32)) dX10_readItem_154 rfl ?_
    refine k_icmpne (tgt := 196) dX10_readItem_156 (by decide) (fun _ => ?_) (fun _ => ?_)
    · refine k_aloadn (j := 0) dX10_readItem_159 rfl rfl ?_
      refine k_dup dX10_readItem_160 ?_
      refine k_geti fg_10_59 rfl rfl dX10_readItem_161 ?_
      refine k_iconst (v := (1 : Int32)) dX10_readItem_164 rfl ?_
      refine k_iadd dX10_readItem_165 ?_
      refine k_puti fp_10_59 rfl rfl dX10_readItem_166 (fun g30 => ?_)
      refine k_aloadn (j := 0) dX10_readItem_169 rfl rfl ?_
      refine k_aloadn (j := 0) dX10_readItem_170 rfl rfl ?_
      refine k_aloadn (j := 0) dX10_readItem_171 rfl rfl ?_
      refine k_geti fg_10_59 rfl rfl dX10_readItem_172 ?_
      refine k_callVi [.inl (gfi g30 326 v0)] (t10_signAt v0 (gfi g30 326 v0) g30) cw_cX10_signAt (Or.inl ml_10_63) rfl rfl (by decide) (by decide) (Nat.le_of_ble_eq_true rfl) dX10_readItem_175 (fun z32 g31 => ?_)
      refine k_iconst (v := (1 : Int32)) dX10_readItem_178 rfl ?_
      refine k_callSi [.inl z32, .inl (1 : Int32)] (t10_isDigit z32 (1 : Int32) g31) cw_cX10_isDigit ml_10_67 rfl rfl (by decide) (by decide) (Nat.le_of_ble_eq_true rfl) dX10_readItem_179 (fun z34 g33 => ?_)
      refine k_ifeq (tgt := 192) dX10_readItem_182 (by decide) (fun _ => ?_) (fun _ => ?_)
      · refine k_iconst (v := (0 : Int32)) dX10_readItem_192 rfl ?_
        exact t10_readItem_b193 v0 v0 (0 : Int32) g33
      refine k_aloadn (j := 0) dX10_readItem_185 rfl rfl ?_
      refine k_callVi [] (t10_readNumber v0 g33) cw_cX10_readNumber (Or.inl ml_10_87) rfl rfl (by decide) (by decide) (Nat.le_of_ble_eq_true rfl) dX10_readItem_186 (fun z36 g35 => ?_)
      refine k_goto (tgt := 193) dX10_readItem_189 (by decide) ?_
      exact t10_readItem_b193 v0 v0 z36 g35
    exact t10_readItem_b196 v0 g28
  exact t10_readItem_b196 v0 g27
def f10_readItem_b19 (v0 : Nat) (s0 : Nat) (s1 : Int32) (g : GS_) : Option (Unit × GS_) :=
  if s1 = 0 ∨ s1 = 1 then lr_ (sfi g 328 s0 s1) (fun g37 => if (gfi g37 328 v0) = 0 then f10_readItem_b39 v0 v0 (gfi g37 326 v0) (0 : Int32) g37 else f10_readItem_b39 v0 v0 (gfi g37 326 v0) (1 : Int32) g37) else none
theorem t10_readItem_b19 (v0 : Nat) (s0 : Nat) (s1 : Int32) (g : GS_) : K_ RX10 cX10_readItem 1 none 3 65 false EV_ 19 [some (.inr (10, some v0))] [.inl s1, .inr (10, some s0)] g (f10_readItem_b19 v0 s0 s1 g) := by
  unfold f10_readItem_b19
  refine k_putzc fp_10_75 rfl rfl dX10_readItem_19 (fun g37 => ?_)
  refine k_aloadn (j := 0) dX10_readItem_22 rfl rfl ?_
  refine k_dup dX10_readItem_23 ?_
  refine k_geti fg_10_59 rfl rfl dX10_readItem_24 ?_
  refine k_aloadn (j := 0) dX10_readItem_27 rfl rfl ?_
  refine k_geti fg_10_75 rfl rfl dX10_readItem_28 ?_
  refine k_ifeq (tgt := 38) dX10_readItem_31 (by decide) (fun _ => ?_) (fun _ => ?_)
  · refine k_iconst (v := (0 : Int32)) dX10_readItem_38 rfl ?_
    exact t10_readItem_b39 v0 v0 (gfi g37 326 v0) (0 : Int32) g37
  refine k_iconst (v := (1 : Int32)) dX10_readItem_34 rfl ?_
  refine k_goto (tgt := 39) dX10_readItem_35 (by decide) ?_
  exact t10_readItem_b39 v0 v0 (gfi g37 326 v0) (1 : Int32) g37
def f10_readItem (v0 : Nat) (g : GS_) : Option (Unit × GS_) :=
  bd_ (f10_signAt v0 (gfi g 326 v0) g) fun z39 g38 => if z39 = (33 : Int32) then f10_readItem_b19 v0 v0 (1 : Int32) g38 else f10_readItem_b19 v0 v0 (0 : Int32) g38
theorem t10_readItem (v0 : Nat) (g : GS_) : Cn_ yX10_readItem cX10_readItem 1 none 3 65 EV_ [.inr (10, some v0)] g (f10_readItem v0 g) := by
  refine k_method (own := RX10) (ini := false) (L1 := [some (.inr (10, some v0))]) (by decide +kernel) rfl (fun h => by cases h) (Nat.le_of_ble_eq_true rfl) rfl ?_
  unfold f10_readItem
  refine k_aloadn (j := 0) dX10_readItem_0 rfl rfl ?_
  refine k_aloadn (j := 0) dX10_readItem_1 rfl rfl ?_
  refine k_aloadn (j := 0) dX10_readItem_2 rfl rfl ?_
  refine k_geti fg_10_59 rfl rfl dX10_readItem_3 ?_
  refine k_callVi [.inl (gfi g 326 v0)] (t10_signAt v0 (gfi g 326 v0) g) cw_cX10_signAt (Or.inl ml_10_63) rfl rfl (by decide) (by decide) (Nat.le_of_ble_eq_true rfl) dX10_readItem_6 (fun z39 g38 => ?_)
  refine k_bipush (v := (33 : Int32)) dX10_readItem_9 rfl ?_
  refine k_icmpne (tgt := 18) dX10_readItem_11 (by decide) (fun _ => ?_) (fun _ => ?_)
  · refine k_iconst (v := (1 : Int32)) dX10_readItem_14 rfl ?_
    refine k_goto (tgt := 19) dX10_readItem_15 (by decide) ?_
    exact t10_readItem_b19 v0 v0 (1 : Int32) g38
  refine k_iconst (v := (0 : Int32)) dX10_readItem_18 rfl ?_
  exact t10_readItem_b19 v0 v0 (0 : Int32) g38
theorem dX10_faultOf_0 : decode cX10_faultOf 0 = .ok (.aload_n 0, 1) := by decide +kernel
theorem dX10_faultOf_1 : decode cX10_faultOf 1 = .ok (.iconst 0, 1) := by decide +kernel
theorem dX10_faultOf_2 : decode cX10_faultOf 2 = .ok (.putfield 59, 3) := by decide +kernel
theorem dX10_faultOf_5 : decode cX10_faultOf 5 = .ok (.aload_n 0, 1) := by decide +kernel
theorem dX10_faultOf_6 : decode cX10_faultOf 6 = .ok (.iconst 0, 1) := by decide +kernel
theorem dX10_faultOf_7 : decode cX10_faultOf 7 = .ok (.putfield 71, 3) := by decide +kernel
theorem dX10_faultOf_10 : decode cX10_faultOf 10 = .ok (.iconst 1, 1) := by decide +kernel
theorem dX10_faultOf_11 : decode cX10_faultOf 11 = .ok (.istore_n 1, 1) := by decide +kernel
theorem dX10_faultOf_12 : decode cX10_faultOf 12 = .ok (.iload_n 1, 1) := by decide +kernel
theorem dX10_faultOf_13 : decode cX10_faultOf 13 = .ok (.ifCond .eq 54, 3) := by decide +kernel
theorem dX10_faultOf_16 : decode cX10_faultOf 16 = .ok (.aload_n 0, 1) := by decide +kernel
theorem dX10_faultOf_17 : decode cX10_faultOf 17 = .ok (.invokevirtual 94, 3) := by decide +kernel
theorem dX10_faultOf_20 : decode cX10_faultOf 20 = .ok (.aload_n 0, 1) := by decide +kernel
theorem dX10_faultOf_21 : decode cX10_faultOf 21 = .ok (.getfield 71, 3) := by decide +kernel
theorem dX10_faultOf_24 : decode cX10_faultOf 24 = .ok (.ifCond .ne 20, 3) := by decide +kernel
theorem dX10_faultOf_27 : decode cX10_faultOf 27 = .ok (.aload_n 0, 1) := by decide +kernel
theorem dX10_faultOf_28 : decode cX10_faultOf 28 = .ok (.aload_n 0, 1) := by decide +kernel
theorem dX10_faultOf_29 : decode cX10_faultOf 29 = .ok (.getfield 59, 3) := by decide +kernel
theorem dX10_faultOf_32 : decode cX10_faultOf 32 = .ok (.invokevirtual 63, 3) := by decide +kernel
theorem dX10_faultOf_35 : decode cX10_faultOf 35 = .ok (.bipush 44, 2) := by decide +kernel
theorem dX10_faultOf_37 : decode cX10_faultOf 37 = .ok (.if_icmp .ne 7, 3) := by decide +kernel
theorem dX10_faultOf_40 : decode cX10_faultOf 40 = .ok (.iconst 1, 1) := by decide +kernel
theorem dX10_faultOf_41 : decode cX10_faultOf 41 = .ok (.goto 4, 3) := by decide +kernel
theorem dX10_faultOf_44 : decode cX10_faultOf 44 = .ok (.iconst 0, 1) := by decide +kernel
theorem dX10_faultOf_45 : decode cX10_faultOf 45 = .ok (.istore_n 1, 1) := by decide +kernel
theorem dX10_faultOf_46 : decode cX10_faultOf 46 = .ok (.aload_n 0, 1) := by decide +kernel
theorem dX10_faultOf_47 : decode cX10_faultOf 47 = .ok (.dup, 1) := by decide +kernel
theorem dX10_faultOf_48 : decode cX10_faultOf 48 = .ok (.getfield 59, 3) := by decide +kernel
theorem dX10_faultOf_51 : decode cX10_faultOf 51 = .ok (.iload_n 1, 1) := by decide +kernel
theorem dX10_faultOf_52 : decode cX10_faultOf 52 = .ok (.ifCond .eq 7, 3) := by decide +kernel
theorem dX10_faultOf_55 : decode cX10_faultOf 55 = .ok (.iconst 1, 1) := by decide +kernel
theorem dX10_faultOf_56 : decode cX10_faultOf 56 = .ok (.goto 4, 3) := by decide +kernel
theorem dX10_faultOf_59 : decode cX10_faultOf 59 = .ok (.iconst 0, 1) := by decide +kernel
theorem dX10_faultOf_60 : decode cX10_faultOf 60 = .ok (.iadd, 1) := by decide +kernel
theorem dX10_faultOf_61 : decode cX10_faultOf 61 = .ok (.putfield 59, 3) := by decide +kernel
theorem dX10_faultOf_64 : decode cX10_faultOf 64 = .ok (.goto (-52), 3) := by decide +kernel
theorem dX10_faultOf_67 : decode cX10_faultOf 67 = .ok (.aload_n 0, 1) := by decide +kernel
theorem dX10_faultOf_68 : decode cX10_faultOf 68 = .ok (.getfield 71, 3) := by decide +kernel
theorem dX10_faultOf_71 : decode cX10_faultOf 71 = .ok (.ifCond .ne 17, 3) := by decide +kernel
theorem dX10_faultOf_74 : decode cX10_faultOf 74 = .ok (.aload_n 0, 1) := by decide +kernel
theorem dX10_faultOf_75 : decode cX10_faultOf 75 = .ok (.getfield 59, 3) := by decide +kernel
theorem dX10_faultOf_78 : decode cX10_faultOf 78 = .ok (.aload_n 0, 1) := by decide +kernel
theorem dX10_faultOf_79 : decode cX10_faultOf 79 = .ok (.getfield 7, 3) := by decide +kernel
theorem dX10_faultOf_82 : decode cX10_faultOf 82 = .ok (.bipush 7, 2) := by decide +kernel
theorem dX10_faultOf_84 : decode cX10_faultOf 84 = .ok (.iaload, 1) := by decide +kernel
theorem dX10_faultOf_85 : decode cX10_faultOf 85 = .ok (.if_icmp .ge 10, 3) := by decide +kernel
theorem dX10_faultOf_88 : decode cX10_faultOf 88 = .ok (.aload_n 0, 1) := by decide +kernel
theorem dX10_faultOf_89 : decode cX10_faultOf 89 = .ok (.getfield 59, 3) := by decide +kernel
theorem dX10_faultOf_92 : decode cX10_faultOf 92 = .ok (.goto 5, 3) := by decide +kernel
theorem dX10_faultOf_95 : decode cX10_faultOf 95 = .ok (.bipush (-6), 2) := by decide +kernel
theorem dX10_faultOf_97 : decode cX10_faultOf 97 = .ok (.ireturn, 1) := by decide +kernel
def f10_faultOf_b88 (v0 : Nat) (g : GS_) : Option (Int32 × GS_) :=
  some ((gfi g 326 v0), g)
theorem t10_faultOf_b88 (v0 : Nat) (g : GS_) : K_ RX10 cX10_faultOf 2 (some .int) 4 85 false EI_ 88 [some (.inr (10, some v0)), none] [] g (f10_faultOf_b88 v0 g) := by
  unfold f10_faultOf_b88
  refine k_aloadn (j := 0) dX10_faultOf_88 rfl rfl ?_
  refine k_geti fg_10_59 rfl rfl dX10_faultOf_89 ?_
  refine k_goto (tgt := 97) dX10_faultOf_92 (by decide) ?_
  exact k_ireturn rfl dX10_faultOf_97
def f10_faultOf_b60 (c12 : Nat → Int32 → GS_ → Option (Int32 × GS_)) (v0 : Nat) (v1 : Int32) (s0 : Nat) (s1 : Int32) (s2 : Int32) (g : GS_) : Option (Int32 × GS_) :=
  lr_ (sfi g 326 s0 (s1 + s2)) fun g1 => c12 v0 v1 g1
theorem t10_faultOf_b60 (c12 : Nat → Int32 → GS_ → Option (Int32 × GS_)) (h12 : ∀ (v0 : Nat) (v1 : Int32) (g : GS_), K_ RX10 cX10_faultOf 2 (some .int) 4 85 false EI_ 12 [some (.inr (10, some v0)), some (.inl v1)] [] g (c12 v0 v1 g)) (v0 : Nat) (v1 : Int32) (s0 : Nat) (s1 : Int32) (s2 : Int32) (g : GS_) : K_ RX10 cX10_faultOf 2 (some .int) 4 85 false EI_ 60 [some (.inr (10, some v0)), some (.inl v1)] [.inl s2, .inl s1, .inr (10, some s0)] g (f10_faultOf_b60 c12 v0 v1 s0 s1 s2 g) := by
  unfold f10_faultOf_b60
  refine k_iadd dX10_faultOf_60 ?_
  refine k_puti fp_10_59 rfl rfl dX10_faultOf_61 (fun g1 => ?_)
  refine k_goto (tgt := 12) dX10_faultOf_64 (by decide) ?_
  exact h12 v0 v1 g1
def f10_faultOf_b45 (c12 : Nat → Int32 → GS_ → Option (Int32 × GS_)) (v0 : Nat) (s0 : Int32) (g : GS_) : Option (Int32 × GS_) :=
  if s0 = 0 then f10_faultOf_b60 c12 v0 s0 v0 (gfi g 326 v0) (0 : Int32) g else f10_faultOf_b60 c12 v0 s0 v0 (gfi g 326 v0) (1 : Int32) g
theorem t10_faultOf_b45 (c12 : Nat → Int32 → GS_ → Option (Int32 × GS_)) (h12 : ∀ (v0 : Nat) (v1 : Int32) (g : GS_), K_ RX10 cX10_faultOf 2 (some .int) 4 85 false EI_ 12 [some (.inr (10, some v0)), some (.inl v1)] [] g (c12 v0 v1 g)) (v0 : Nat) (s0 : Int32) (g : GS_) : K_ RX10 cX10_faultOf 2 (some .int) 4 85 false EI_ 45 [some (.inr (10, some v0)), none] [.inl s0] g (f10_faultOf_b45 c12 v0 s0 g) := by
  unfold f10_faultOf_b45
  refine k_istn (j := 1) (L' := [some (.inr (10, some v0)), some (.inl s0)]) dX10_faultOf_45 rfl (by decide) rfl ?_
  refine k_aloadn (j := 0) dX10_faultOf_46 rfl rfl ?_
  refine k_dup dX10_faultOf_47 ?_
  refine k_geti fg_10_59 rfl rfl dX10_faultOf_48 ?_
  refine k_iloadn (j := 1) dX10_faultOf_51 rfl rfl ?_
  refine k_ifeq (tgt := 59) dX10_faultOf_52 (by decide) (fun _ => ?_) (fun _ => ?_)
  · refine k_iconst (v := (0 : Int32)) dX10_faultOf_59 rfl ?_
    exact t10_faultOf_b60 c12 h12 v0 s0 v0 (gfi g 326 v0) (0 : Int32) g
  refine k_iconst (v := (1 : Int32)) dX10_faultOf_55 rfl ?_
  refine k_goto (tgt := 60) dX10_faultOf_56 (by decide) ?_
  exact t10_faultOf_b60 c12 h12 v0 s0 v0 (gfi g 326 v0) (1 : Int32) g
def f10_faultOf_b44 (c12 : Nat → Int32 → GS_ → Option (Int32 × GS_)) (v0 : Nat) (g : GS_) : Option (Int32 × GS_) :=
  f10_faultOf_b45 c12 v0 (0 : Int32) g
theorem t10_faultOf_b44 (c12 : Nat → Int32 → GS_ → Option (Int32 × GS_)) (h12 : ∀ (v0 : Nat) (v1 : Int32) (g : GS_), K_ RX10 cX10_faultOf 2 (some .int) 4 85 false EI_ 12 [some (.inr (10, some v0)), some (.inl v1)] [] g (c12 v0 v1 g)) (v0 : Nat) (g : GS_) : K_ RX10 cX10_faultOf 2 (some .int) 4 85 false EI_ 44 [some (.inr (10, some v0)), none] [] g (f10_faultOf_b44 c12 v0 g) := by
  unfold f10_faultOf_b44
  refine k_iconst (v := (0 : Int32)) dX10_faultOf_44 rfl ?_
  exact t10_faultOf_b45 c12 h12 v0 (0 : Int32) g
def f10_faultOf_b12 : Nat → Nat → Int32 → GS_ → Option (Int32 × GS_)
  | 0, _, _, _ => none
  | n + 1, v0, v1, g =>
    if v1 = 0 then if (gfi g 327 v0) = 0 then lr_ (gfr g 320 v0) fun x2 => oc_ x2 none fun a3 => if inb (7 : Int32) (gln g 20 a3) then if (gai g 20 a3 (7 : Int32).toInt.toNat) ≤ (gfi g 326 v0) then some ((-6 : Int32), g) else f10_faultOf_b88 v0 g else none else f10_faultOf_b88 v0 g else bd_ (f10_readItem v0 g) fun _ g4 => if (gfi g4 327 v0) = 0 then bd_ (f10_signAt v0 (gfi g4 326 v0) g4) fun z6 g5 => if z6 = (44 : Int32) then f10_faultOf_b45 (f10_faultOf_b12 n) v0 (1 : Int32) g5 else f10_faultOf_b44 (f10_faultOf_b12 n) v0 g5 else f10_faultOf_b44 (f10_faultOf_b12 n) v0 g4
theorem t10_faultOf_b12 : ∀ (n : Nat) (v0 : Nat) (v1 : Int32) (g : GS_), K_ RX10 cX10_faultOf 2 (some .int) 4 85 false EI_ 12 [some (.inr (10, some v0)), some (.inl v1)] [] g (f10_faultOf_b12 n v0 v1 g) := by
  intro n
  induction n with
  | zero =>
    intro v0 v1 g
    exact k_fail
  | succ n ih =>
    intro v0 v1 g
    show K_ RX10 cX10_faultOf 2 (some .int) 4 85 false EI_ 12 [some (.inr (10, some v0)), some (.inl v1)] [] g (if v1 = 0 then if (gfi g 327 v0) = 0 then lr_ (gfr g 320 v0) fun x2 => oc_ x2 none fun a3 => if inb (7 : Int32) (gln g 20 a3) then if (gai g 20 a3 (7 : Int32).toInt.toNat) ≤ (gfi g 326 v0) then some ((-6 : Int32), g) else f10_faultOf_b88 v0 g else none else f10_faultOf_b88 v0 g else bd_ (f10_readItem v0 g) fun _ g4 => if (gfi g4 327 v0) = 0 then bd_ (f10_signAt v0 (gfi g4 326 v0) g4) fun z6 g5 => if z6 = (44 : Int32) then f10_faultOf_b45 (f10_faultOf_b12 n) v0 (1 : Int32) g5 else f10_faultOf_b44 (f10_faultOf_b12 n) v0 g5 else f10_faultOf_b44 (f10_faultOf_b12 n) v0 g4)
    refine k_iloadn (j := 1) dX10_faultOf_12 rfl rfl ?_
    refine k_ifeq (tgt := 67) dX10_faultOf_13 (by decide) (fun _ => ?_) (fun _ => ?_)
    · refine k_aloadn (j := 0) dX10_faultOf_67 rfl rfl ?_
      refine k_geti fg_10_71 rfl rfl dX10_faultOf_68 ?_
      refine k_ifne (tgt := 88) dX10_faultOf_71 (by decide) (fun _ => ?_) (fun _ => ?_)
      · refine k_aloadn (j := 0) dX10_faultOf_74 rfl rfl ?_
        refine k_geti fg_10_59 rfl rfl dX10_faultOf_75 ?_
        refine k_aloadn (j := 0) dX10_faultOf_78 rfl rfl ?_
        refine k_getr fg_10_7 rfl rfl dX10_faultOf_79 (fun x2 => ?_)
        refine k_bipush (v := (7 : Int32)) dX10_faultOf_82 rfl ?_
        rcases x2 with _ | a3
        · exact k_ocn
        refine k_ocs ?_
        refine k_iald dX10_faultOf_84 ?_
        refine k_icmpge (tgt := 95) dX10_faultOf_85 (by decide) (fun _ => ?_) (fun _ => ?_)
        · refine k_bipush (v := (-6 : Int32)) dX10_faultOf_95 rfl ?_
          exact k_ireturn rfl dX10_faultOf_97
        refine k_msk (L' := [some (.inr (10, some v0)), none]) [true, false] rfl ?_
        exact t10_faultOf_b88 v0 g
      refine k_msk (L' := [some (.inr (10, some v0)), none]) [true, false] rfl ?_
      exact t10_faultOf_b88 v0 g
    refine k_aloadn (j := 0) dX10_faultOf_16 rfl rfl ?_
    refine k_callVv [] (t10_readItem v0 g) cw_cX10_readItem (Or.inl ml_10_94) rfl rfl (by decide) (by decide) (Nat.le_of_ble_eq_true rfl) dX10_faultOf_17 (fun _ g4 => ?_)
    refine k_aloadn (j := 0) dX10_faultOf_20 rfl rfl ?_
    refine k_geti fg_10_71 rfl rfl dX10_faultOf_21 ?_
    refine k_ifne (tgt := 44) dX10_faultOf_24 (by decide) (fun _ => ?_) (fun _ => ?_)
    · refine k_aloadn (j := 0) dX10_faultOf_27 rfl rfl ?_
      refine k_aloadn (j := 0) dX10_faultOf_28 rfl rfl ?_
      refine k_geti fg_10_59 rfl rfl dX10_faultOf_29 ?_
      refine k_callVi [.inl (gfi g4 326 v0)] (t10_signAt v0 (gfi g4 326 v0) g4) cw_cX10_signAt (Or.inl ml_10_63) rfl rfl (by decide) (by decide) (Nat.le_of_ble_eq_true rfl) dX10_faultOf_32 (fun z6 g5 => ?_)
      refine k_bipush (v := (44 : Int32)) dX10_faultOf_35 rfl ?_
      refine k_icmpne (tgt := 44) dX10_faultOf_37 (by decide) (fun _ => ?_) (fun _ => ?_)
      · refine k_iconst (v := (1 : Int32)) dX10_faultOf_40 rfl ?_
        refine k_goto (tgt := 45) dX10_faultOf_41 (by decide) ?_
        refine k_msk (L' := [some (.inr (10, some v0)), none]) [true, false] rfl ?_
        exact t10_faultOf_b45 (f10_faultOf_b12 n) ih v0 (1 : Int32) g5
      refine k_msk (L' := [some (.inr (10, some v0)), none]) [true, false] rfl ?_
      exact t10_faultOf_b44 (f10_faultOf_b12 n) ih v0 g5
    refine k_msk (L' := [some (.inr (10, some v0)), none]) [true, false] rfl ?_
    exact t10_faultOf_b44 (f10_faultOf_b12 n) ih v0 g4
def f10_faultOf (v0 : Nat) (g : GS_) : Option (Int32 × GS_) :=
  lr_ (sfi g 326 v0 (0 : Int32)) fun g7 => lr_ (sfi g7 327 v0 (0 : Int32)) fun g8 => f10_faultOf_b12 FU_ v0 (1 : Int32) g8
theorem t10_faultOf (v0 : Nat) (g : GS_) : Cn_ yX10_faultOf cX10_faultOf 2 (some .int) 4 85 EI_ [.inr (10, some v0)] g (f10_faultOf v0 g) := by
  refine k_method (own := RX10) (ini := false) (L1 := [some (.inr (10, some v0)), none]) (by decide +kernel) rfl (fun h => by cases h) (Nat.le_of_ble_eq_true rfl) rfl ?_
  unfold f10_faultOf
  refine k_aloadn (j := 0) dX10_faultOf_0 rfl rfl ?_
  refine k_iconst (v := (0 : Int32)) dX10_faultOf_1 rfl ?_
  refine k_puti fp_10_59 rfl rfl dX10_faultOf_2 (fun g7 => ?_)
  refine k_aloadn (j := 0) dX10_faultOf_5 rfl rfl ?_
  refine k_iconst (v := (0 : Int32)) dX10_faultOf_6 rfl ?_
  refine k_putz fp_10_71 rfl rfl (by decide) dX10_faultOf_7 (fun g8 => ?_)
  refine k_iconst (v := (1 : Int32)) dX10_faultOf_10 rfl ?_
  refine k_istn (j := 1) (L' := [some (.inr (10, some v0)), some (.inl (1 : Int32))]) dX10_faultOf_11 rfl (by decide) rfl ?_
  exact t10_faultOf_b12 FU_ v0 (1 : Int32) g8
theorem dX10_fault_0 : decode cX10_fault 0 = .ok (.aload_n 0, 1) := by decide +kernel
theorem dX10_fault_1 : decode cX10_fault 1 = .ok (.invokevirtual 97, 3) := by decide +kernel
theorem dX10_fault_4 : decode cX10_fault 4 = .ok (.ireturn, 1) := by decide +kernel
def f10_fault (v0 : Nat) (g : GS_) : Option (Int32 × GS_) :=
  bd_ (f10_faultOf v0 g) fun z2 g1 => some (z2, g1)
theorem t10_fault (v0 : Nat) (g : GS_) : Cn_ yX10_fault cX10_fault 1 (some .int) 5 106 EI_ [.inr (10, some v0)] g (f10_fault v0 g) := by
  refine k_method (own := RX10) (ini := false) (L1 := [some (.inr (10, some v0))]) (by decide +kernel) rfl (fun h => by cases h) (Nat.le_of_ble_eq_true rfl) rfl ?_
  unfold f10_fault
  refine k_aloadn (j := 0) dX10_fault_0 rfl rfl ?_
  refine k_callVi [] (t10_faultOf v0 g) cw_cX10_faultOf (Or.inl ml_10_97) rfl rfl (by decide) (by decide) (Nat.le_of_ble_eq_true rfl) dX10_fault_1 (fun z2 g1 => ?_)
  exact k_ireturn rfl dX10_fault_4
theorem dX10_isPart_0 : decode cX10_isPart 0 = .ok (.aload_n 0, 1) := by decide +kernel
theorem dX10_isPart_1 : decode cX10_isPart 1 = .ok (.getfield 78, 3) := by decide +kernel
theorem dX10_isPart_4 : decode cX10_isPart 4 = .ok (.ifCond .eq 23, 3) := by decide +kernel
theorem dX10_isPart_7 : decode cX10_isPart 7 = .ok (.iload_n 1, 1) := by decide +kernel
theorem dX10_isPart_8 : decode cX10_isPart 8 = .ok (.iconst 2, 1) := by decide +kernel
theorem dX10_isPart_9 : decode cX10_isPart 9 = .ok (.irem, 1) := by decide +kernel
theorem dX10_isPart_10 : decode cX10_isPart 10 = .ok (.aload_n 0, 1) := by decide +kernel
theorem dX10_isPart_11 : decode cX10_isPart 11 = .ok (.getfield 78, 3) := by decide +kernel
theorem dX10_isPart_14 : decode cX10_isPart 14 = .ok (.bipush 111, 2) := by decide +kernel
theorem dX10_isPart_16 : decode cX10_isPart 16 = .ok (.if_icmp .ne 7, 3) := by decide +kernel
theorem dX10_isPart_19 : decode cX10_isPart 19 = .ok (.iconst 1, 1) := by decide +kernel
theorem dX10_isPart_20 : decode cX10_isPart 20 = .ok (.goto 4, 3) := by decide +kernel
theorem dX10_isPart_23 : decode cX10_isPart 23 = .ok (.iconst 0, 1) := by decide +kernel
theorem dX10_isPart_24 : decode cX10_isPart 24 = .ok (.if_icmp .ne 7, 3) := by decide +kernel
theorem dX10_isPart_27 : decode cX10_isPart 27 = .ok (.iconst 1, 1) := by decide +kernel
theorem dX10_isPart_28 : decode cX10_isPart 28 = .ok (.goto 4, 3) := by decide +kernel
theorem dX10_isPart_31 : decode cX10_isPart 31 = .ok (.iconst 0, 1) := by decide +kernel
theorem dX10_isPart_32 : decode cX10_isPart 32 = .ok (.ireturn, 1) := by decide +kernel
def f10_isPart_b27 (g : GS_) : Option (Int32 × GS_) :=
  some ((1 : Int32), g)
theorem t10_isPart_b27 (g : GS_) : K_ RX10 cX10_isPart 2 (some .boolean) 0 0 false EI_ 27 [none, none] [] g (f10_isPart_b27 g) := by
  unfold f10_isPart_b27
  refine k_iconst (v := (1 : Int32)) dX10_isPart_27 rfl ?_
  refine k_goto (tgt := 32) dX10_isPart_28 (by decide) ?_
  exact k_zreturn rfl (by decide) dX10_isPart_32
def f10_isPart_b24 (s0 : Int32) (s1 : Int32) (g : GS_) : Option (Int32 × GS_) :=
  if s0 = s1 then f10_isPart_b27 g else some ((0 : Int32), g)
theorem t10_isPart_b24 (s0 : Int32) (s1 : Int32) (g : GS_) : K_ RX10 cX10_isPart 2 (some .boolean) 0 0 false EI_ 24 [none, none] [.inl s1, .inl s0] g (f10_isPart_b24 s0 s1 g) := by
  unfold f10_isPart_b24
  refine k_icmpne (tgt := 31) dX10_isPart_24 (by decide) (fun _ => ?_) (fun _ => ?_)
  · exact t10_isPart_b27 g
  refine k_iconst (v := (0 : Int32)) dX10_isPart_31 rfl ?_
  exact k_zreturn rfl (by decide) dX10_isPart_32
def f10_isPart (v0 : Nat) (v1 : Int32) (g : GS_) : Option (Int32 × GS_) :=
  if (gfi g 331 v0) = 0 then f10_isPart_b27 g else if (gfi g 331 v0) = (111 : Int32) then f10_isPart_b24 (jrem v1 (2 : Int32)) (1 : Int32) g else f10_isPart_b24 (jrem v1 (2 : Int32)) (0 : Int32) g
theorem t10_isPart (v0 : Nat) (v1 : Int32) (g : GS_) : Cn_ yX10_isPart cX10_isPart 2 (some .boolean) 0 0 EI_ [.inr (10, some v0), .inl v1] g (f10_isPart v0 v1 g) := by
  refine k_method (own := RX10) (ini := false) (L1 := [some (.inr (10, some v0)), some (.inl v1)]) (by decide +kernel) rfl (fun h => by cases h) (Nat.le_of_ble_eq_true rfl) rfl ?_
  unfold f10_isPart
  refine k_aloadn (j := 0) dX10_isPart_0 rfl rfl ?_
  refine k_geti fg_10_78 rfl rfl dX10_isPart_1 ?_
  refine k_ifeq (tgt := 27) dX10_isPart_4 (by decide) (fun _ => ?_) (fun _ => ?_)
  · refine k_msk (L' := [none, none]) [false, false] rfl ?_
    exact t10_isPart_b27 g
  refine k_iloadn (j := 1) dX10_isPart_7 rfl rfl ?_
  refine k_iconst (v := (2 : Int32)) dX10_isPart_8 rfl ?_
  refine k_iremc (by decide) dX10_isPart_9 ?_
  refine k_aloadn (j := 0) dX10_isPart_10 rfl rfl ?_
  refine k_geti fg_10_78 rfl rfl dX10_isPart_11 ?_
  refine k_bipush (v := (111 : Int32)) dX10_isPart_14 rfl ?_
  refine k_icmpne (tgt := 23) dX10_isPart_16 (by decide) (fun _ => ?_) (fun _ => ?_)
  · refine k_iconst (v := (1 : Int32)) dX10_isPart_19 rfl ?_
    refine k_goto (tgt := 24) dX10_isPart_20 (by decide) ?_
    refine k_msk (L' := [none, none]) [false, false] rfl ?_
    exact t10_isPart_b24 (jrem v1 (2 : Int32)) (1 : Int32) g
  refine k_iconst (v := (0 : Int32)) dX10_isPart_23 rfl ?_
  refine k_msk (L' := [none, none]) [false, false] rfl ?_
  exact t10_isPart_b24 (jrem v1 (2 : Int32)) (0 : Int32) g
theorem dX10_isInItem_0 : decode cX10_isInItem 0 = .ok (.aload_n 0, 1) := by decide +kernel
theorem dX10_isInItem_1 : decode cX10_isInItem 1 = .ok (.getfield 81, 3) := by decide +kernel
theorem dX10_isInItem_4 : decode cX10_isInItem 4 = .ok (.iload_n 2, 1) := by decide +kernel
theorem dX10_isInItem_5 : decode cX10_isInItem 5 = .ok (.if_icmp .ge 10, 3) := by decide +kernel
theorem dX10_isInItem_8 : decode cX10_isInItem 8 = .ok (.aload_n 0, 1) := by decide +kernel
theorem dX10_isInItem_9 : decode cX10_isInItem 9 = .ok (.getfield 81, 3) := by decide +kernel
theorem dX10_isInItem_12 : decode cX10_isInItem 12 = .ok (.goto 4, 3) := by decide +kernel
theorem dX10_isInItem_15 : decode cX10_isInItem 15 = .ok (.iload_n 2, 1) := by decide +kernel
theorem dX10_isInItem_16 : decode cX10_isInItem 16 = .ok (.istore_n 3, 1) := by decide +kernel
theorem dX10_isInItem_17 : decode cX10_isInItem 17 = .ok (.aload_n 0, 1) := by decide +kernel
theorem dX10_isInItem_18 : decode cX10_isInItem 18 = .ok (.getfield 81, 3) := by decide +kernel
theorem dX10_isInItem_21 : decode cX10_isInItem 21 = .ok (.iload_n 2, 1) := by decide +kernel
theorem dX10_isInItem_22 : decode cX10_isInItem 22 = .ok (.if_icmp .ge 7, 3) := by decide +kernel
theorem dX10_isInItem_25 : decode cX10_isInItem 25 = .ok (.iload_n 2, 1) := by decide +kernel
theorem dX10_isInItem_26 : decode cX10_isInItem 26 = .ok (.goto 7, 3) := by decide +kernel
theorem dX10_isInItem_29 : decode cX10_isInItem 29 = .ok (.aload_n 0, 1) := by decide +kernel
theorem dX10_isInItem_30 : decode cX10_isInItem 30 = .ok (.getfield 81, 3) := by decide +kernel
theorem dX10_isInItem_33 : decode cX10_isInItem 33 = .ok (.istore 4, 2) := by decide +kernel
theorem dX10_isInItem_35 : decode cX10_isInItem 35 = .ok (.iload_n 1, 1) := by decide +kernel
theorem dX10_isInItem_36 : decode cX10_isInItem 36 = .ok (.iload_n 3, 1) := by decide +kernel
theorem dX10_isInItem_37 : decode cX10_isInItem 37 = .ok (.iload 4, 2) := by decide +kernel
theorem dX10_isInItem_39 : decode cX10_isInItem 39 = .ok (.invokestatic 44, 3) := by decide +kernel
theorem dX10_isInItem_42 : decode cX10_isInItem 42 = .ok (.ifCond .eq 15, 3) := by decide +kernel
theorem dX10_isInItem_45 : decode cX10_isInItem 45 = .ok (.aload_n 0, 1) := by decide +kernel
theorem dX10_isInItem_46 : decode cX10_isInItem 46 = .ok (.iload_n 1, 1) := by decide +kernel
theorem dX10_isInItem_47 : decode cX10_isInItem 47 = .ok (.invokevirtual 100, 3) := by decide +kernel
theorem dX10_isInItem_50 : decode cX10_isInItem 50 = .ok (.ifCond .eq 7, 3) := by decide +kernel
theorem dX10_isInItem_53 : decode cX10_isInItem 53 = .ok (.iconst 1, 1) := by decide +kernel
theorem dX10_isInItem_54 : decode cX10_isInItem 54 = .ok (.goto 4, 3) := by decide +kernel
theorem dX10_isInItem_57 : decode cX10_isInItem 57 = .ok (.iconst 0, 1) := by decide +kernel
theorem dX10_isInItem_58 : decode cX10_isInItem 58 = .ok (.ireturn, 1) := by decide +kernel
def f10_isInItem_b57 (g : GS_) : Option (Int32 × GS_) :=
  some ((0 : Int32), g)
theorem t10_isInItem_b57 (g : GS_) : K_ RX10 cX10_isInItem 5 (some .boolean) 1 22 false EI_ 57 [none, none, none, none, none] [] g (f10_isInItem_b57 g) := by
  unfold f10_isInItem_b57
  refine k_iconst (v := (0 : Int32)) dX10_isInItem_57 rfl ?_
  exact k_zreturn rfl (by decide) dX10_isInItem_58
def f10_isInItem_b33 (v0 : Nat) (v1 : Int32) (v3 : Int32) (s0 : Int32) (g : GS_) : Option (Int32 × GS_) :=
  bd_ (f10_in v1 v3 s0 g) fun z2 g1 => if z2 = 0 then f10_isInItem_b57 g1 else bd_ (f10_isPart v0 v1 g1) fun z4 g3 => if z4 = 0 then f10_isInItem_b57 g3 else some ((1 : Int32), g3)
theorem t10_isInItem_b33 (v0 : Nat) (v1 : Int32) (v3 : Int32) (s0 : Int32) (g : GS_) : K_ RX10 cX10_isInItem 5 (some .boolean) 1 22 false EI_ 33 [some (.inr (10, some v0)), some (.inl v1), none, some (.inl v3), none] [.inl s0] g (f10_isInItem_b33 v0 v1 v3 s0 g) := by
  unfold f10_isInItem_b33
  refine k_ist (L' := [some (.inr (10, some v0)), some (.inl v1), none, some (.inl v3), some (.inl s0)]) dX10_isInItem_33 (by decide) rfl ?_
  refine k_iloadn (j := 1) dX10_isInItem_35 rfl rfl ?_
  refine k_iloadn (j := 3) dX10_isInItem_36 rfl rfl ?_
  refine k_iload dX10_isInItem_37 rfl ?_
  refine k_callSi [.inl v1, .inl v3, .inl s0] (t10_in v1 v3 s0 g) cw_cX10_in ml_10_44 rfl rfl (by decide) (by decide) (Nat.le_of_ble_eq_true rfl) dX10_isInItem_39 (fun z2 g1 => ?_)
  refine k_ifeq (tgt := 57) dX10_isInItem_42 (by decide) (fun _ => ?_) (fun _ => ?_)
  · refine k_msk (L' := [none, none, none, none, none]) [false, false, true, false, false] rfl ?_
    exact t10_isInItem_b57 g1
  refine k_aloadn (j := 0) dX10_isInItem_45 rfl rfl ?_
  refine k_iloadn (j := 1) dX10_isInItem_46 rfl rfl ?_
  refine k_callVi [.inl v1] (t10_isPart v0 v1 g1) cw_cX10_isPart (Or.inl ml_10_100) rfl rfl (by decide) (by decide) (Nat.le_of_ble_eq_true rfl) dX10_isInItem_47 (fun z4 g3 => ?_)
  refine k_ifeq (tgt := 57) dX10_isInItem_50 (by decide) (fun _ => ?_) (fun _ => ?_)
  · refine k_msk (L' := [none, none, none, none, none]) [false, false, true, false, false] rfl ?_
    exact t10_isInItem_b57 g3
  refine k_iconst (v := (1 : Int32)) dX10_isInItem_53 rfl ?_
  refine k_goto (tgt := 58) dX10_isInItem_54 (by decide) ?_
  exact k_zreturn rfl (by decide) dX10_isInItem_58
def f10_isInItem_b16 (v0 : Nat) (v1 : Int32) (v2 : Int32) (s0 : Int32) (g : GS_) : Option (Int32 × GS_) :=
  if v2 ≤ (gfi g 329 v0) then f10_isInItem_b33 v0 v1 s0 (gfi g 329 v0) g else f10_isInItem_b33 v0 v1 s0 v2 g
theorem t10_isInItem_b16 (v0 : Nat) (v1 : Int32) (v2 : Int32) (s0 : Int32) (g : GS_) : K_ RX10 cX10_isInItem 5 (some .boolean) 1 22 false EI_ 16 [some (.inr (10, some v0)), some (.inl v1), some (.inl v2), none, none] [.inl s0] g (f10_isInItem_b16 v0 v1 v2 s0 g) := by
  unfold f10_isInItem_b16
  refine k_istn (j := 3) (L' := [some (.inr (10, some v0)), some (.inl v1), some (.inl v2), some (.inl s0), none]) dX10_isInItem_16 rfl (by decide) rfl ?_
  refine k_aloadn (j := 0) dX10_isInItem_17 rfl rfl ?_
  refine k_geti fg_10_81 rfl rfl dX10_isInItem_18 ?_
  refine k_iloadn (j := 2) dX10_isInItem_21 rfl rfl ?_
  refine k_icmpge (tgt := 29) dX10_isInItem_22 (by decide) (fun _ => ?_) (fun _ => ?_)
  · refine k_aloadn (j := 0) dX10_isInItem_29 rfl rfl ?_
    refine k_geti fg_10_81 rfl rfl dX10_isInItem_30 ?_
    refine k_msk (L' := [some (.inr (10, some v0)), some (.inl v1), none, some (.inl s0), none]) [true, true, false, true, true] rfl ?_
    exact t10_isInItem_b33 v0 v1 s0 (gfi g 329 v0) g
  refine k_iloadn (j := 2) dX10_isInItem_25 rfl rfl ?_
  refine k_goto (tgt := 33) dX10_isInItem_26 (by decide) ?_
  refine k_msk (L' := [some (.inr (10, some v0)), some (.inl v1), none, some (.inl s0), none]) [true, true, false, true, true] rfl ?_
  exact t10_isInItem_b33 v0 v1 s0 v2 g
def f10_isInItem (v0 : Nat) (v1 : Int32) (v2 : Int32) (g : GS_) : Option (Int32 × GS_) :=
  if v2 ≤ (gfi g 329 v0) then f10_isInItem_b16 v0 v1 v2 v2 g else f10_isInItem_b16 v0 v1 v2 (gfi g 329 v0) g
theorem t10_isInItem (v0 : Nat) (v1 : Int32) (v2 : Int32) (g : GS_) : Cn_ yX10_isInItem cX10_isInItem 5 (some .boolean) 1 22 EI_ [.inr (10, some v0), .inl v1, .inl v2] g (f10_isInItem v0 v1 v2 g) := by
  refine k_method (own := RX10) (ini := false) (L1 := [some (.inr (10, some v0)), some (.inl v1), some (.inl v2), none, none]) (by decide +kernel) rfl (fun h => by cases h) (Nat.le_of_ble_eq_true rfl) rfl ?_
  unfold f10_isInItem
  refine k_aloadn (j := 0) dX10_isInItem_0 rfl rfl ?_
  refine k_geti fg_10_81 rfl rfl dX10_isInItem_1 ?_
  refine k_iloadn (j := 2) dX10_isInItem_4 rfl rfl ?_
  refine k_icmpge (tgt := 15) dX10_isInItem_5 (by decide) (fun _ => ?_) (fun _ => ?_)
  · refine k_iloadn (j := 2) dX10_isInItem_15 rfl rfl ?_
    exact t10_isInItem_b16 v0 v1 v2 v2 g
  refine k_aloadn (j := 0) dX10_isInItem_8 rfl rfl ?_
  refine k_geti fg_10_81 rfl rfl dX10_isInItem_9 ?_
  refine k_goto (tgt := 16) dX10_isInItem_12 (by decide) ?_
  exact t10_isInItem_b16 v0 v1 v2 (gfi g 329 v0) g
theorem dX10_takeOut_0 : decode cX10_takeOut 0 = .ok (.iconst 0, 1) := by decide +kernel
theorem dX10_takeOut_1 : decode cX10_takeOut 1 = .ok (.istore_n 2, 1) := by decide +kernel
theorem dX10_takeOut_2 : decode cX10_takeOut 2 = .ok (.iconst 0, 1) := by decide +kernel
theorem dX10_takeOut_3 : decode cX10_takeOut 3 = .ok (.istore_n 3, 1) := by decide +kernel
theorem dX10_takeOut_4 : decode cX10_takeOut 4 = .ok (.iload_n 3, 1) := by decide +kernel
theorem dX10_takeOut_5 : decode cX10_takeOut 5 = .ok (.aload_n 0, 1) := by decide +kernel
theorem dX10_takeOut_6 : decode cX10_takeOut 6 = .ok (.getfield 103, 3) := by decide +kernel
theorem dX10_takeOut_9 : decode cX10_takeOut 9 = .ok (.if_icmp .ge 38, 3) := by decide +kernel
theorem dX10_takeOut_12 : decode cX10_takeOut 12 = .ok (.aload_n 0, 1) := by decide +kernel
theorem dX10_takeOut_13 : decode cX10_takeOut 13 = .ok (.aload_n 0, 1) := by decide +kernel
theorem dX10_takeOut_14 : decode cX10_takeOut 14 = .ok (.getfield 29, 3) := by decide +kernel
theorem dX10_takeOut_17 : decode cX10_takeOut 17 = .ok (.iload_n 3, 1) := by decide +kernel
theorem dX10_takeOut_18 : decode cX10_takeOut 18 = .ok (.iaload, 1) := by decide +kernel
theorem dX10_takeOut_19 : decode cX10_takeOut 19 = .ok (.iload_n 1, 1) := by decide +kernel
theorem dX10_takeOut_20 : decode cX10_takeOut 20 = .ok (.invokevirtual 106, 3) := by decide +kernel
theorem dX10_takeOut_23 : decode cX10_takeOut 23 = .ok (.ifCond .ne 18, 3) := by decide +kernel
theorem dX10_takeOut_26 : decode cX10_takeOut 26 = .ok (.aload_n 0, 1) := by decide +kernel
theorem dX10_takeOut_27 : decode cX10_takeOut 27 = .ok (.getfield 29, 3) := by decide +kernel
theorem dX10_takeOut_30 : decode cX10_takeOut 30 = .ok (.iload_n 2, 1) := by decide +kernel
theorem dX10_takeOut_31 : decode cX10_takeOut 31 = .ok (.aload_n 0, 1) := by decide +kernel
theorem dX10_takeOut_32 : decode cX10_takeOut 32 = .ok (.getfield 29, 3) := by decide +kernel
theorem dX10_takeOut_35 : decode cX10_takeOut 35 = .ok (.iload_n 3, 1) := by decide +kernel
theorem dX10_takeOut_36 : decode cX10_takeOut 36 = .ok (.iaload, 1) := by decide +kernel
theorem dX10_takeOut_37 : decode cX10_takeOut 37 = .ok (.iastore, 1) := by decide +kernel
theorem dX10_takeOut_38 : decode cX10_takeOut 38 = .ok (.iinc 2 1, 3) := by decide +kernel
theorem dX10_takeOut_41 : decode cX10_takeOut 41 = .ok (.iinc 3 1, 3) := by decide +kernel
theorem dX10_takeOut_44 : decode cX10_takeOut 44 = .ok (.goto (-40), 3) := by decide +kernel
theorem dX10_takeOut_47 : decode cX10_takeOut 47 = .ok (.aload_n 0, 1) := by decide +kernel
theorem dX10_takeOut_48 : decode cX10_takeOut 48 = .ok (.iload_n 2, 1) := by decide +kernel
theorem dX10_takeOut_49 : decode cX10_takeOut 49 = .ok (.putfield 103, 3) := by decide +kernel
theorem dX10_takeOut_52 : decode cX10_takeOut 52 = .ok (.return_, 1) := by decide +kernel
def f10_takeOut_b41 (c4 : Nat → Int32 → Int32 → Int32 → GS_ → Option (Unit × GS_)) (v0 : Nat) (v1 : Int32) (v2 : Int32) (v3 : Int32) (g : GS_) : Option (Unit × GS_) :=
  c4 v0 v1 v2 (v3 + (1 : Int32)) g
theorem t10_takeOut_b41 (c4 : Nat → Int32 → Int32 → Int32 → GS_ → Option (Unit × GS_)) (h4 : ∀ (v0 : Nat) (v1 : Int32) (v2 : Int32) (v3 : Int32) (g : GS_), K_ RX10 cX10_takeOut 4 none 2 46 false EV_ 4 [some (.inr (10, some v0)), some (.inl v1), some (.inl v2), some (.inl v3)] [] g (c4 v0 v1 v2 v3 g)) (v0 : Nat) (v1 : Int32) (v2 : Int32) (v3 : Int32) (g : GS_) : K_ RX10 cX10_takeOut 4 none 2 46 false EV_ 41 [some (.inr (10, some v0)), some (.inl v1), some (.inl v2), some (.inl v3)] [] g (f10_takeOut_b41 c4 v0 v1 v2 v3 g) := by
  unfold f10_takeOut_b41
  refine k_iinc (v := (v3 + (1 : Int32))) (L' := [some (.inr (10, some v0)), some (.inl v1), some (.inl v2), some (.inl (v3 + (1 : Int32)))]) dX10_takeOut_41 rfl rfl (by decide) rfl ?_
  refine k_goto (tgt := 4) dX10_takeOut_44 (by decide) ?_
  exact h4 v0 v1 v2 (v3 + (1 : Int32)) g
def f10_takeOut_b4 : Nat → Nat → Int32 → Int32 → Int32 → GS_ → Option (Unit × GS_)
  | 0, _, _, _, _, _ => none
  | n + 1, v0, v1, v2, v3, g =>
    if (gfi g 333 v0) ≤ v3 then lr_ (sfi g 333 v0 v2) fun g1 => some ((), g1) else lr_ (gfr g 332 v0) fun x2 => oc_ x2 none fun a3 => if inb v3 (gln g 20 a3) then bd_ (f10_isInItem v0 (gai g 20 a3 v3.toInt.toNat) v1 g) fun z5 g4 => if z5 = 0 then lr_ (gfr g4 332 v0) fun x6 => lr_ (gfr g4 332 v0) fun x7 => oc_ x7 none fun a8 => if inb v3 (gln g4 20 a8) then oc_ x6 none fun a9 => if inb v2 (gln g4 20 a9) then lr_ (sai g4 20 a9 v2.toInt.toNat (gai g4 20 a8 v3.toInt.toNat)) (fun g10 => f10_takeOut_b41 (f10_takeOut_b4 n) v0 v1 (v2 + (1 : Int32)) v3 g10) else none else none else f10_takeOut_b41 (f10_takeOut_b4 n) v0 v1 v2 v3 g4 else none
theorem t10_takeOut_b4 : ∀ (n : Nat) (v0 : Nat) (v1 : Int32) (v2 : Int32) (v3 : Int32) (g : GS_), K_ RX10 cX10_takeOut 4 none 2 46 false EV_ 4 [some (.inr (10, some v0)), some (.inl v1), some (.inl v2), some (.inl v3)] [] g (f10_takeOut_b4 n v0 v1 v2 v3 g) := by
  intro n
  induction n with
  | zero =>
    intro v0 v1 v2 v3 g
    exact k_fail
  | succ n ih =>
    intro v0 v1 v2 v3 g
    show K_ RX10 cX10_takeOut 4 none 2 46 false EV_ 4 [some (.inr (10, some v0)), some (.inl v1), some (.inl v2), some (.inl v3)] [] g (if (gfi g 333 v0) ≤ v3 then lr_ (sfi g 333 v0 v2) fun g1 => some ((), g1) else lr_ (gfr g 332 v0) fun x2 => oc_ x2 none fun a3 => if inb v3 (gln g 20 a3) then bd_ (f10_isInItem v0 (gai g 20 a3 v3.toInt.toNat) v1 g) fun z5 g4 => if z5 = 0 then lr_ (gfr g4 332 v0) fun x6 => lr_ (gfr g4 332 v0) fun x7 => oc_ x7 none fun a8 => if inb v3 (gln g4 20 a8) then oc_ x6 none fun a9 => if inb v2 (gln g4 20 a9) then lr_ (sai g4 20 a9 v2.toInt.toNat (gai g4 20 a8 v3.toInt.toNat)) (fun g10 => f10_takeOut_b41 (f10_takeOut_b4 n) v0 v1 (v2 + (1 : Int32)) v3 g10) else none else none else f10_takeOut_b41 (f10_takeOut_b4 n) v0 v1 v2 v3 g4 else none)
    refine k_iloadn (j := 3) dX10_takeOut_4 rfl rfl ?_
    refine k_aloadn (j := 0) dX10_takeOut_5 rfl rfl ?_
    refine k_geti fg_10_103 rfl rfl dX10_takeOut_6 ?_
    refine k_icmpge (tgt := 47) dX10_takeOut_9 (by decide) (fun _ => ?_) (fun _ => ?_)
    · refine k_aloadn (j := 0) dX10_takeOut_47 rfl rfl ?_
      refine k_iloadn (j := 2) dX10_takeOut_48 rfl rfl ?_
      refine k_puti fp_10_103 rfl rfl dX10_takeOut_49 (fun g1 => ?_)
      exact k_return rfl dX10_takeOut_52
    refine k_aloadn (j := 0) dX10_takeOut_12 rfl rfl ?_
    refine k_aloadn (j := 0) dX10_takeOut_13 rfl rfl ?_
    refine k_getr fg_10_29 rfl rfl dX10_takeOut_14 (fun x2 => ?_)
    refine k_iloadn (j := 3) dX10_takeOut_17 rfl rfl ?_
    rcases x2 with _ | a3
    · exact k_ocn
    refine k_ocs ?_
    refine k_iald dX10_takeOut_18 ?_
    refine k_iloadn (j := 1) dX10_takeOut_19 rfl rfl ?_
    refine k_callVi [.inl (gai g 20 a3 v3.toInt.toNat), .inl v1] (t10_isInItem v0 (gai g 20 a3 v3.toInt.toNat) v1 g) cw_cX10_isInItem (Or.inl ml_10_106) rfl rfl (by decide) (by decide) (Nat.le_of_ble_eq_true rfl) dX10_takeOut_20 (fun z5 g4 => ?_)
    refine k_ifne (tgt := 41) dX10_takeOut_23 (by decide) (fun _ => ?_) (fun _ => ?_)
    · refine k_aloadn (j := 0) dX10_takeOut_26 rfl rfl ?_
      refine k_getr fg_10_29 rfl rfl dX10_takeOut_27 (fun x6 => ?_)
      refine k_iloadn (j := 2) dX10_takeOut_30 rfl rfl ?_
      refine k_aloadn (j := 0) dX10_takeOut_31 rfl rfl ?_
      refine k_getr fg_10_29 rfl rfl dX10_takeOut_32 (fun x7 => ?_)
      refine k_iloadn (j := 3) dX10_takeOut_35 rfl rfl ?_
      rcases x7 with _ | a8
      · exact k_ocn
      refine k_ocs ?_
      refine k_iald dX10_takeOut_36 ?_
      rcases x6 with _ | a9
      · exact k_ocn
      refine k_ocs ?_
      refine k_iast dX10_takeOut_37 (fun g10 => ?_)
      refine k_iinc (v := (v2 + (1 : Int32))) (L' := [some (.inr (10, some v0)), some (.inl v1), some (.inl (v2 + (1 : Int32))), some (.inl v3)]) dX10_takeOut_38 rfl rfl (by decide) rfl ?_
      exact t10_takeOut_b41 (f10_takeOut_b4 n) ih v0 v1 (v2 + (1 : Int32)) v3 g10
    exact t10_takeOut_b41 (f10_takeOut_b4 n) ih v0 v1 v2 v3 g4
def f10_takeOut (v0 : Nat) (v1 : Int32) (g : GS_) : Option (Unit × GS_) :=
  f10_takeOut_b4 FU_ v0 v1 (0 : Int32) (0 : Int32) g
theorem t10_takeOut (v0 : Nat) (v1 : Int32) (g : GS_) : Cn_ yX10_takeOut cX10_takeOut 4 none 2 46 EV_ [.inr (10, some v0), .inl v1] g (f10_takeOut v0 v1 g) := by
  refine k_method (own := RX10) (ini := false) (L1 := [some (.inr (10, some v0)), some (.inl v1), none, none]) (by decide +kernel) rfl (fun h => by cases h) (Nat.le_of_ble_eq_true rfl) rfl ?_
  unfold f10_takeOut
  refine k_iconst (v := (0 : Int32)) dX10_takeOut_0 rfl ?_
  refine k_istn (j := 2) (L' := [some (.inr (10, some v0)), some (.inl v1), some (.inl (0 : Int32)), none]) dX10_takeOut_1 rfl (by decide) rfl ?_
  refine k_iconst (v := (0 : Int32)) dX10_takeOut_2 rfl ?_
  refine k_istn (j := 3) (L' := [some (.inr (10, some v0)), some (.inl v1), some (.inl (0 : Int32)), some (.inl (0 : Int32))]) dX10_takeOut_3 rfl (by decide) rfl ?_
  exact t10_takeOut_b4 FU_ v0 v1 (0 : Int32) (0 : Int32) g
theorem dX10_append_0 : decode cX10_append 0 = .ok (.aload_n 0, 1) := by decide +kernel
theorem dX10_append_1 : decode cX10_append 1 = .ok (.getfield 81, 3) := by decide +kernel
theorem dX10_append_4 : decode cX10_append 4 = .ok (.iload_n 1, 1) := by decide +kernel
theorem dX10_append_5 : decode cX10_append 5 = .ok (.if_icmp .gt 7, 3) := by decide +kernel
theorem dX10_append_8 : decode cX10_append 8 = .ok (.iconst 1, 1) := by decide +kernel
theorem dX10_append_9 : decode cX10_append 9 = .ok (.goto 4, 3) := by decide +kernel
theorem dX10_append_12 : decode cX10_append 12 = .ok (.iconst (-1), 1) := by decide +kernel
theorem dX10_append_13 : decode cX10_append 13 = .ok (.istore_n 3, 1) := by decide +kernel
theorem dX10_append_14 : decode cX10_append 14 = .ok (.iload_n 1, 1) := by decide +kernel
theorem dX10_append_15 : decode cX10_append 15 = .ok (.aload_n 0, 1) := by decide +kernel
theorem dX10_append_16 : decode cX10_append 16 = .ok (.getfield 81, 3) := by decide +kernel
theorem dX10_append_19 : decode cX10_append 19 = .ok (.isub, 1) := by decide +kernel
theorem dX10_append_20 : decode cX10_append 20 = .ok (.iload_n 3, 1) := by decide +kernel
theorem dX10_append_21 : decode cX10_append 21 = .ok (.imul, 1) := by decide +kernel
theorem dX10_append_22 : decode cX10_append 22 = .ok (.iconst 1, 1) := by decide +kernel
theorem dX10_append_23 : decode cX10_append 23 = .ok (.iadd, 1) := by decide +kernel
theorem dX10_append_24 : decode cX10_append 24 = .ok (.istore 4, 2) := by decide +kernel
theorem dX10_append_26 : decode cX10_append 26 = .ok (.iconst 0, 1) := by decide +kernel
theorem dX10_append_27 : decode cX10_append 27 = .ok (.istore 5, 2) := by decide +kernel
theorem dX10_append_29 : decode cX10_append 29 = .ok (.iload 5, 2) := by decide +kernel
theorem dX10_append_31 : decode cX10_append 31 = .ok (.iload 4, 2) := by decide +kernel
theorem dX10_append_33 : decode cX10_append 33 = .ok (.if_icmp .ge 56, 3) := by decide +kernel
theorem dX10_append_36 : decode cX10_append 36 = .ok (.aload_n 0, 1) := by decide +kernel
theorem dX10_append_37 : decode cX10_append 37 = .ok (.getfield 81, 3) := by decide +kernel
theorem dX10_append_40 : decode cX10_append 40 = .ok (.iload_n 3, 1) := by decide +kernel
theorem dX10_append_41 : decode cX10_append 41 = .ok (.iload 5, 2) := by decide +kernel
theorem dX10_append_43 : decode cX10_append 43 = .ok (.imul, 1) := by decide +kernel
theorem dX10_append_44 : decode cX10_append 44 = .ok (.iadd, 1) := by decide +kernel
theorem dX10_append_45 : decode cX10_append 45 = .ok (.istore 6, 2) := by decide +kernel
theorem dX10_append_47 : decode cX10_append 47 = .ok (.iload 6, 2) := by decide +kernel
theorem dX10_append_49 : decode cX10_append 49 = .ok (.iload_n 2, 1) := by decide +kernel
theorem dX10_append_50 : decode cX10_append 50 = .ok (.if_icmp .gt 33, 3) := by decide +kernel
theorem dX10_append_53 : decode cX10_append 53 = .ok (.aload_n 0, 1) := by decide +kernel
theorem dX10_append_54 : decode cX10_append 54 = .ok (.iload 6, 2) := by decide +kernel
theorem dX10_append_56 : decode cX10_append 56 = .ok (.invokevirtual 100, 3) := by decide +kernel
theorem dX10_append_59 : decode cX10_append 59 = .ok (.ifCond .eq 24, 3) := by decide +kernel
theorem dX10_append_62 : decode cX10_append 62 = .ok (.aload_n 0, 1) := by decide +kernel
theorem dX10_append_63 : decode cX10_append 63 = .ok (.getfield 29, 3) := by decide +kernel
theorem dX10_append_66 : decode cX10_append 66 = .ok (.aload_n 0, 1) := by decide +kernel
theorem dX10_append_67 : decode cX10_append 67 = .ok (.getfield 103, 3) := by decide +kernel
theorem dX10_append_70 : decode cX10_append 70 = .ok (.iload 6, 2) := by decide +kernel
theorem dX10_append_72 : decode cX10_append 72 = .ok (.iastore, 1) := by decide +kernel
theorem dX10_append_73 : decode cX10_append 73 = .ok (.aload_n 0, 1) := by decide +kernel
theorem dX10_append_74 : decode cX10_append 74 = .ok (.dup, 1) := by decide +kernel
theorem dX10_append_75 : decode cX10_append 75 = .ok (.getfield 103, 3) := by decide +kernel
theorem dX10_append_78 : decode cX10_append 78 = .ok (.iconst 1, 1) := by decide +kernel
theorem dX10_append_79 : decode cX10_append 79 = .ok (.iadd, 1) := by decide +kernel
theorem dX10_append_80 : decode cX10_append 80 = .ok (.putfield 103, 3) := by decide +kernel
theorem dX10_append_83 : decode cX10_append 83 = .ok (.iinc 5 1, 3) := by decide +kernel
theorem dX10_append_86 : decode cX10_append 86 = .ok (.goto (-57), 3) := by decide +kernel
theorem dX10_append_89 : decode cX10_append 89 = .ok (.return_, 1) := by decide +kernel
def f10_append_b83 (c29 : Nat → Int32 → Int32 → Int32 → Int32 → GS_ → Option (Unit × GS_)) (v0 : Nat) (v2 : Int32) (v3 : Int32) (v4 : Int32) (v5 : Int32) (g : GS_) : Option (Unit × GS_) :=
  c29 v0 v2 v3 v4 (v5 + (1 : Int32)) g
theorem t10_append_b83 (c29 : Nat → Int32 → Int32 → Int32 → Int32 → GS_ → Option (Unit × GS_)) (h29 : ∀ (v0 : Nat) (v2 : Int32) (v3 : Int32) (v4 : Int32) (v5 : Int32) (g : GS_), K_ RX10 cX10_append 7 none 1 21 false EV_ 29 [some (.inr (10, some v0)), none, some (.inl v2), some (.inl v3), some (.inl v4), some (.inl v5), none] [] g (c29 v0 v2 v3 v4 v5 g)) (v0 : Nat) (v2 : Int32) (v3 : Int32) (v4 : Int32) (v5 : Int32) (g : GS_) : K_ RX10 cX10_append 7 none 1 21 false EV_ 83 [some (.inr (10, some v0)), none, some (.inl v2), some (.inl v3), some (.inl v4), some (.inl v5), none] [] g (f10_append_b83 c29 v0 v2 v3 v4 v5 g) := by
  unfold f10_append_b83
  refine k_iinc (v := (v5 + (1 : Int32))) (L' := [some (.inr (10, some v0)), none, some (.inl v2), some (.inl v3), some (.inl v4), some (.inl (v5 + (1 : Int32))), none]) dX10_append_83 rfl rfl (by decide) rfl ?_
  refine k_goto (tgt := 29) dX10_append_86 (by decide) ?_
  exact h29 v0 v2 v3 v4 (v5 + (1 : Int32)) g
def f10_append_b29 : Nat → Nat → Int32 → Int32 → Int32 → Int32 → GS_ → Option (Unit × GS_)
  | 0, _, _, _, _, _, _ => none
  | n + 1, v0, v2, v3, v4, v5, g =>
    if v4 ≤ v5 then some ((), g) else lr_ ((gfi g 329 v0) + (v3 * v5)) fun z1 => if v2 < z1 then f10_append_b83 (f10_append_b29 n) v0 v2 v3 v4 v5 g else bd_ (f10_isPart v0 z1 g) fun z3 g2 => if z3 = 0 then f10_append_b83 (f10_append_b29 n) v0 v2 v3 v4 v5 g2 else lr_ (gfr g2 332 v0) fun x4 => oc_ x4 none fun a5 => if inb (gfi g2 333 v0) (gln g2 20 a5) then lr_ (sai g2 20 a5 (gfi g2 333 v0).toInt.toNat z1) (fun g6 => lr_ (sfi g6 333 v0 ((gfi g6 333 v0) + (1 : Int32))) fun g7 => f10_append_b83 (f10_append_b29 n) v0 v2 v3 v4 v5 g7) else none
theorem t10_append_b29 : ∀ (n : Nat) (v0 : Nat) (v2 : Int32) (v3 : Int32) (v4 : Int32) (v5 : Int32) (g : GS_), K_ RX10 cX10_append 7 none 1 21 false EV_ 29 [some (.inr (10, some v0)), none, some (.inl v2), some (.inl v3), some (.inl v4), some (.inl v5), none] [] g (f10_append_b29 n v0 v2 v3 v4 v5 g) := by
  intro n
  induction n with
  | zero =>
    intro v0 v2 v3 v4 v5 g
    exact k_fail
  | succ n ih =>
    intro v0 v2 v3 v4 v5 g
    show K_ RX10 cX10_append 7 none 1 21 false EV_ 29 [some (.inr (10, some v0)), none, some (.inl v2), some (.inl v3), some (.inl v4), some (.inl v5), none] [] g (if v4 ≤ v5 then some ((), g) else lr_ ((gfi g 329 v0) + (v3 * v5)) fun z1 => if v2 < z1 then f10_append_b83 (f10_append_b29 n) v0 v2 v3 v4 v5 g else bd_ (f10_isPart v0 z1 g) fun z3 g2 => if z3 = 0 then f10_append_b83 (f10_append_b29 n) v0 v2 v3 v4 v5 g2 else lr_ (gfr g2 332 v0) fun x4 => oc_ x4 none fun a5 => if inb (gfi g2 333 v0) (gln g2 20 a5) then lr_ (sai g2 20 a5 (gfi g2 333 v0).toInt.toNat z1) (fun g6 => lr_ (sfi g6 333 v0 ((gfi g6 333 v0) + (1 : Int32))) fun g7 => f10_append_b83 (f10_append_b29 n) v0 v2 v3 v4 v5 g7) else none)
    refine k_iload dX10_append_29 rfl ?_
    refine k_iload dX10_append_31 rfl ?_
    refine k_icmpge (tgt := 89) dX10_append_33 (by decide) (fun _ => ?_) (fun _ => ?_)
    · exact k_return rfl dX10_append_89
    refine k_aloadn (j := 0) dX10_append_36 rfl rfl ?_
    refine k_geti fg_10_81 rfl rfl dX10_append_37 ?_
    refine k_iloadn (j := 3) dX10_append_40 rfl rfl ?_
    refine k_iload dX10_append_41 rfl ?_
    refine k_imul dX10_append_43 ?_
    refine k_iadd dX10_append_44 ?_
    refine k_istl (L2 := fun z1 => [some (.inr (10, some v0)), none, some (.inl v2), some (.inl v3), some (.inl v4), some (.inl v5), some (.inl z1)]) dX10_append_45 (by decide) (fun _ => rfl) (fun z1 => ?_)
    refine k_iload dX10_append_47 rfl ?_
    refine k_iloadn (j := 2) dX10_append_49 rfl rfl ?_
    refine k_icmpgt (tgt := 83) dX10_append_50 (by decide) (fun _ => ?_) (fun _ => ?_)
    · refine k_msk (L' := [some (.inr (10, some v0)), none, some (.inl v2), some (.inl v3), some (.inl v4), some (.inl v5), none]) [true, true, true, true, true, true, false] rfl ?_
      exact t10_append_b83 (f10_append_b29 n) ih v0 v2 v3 v4 v5 g
    refine k_aloadn (j := 0) dX10_append_53 rfl rfl ?_
    refine k_iload dX10_append_54 rfl ?_
    refine k_callVi [.inl z1] (t10_isPart v0 z1 g) cw_cX10_isPart (Or.inl ml_10_100) rfl rfl (by decide) (by decide) (Nat.le_of_ble_eq_true rfl) dX10_append_56 (fun z3 g2 => ?_)
    refine k_ifeq (tgt := 83) dX10_append_59 (by decide) (fun _ => ?_) (fun _ => ?_)
    · refine k_msk (L' := [some (.inr (10, some v0)), none, some (.inl v2), some (.inl v3), some (.inl v4), some (.inl v5), none]) [true, true, true, true, true, true, false] rfl ?_
      exact t10_append_b83 (f10_append_b29 n) ih v0 v2 v3 v4 v5 g2
    refine k_aloadn (j := 0) dX10_append_62 rfl rfl ?_
    refine k_getr fg_10_29 rfl rfl dX10_append_63 (fun x4 => ?_)
    refine k_aloadn (j := 0) dX10_append_66 rfl rfl ?_
    refine k_geti fg_10_103 rfl rfl dX10_append_67 ?_
    refine k_iload dX10_append_70 rfl ?_
    rcases x4 with _ | a5
    · exact k_ocn
    refine k_ocs ?_
    refine k_iast dX10_append_72 (fun g6 => ?_)
    refine k_aloadn (j := 0) dX10_append_73 rfl rfl ?_
    refine k_dup dX10_append_74 ?_
    refine k_geti fg_10_103 rfl rfl dX10_append_75 ?_
    refine k_iconst (v := (1 : Int32)) dX10_append_78 rfl ?_
    refine k_iadd dX10_append_79 ?_
    refine k_puti fp_10_103 rfl rfl dX10_append_80 (fun g7 => ?_)
    refine k_msk (L' := [some (.inr (10, some v0)), none, some (.inl v2), some (.inl v3), some (.inl v4), some (.inl v5), none]) [true, true, true, true, true, true, false] rfl ?_
    exact t10_append_b83 (f10_append_b29 n) ih v0 v2 v3 v4 v5 g7
def f10_append_b13 (v0 : Nat) (v1 : Int32) (v2 : Int32) (s0 : Int32) (g : GS_) : Option (Unit × GS_) :=
  lr_ (((v1 - (gfi g 329 v0)) * s0) + (1 : Int32)) fun z8 => f10_append_b29 FU_ v0 v2 s0 z8 (0 : Int32) g
theorem t10_append_b13 (v0 : Nat) (v1 : Int32) (v2 : Int32) (s0 : Int32) (g : GS_) : K_ RX10 cX10_append 7 none 1 21 false EV_ 13 [some (.inr (10, some v0)), some (.inl v1), some (.inl v2), none, none, none, none] [.inl s0] g (f10_append_b13 v0 v1 v2 s0 g) := by
  unfold f10_append_b13
  refine k_istn (j := 3) (L' := [some (.inr (10, some v0)), some (.inl v1), some (.inl v2), some (.inl s0), none, none, none]) dX10_append_13 rfl (by decide) rfl ?_
  refine k_iloadn (j := 1) dX10_append_14 rfl rfl ?_
  refine k_aloadn (j := 0) dX10_append_15 rfl rfl ?_
  refine k_geti fg_10_81 rfl rfl dX10_append_16 ?_
  refine k_isub dX10_append_19 ?_
  refine k_iloadn (j := 3) dX10_append_20 rfl rfl ?_
  refine k_imul dX10_append_21 ?_
  refine k_iconst (v := (1 : Int32)) dX10_append_22 rfl ?_
  refine k_iadd dX10_append_23 ?_
  refine k_istl (L2 := fun z8 => [some (.inr (10, some v0)), some (.inl v1), some (.inl v2), some (.inl s0), some (.inl z8), none, none]) dX10_append_24 (by decide) (fun _ => rfl) (fun z8 => ?_)
  refine k_iconst (v := (0 : Int32)) dX10_append_26 rfl ?_
  refine k_ist (L' := [some (.inr (10, some v0)), some (.inl v1), some (.inl v2), some (.inl s0), some (.inl z8), some (.inl (0 : Int32)), none]) dX10_append_27 (by decide) rfl ?_
  refine k_msk (L' := [some (.inr (10, some v0)), none, some (.inl v2), some (.inl s0), some (.inl z8), some (.inl (0 : Int32)), none]) [true, false, true, true, true, true, true] rfl ?_
  exact t10_append_b29 FU_ v0 v2 s0 z8 (0 : Int32) g
def f10_append (v0 : Nat) (v1 : Int32) (v2 : Int32) (g : GS_) : Option (Unit × GS_) :=
  if v1 < (gfi g 329 v0) then f10_append_b13 v0 v1 v2 (-1 : Int32) g else f10_append_b13 v0 v1 v2 (1 : Int32) g
theorem t10_append (v0 : Nat) (v1 : Int32) (v2 : Int32) (g : GS_) : Cn_ yX10_append cX10_append 7 none 1 21 EV_ [.inr (10, some v0), .inl v1, .inl v2] g (f10_append v0 v1 v2 g) := by
  refine k_method (own := RX10) (ini := false) (L1 := [some (.inr (10, some v0)), some (.inl v1), some (.inl v2), none, none, none, none]) (by decide +kernel) rfl (fun h => by cases h) (Nat.le_of_ble_eq_true rfl) rfl ?_
  unfold f10_append
  refine k_aloadn (j := 0) dX10_append_0 rfl rfl ?_
  refine k_geti fg_10_81 rfl rfl dX10_append_1 ?_
  refine k_iloadn (j := 1) dX10_append_4 rfl rfl ?_
  refine k_icmpgt (tgt := 12) dX10_append_5 (by decide) (fun _ => ?_) (fun _ => ?_)
  · refine k_iconst (v := (-1 : Int32)) dX10_append_12 rfl ?_
    exact t10_append_b13 v0 v1 v2 (-1 : Int32) g
  refine k_iconst (v := (1 : Int32)) dX10_append_8 rfl ?_
  refine k_goto (tgt := 13) dX10_append_9 (by decide) ?_
  exact t10_append_b13 v0 v1 v2 (1 : Int32) g
theorem dX10_makeList_0 : decode cX10_makeList 0 = .ok (.aload_n 0, 1) := by decide +kernel
theorem dX10_makeList_1 : decode cX10_makeList 1 = .ok (.iload_n 1, 1) := by decide +kernel
theorem dX10_makeList_2 : decode cX10_makeList 2 = .ok (.iconst 0, 1) := by decide +kernel
theorem dX10_makeList_3 : decode cX10_makeList 3 = .ok (.invokevirtual 48, 3) := by decide +kernel
theorem dX10_makeList_6 : decode cX10_makeList 6 = .ok (.istore_n 2, 1) := by decide +kernel
theorem dX10_makeList_7 : decode cX10_makeList 7 = .ok (.aload_n 0, 1) := by decide +kernel
theorem dX10_makeList_8 : decode cX10_makeList 8 = .ok (.iconst 0, 1) := by decide +kernel
theorem dX10_makeList_9 : decode cX10_makeList 9 = .ok (.putfield 59, 3) := by decide +kernel
theorem dX10_makeList_12 : decode cX10_makeList 12 = .ok (.aload_n 0, 1) := by decide +kernel
theorem dX10_makeList_13 : decode cX10_makeList 13 = .ok (.iconst 0, 1) := by decide +kernel
theorem dX10_makeList_14 : decode cX10_makeList 14 = .ok (.putfield 103, 3) := by decide +kernel
theorem dX10_makeList_17 : decode cX10_makeList 17 = .ok (.iconst 1, 1) := by decide +kernel
theorem dX10_makeList_18 : decode cX10_makeList 18 = .ok (.istore_n 3, 1) := by decide +kernel
theorem dX10_makeList_19 : decode cX10_makeList 19 = .ok (.iload_n 3, 1) := by decide +kernel
theorem dX10_makeList_20 : decode cX10_makeList 20 = .ok (.ifCond .eq 133, 3) := by decide +kernel
theorem dX10_makeList_23 : decode cX10_makeList 23 = .ok (.aload_n 0, 1) := by decide +kernel
theorem dX10_makeList_24 : decode cX10_makeList 24 = .ok (.invokevirtual 94, 3) := by decide +kernel
theorem dX10_makeList_27 : decode cX10_makeList 27 = .ok (.aload_n 0, 1) := by decide +kernel
theorem dX10_makeList_28 : decode cX10_makeList 28 = .ok (.getfield 84, 3) := by decide +kernel
theorem dX10_makeList_31 : decode cX10_makeList 31 = .ok (.ifCond .ne 7, 3) := by decide +kernel
theorem dX10_makeList_34 : decode cX10_makeList 34 = .ok (.iconst 1, 1) := by decide +kernel
theorem dX10_makeList_35 : decode cX10_makeList 35 = .ok (.goto 4, 3) := by decide +kernel
theorem dX10_makeList_38 : decode cX10_makeList 38 = .ok (.iconst 0, 1) := by decide +kernel
theorem dX10_makeList_39 : decode cX10_makeList 39 = .ok (.istore 4, 2) := by decide +kernel
theorem dX10_makeList_41 : decode cX10_makeList 41 = .ok (.iload 4, 2) := by decide +kernel
theorem dX10_makeList_43 : decode cX10_makeList 43 = .ok (.ifCond .eq 7, 3) := by decide +kernel
theorem dX10_makeList_46 : decode cX10_makeList 46 = .ok (.iload_n 2, 1) := by decide +kernel
theorem dX10_makeList_47 : decode cX10_makeList 47 = .ok (.goto 7, 3) := by decide +kernel
theorem dX10_makeList_50 : decode cX10_makeList 50 = .ok (.aload_n 0, 1) := by decide +kernel
theorem dX10_makeList_51 : decode cX10_makeList 51 = .ok (.getfield 84, 3) := by decide +kernel
theorem dX10_makeList_54 : decode cX10_makeList 54 = .ok (.istore 5, 2) := by decide +kernel
theorem dX10_makeList_56 : decode cX10_makeList 56 = .ok (.iload 4, 2) := by decide +kernel
theorem dX10_makeList_58 : decode cX10_makeList 58 = .ok (.ifCond .eq 11, 3) := by decide +kernel
theorem dX10_makeList_61 : decode cX10_makeList 61 = .ok (.aload_n 0, 1) := by decide +kernel
theorem dX10_makeList_62 : decode cX10_makeList 62 = .ok (.getfield 81, 3) := by decide +kernel
theorem dX10_makeList_65 : decode cX10_makeList 65 = .ok (.iload_n 2, 1) := by decide +kernel
theorem dX10_makeList_66 : decode cX10_makeList 66 = .ok (.if_icmp .gt 7, 3) := by decide +kernel
theorem dX10_makeList_69 : decode cX10_makeList 69 = .ok (.iconst 1, 1) := by decide +kernel
theorem dX10_makeList_70 : decode cX10_makeList 70 = .ok (.goto 4, 3) := by decide +kernel
theorem dX10_makeList_73 : decode cX10_makeList 73 = .ok (.iconst 0, 1) := by decide +kernel
theorem dX10_makeList_74 : decode cX10_makeList 74 = .ok (.istore 6, 2) := by decide +kernel
theorem dX10_makeList_76 : decode cX10_makeList 76 = .ok (.iload 6, 2) := by decide +kernel
theorem dX10_makeList_78 : decode cX10_makeList 78 = .ok (.ifCond .eq 19, 3) := by decide +kernel
theorem dX10_makeList_81 : decode cX10_makeList 81 = .ok (.aload_n 0, 1) := by decide +kernel
theorem dX10_makeList_82 : decode cX10_makeList 82 = .ok (.getfield 75, 3) := by decide +kernel
theorem dX10_makeList_85 : decode cX10_makeList 85 = .ok (.ifCond .eq 12, 3) := by decide +kernel
theorem dX10_makeList_88 : decode cX10_makeList 88 = .ok (.aload_n 0, 1) := by decide +kernel
theorem dX10_makeList_89 : decode cX10_makeList 89 = .ok (.iload 5, 2) := by decide +kernel
theorem dX10_makeList_91 : decode cX10_makeList 91 = .ok (.invokevirtual 109, 3) := by decide +kernel
theorem dX10_makeList_94 : decode cX10_makeList 94 = .ok (.goto 15, 3) := by decide +kernel
theorem dX10_makeList_97 : decode cX10_makeList 97 = .ok (.iload 6, 2) := by decide +kernel
theorem dX10_makeList_99 : decode cX10_makeList 99 = .ok (.ifCond .eq 10, 3) := by decide +kernel
theorem dX10_makeList_102 : decode cX10_makeList 102 = .ok (.aload_n 0, 1) := by decide +kernel
theorem dX10_makeList_103 : decode cX10_makeList 103 = .ok (.iload 5, 2) := by decide +kernel
theorem dX10_makeList_105 : decode cX10_makeList 105 = .ok (.iload_n 2, 1) := by decide +kernel
theorem dX10_makeList_106 : decode cX10_makeList 106 = .ok (.invokevirtual 113, 3) := by decide +kernel
theorem dX10_makeList_109 : decode cX10_makeList 109 = .ok (.aload_n 0, 1) := by decide +kernel
theorem dX10_makeList_110 : decode cX10_makeList 110 = .ok (.getfield 103, 3) := by decide +kernel
theorem dX10_makeList_113 : decode cX10_makeList 113 = .ok (.sipush 400, 3) := by decide +kernel
theorem dX10_makeList_116 : decode cX10_makeList 116 = .ok (.if_icmp .le 5, 3) := by decide +kernel
theorem dX10_makeList_119 : decode cX10_makeList 119 = .ok (.iconst 0, 1) := by decide +kernel
theorem dX10_makeList_120 : decode cX10_makeList 120 = .ok (.ireturn, 1) := by decide +kernel
theorem dX10_makeList_121 : decode cX10_makeList 121 = .ok (.aload_n 0, 1) := by decide +kernel
theorem dX10_makeList_122 : decode cX10_makeList 122 = .ok (.aload_n 0, 1) := by decide +kernel
theorem dX10_makeList_123 : decode cX10_makeList 123 = .ok (.getfield 59, 3) := by decide +kernel
theorem dX10_makeList_126 : decode cX10_makeList 126 = .ok (.invokevirtual 63, 3) := by decide +kernel
theorem dX10_makeList_129 : decode cX10_makeList 129 = .ok (.bipush 44, 2) := by decide +kernel
theorem dX10_makeList_131 : decode cX10_makeList 131 = .ok (.if_icmp .ne 7, 3) := by decide +kernel
theorem dX10_makeList_134 : decode cX10_makeList 134 = .ok (.iconst 1, 1) := by decide +kernel
theorem dX10_makeList_135 : decode cX10_makeList 135 = .ok (.goto 4, 3) := by decide +kernel
theorem dX10_makeList_138 : decode cX10_makeList 138 = .ok (.iconst 0, 1) := by decide +kernel
theorem dX10_makeList_139 : decode cX10_makeList 139 = .ok (.istore_n 3, 1) := by decide +kernel
theorem dX10_makeList_140 : decode cX10_makeList 140 = .ok (.aload_n 0, 1) := by decide +kernel
theorem dX10_makeList_141 : decode cX10_makeList 141 = .ok (.dup, 1) := by decide +kernel
theorem dX10_makeList_142 : decode cX10_makeList 142 = .ok (.getfield 59, 3) := by decide +kernel
theorem dX10_makeList_145 : decode cX10_makeList 145 = .ok (.iconst 1, 1) := by decide +kernel
theorem dX10_makeList_146 : decode cX10_makeList 146 = .ok (.iadd, 1) := by decide +kernel
theorem dX10_makeList_147 : decode cX10_makeList 147 = .ok (.putfield 59, 3) := by decide +kernel
theorem dX10_makeList_150 : decode cX10_makeList 150 = .ok (.goto (-131), 3) := by decide +kernel
theorem dX10_makeList_153 : decode cX10_makeList 153 = .ok (.iconst 1, 1) := by decide +kernel
theorem dX10_makeList_154 : decode cX10_makeList 154 = .ok (.ireturn, 1) := by decide +kernel
def f10_makeList_b139 (c19 : Nat → Int32 → Int32 → GS_ → Option (Int32 × GS_)) (v0 : Nat) (v2 : Int32) (s0 : Int32) (g : GS_) : Option (Int32 × GS_) :=
  lr_ (sfi g 326 v0 ((gfi g 326 v0) + (1 : Int32))) fun g1 => c19 v0 v2 s0 g1
theorem t10_makeList_b139 (c19 : Nat → Int32 → Int32 → GS_ → Option (Int32 × GS_)) (h19 : ∀ (v0 : Nat) (v2 : Int32) (v3 : Int32) (g : GS_), K_ RX10 cX10_makeList 7 (some .boolean) 4 85 false EI_ 19 [some (.inr (10, some v0)), none, some (.inl v2), some (.inl v3), none, none, none] [] g (c19 v0 v2 v3 g)) (v0 : Nat) (v2 : Int32) (s0 : Int32) (g : GS_) : K_ RX10 cX10_makeList 7 (some .boolean) 4 85 false EI_ 139 [some (.inr (10, some v0)), none, some (.inl v2), none, none, none, none] [.inl s0] g (f10_makeList_b139 c19 v0 v2 s0 g) := by
  unfold f10_makeList_b139
  refine k_istn (j := 3) (L' := [some (.inr (10, some v0)), none, some (.inl v2), some (.inl s0), none, none, none]) dX10_makeList_139 rfl (by decide) rfl ?_
  refine k_aloadn (j := 0) dX10_makeList_140 rfl rfl ?_
  refine k_dup dX10_makeList_141 ?_
  refine k_geti fg_10_59 rfl rfl dX10_makeList_142 ?_
  refine k_iconst (v := (1 : Int32)) dX10_makeList_145 rfl ?_
  refine k_iadd dX10_makeList_146 ?_
  refine k_puti fp_10_59 rfl rfl dX10_makeList_147 (fun g1 => ?_)
  refine k_goto (tgt := 19) dX10_makeList_150 (by decide) ?_
  exact h19 v0 v2 s0 g1
def f10_makeList_b109 (c19 : Nat → Int32 → Int32 → GS_ → Option (Int32 × GS_)) (v0 : Nat) (v2 : Int32) (g : GS_) : Option (Int32 × GS_) :=
  if (gfi g 333 v0) ≤ (400 : Int32) then bd_ (f10_signAt v0 (gfi g 326 v0) g) fun z3 g2 => if z3 = (44 : Int32) then f10_makeList_b139 c19 v0 v2 (1 : Int32) g2 else f10_makeList_b139 c19 v0 v2 (0 : Int32) g2 else some ((0 : Int32), g)
theorem t10_makeList_b109 (c19 : Nat → Int32 → Int32 → GS_ → Option (Int32 × GS_)) (h19 : ∀ (v0 : Nat) (v2 : Int32) (v3 : Int32) (g : GS_), K_ RX10 cX10_makeList 7 (some .boolean) 4 85 false EI_ 19 [some (.inr (10, some v0)), none, some (.inl v2), some (.inl v3), none, none, none] [] g (c19 v0 v2 v3 g)) (v0 : Nat) (v2 : Int32) (g : GS_) : K_ RX10 cX10_makeList 7 (some .boolean) 4 85 false EI_ 109 [some (.inr (10, some v0)), none, some (.inl v2), none, none, none, none] [] g (f10_makeList_b109 c19 v0 v2 g) := by
  unfold f10_makeList_b109
  refine k_aloadn (j := 0) dX10_makeList_109 rfl rfl ?_
  refine k_geti fg_10_103 rfl rfl dX10_makeList_110 ?_
  refine k_sipush (v := (400 : Int32)) dX10_makeList_113 rfl ?_
  refine k_icmple (tgt := 121) dX10_makeList_116 (by decide) (fun _ => ?_) (fun _ => ?_)
  · refine k_aloadn (j := 0) dX10_makeList_121 rfl rfl ?_
    refine k_aloadn (j := 0) dX10_makeList_122 rfl rfl ?_
    refine k_geti fg_10_59 rfl rfl dX10_makeList_123 ?_
    refine k_callVi [.inl (gfi g 326 v0)] (t10_signAt v0 (gfi g 326 v0) g) cw_cX10_signAt (Or.inl ml_10_63) rfl rfl (by decide) (by decide) (Nat.le_of_ble_eq_true rfl) dX10_makeList_126 (fun z3 g2 => ?_)
    refine k_bipush (v := (44 : Int32)) dX10_makeList_129 rfl ?_
    refine k_icmpne (tgt := 138) dX10_makeList_131 (by decide) (fun _ => ?_) (fun _ => ?_)
    · refine k_iconst (v := (1 : Int32)) dX10_makeList_134 rfl ?_
      refine k_goto (tgt := 139) dX10_makeList_135 (by decide) ?_
      exact t10_makeList_b139 c19 h19 v0 v2 (1 : Int32) g2
    refine k_iconst (v := (0 : Int32)) dX10_makeList_138 rfl ?_
    exact t10_makeList_b139 c19 h19 v0 v2 (0 : Int32) g2
  refine k_iconst (v := (0 : Int32)) dX10_makeList_119 rfl ?_
  exact k_zreturn rfl (by decide) dX10_makeList_120
def f10_makeList_b97 (c19 : Nat → Int32 → Int32 → GS_ → Option (Int32 × GS_)) (v0 : Nat) (v2 : Int32) (v5 : Int32) (v6 : Int32) (g : GS_) : Option (Int32 × GS_) :=
  if v6 = 0 then f10_makeList_b109 c19 v0 v2 g else bd_ (f10_append v0 v5 v2 g) fun _ g4 => f10_makeList_b109 c19 v0 v2 g4
theorem t10_makeList_b97 (c19 : Nat → Int32 → Int32 → GS_ → Option (Int32 × GS_)) (h19 : ∀ (v0 : Nat) (v2 : Int32) (v3 : Int32) (g : GS_), K_ RX10 cX10_makeList 7 (some .boolean) 4 85 false EI_ 19 [some (.inr (10, some v0)), none, some (.inl v2), some (.inl v3), none, none, none] [] g (c19 v0 v2 v3 g)) (v0 : Nat) (v2 : Int32) (v5 : Int32) (v6 : Int32) (g : GS_) : K_ RX10 cX10_makeList 7 (some .boolean) 4 85 false EI_ 97 [some (.inr (10, some v0)), none, some (.inl v2), none, none, some (.inl v5), some (.inl v6)] [] g (f10_makeList_b97 c19 v0 v2 v5 v6 g) := by
  unfold f10_makeList_b97
  refine k_iload dX10_makeList_97 rfl ?_
  refine k_ifeq (tgt := 109) dX10_makeList_99 (by decide) (fun _ => ?_) (fun _ => ?_)
  · refine k_msk (L' := [some (.inr (10, some v0)), none, some (.inl v2), none, none, none, none]) [true, true, true, true, true, false, false] rfl ?_
    exact t10_makeList_b109 c19 h19 v0 v2 g
  refine k_aloadn (j := 0) dX10_makeList_102 rfl rfl ?_
  refine k_iload dX10_makeList_103 rfl ?_
  refine k_iloadn (j := 2) dX10_makeList_105 rfl rfl ?_
  refine k_callVv [.inl v5, .inl v2] (t10_append v0 v5 v2 g) cw_cX10_append (Or.inl ml_10_113) rfl rfl (by decide) (by decide) (Nat.le_of_ble_eq_true rfl) dX10_makeList_106 (fun _ g4 => ?_)
  refine k_msk (L' := [some (.inr (10, some v0)), none, some (.inl v2), none, none, none, none]) [true, true, true, true, true, false, false] rfl ?_
  exact t10_makeList_b109 c19 h19 v0 v2 g4
def f10_makeList_b74 (c19 : Nat → Int32 → Int32 → GS_ → Option (Int32 × GS_)) (v0 : Nat) (v2 : Int32) (v5 : Int32) (s0 : Int32) (g : GS_) : Option (Int32 × GS_) :=
  if s0 = 0 then f10_makeList_b97 c19 v0 v2 v5 s0 g else if (gfi g 328 v0) = 0 then f10_makeList_b97 c19 v0 v2 v5 s0 g else bd_ (f10_takeOut v0 v5 g) fun _ g5 => f10_makeList_b109 c19 v0 v2 g5
theorem t10_makeList_b74 (c19 : Nat → Int32 → Int32 → GS_ → Option (Int32 × GS_)) (h19 : ∀ (v0 : Nat) (v2 : Int32) (v3 : Int32) (g : GS_), K_ RX10 cX10_makeList 7 (some .boolean) 4 85 false EI_ 19 [some (.inr (10, some v0)), none, some (.inl v2), some (.inl v3), none, none, none] [] g (c19 v0 v2 v3 g)) (v0 : Nat) (v2 : Int32) (v5 : Int32) (s0 : Int32) (g : GS_) : K_ RX10 cX10_makeList 7 (some .boolean) 4 85 false EI_ 74 [some (.inr (10, some v0)), none, some (.inl v2), none, none, some (.inl v5), none] [.inl s0] g (f10_makeList_b74 c19 v0 v2 v5 s0 g) := by
  unfold f10_makeList_b74
  refine k_ist (L' := [some (.inr (10, some v0)), none, some (.inl v2), none, none, some (.inl v5), some (.inl s0)]) dX10_makeList_74 (by decide) rfl ?_
  refine k_iload dX10_makeList_76 rfl ?_
  refine k_ifeq (tgt := 97) dX10_makeList_78 (by decide) (fun _ => ?_) (fun _ => ?_)
  · exact t10_makeList_b97 c19 h19 v0 v2 v5 s0 g
  refine k_aloadn (j := 0) dX10_makeList_81 rfl rfl ?_
  refine k_geti fg_10_75 rfl rfl dX10_makeList_82 ?_
  refine k_ifeq (tgt := 97) dX10_makeList_85 (by decide) (fun _ => ?_) (fun _ => ?_)
  · exact t10_makeList_b97 c19 h19 v0 v2 v5 s0 g
  refine k_aloadn (j := 0) dX10_makeList_88 rfl rfl ?_
  refine k_iload dX10_makeList_89 rfl ?_
  refine k_callVv [.inl v5] (t10_takeOut v0 v5 g) cw_cX10_takeOut (Or.inl ml_10_109) rfl rfl (by decide) (by decide) (Nat.le_of_ble_eq_true rfl) dX10_makeList_91 (fun _ g5 => ?_)
  refine k_goto (tgt := 109) dX10_makeList_94 (by decide) ?_
  refine k_msk (L' := [some (.inr (10, some v0)), none, some (.inl v2), none, none, none, none]) [true, true, true, true, true, false, false] rfl ?_
  exact t10_makeList_b109 c19 h19 v0 v2 g5
def f10_makeList_b69 (c19 : Nat → Int32 → Int32 → GS_ → Option (Int32 × GS_)) (v0 : Nat) (v2 : Int32) (v5 : Int32) (g : GS_) : Option (Int32 × GS_) :=
  f10_makeList_b74 c19 v0 v2 v5 (1 : Int32) g
theorem t10_makeList_b69 (c19 : Nat → Int32 → Int32 → GS_ → Option (Int32 × GS_)) (h19 : ∀ (v0 : Nat) (v2 : Int32) (v3 : Int32) (g : GS_), K_ RX10 cX10_makeList 7 (some .boolean) 4 85 false EI_ 19 [some (.inr (10, some v0)), none, some (.inl v2), some (.inl v3), none, none, none] [] g (c19 v0 v2 v3 g)) (v0 : Nat) (v2 : Int32) (v5 : Int32) (g : GS_) : K_ RX10 cX10_makeList 7 (some .boolean) 4 85 false EI_ 69 [some (.inr (10, some v0)), none, some (.inl v2), none, none, some (.inl v5), none] [] g (f10_makeList_b69 c19 v0 v2 v5 g) := by
  unfold f10_makeList_b69
  refine k_iconst (v := (1 : Int32)) dX10_makeList_69 rfl ?_
  refine k_goto (tgt := 74) dX10_makeList_70 (by decide) ?_
  exact t10_makeList_b74 c19 h19 v0 v2 v5 (1 : Int32) g
def f10_makeList_b54 (c19 : Nat → Int32 → Int32 → GS_ → Option (Int32 × GS_)) (v0 : Nat) (v2 : Int32) (v4 : Int32) (s0 : Int32) (g : GS_) : Option (Int32 × GS_) :=
  if v4 = 0 then f10_makeList_b69 c19 v0 v2 s0 g else if v2 < (gfi g 329 v0) then f10_makeList_b74 c19 v0 v2 s0 (0 : Int32) g else f10_makeList_b69 c19 v0 v2 s0 g
theorem t10_makeList_b54 (c19 : Nat → Int32 → Int32 → GS_ → Option (Int32 × GS_)) (h19 : ∀ (v0 : Nat) (v2 : Int32) (v3 : Int32) (g : GS_), K_ RX10 cX10_makeList 7 (some .boolean) 4 85 false EI_ 19 [some (.inr (10, some v0)), none, some (.inl v2), some (.inl v3), none, none, none] [] g (c19 v0 v2 v3 g)) (v0 : Nat) (v2 : Int32) (v4 : Int32) (s0 : Int32) (g : GS_) : K_ RX10 cX10_makeList 7 (some .boolean) 4 85 false EI_ 54 [some (.inr (10, some v0)), none, some (.inl v2), none, some (.inl v4), none, none] [.inl s0] g (f10_makeList_b54 c19 v0 v2 v4 s0 g) := by
  unfold f10_makeList_b54
  refine k_ist (L' := [some (.inr (10, some v0)), none, some (.inl v2), none, some (.inl v4), some (.inl s0), none]) dX10_makeList_54 (by decide) rfl ?_
  refine k_iload dX10_makeList_56 rfl ?_
  refine k_ifeq (tgt := 69) dX10_makeList_58 (by decide) (fun _ => ?_) (fun _ => ?_)
  · refine k_msk (L' := [some (.inr (10, some v0)), none, some (.inl v2), none, none, some (.inl s0), none]) [true, true, true, true, false, true, true] rfl ?_
    exact t10_makeList_b69 c19 h19 v0 v2 s0 g
  refine k_aloadn (j := 0) dX10_makeList_61 rfl rfl ?_
  refine k_geti fg_10_81 rfl rfl dX10_makeList_62 ?_
  refine k_iloadn (j := 2) dX10_makeList_65 rfl rfl ?_
  refine k_icmpgt (tgt := 73) dX10_makeList_66 (by decide) (fun _ => ?_) (fun _ => ?_)
  · refine k_iconst (v := (0 : Int32)) dX10_makeList_73 rfl ?_
    refine k_msk (L' := [some (.inr (10, some v0)), none, some (.inl v2), none, none, some (.inl s0), none]) [true, true, true, true, false, true, true] rfl ?_
    exact t10_makeList_b74 c19 h19 v0 v2 s0 (0 : Int32) g
  refine k_msk (L' := [some (.inr (10, some v0)), none, some (.inl v2), none, none, some (.inl s0), none]) [true, true, true, true, false, true, true] rfl ?_
  exact t10_makeList_b69 c19 h19 v0 v2 s0 g
def f10_makeList_b39 (c19 : Nat → Int32 → Int32 → GS_ → Option (Int32 × GS_)) (v0 : Nat) (v2 : Int32) (s0 : Int32) (g : GS_) : Option (Int32 × GS_) :=
  if s0 = 0 then f10_makeList_b54 c19 v0 v2 s0 (gfi g 330 v0) g else f10_makeList_b54 c19 v0 v2 s0 v2 g
theorem t10_makeList_b39 (c19 : Nat → Int32 → Int32 → GS_ → Option (Int32 × GS_)) (h19 : ∀ (v0 : Nat) (v2 : Int32) (v3 : Int32) (g : GS_), K_ RX10 cX10_makeList 7 (some .boolean) 4 85 false EI_ 19 [some (.inr (10, some v0)), none, some (.inl v2), some (.inl v3), none, none, none] [] g (c19 v0 v2 v3 g)) (v0 : Nat) (v2 : Int32) (s0 : Int32) (g : GS_) : K_ RX10 cX10_makeList 7 (some .boolean) 4 85 false EI_ 39 [some (.inr (10, some v0)), none, some (.inl v2), none, none, none, none] [.inl s0] g (f10_makeList_b39 c19 v0 v2 s0 g) := by
  unfold f10_makeList_b39
  refine k_ist (L' := [some (.inr (10, some v0)), none, some (.inl v2), none, some (.inl s0), none, none]) dX10_makeList_39 (by decide) rfl ?_
  refine k_iload dX10_makeList_41 rfl ?_
  refine k_ifeq (tgt := 50) dX10_makeList_43 (by decide) (fun _ => ?_) (fun _ => ?_)
  · refine k_aloadn (j := 0) dX10_makeList_50 rfl rfl ?_
    refine k_geti fg_10_84 rfl rfl dX10_makeList_51 ?_
    exact t10_makeList_b54 c19 h19 v0 v2 s0 (gfi g 330 v0) g
  refine k_iloadn (j := 2) dX10_makeList_46 rfl rfl ?_
  refine k_goto (tgt := 54) dX10_makeList_47 (by decide) ?_
  exact t10_makeList_b54 c19 h19 v0 v2 s0 v2 g
def f10_makeList_b19 : Nat → Nat → Int32 → Int32 → GS_ → Option (Int32 × GS_)
  | 0, _, _, _, _ => none
  | n + 1, v0, v2, v3, g =>
    if v3 = 0 then some ((1 : Int32), g) else bd_ (f10_readItem v0 g) fun _ g6 => if (gfi g6 330 v0) = 0 then f10_makeList_b39 (f10_makeList_b19 n) v0 v2 (1 : Int32) g6 else f10_makeList_b39 (f10_makeList_b19 n) v0 v2 (0 : Int32) g6
theorem t10_makeList_b19 : ∀ (n : Nat) (v0 : Nat) (v2 : Int32) (v3 : Int32) (g : GS_), K_ RX10 cX10_makeList 7 (some .boolean) 4 85 false EI_ 19 [some (.inr (10, some v0)), none, some (.inl v2), some (.inl v3), none, none, none] [] g (f10_makeList_b19 n v0 v2 v3 g) := by
  intro n
  induction n with
  | zero =>
    intro v0 v2 v3 g
    exact k_fail
  | succ n ih =>
    intro v0 v2 v3 g
    show K_ RX10 cX10_makeList 7 (some .boolean) 4 85 false EI_ 19 [some (.inr (10, some v0)), none, some (.inl v2), some (.inl v3), none, none, none] [] g (if v3 = 0 then some ((1 : Int32), g) else bd_ (f10_readItem v0 g) fun _ g6 => if (gfi g6 330 v0) = 0 then f10_makeList_b39 (f10_makeList_b19 n) v0 v2 (1 : Int32) g6 else f10_makeList_b39 (f10_makeList_b19 n) v0 v2 (0 : Int32) g6)
    refine k_iloadn (j := 3) dX10_makeList_19 rfl rfl ?_
    refine k_ifeq (tgt := 153) dX10_makeList_20 (by decide) (fun _ => ?_) (fun _ => ?_)
    · refine k_iconst (v := (1 : Int32)) dX10_makeList_153 rfl ?_
      exact k_zreturn rfl (by decide) dX10_makeList_154
    refine k_aloadn (j := 0) dX10_makeList_23 rfl rfl ?_
    refine k_callVv [] (t10_readItem v0 g) cw_cX10_readItem (Or.inl ml_10_94) rfl rfl (by decide) (by decide) (Nat.le_of_ble_eq_true rfl) dX10_makeList_24 (fun _ g6 => ?_)
    refine k_aloadn (j := 0) dX10_makeList_27 rfl rfl ?_
    refine k_geti fg_10_84 rfl rfl dX10_makeList_28 ?_
    refine k_ifne (tgt := 38) dX10_makeList_31 (by decide) (fun _ => ?_) (fun _ => ?_)
    · refine k_iconst (v := (1 : Int32)) dX10_makeList_34 rfl ?_
      refine k_goto (tgt := 39) dX10_makeList_35 (by decide) ?_
      refine k_msk (L' := [some (.inr (10, some v0)), none, some (.inl v2), none, none, none, none]) [true, true, true, false, true, true, true] rfl ?_
      exact t10_makeList_b39 (f10_makeList_b19 n) ih v0 v2 (1 : Int32) g6
    refine k_iconst (v := (0 : Int32)) dX10_makeList_38 rfl ?_
    refine k_msk (L' := [some (.inr (10, some v0)), none, some (.inl v2), none, none, none, none]) [true, true, true, false, true, true, true] rfl ?_
    exact t10_makeList_b39 (f10_makeList_b19 n) ih v0 v2 (0 : Int32) g6
def f10_makeList (v0 : Nat) (v1 : Int32) (g : GS_) : Option (Int32 × GS_) :=
  bd_ (f10_ofDocument v0 v1 (0 : Int32) g) fun z8 g7 => lr_ (sfi g7 326 v0 (0 : Int32)) fun g9 => lr_ (sfi g9 333 v0 (0 : Int32)) fun g10 => f10_makeList_b19 FU_ v0 z8 (1 : Int32) g10
theorem t10_makeList (v0 : Nat) (v1 : Int32) (g : GS_) : Cn_ yX10_makeList cX10_makeList 7 (some .boolean) 4 85 EI_ [.inr (10, some v0), .inl v1] g (f10_makeList v0 v1 g) := by
  refine k_method (own := RX10) (ini := false) (L1 := [some (.inr (10, some v0)), some (.inl v1), none, none, none, none, none]) (by decide +kernel) rfl (fun h => by cases h) (Nat.le_of_ble_eq_true rfl) rfl ?_
  unfold f10_makeList
  refine k_aloadn (j := 0) dX10_makeList_0 rfl rfl ?_
  refine k_iloadn (j := 1) dX10_makeList_1 rfl rfl ?_
  refine k_iconst (v := (0 : Int32)) dX10_makeList_2 rfl ?_
  refine k_callVi [.inl v1, .inl (0 : Int32)] (t10_ofDocument v0 v1 (0 : Int32) g) cw_cX10_ofDocument (Or.inl ml_10_48) rfl rfl (by decide) (by decide) (Nat.le_of_ble_eq_true rfl) dX10_makeList_3 (fun z8 g7 => ?_)
  refine k_istn (j := 2) (L' := [some (.inr (10, some v0)), some (.inl v1), some (.inl z8), none, none, none, none]) dX10_makeList_6 rfl (by decide) rfl ?_
  refine k_aloadn (j := 0) dX10_makeList_7 rfl rfl ?_
  refine k_iconst (v := (0 : Int32)) dX10_makeList_8 rfl ?_
  refine k_puti fp_10_59 rfl rfl dX10_makeList_9 (fun g9 => ?_)
  refine k_aloadn (j := 0) dX10_makeList_12 rfl rfl ?_
  refine k_iconst (v := (0 : Int32)) dX10_makeList_13 rfl ?_
  refine k_puti fp_10_103 rfl rfl dX10_makeList_14 (fun g10 => ?_)
  refine k_iconst (v := (1 : Int32)) dX10_makeList_17 rfl ?_
  refine k_istn (j := 3) (L' := [some (.inr (10, some v0)), some (.inl v1), some (.inl z8), some (.inl (1 : Int32)), none, none, none]) dX10_makeList_18 rfl (by decide) rfl ?_
  refine k_msk (L' := [some (.inr (10, some v0)), none, some (.inl z8), some (.inl (1 : Int32)), none, none, none]) [true, false, true, true, true, true, true] rfl ?_
  exact t10_makeList_b19 FU_ v0 z8 (1 : Int32) g10
theorem dX10_listed_0 : decode cX10_listed 0 = .ok (.aload_n 0, 1) := by decide +kernel
theorem dX10_listed_1 : decode cX10_listed 1 = .ok (.iload_n 1, 1) := by decide +kernel
theorem dX10_listed_2 : decode cX10_listed 2 = .ok (.invokevirtual 52, 3) := by decide +kernel
theorem dX10_listed_5 : decode cX10_listed 5 = .ok (.ifCond .ne 5, 3) := by decide +kernel
theorem dX10_listed_8 : decode cX10_listed 8 = .ok (.iconst (-1), 1) := by decide +kernel
theorem dX10_listed_9 : decode cX10_listed 9 = .ok (.ireturn, 1) := by decide +kernel
theorem dX10_listed_10 : decode cX10_listed 10 = .ok (.aload_n 0, 1) := by decide +kernel
theorem dX10_listed_11 : decode cX10_listed 11 = .ok (.invokevirtual 97, 3) := by decide +kernel
theorem dX10_listed_14 : decode cX10_listed 14 = .ok (.bipush (-6), 2) := by decide +kernel
theorem dX10_listed_16 : decode cX10_listed 16 = .ok (.if_icmp .eq 6, 3) := by decide +kernel
theorem dX10_listed_19 : decode cX10_listed 19 = .ok (.bipush (-3), 2) := by decide +kernel
theorem dX10_listed_21 : decode cX10_listed 21 = .ok (.ireturn, 1) := by decide +kernel
theorem dX10_listed_22 : decode cX10_listed 22 = .ok (.aload_n 0, 1) := by decide +kernel
theorem dX10_listed_23 : decode cX10_listed 23 = .ok (.iload_n 1, 1) := by decide +kernel
theorem dX10_listed_24 : decode cX10_listed 24 = .ok (.invokevirtual 117, 3) := by decide +kernel
theorem dX10_listed_27 : decode cX10_listed 27 = .ok (.ifCond .ne 6, 3) := by decide +kernel
theorem dX10_listed_30 : decode cX10_listed 30 = .ok (.bipush (-4), 2) := by decide +kernel
theorem dX10_listed_32 : decode cX10_listed 32 = .ok (.ireturn, 1) := by decide +kernel
theorem dX10_listed_33 : decode cX10_listed 33 = .ok (.iload_n 2, 1) := by decide +kernel
theorem dX10_listed_34 : decode cX10_listed 34 = .ok (.iconst (-1), 1) := by decide +kernel
theorem dX10_listed_35 : decode cX10_listed 35 = .ok (.if_icmp .ne 10, 3) := by decide +kernel
theorem dX10_listed_38 : decode cX10_listed 38 = .ok (.aload_n 0, 1) := by decide +kernel
theorem dX10_listed_39 : decode cX10_listed 39 = .ok (.getfield 103, 3) := by decide +kernel
theorem dX10_listed_42 : decode cX10_listed 42 = .ok (.goto 28, 3) := by decide +kernel
theorem dX10_listed_45 : decode cX10_listed 45 = .ok (.iload_n 2, 1) := by decide +kernel
theorem dX10_listed_46 : decode cX10_listed 46 = .ok (.iconst 0, 1) := by decide +kernel
theorem dX10_listed_47 : decode cX10_listed 47 = .ok (.aload_n 0, 1) := by decide +kernel
theorem dX10_listed_48 : decode cX10_listed 48 = .ok (.getfield 103, 3) := by decide +kernel
theorem dX10_listed_51 : decode cX10_listed 51 = .ok (.iconst 1, 1) := by decide +kernel
theorem dX10_listed_52 : decode cX10_listed 52 = .ok (.isub, 1) := by decide +kernel
theorem dX10_listed_53 : decode cX10_listed 53 = .ok (.invokestatic 44, 3) := by decide +kernel
theorem dX10_listed_56 : decode cX10_listed 56 = .ok (.ifCond .eq 12, 3) := by decide +kernel
theorem dX10_listed_59 : decode cX10_listed 59 = .ok (.aload_n 0, 1) := by decide +kernel
theorem dX10_listed_60 : decode cX10_listed 60 = .ok (.getfield 29, 3) := by decide +kernel
theorem dX10_listed_63 : decode cX10_listed 63 = .ok (.iload_n 2, 1) := by decide +kernel
theorem dX10_listed_64 : decode cX10_listed 64 = .ok (.iaload, 1) := by decide +kernel
theorem dX10_listed_65 : decode cX10_listed 65 = .ok (.goto 5, 3) := by decide +kernel
theorem dX10_listed_68 : decode cX10_listed 68 = .ok (.bipush (-6), 2) := by decide +kernel
theorem dX10_listed_70 : decode cX10_listed 70 = .ok (.ireturn, 1) := by decide +kernel
def f10_listed (v0 : Nat) (v1 : Int32) (v2 : Int32) (g : GS_) : Option (Int32 × GS_) :=
  bd_ (f10_isDocument v0 v1 g) fun z2 g1 => if z2 = 0 then some ((-1 : Int32), g1) else bd_ (f10_faultOf v0 g1) fun z4 g3 => if z4 = (-6 : Int32) then bd_ (f10_makeList v0 v1 g3) fun z6 g5 => if z6 = 0 then some ((-4 : Int32), g5) else if v2 = (-1 : Int32) then some ((gfi g5 333 v0), g5) else bd_ (f10_in v2 (0 : Int32) ((gfi g5 333 v0) - (1 : Int32)) g5) fun z8 g7 => if z8 = 0 then some ((-6 : Int32), g7) else lr_ (gfr g7 332 v0) fun x9 => oc_ x9 none fun a10 => if inb v2 (gln g7 20 a10) then some ((gai g7 20 a10 v2.toInt.toNat), g7) else none else some ((-3 : Int32), g3)
theorem t10_listed (v0 : Nat) (v1 : Int32) (v2 : Int32) (g : GS_) : Cn_ yX10_listed cX10_listed 3 (some .int) 5 111 EI_ [.inr (10, some v0), .inl v1, .inl v2] g (f10_listed v0 v1 v2 g) := by
  refine k_method (own := RX10) (ini := false) (L1 := [some (.inr (10, some v0)), some (.inl v1), some (.inl v2)]) (by decide +kernel) rfl (fun h => by cases h) (Nat.le_of_ble_eq_true rfl) rfl ?_
  unfold f10_listed
  refine k_aloadn (j := 0) dX10_listed_0 rfl rfl ?_
  refine k_iloadn (j := 1) dX10_listed_1 rfl rfl ?_
  refine k_callVi [.inl v1] (t10_isDocument v0 v1 g) cw_cX10_isDocument (Or.inl ml_10_52) rfl rfl (by decide) (by decide) (Nat.le_of_ble_eq_true rfl) dX10_listed_2 (fun z2 g1 => ?_)
  refine k_ifne (tgt := 10) dX10_listed_5 (by decide) (fun _ => ?_) (fun _ => ?_)
  · refine k_iconst (v := (-1 : Int32)) dX10_listed_8 rfl ?_
    exact k_ireturn rfl dX10_listed_9
  refine k_aloadn (j := 0) dX10_listed_10 rfl rfl ?_
  refine k_callVi [] (t10_faultOf v0 g1) cw_cX10_faultOf (Or.inl ml_10_97) rfl rfl (by decide) (by decide) (Nat.le_of_ble_eq_true rfl) dX10_listed_11 (fun z4 g3 => ?_)
  refine k_bipush (v := (-6 : Int32)) dX10_listed_14 rfl ?_
  refine k_icmpeq (tgt := 22) dX10_listed_16 (by decide) (fun _ => ?_) (fun _ => ?_)
  · refine k_aloadn (j := 0) dX10_listed_22 rfl rfl ?_
    refine k_iloadn (j := 1) dX10_listed_23 rfl rfl ?_
    refine k_callVi [.inl v1] (t10_makeList v0 v1 g3) cw_cX10_makeList (Or.inl ml_10_117) rfl rfl (by decide) (by decide) (Nat.le_of_ble_eq_true rfl) dX10_listed_24 (fun z6 g5 => ?_)
    refine k_ifne (tgt := 33) dX10_listed_27 (by decide) (fun _ => ?_) (fun _ => ?_)
    · refine k_bipush (v := (-4 : Int32)) dX10_listed_30 rfl ?_
      exact k_ireturn rfl dX10_listed_32
    refine k_iloadn (j := 2) dX10_listed_33 rfl rfl ?_
    refine k_iconst (v := (-1 : Int32)) dX10_listed_34 rfl ?_
    refine k_icmpne (tgt := 45) dX10_listed_35 (by decide) (fun _ => ?_) (fun _ => ?_)
    · refine k_aloadn (j := 0) dX10_listed_38 rfl rfl ?_
      refine k_geti fg_10_103 rfl rfl dX10_listed_39 ?_
      refine k_goto (tgt := 70) dX10_listed_42 (by decide) ?_
      exact k_ireturn rfl dX10_listed_70
    refine k_iloadn (j := 2) dX10_listed_45 rfl rfl ?_
    refine k_iconst (v := (0 : Int32)) dX10_listed_46 rfl ?_
    refine k_aloadn (j := 0) dX10_listed_47 rfl rfl ?_
    refine k_geti fg_10_103 rfl rfl dX10_listed_48 ?_
    refine k_iconst (v := (1 : Int32)) dX10_listed_51 rfl ?_
    refine k_isub dX10_listed_52 ?_
    refine k_callSi [.inl v2, .inl (0 : Int32), .inl ((gfi g5 333 v0) - (1 : Int32))] (t10_in v2 (0 : Int32) ((gfi g5 333 v0) - (1 : Int32)) g5) cw_cX10_in ml_10_44 rfl rfl (by decide) (by decide) (Nat.le_of_ble_eq_true rfl) dX10_listed_53 (fun z8 g7 => ?_)
    refine k_ifeq (tgt := 68) dX10_listed_56 (by decide) (fun _ => ?_) (fun _ => ?_)
    · refine k_bipush (v := (-6 : Int32)) dX10_listed_68 rfl ?_
      exact k_ireturn rfl dX10_listed_70
    refine k_aloadn (j := 0) dX10_listed_59 rfl rfl ?_
    refine k_getr fg_10_29 rfl rfl dX10_listed_60 (fun x9 => ?_)
    refine k_iloadn (j := 2) dX10_listed_63 rfl rfl ?_
    rcases x9 with _ | a10
    · exact k_ocn
    refine k_ocs ?_
    refine k_iald dX10_listed_64 ?_
    refine k_goto (tgt := 70) dX10_listed_65 (by decide) ?_
    exact k_ireturn rfl dX10_listed_70
  refine k_bipush (v := (-3 : Int32)) dX10_listed_19 rfl ?_
  exact k_ireturn rfl dX10_listed_21
theorem dX10_isUser_0 : decode cX10_isUser 0 = .ok (.iload_n 0, 1) := by decide +kernel
theorem dX10_isUser_1 : decode cX10_isUser 1 = .ok (.iconst 0, 1) := by decide +kernel
theorem dX10_isUser_2 : decode cX10_isUser 2 = .ok (.iconst 5, 1) := by decide +kernel
theorem dX10_isUser_3 : decode cX10_isUser 3 = .ok (.invokestatic 44, 3) := by decide +kernel
theorem dX10_isUser_6 : decode cX10_isUser 6 = .ok (.ireturn, 1) := by decide +kernel
def f10_isUser (v0 : Int32) (g : GS_) : Option (Int32 × GS_) :=
  bd_ (f10_in v0 (0 : Int32) (5 : Int32) g) fun z2 g1 => if z2 = 0 ∨ z2 = 1 then some (z2, g1) else none
theorem t10_isUser (v0 : Int32) (g : GS_) : Cn_ yX10_isUser cX10_isUser 1 (some .boolean) 1 22 EI_ [.inl v0] g (f10_isUser v0 g) := by
  refine k_method (own := RX10) (ini := false) (L1 := [some (.inl v0)]) (by decide +kernel) rfl (fun h => by cases h) (Nat.le_of_ble_eq_true rfl) rfl ?_
  unfold f10_isUser
  refine k_iloadn (j := 0) dX10_isUser_0 rfl rfl ?_
  refine k_iconst (v := (0 : Int32)) dX10_isUser_1 rfl ?_
  refine k_iconst (v := (5 : Int32)) dX10_isUser_2 rfl ?_
  refine k_callSi [.inl v0, .inl (0 : Int32), .inl (5 : Int32)] (t10_in v0 (0 : Int32) (5 : Int32) g) cw_cX10_in ml_10_44 rfl rfl (by decide) (by decide) (Nat.le_of_ble_eq_true rfl) dX10_isUser_3 (fun z2 g1 => ?_)
  exact k_zreturnc rfl dX10_isUser_6
theorem dX10_isValue_0 : decode cX10_isValue 0 = .ok (.iload_n 0, 1) := by decide +kernel
theorem dX10_isValue_1 : decode cX10_isValue 1 = .ok (.tableswitch 90 0 4 #[35, 43, 50, 57, 82], 35) := by decide +kernel
theorem dX10_isValue_36 : decode cX10_isValue 36 = .ok (.iload_n 1, 1) := by decide +kernel
theorem dX10_isValue_37 : decode cX10_isValue 37 = .ok (.iconst 1, 1) := by decide +kernel
theorem dX10_isValue_38 : decode cX10_isValue 38 = .ok (.bipush 10, 2) := by decide +kernel
theorem dX10_isValue_40 : decode cX10_isValue 40 = .ok (.invokestatic 44, 3) := by decide +kernel
theorem dX10_isValue_43 : decode cX10_isValue 43 = .ok (.ireturn, 1) := by decide +kernel
theorem dX10_isValue_44 : decode cX10_isValue 44 = .ok (.iload_n 1, 1) := by decide +kernel
theorem dX10_isValue_45 : decode cX10_isValue 45 = .ok (.iconst 0, 1) := by decide +kernel
theorem dX10_isValue_46 : decode cX10_isValue 46 = .ok (.iconst 1, 1) := by decide +kernel
theorem dX10_isValue_47 : decode cX10_isValue 47 = .ok (.invokestatic 44, 3) := by decide +kernel
theorem dX10_isValue_50 : decode cX10_isValue 50 = .ok (.ireturn, 1) := by decide +kernel
theorem dX10_isValue_51 : decode cX10_isValue 51 = .ok (.iload_n 1, 1) := by decide +kernel
theorem dX10_isValue_52 : decode cX10_isValue 52 = .ok (.iconst 0, 1) := by decide +kernel
theorem dX10_isValue_53 : decode cX10_isValue 53 = .ok (.iconst 2, 1) := by decide +kernel
theorem dX10_isValue_54 : decode cX10_isValue 54 = .ok (.invokestatic 44, 3) := by decide +kernel
theorem dX10_isValue_57 : decode cX10_isValue 57 = .ok (.ireturn, 1) := by decide +kernel
theorem dX10_isValue_58 : decode cX10_isValue 58 = .ok (.iload_n 1, 1) := by decide +kernel
theorem dX10_isValue_59 : decode cX10_isValue 59 = .ok (.ifCond .eq 18, 3) := by decide +kernel
theorem dX10_isValue_62 : decode cX10_isValue 62 = .ok (.iload_n 1, 1) := by decide +kernel
theorem dX10_isValue_63 : decode cX10_isValue 63 = .ok (.iconst 1, 1) := by decide +kernel
theorem dX10_isValue_64 : decode cX10_isValue 64 = .ok (.if_icmp .eq 13, 3) := by decide +kernel
theorem dX10_isValue_67 : decode cX10_isValue 67 = .ok (.iload_n 1, 1) := by decide +kernel
theorem dX10_isValue_68 : decode cX10_isValue 68 = .ok (.iconst 2, 1) := by decide +kernel
theorem dX10_isValue_69 : decode cX10_isValue 69 = .ok (.if_icmp .eq 8, 3) := by decide +kernel
theorem dX10_isValue_72 : decode cX10_isValue 72 = .ok (.iload_n 1, 1) := by decide +kernel
theorem dX10_isValue_73 : decode cX10_isValue 73 = .ok (.iconst 4, 1) := by decide +kernel
theorem dX10_isValue_74 : decode cX10_isValue 74 = .ok (.if_icmp .ne 7, 3) := by decide +kernel
theorem dX10_isValue_77 : decode cX10_isValue 77 = .ok (.iconst 1, 1) := by decide +kernel
theorem dX10_isValue_78 : decode cX10_isValue 78 = .ok (.goto 4, 3) := by decide +kernel
theorem dX10_isValue_81 : decode cX10_isValue 81 = .ok (.iconst 0, 1) := by decide +kernel
theorem dX10_isValue_82 : decode cX10_isValue 82 = .ok (.ireturn, 1) := by decide +kernel
theorem dX10_isValue_83 : decode cX10_isValue 83 = .ok (.iload_n 1, 1) := by decide +kernel
theorem dX10_isValue_84 : decode cX10_isValue 84 = .ok (.iconst 0, 1) := by decide +kernel
theorem dX10_isValue_85 : decode cX10_isValue 85 = .ok (.bipush 9, 2) := by decide +kernel
theorem dX10_isValue_87 : decode cX10_isValue 87 = .ok (.invokestatic 44, 3) := by decide +kernel
theorem dX10_isValue_90 : decode cX10_isValue 90 = .ok (.ireturn, 1) := by decide +kernel
theorem dX10_isValue_91 : decode cX10_isValue 91 = .ok (.iload_n 0, 1) := by decide +kernel
theorem dX10_isValue_92 : decode cX10_isValue 92 = .ok (.iconst 5, 1) := by decide +kernel
theorem dX10_isValue_93 : decode cX10_isValue 93 = .ok (.if_icmp .ne 14, 3) := by decide +kernel
theorem dX10_isValue_96 : decode cX10_isValue 96 = .ok (.iload_n 1, 1) := by decide +kernel
theorem dX10_isValue_97 : decode cX10_isValue 97 = .ok (.invokestatic 120, 3) := by decide +kernel
theorem dX10_isValue_100 : decode cX10_isValue 100 = .ok (.ifCond .eq 7, 3) := by decide +kernel
theorem dX10_isValue_103 : decode cX10_isValue 103 = .ok (.iconst 1, 1) := by decide +kernel
theorem dX10_isValue_104 : decode cX10_isValue 104 = .ok (.goto 4, 3) := by decide +kernel
theorem dX10_isValue_107 : decode cX10_isValue 107 = .ok (.iconst 0, 1) := by decide +kernel
theorem dX10_isValue_108 : decode cX10_isValue 108 = .ok (.ireturn, 1) := by decide +kernel
def f10_isValue_b77 (g : GS_) : Option (Int32 × GS_) :=
  some ((1 : Int32), g)
theorem t10_isValue_b77 (g : GS_) : K_ RX10 cX10_isValue 2 (some .boolean) 2 42 false EI_ 77 [none, none] [] g (f10_isValue_b77 g) := by
  unfold f10_isValue_b77
  refine k_iconst (v := (1 : Int32)) dX10_isValue_77 rfl ?_
  refine k_goto (tgt := 82) dX10_isValue_78 (by decide) ?_
  exact k_zreturn rfl (by decide) dX10_isValue_82
def f10_isValue_b107 (g : GS_) : Option (Int32 × GS_) :=
  some ((0 : Int32), g)
theorem t10_isValue_b107 (g : GS_) : K_ RX10 cX10_isValue 2 (some .boolean) 2 42 false EI_ 107 [none, none] [] g (f10_isValue_b107 g) := by
  unfold f10_isValue_b107
  refine k_iconst (v := (0 : Int32)) dX10_isValue_107 rfl ?_
  exact k_zreturn rfl (by decide) dX10_isValue_108
def f10_isValue (v0 : Int32) (v1 : Int32) (g : GS_) : Option (Int32 × GS_) :=
  if v0 = (0 : Int32) then bd_ (f10_in v1 (1 : Int32) (10 : Int32) g) fun z2 g1 => if z2 = 0 ∨ z2 = 1 then some (z2, g1) else none else if v0 = (1 : Int32) then bd_ (f10_in v1 (0 : Int32) (1 : Int32) g) fun z4 g3 => if z4 = 0 ∨ z4 = 1 then some (z4, g3) else none else if v0 = (2 : Int32) then bd_ (f10_in v1 (0 : Int32) (2 : Int32) g) fun z6 g5 => if z6 = 0 ∨ z6 = 1 then some (z6, g5) else none else if v0 = (3 : Int32) then if v1 = 0 then f10_isValue_b77 g else if v1 = (1 : Int32) then f10_isValue_b77 g else if v1 = (2 : Int32) then f10_isValue_b77 g else if v1 = (4 : Int32) then f10_isValue_b77 g else some ((0 : Int32), g) else if v0 = (4 : Int32) then bd_ (f10_in v1 (0 : Int32) (9 : Int32) g) fun z8 g7 => if z8 = 0 ∨ z8 = 1 then some (z8, g7) else none else if v0 = (5 : Int32) then bd_ (f10_isUser v1 g) fun z10 g9 => if z10 = 0 then f10_isValue_b107 g9 else some ((1 : Int32), g9) else f10_isValue_b107 g
theorem t10_isValue (v0 : Int32) (v1 : Int32) (g : GS_) : Cn_ yX10_isValue cX10_isValue 2 (some .boolean) 2 42 EI_ [.inl v0, .inl v1] g (f10_isValue v0 v1 g) := by
  refine k_method (own := RX10) (ini := false) (L1 := [some (.inl v0), some (.inl v1)]) (by decide +kernel) rfl (fun h => by cases h) (Nat.le_of_ble_eq_true rfl) rfl ?_
  unfold f10_isValue
  refine k_iloadn (j := 0) dX10_isValue_0 rfl rfl ?_
  refine k_case (fun h0_ => ?_) (fun h0_ => ?_)
  · refine k_tin (tgt := 36) dX10_isValue_1 h0_ (by decide) (by decide) rfl (by decide) ?_
    refine k_iloadn (j := 1) dX10_isValue_36 rfl rfl ?_
    refine k_iconst (v := (1 : Int32)) dX10_isValue_37 rfl ?_
    refine k_bipush (v := (10 : Int32)) dX10_isValue_38 rfl ?_
    refine k_callSi [.inl v1, .inl (1 : Int32), .inl (10 : Int32)] (t10_in v1 (1 : Int32) (10 : Int32) g) cw_cX10_in ml_10_44 rfl rfl (by decide) (by decide) (Nat.le_of_ble_eq_true rfl) dX10_isValue_40 (fun z2 g1 => ?_)
    exact k_zreturnc rfl dX10_isValue_43
  refine k_case (fun h1_ => ?_) (fun h1_ => ?_)
  · refine k_tin (tgt := 44) dX10_isValue_1 h1_ (by decide) (by decide) rfl (by decide) ?_
    refine k_iloadn (j := 1) dX10_isValue_44 rfl rfl ?_
    refine k_iconst (v := (0 : Int32)) dX10_isValue_45 rfl ?_
    refine k_iconst (v := (1 : Int32)) dX10_isValue_46 rfl ?_
    refine k_callSi [.inl v1, .inl (0 : Int32), .inl (1 : Int32)] (t10_in v1 (0 : Int32) (1 : Int32) g) cw_cX10_in ml_10_44 rfl rfl (by decide) (by decide) (Nat.le_of_ble_eq_true rfl) dX10_isValue_47 (fun z4 g3 => ?_)
    exact k_zreturnc rfl dX10_isValue_50
  refine k_case (fun h2_ => ?_) (fun h2_ => ?_)
  · refine k_tin (tgt := 51) dX10_isValue_1 h2_ (by decide) (by decide) rfl (by decide) ?_
    refine k_iloadn (j := 1) dX10_isValue_51 rfl rfl ?_
    refine k_iconst (v := (0 : Int32)) dX10_isValue_52 rfl ?_
    refine k_iconst (v := (2 : Int32)) dX10_isValue_53 rfl ?_
    refine k_callSi [.inl v1, .inl (0 : Int32), .inl (2 : Int32)] (t10_in v1 (0 : Int32) (2 : Int32) g) cw_cX10_in ml_10_44 rfl rfl (by decide) (by decide) (Nat.le_of_ble_eq_true rfl) dX10_isValue_54 (fun z6 g5 => ?_)
    exact k_zreturnc rfl dX10_isValue_57
  refine k_case (fun h3_ => ?_) (fun h3_ => ?_)
  · refine k_tin (tgt := 58) dX10_isValue_1 h3_ (by decide) (by decide) rfl (by decide) ?_
    refine k_iloadn (j := 1) dX10_isValue_58 rfl rfl ?_
    refine k_ifeq (tgt := 77) dX10_isValue_59 (by decide) (fun _ => ?_) (fun _ => ?_)
    · refine k_msk (L' := [none, none]) [false, false] rfl ?_
      exact t10_isValue_b77 g
    refine k_iloadn (j := 1) dX10_isValue_62 rfl rfl ?_
    refine k_iconst (v := (1 : Int32)) dX10_isValue_63 rfl ?_
    refine k_icmpeq (tgt := 77) dX10_isValue_64 (by decide) (fun _ => ?_) (fun _ => ?_)
    · refine k_msk (L' := [none, none]) [false, false] rfl ?_
      exact t10_isValue_b77 g
    refine k_iloadn (j := 1) dX10_isValue_67 rfl rfl ?_
    refine k_iconst (v := (2 : Int32)) dX10_isValue_68 rfl ?_
    refine k_icmpeq (tgt := 77) dX10_isValue_69 (by decide) (fun _ => ?_) (fun _ => ?_)
    · refine k_msk (L' := [none, none]) [false, false] rfl ?_
      exact t10_isValue_b77 g
    refine k_iloadn (j := 1) dX10_isValue_72 rfl rfl ?_
    refine k_iconst (v := (4 : Int32)) dX10_isValue_73 rfl ?_
    refine k_icmpne (tgt := 81) dX10_isValue_74 (by decide) (fun _ => ?_) (fun _ => ?_)
    · refine k_msk (L' := [none, none]) [false, false] rfl ?_
      exact t10_isValue_b77 g
    refine k_iconst (v := (0 : Int32)) dX10_isValue_81 rfl ?_
    exact k_zreturn rfl (by decide) dX10_isValue_82
  refine k_case (fun h4_ => ?_) (fun h4_ => ?_)
  · refine k_tin (tgt := 83) dX10_isValue_1 h4_ (by decide) (by decide) rfl (by decide) ?_
    refine k_iloadn (j := 1) dX10_isValue_83 rfl rfl ?_
    refine k_iconst (v := (0 : Int32)) dX10_isValue_84 rfl ?_
    refine k_bipush (v := (9 : Int32)) dX10_isValue_85 rfl ?_
    refine k_callSi [.inl v1, .inl (0 : Int32), .inl (9 : Int32)] (t10_in v1 (0 : Int32) (9 : Int32) g) cw_cX10_in ml_10_44 rfl rfl (by decide) (by decide) (Nat.le_of_ble_eq_true rfl) dX10_isValue_87 (fun z8 g7 => ?_)
    exact k_zreturnc rfl dX10_isValue_90
  refine k_tout (tgt := 91) dX10_isValue_1 (by have q0 := lv_neT (a := 0) h0_ (by decide); have q1 := lv_neT (a := 1) h1_ (by decide); have q2 := lv_neT (a := 2) h2_ (by decide); have q3 := lv_neT (a := 3) h3_ (by decide); have q4 := lv_neT (a := 4) h4_ (by decide); omega) (by decide) ?_
  refine k_iloadn (j := 0) dX10_isValue_91 rfl rfl ?_
  refine k_iconst (v := (5 : Int32)) dX10_isValue_92 rfl ?_
  refine k_icmpne (tgt := 107) dX10_isValue_93 (by decide) (fun _ => ?_) (fun _ => ?_)
  · refine k_iloadn (j := 1) dX10_isValue_96 rfl rfl ?_
    refine k_callSi [.inl v1] (t10_isUser v1 g) cw_cX10_isUser ml_10_120 rfl rfl (by decide) (by decide) (Nat.le_of_ble_eq_true rfl) dX10_isValue_97 (fun z10 g9 => ?_)
    refine k_ifeq (tgt := 107) dX10_isValue_100 (by decide) (fun _ => ?_) (fun _ => ?_)
    · refine k_msk (L' := [none, none]) [false, false] rfl ?_
      exact t10_isValue_b107 g9
    refine k_iconst (v := (1 : Int32)) dX10_isValue_103 rfl ?_
    refine k_goto (tgt := 108) dX10_isValue_104 (by decide) ?_
    exact k_zreturn rfl (by decide) dX10_isValue_108
  refine k_msk (L' := [none, none]) [false, false] rfl ?_
  exact t10_isValue_b107 g
theorem dX10_set_0 : decode cX10_set 0 = .ok (.iload_n 1, 1) := by decide +kernel
theorem dX10_set_1 : decode cX10_set 1 = .ok (.iload_n 2, 1) := by decide +kernel
theorem dX10_set_2 : decode cX10_set 2 = .ok (.invokestatic 123, 3) := by decide +kernel
theorem dX10_set_5 : decode cX10_set 5 = .ok (.ifCond .ne 6, 3) := by decide +kernel
theorem dX10_set_8 : decode cX10_set 8 = .ok (.bipush (-2), 2) := by decide +kernel
theorem dX10_set_10 : decode cX10_set 10 = .ok (.ireturn, 1) := by decide +kernel
theorem dX10_set_11 : decode cX10_set 11 = .ok (.aload_n 0, 1) := by decide +kernel
theorem dX10_set_12 : decode cX10_set 12 = .ok (.getfield 7, 3) := by decide +kernel
theorem dX10_set_15 : decode cX10_set 15 = .ok (.bipush 8, 2) := by decide +kernel
theorem dX10_set_17 : decode cX10_set 17 = .ok (.iload_n 1, 1) := by decide +kernel
theorem dX10_set_18 : decode cX10_set 18 = .ok (.iadd, 1) := by decide +kernel
theorem dX10_set_19 : decode cX10_set 19 = .ok (.iaload, 1) := by decide +kernel
theorem dX10_set_20 : decode cX10_set 20 = .ok (.istore_n 3, 1) := by decide +kernel
theorem dX10_set_21 : decode cX10_set 21 = .ok (.aload_n 0, 1) := by decide +kernel
theorem dX10_set_22 : decode cX10_set 22 = .ok (.getfield 7, 3) := by decide +kernel
theorem dX10_set_25 : decode cX10_set 25 = .ok (.bipush 8, 2) := by decide +kernel
theorem dX10_set_27 : decode cX10_set 27 = .ok (.iload_n 1, 1) := by decide +kernel
theorem dX10_set_28 : decode cX10_set 28 = .ok (.iadd, 1) := by decide +kernel
theorem dX10_set_29 : decode cX10_set 29 = .ok (.iload_n 2, 1) := by decide +kernel
theorem dX10_set_30 : decode cX10_set 30 = .ok (.iastore, 1) := by decide +kernel
theorem dX10_set_31 : decode cX10_set 31 = .ok (.iload_n 3, 1) := by decide +kernel
theorem dX10_set_32 : decode cX10_set 32 = .ok (.ireturn, 1) := by decide +kernel
def f10_set (v0 : Nat) (v1 : Int32) (v2 : Int32) (g : GS_) : Option (Int32 × GS_) :=
  bd_ (f10_isValue v1 v2 g) fun z2 g1 => if z2 = 0 then some ((-2 : Int32), g1) else lr_ (gfr g1 320 v0) fun x3 => oc_ x3 none fun a4 => if inb ((8 : Int32) + v1) (gln g1 20 a4) then lr_ (gai g1 20 a4 ((8 : Int32) + v1).toInt.toNat) fun z5 => lr_ (gfr g1 320 v0) fun x6 => oc_ x6 none fun a7 => if inb ((8 : Int32) + v1) (gln g1 20 a7) then lr_ (sai g1 20 a7 ((8 : Int32) + v1).toInt.toNat v2) (fun g8 => some (z5, g8)) else none else none
theorem t10_set (v0 : Nat) (v1 : Int32) (v2 : Int32) (g : GS_) : Cn_ yX10_set cX10_set 4 (some .int) 3 63 EI_ [.inr (10, some v0), .inl v1, .inl v2] g (f10_set v0 v1 v2 g) := by
  refine k_method (own := RX10) (ini := false) (L1 := [some (.inr (10, some v0)), some (.inl v1), some (.inl v2), none]) (by decide +kernel) rfl (fun h => by cases h) (Nat.le_of_ble_eq_true rfl) rfl ?_
  unfold f10_set
  refine k_iloadn (j := 1) dX10_set_0 rfl rfl ?_
  refine k_iloadn (j := 2) dX10_set_1 rfl rfl ?_
  refine k_callSi [.inl v1, .inl v2] (t10_isValue v1 v2 g) cw_cX10_isValue ml_10_123 rfl rfl (by decide) (by decide) (Nat.le_of_ble_eq_true rfl) dX10_set_2 (fun z2 g1 => ?_)
  refine k_ifne (tgt := 11) dX10_set_5 (by decide) (fun _ => ?_) (fun _ => ?_)
  · refine k_bipush (v := (-2 : Int32)) dX10_set_8 rfl ?_
    exact k_ireturn rfl dX10_set_10
  refine k_aloadn (j := 0) dX10_set_11 rfl rfl ?_
  refine k_getr fg_10_7 rfl rfl dX10_set_12 (fun x3 => ?_)
  refine k_bipush (v := (8 : Int32)) dX10_set_15 rfl ?_
  refine k_iloadn (j := 1) dX10_set_17 rfl rfl ?_
  refine k_iadd dX10_set_18 ?_
  rcases x3 with _ | a4
  · exact k_ocn
  refine k_ocs ?_
  refine k_iald dX10_set_19 ?_
  refine k_istnl (j := 3) (L2 := fun z5 => [some (.inr (10, some v0)), some (.inl v1), some (.inl v2), some (.inl z5)]) dX10_set_20 rfl (by decide) (fun _ => rfl) (fun z5 => ?_)
  refine k_aloadn (j := 0) dX10_set_21 rfl rfl ?_
  refine k_getr fg_10_7 rfl rfl dX10_set_22 (fun x6 => ?_)
  refine k_bipush (v := (8 : Int32)) dX10_set_25 rfl ?_
  refine k_iloadn (j := 1) dX10_set_27 rfl rfl ?_
  refine k_iadd dX10_set_28 ?_
  refine k_iloadn (j := 2) dX10_set_29 rfl rfl ?_
  rcases x6 with _ | a7
  · exact k_ocn
  refine k_ocs ?_
  refine k_iast dX10_set_30 (fun g8 => ?_)
  refine k_iloadn (j := 3) dX10_set_31 rfl rfl ?_
  exact k_ireturn rfl dX10_set_32
theorem dX10_setJob_0 : decode cX10_setJob 0 = .ok (.aload_n 0, 1) := by decide +kernel
theorem dX10_setJob_1 : decode cX10_setJob 1 = .ok (.getfield 7, 3) := by decide +kernel
theorem dX10_setJob_4 : decode cX10_setJob 4 = .ok (.bipush 106, 2) := by decide +kernel
theorem dX10_setJob_6 : decode cX10_setJob 6 = .ok (.bipush 13, 2) := by decide +kernel
theorem dX10_setJob_8 : decode cX10_setJob 8 = .ok (.iload_n 1, 1) := by decide +kernel
theorem dX10_setJob_9 : decode cX10_setJob 9 = .ok (.imul, 1) := by decide +kernel
theorem dX10_setJob_10 : decode cX10_setJob 10 = .ok (.iadd, 1) := by decide +kernel
theorem dX10_setJob_11 : decode cX10_setJob 11 = .ok (.iload_n 2, 1) := by decide +kernel
theorem dX10_setJob_12 : decode cX10_setJob 12 = .ok (.iadd, 1) := by decide +kernel
theorem dX10_setJob_13 : decode cX10_setJob 13 = .ok (.iload_n 3, 1) := by decide +kernel
theorem dX10_setJob_14 : decode cX10_setJob 14 = .ok (.iastore, 1) := by decide +kernel
theorem dX10_setJob_15 : decode cX10_setJob 15 = .ok (.return_, 1) := by decide +kernel
def f10_setJob (v0 : Nat) (v1 : Int32) (v2 : Int32) (v3 : Int32) (g : GS_) : Option (Unit × GS_) :=
  lr_ (gfr g 320 v0) fun x1 => oc_ x1 none fun a2 => if inb (((106 : Int32) + ((13 : Int32) * v1)) + v2) (gln g 20 a2) then lr_ (sai g 20 a2 (((106 : Int32) + ((13 : Int32) * v1)) + v2).toInt.toNat v3) (fun g3 => some ((), g3)) else none
theorem t10_setJob (v0 : Nat) (v1 : Int32) (v2 : Int32) (v3 : Int32) (g : GS_) : Cn_ yX10_setJob cX10_setJob 4 none 0 0 EV_ [.inr (10, some v0), .inl v1, .inl v2, .inl v3] g (f10_setJob v0 v1 v2 v3 g) := by
  refine k_method (own := RX10) (ini := false) (L1 := [some (.inr (10, some v0)), some (.inl v1), some (.inl v2), some (.inl v3)]) (by decide +kernel) rfl (fun h => by cases h) (Nat.le_of_ble_eq_true rfl) rfl ?_
  unfold f10_setJob
  refine k_aloadn (j := 0) dX10_setJob_0 rfl rfl ?_
  refine k_getr fg_10_7 rfl rfl dX10_setJob_1 (fun x1 => ?_)
  refine k_bipush (v := (106 : Int32)) dX10_setJob_4 rfl ?_
  refine k_bipush (v := (13 : Int32)) dX10_setJob_6 rfl ?_
  refine k_iloadn (j := 1) dX10_setJob_8 rfl rfl ?_
  refine k_imul dX10_setJob_9 ?_
  refine k_iadd dX10_setJob_10 ?_
  refine k_iloadn (j := 2) dX10_setJob_11 rfl rfl ?_
  refine k_iadd dX10_setJob_12 ?_
  refine k_iloadn (j := 3) dX10_setJob_13 rfl rfl ?_
  rcases x1 with _ | a2
  · exact k_ocn
  refine k_ocs ?_
  refine k_iast dX10_setJob_14 (fun g3 => ?_)
  exact k_return rfl dX10_setJob_15
theorem dX10_ofJob_0 : decode cX10_ofJob 0 = .ok (.aload_n 0, 1) := by decide +kernel
theorem dX10_ofJob_1 : decode cX10_ofJob 1 = .ok (.getfield 7, 3) := by decide +kernel
theorem dX10_ofJob_4 : decode cX10_ofJob 4 = .ok (.bipush 106, 2) := by decide +kernel
theorem dX10_ofJob_6 : decode cX10_ofJob 6 = .ok (.bipush 13, 2) := by decide +kernel
theorem dX10_ofJob_8 : decode cX10_ofJob 8 = .ok (.iload_n 1, 1) := by decide +kernel
theorem dX10_ofJob_9 : decode cX10_ofJob 9 = .ok (.imul, 1) := by decide +kernel
theorem dX10_ofJob_10 : decode cX10_ofJob 10 = .ok (.iadd, 1) := by decide +kernel
theorem dX10_ofJob_11 : decode cX10_ofJob 11 = .ok (.iload_n 2, 1) := by decide +kernel
theorem dX10_ofJob_12 : decode cX10_ofJob 12 = .ok (.iadd, 1) := by decide +kernel
theorem dX10_ofJob_13 : decode cX10_ofJob 13 = .ok (.iaload, 1) := by decide +kernel
theorem dX10_ofJob_14 : decode cX10_ofJob 14 = .ok (.ireturn, 1) := by decide +kernel
def f10_ofJob (v0 : Nat) (v1 : Int32) (v2 : Int32) (g : GS_) : Option (Int32 × GS_) :=
  lr_ (gfr g 320 v0) fun x1 => oc_ x1 none fun a2 => if inb (((106 : Int32) + ((13 : Int32) * v1)) + v2) (gln g 20 a2) then some ((gai g 20 a2 (((106 : Int32) + ((13 : Int32) * v1)) + v2).toInt.toNat), g) else none
theorem t10_ofJob (v0 : Nat) (v1 : Int32) (v2 : Int32) (g : GS_) : Cn_ yX10_ofJob cX10_ofJob 3 (some .int) 0 0 EI_ [.inr (10, some v0), .inl v1, .inl v2] g (f10_ofJob v0 v1 v2 g) := by
  refine k_method (own := RX10) (ini := false) (L1 := [some (.inr (10, some v0)), some (.inl v1), some (.inl v2)]) (by decide +kernel) rfl (fun h => by cases h) (Nat.le_of_ble_eq_true rfl) rfl ?_
  unfold f10_ofJob
  refine k_aloadn (j := 0) dX10_ofJob_0 rfl rfl ?_
  refine k_getr fg_10_7 rfl rfl dX10_ofJob_1 (fun x1 => ?_)
  refine k_bipush (v := (106 : Int32)) dX10_ofJob_4 rfl ?_
  refine k_bipush (v := (13 : Int32)) dX10_ofJob_6 rfl ?_
  refine k_iloadn (j := 1) dX10_ofJob_8 rfl rfl ?_
  refine k_imul dX10_ofJob_9 ?_
  refine k_iadd dX10_ofJob_10 ?_
  refine k_iloadn (j := 2) dX10_ofJob_11 rfl rfl ?_
  refine k_iadd dX10_ofJob_12 ?_
  rcases x1 with _ | a2
  · exact k_ocn
  refine k_ocs ?_
  refine k_iald dX10_ofJob_13 ?_
  exact k_ireturn rfl dX10_ofJob_14
