/-! methods as functions over numbers, and that the machine does them: written by wip/whole/gen/mkparts.py (decode rows: printed names) -/
theorem dX7_itemLength_0 : decode cX7_itemLength 0 = .ok (.iload_n 2, 1) := by decide +kernel
theorem dX7_itemLength_1 : decode cX7_itemLength 1 = .ok (.iconst 1, 1) := by decide +kernel
theorem dX7_itemLength_2 : decode cX7_itemLength 2 = .ok (.if_icmp .ne 8, 3) := by decide +kernel
theorem dX7_itemLength_5 : decode cX7_itemLength 5 = .ok (.iload_n 0, 1) := by decide +kernel
theorem dX7_itemLength_6 : decode cX7_itemLength 6 = .ok (.invokestatic 53, 3) := by decide +kernel
theorem dX7_itemLength_9 : decode cX7_itemLength 9 = .ok (.ireturn, 1) := by decide +kernel
theorem dX7_itemLength_10 : decode cX7_itemLength 10 = .ok (.iload_n 0, 1) := by decide +kernel
theorem dX7_itemLength_11 : decode cX7_itemLength 11 = .ok (.invokestatic 53, 3) := by decide +kernel
theorem dX7_itemLength_14 : decode cX7_itemLength 14 = .ok (.iconst 1, 1) := by decide +kernel
theorem dX7_itemLength_15 : decode cX7_itemLength 15 = .ok (.iadd, 1) := by decide +kernel
theorem dX7_itemLength_16 : decode cX7_itemLength 16 = .ok (.iload_n 1, 1) := by decide +kernel
theorem dX7_itemLength_17 : decode cX7_itemLength 17 = .ok (.invokestatic 53, 3) := by decide +kernel
theorem dX7_itemLength_20 : decode cX7_itemLength 20 = .ok (.iadd, 1) := by decide +kernel
theorem dX7_itemLength_21 : decode cX7_itemLength 21 = .ok (.iload_n 0, 1) := by decide +kernel
theorem dX7_itemLength_22 : decode cX7_itemLength 22 = .ok (.iload_n 1, 1) := by decide +kernel
theorem dX7_itemLength_23 : decode cX7_itemLength 23 = .ok (.iload_n 2, 1) := by decide +kernel
theorem dX7_itemLength_24 : decode cX7_itemLength 24 = .ok (.invokestatic 57, 3) := by decide +kernel
theorem dX7_itemLength_27 : decode cX7_itemLength 27 = .ok (.ifCond .eq 7, 3) := by decide +kernel
theorem dX7_itemLength_30 : decode cX7_itemLength 30 = .ok (.iconst 1, 1) := by decide +kernel
theorem dX7_itemLength_31 : decode cX7_itemLength 31 = .ok (.goto 4, 3) := by decide +kernel
theorem dX7_itemLength_34 : decode cX7_itemLength 34 = .ok (.iconst 0, 1) := by decide +kernel
theorem dX7_itemLength_35 : decode cX7_itemLength 35 = .ok (.iadd, 1) := by decide +kernel
theorem dX7_itemLength_36 : decode cX7_itemLength 36 = .ok (.ireturn, 1) := by decide +kernel
def f7_itemLength_b35 (s0 : Int32) (s1 : Int32) (g : GS_) : Option (Int32 × GS_) :=
  some ((s0 + s1), g)
theorem t7_itemLength_b35 (s0 : Int32) (s1 : Int32) (g : GS_) : K_ RX7 cX7_itemLength 3 (some .int) 2 35 false EI_ 35 [none, none, none] [.inl s1, .inl s0] g (f7_itemLength_b35 s0 s1 g) := by
  unfold f7_itemLength_b35
  refine k_iadd dX7_itemLength_35 ?_
  exact k_ireturn rfl dX7_itemLength_36
def f7_itemLength (v0 : Int32) (v1 : Int32) (v2 : Int32) (g : GS_) : Option (Int32 × GS_) :=
  if v2 = (1 : Int32) then bd_ (f7_digits v0 g) fun z2 g1 => some (z2, g1) else bd_ (f7_digits v0 g) fun z4 g3 => bd_ (f7_digits v1 g3) fun z6 g5 => bd_ (f7_isSpaced v0 v1 v2 g5) fun z8 g7 => if z8 = 0 then f7_itemLength_b35 ((z4 + (1 : Int32)) + z6) (0 : Int32) g7 else f7_itemLength_b35 ((z4 + (1 : Int32)) + z6) (1 : Int32) g7
theorem t7_itemLength (v0 : Int32) (v1 : Int32) (v2 : Int32) (g : GS_) : Cn_ yX7_itemLength cX7_itemLength 3 (some .int) 2 35 EI_ [.inl v0, .inl v1, .inl v2] g (f7_itemLength v0 v1 v2 g) := by
  refine k_method (own := RX7) (ini := false) (L1 := [some (.inl v0), some (.inl v1), some (.inl v2)]) (by decide +kernel) rfl (fun h => by cases h) (Nat.le_of_ble_eq_true rfl) rfl ?_
  unfold f7_itemLength
  refine k_iloadn (j := 2) dX7_itemLength_0 rfl rfl ?_
  refine k_iconst (v := (1 : Int32)) dX7_itemLength_1 rfl ?_
  refine k_icmpne (tgt := 10) dX7_itemLength_2 (by decide) (fun _ => ?_) (fun _ => ?_)
  · refine k_iloadn (j := 0) dX7_itemLength_5 rfl rfl ?_
    refine k_callSi [.inl v0] (t7_digits v0 g) cw_cX7_digits ml_7_53 rfl rfl (by decide) (by decide) (Nat.le_of_ble_eq_true rfl) dX7_itemLength_6 (fun z2 g1 => ?_)
    exact k_ireturn rfl dX7_itemLength_9
  refine k_iloadn (j := 0) dX7_itemLength_10 rfl rfl ?_
  refine k_callSi [.inl v0] (t7_digits v0 g) cw_cX7_digits ml_7_53 rfl rfl (by decide) (by decide) (Nat.le_of_ble_eq_true rfl) dX7_itemLength_11 (fun z4 g3 => ?_)
  refine k_iconst (v := (1 : Int32)) dX7_itemLength_14 rfl ?_
  refine k_iadd dX7_itemLength_15 ?_
  refine k_iloadn (j := 1) dX7_itemLength_16 rfl rfl ?_
  refine k_callSi [.inl v1] (t7_digits v1 g3) cw_cX7_digits ml_7_53 rfl rfl (by decide) (by decide) (Nat.le_of_ble_eq_true rfl) dX7_itemLength_17 (fun z6 g5 => ?_)
  refine k_iadd dX7_itemLength_20 ?_
  refine k_iloadn (j := 0) dX7_itemLength_21 rfl rfl ?_
  refine k_iloadn (j := 1) dX7_itemLength_22 rfl rfl ?_
  refine k_iloadn (j := 2) dX7_itemLength_23 rfl rfl ?_
  refine k_callSi [.inl v0, .inl v1, .inl v2] (t7_isSpaced v0 v1 v2 g5) cw_cX7_isSpaced ml_7_57 rfl rfl (by decide) (by decide) (Nat.le_of_ble_eq_true rfl) dX7_itemLength_24 (fun z8 g7 => ?_)
  refine k_ifeq (tgt := 34) dX7_itemLength_27 (by decide) (fun _ => ?_) (fun _ => ?_)
  · refine k_iconst (v := (0 : Int32)) dX7_itemLength_34 rfl ?_
    refine k_msk (L' := [none, none, none]) [false, false, false] rfl ?_
    exact t7_itemLength_b35 ((z4 + (1 : Int32)) + z6) (0 : Int32) g7
  refine k_iconst (v := (1 : Int32)) dX7_itemLength_30 rfl ?_
  refine k_goto (tgt := 35) dX7_itemLength_31 (by decide) ?_
  refine k_msk (L' := [none, none, none]) [false, false, false] rfl ?_
  exact t7_itemLength_b35 ((z4 + (1 : Int32)) + z6) (1 : Int32) g7
theorem dX7_compare_0 : decode cX7_compare 0 = .ok (.iload_n 2, 1) := by decide +kernel
theorem dX7_compare_1 : decode cX7_compare 1 = .ok (.iload_n 3, 1) := by decide +kernel
theorem dX7_compare_2 : decode cX7_compare 2 = .ok (.iadd, 1) := by decide +kernel
theorem dX7_compare_3 : decode cX7_compare 3 = .ok (.istore 5, 2) := by decide +kernel
theorem dX7_compare_5 : decode cX7_compare 5 = .ok (.iload_n 2, 1) := by decide +kernel
theorem dX7_compare_6 : decode cX7_compare 6 = .ok (.ifCond .lt 32, 3) := by decide +kernel
theorem dX7_compare_9 : decode cX7_compare 9 = .ok (.iload_n 3, 1) := by decide +kernel
theorem dX7_compare_10 : decode cX7_compare 10 = .ok (.iconst 1, 1) := by decide +kernel
theorem dX7_compare_11 : decode cX7_compare 11 = .ok (.if_icmp .lt 27, 3) := by decide +kernel
theorem dX7_compare_14 : decode cX7_compare 14 = .ok (.iload 5, 2) := by decide +kernel
theorem dX7_compare_16 : decode cX7_compare 16 = .ok (.iload 4, 2) := by decide +kernel
theorem dX7_compare_18 : decode cX7_compare 18 = .ok (.if_icmp .gt 20, 3) := by decide +kernel
theorem dX7_compare_21 : decode cX7_compare 21 = .ok (.iload 5, 2) := by decide +kernel
theorem dX7_compare_23 : decode cX7_compare 23 = .ok (.aload_n 0, 1) := by decide +kernel
theorem dX7_compare_24 : decode cX7_compare 24 = .ok (.getfield 9, 3) := by decide +kernel
theorem dX7_compare_27 : decode cX7_compare 27 = .ok (.arraylength, 1) := by decide +kernel
theorem dX7_compare_28 : decode cX7_compare 28 = .ok (.if_icmp .ge 10, 3) := by decide +kernel
theorem dX7_compare_31 : decode cX7_compare 31 = .ok (.iload 4, 2) := by decide +kernel
theorem dX7_compare_33 : decode cX7_compare 33 = .ok (.aload_n 1, 1) := by decide +kernel
theorem dX7_compare_34 : decode cX7_compare 34 = .ok (.arraylength, 1) := by decide +kernel
theorem dX7_compare_35 : decode cX7_compare 35 = .ok (.if_icmp .le 4, 3) := by decide +kernel
theorem dX7_compare_38 : decode cX7_compare 38 = .ok (.return_, 1) := by decide +kernel
theorem dX7_compare_39 : decode cX7_compare 39 = .ok (.iload 5, 2) := by decide +kernel
theorem dX7_compare_41 : decode cX7_compare 41 = .ok (.iload 4, 2) := by decide +kernel
theorem dX7_compare_43 : decode cX7_compare 43 = .ok (.if_icmp .ge 7, 3) := by decide +kernel
theorem dX7_compare_46 : decode cX7_compare 46 = .ok (.iconst 1, 1) := by decide +kernel
theorem dX7_compare_47 : decode cX7_compare 47 = .ok (.goto 4, 3) := by decide +kernel
theorem dX7_compare_50 : decode cX7_compare 50 = .ok (.iconst 0, 1) := by decide +kernel
theorem dX7_compare_51 : decode cX7_compare 51 = .ok (.istore 6, 2) := by decide +kernel
theorem dX7_compare_53 : decode cX7_compare 53 = .ok (.aload_n 1, 1) := by decide +kernel
theorem dX7_compare_54 : decode cX7_compare 54 = .ok (.iload_n 2, 1) := by decide +kernel
theorem dX7_compare_55 : decode cX7_compare 55 = .ok (.iaload, 1) := by decide +kernel
theorem dX7_compare_56 : decode cX7_compare 56 = .ok (.aload_n 1, 1) := by decide +kernel
theorem dX7_compare_57 : decode cX7_compare 57 = .ok (.iload 5, 2) := by decide +kernel
theorem dX7_compare_59 : decode cX7_compare 59 = .ok (.iconst 1, 1) := by decide +kernel
theorem dX7_compare_60 : decode cX7_compare 60 = .ok (.isub, 1) := by decide +kernel
theorem dX7_compare_61 : decode cX7_compare 61 = .ok (.iaload, 1) := by decide +kernel
theorem dX7_compare_62 : decode cX7_compare 62 = .ok (.iload_n 3, 1) := by decide +kernel
theorem dX7_compare_63 : decode cX7_compare 63 = .ok (.invokestatic 49, 3) := by decide +kernel
theorem dX7_compare_66 : decode cX7_compare 66 = .ok (.iload 6, 2) := by decide +kernel
theorem dX7_compare_68 : decode cX7_compare 68 = .ok (.iadd, 1) := by decide +kernel
theorem dX7_compare_69 : decode cX7_compare 69 = .ok (.aload_n 0, 1) := by decide +kernel
theorem dX7_compare_70 : decode cX7_compare 70 = .ok (.getfield 9, 3) := by decide +kernel
theorem dX7_compare_73 : decode cX7_compare 73 = .ok (.iload 5, 2) := by decide +kernel
theorem dX7_compare_75 : decode cX7_compare 75 = .ok (.iaload, 1) := by decide +kernel
theorem dX7_compare_76 : decode cX7_compare 76 = .ok (.iadd, 1) := by decide +kernel
theorem dX7_compare_77 : decode cX7_compare 77 = .ok (.istore 7, 2) := by decide +kernel
theorem dX7_compare_79 : decode cX7_compare 79 = .ok (.iconst 1, 1) := by decide +kernel
theorem dX7_compare_80 : decode cX7_compare 80 = .ok (.aload_n 0, 1) := by decide +kernel
theorem dX7_compare_81 : decode cX7_compare 81 = .ok (.getfield 15, 3) := by decide +kernel
theorem dX7_compare_84 : decode cX7_compare 84 = .ok (.iload 5, 2) := by decide +kernel
theorem dX7_compare_86 : decode cX7_compare 86 = .ok (.iaload, 1) := by decide +kernel
theorem dX7_compare_87 : decode cX7_compare 87 = .ok (.iadd, 1) := by decide +kernel
theorem dX7_compare_88 : decode cX7_compare 88 = .ok (.istore 8, 2) := by decide +kernel
theorem dX7_compare_90 : decode cX7_compare 90 = .ok (.iload 7, 2) := by decide +kernel
theorem dX7_compare_92 : decode cX7_compare 92 = .ok (.aload_n 0, 1) := by decide +kernel
theorem dX7_compare_93 : decode cX7_compare 93 = .ok (.getfield 9, 3) := by decide +kernel
theorem dX7_compare_96 : decode cX7_compare 96 = .ok (.iload_n 2, 1) := by decide +kernel
theorem dX7_compare_97 : decode cX7_compare 97 = .ok (.iaload, 1) := by decide +kernel
theorem dX7_compare_98 : decode cX7_compare 98 = .ok (.if_icmp .lt 25, 3) := by decide +kernel
theorem dX7_compare_101 : decode cX7_compare 101 = .ok (.iload 7, 2) := by decide +kernel
theorem dX7_compare_103 : decode cX7_compare 103 = .ok (.aload_n 0, 1) := by decide +kernel
theorem dX7_compare_104 : decode cX7_compare 104 = .ok (.getfield 9, 3) := by decide +kernel
theorem dX7_compare_107 : decode cX7_compare 107 = .ok (.iload_n 2, 1) := by decide +kernel
theorem dX7_compare_108 : decode cX7_compare 108 = .ok (.iaload, 1) := by decide +kernel
theorem dX7_compare_109 : decode cX7_compare 109 = .ok (.if_icmp .ne 18, 3) := by decide +kernel
theorem dX7_compare_112 : decode cX7_compare 112 = .ok (.iload 8, 2) := by decide +kernel
theorem dX7_compare_114 : decode cX7_compare 114 = .ok (.aload_n 0, 1) := by decide +kernel
theorem dX7_compare_115 : decode cX7_compare 115 = .ok (.getfield 15, 3) := by decide +kernel
theorem dX7_compare_118 : decode cX7_compare 118 = .ok (.iload_n 2, 1) := by decide +kernel
theorem dX7_compare_119 : decode cX7_compare 119 = .ok (.iaload, 1) := by decide +kernel
theorem dX7_compare_120 : decode cX7_compare 120 = .ok (.if_icmp .gt 7, 3) := by decide +kernel
theorem dX7_compare_123 : decode cX7_compare 123 = .ok (.iconst 1, 1) := by decide +kernel
theorem dX7_compare_124 : decode cX7_compare 124 = .ok (.goto 4, 3) := by decide +kernel
theorem dX7_compare_127 : decode cX7_compare 127 = .ok (.iconst 0, 1) := by decide +kernel
theorem dX7_compare_128 : decode cX7_compare 128 = .ok (.istore 9, 2) := by decide +kernel
theorem dX7_compare_130 : decode cX7_compare 130 = .ok (.iload_n 3, 1) := by decide +kernel
theorem dX7_compare_131 : decode cX7_compare 131 = .ok (.iconst 1, 1) := by decide +kernel
theorem dX7_compare_132 : decode cX7_compare 132 = .ok (.if_icmp .eq 8, 3) := by decide +kernel
theorem dX7_compare_135 : decode cX7_compare 135 = .ok (.iload 9, 2) := by decide +kernel
theorem dX7_compare_137 : decode cX7_compare 137 = .ok (.ifCond .eq 26, 3) := by decide +kernel
theorem dX7_compare_140 : decode cX7_compare 140 = .ok (.aload_n 0, 1) := by decide +kernel
theorem dX7_compare_141 : decode cX7_compare 141 = .ok (.getfield 9, 3) := by decide +kernel
theorem dX7_compare_144 : decode cX7_compare 144 = .ok (.iload_n 2, 1) := by decide +kernel
theorem dX7_compare_145 : decode cX7_compare 145 = .ok (.iload 7, 2) := by decide +kernel
theorem dX7_compare_147 : decode cX7_compare 147 = .ok (.iastore, 1) := by decide +kernel
theorem dX7_compare_148 : decode cX7_compare 148 = .ok (.aload_n 0, 1) := by decide +kernel
theorem dX7_compare_149 : decode cX7_compare 149 = .ok (.getfield 15, 3) := by decide +kernel
theorem dX7_compare_152 : decode cX7_compare 152 = .ok (.iload_n 2, 1) := by decide +kernel
theorem dX7_compare_153 : decode cX7_compare 153 = .ok (.iload 8, 2) := by decide +kernel
theorem dX7_compare_155 : decode cX7_compare 155 = .ok (.iastore, 1) := by decide +kernel
theorem dX7_compare_156 : decode cX7_compare 156 = .ok (.aload_n 0, 1) := by decide +kernel
theorem dX7_compare_157 : decode cX7_compare 157 = .ok (.getfield 18, 3) := by decide +kernel
theorem dX7_compare_160 : decode cX7_compare 160 = .ok (.iload_n 2, 1) := by decide +kernel
theorem dX7_compare_161 : decode cX7_compare 161 = .ok (.iload_n 3, 1) := by decide +kernel
theorem dX7_compare_162 : decode cX7_compare 162 = .ok (.iastore, 1) := by decide +kernel
theorem dX7_compare_163 : decode cX7_compare 163 = .ok (.return_, 1) := by decide +kernel
def f7_compare_b140 (v0 : Nat) (v2 : Int32) (v3 : Int32) (v7 : Int32) (v8 : Int32) (g : GS_) : Option (Unit × GS_) :=
  lr_ (gfr g 224 v0) fun x1 => oc_ x1 none fun a2 => if inb v2 (gln g 20 a2) then lr_ (sai g 20 a2 v2.toInt.toNat v7) (fun g3 => lr_ (gfr g3 225 v0) fun x4 => oc_ x4 none fun a5 => if inb v2 (gln g3 20 a5) then lr_ (sai g3 20 a5 v2.toInt.toNat v8) (fun g6 => lr_ (gfr g6 226 v0) fun x7 => oc_ x7 none fun a8 => if inb v2 (gln g6 20 a8) then lr_ (sai g6 20 a8 v2.toInt.toNat v3) (fun g9 => some ((), g9)) else none) else none) else none
theorem t7_compare_b140 (v0 : Nat) (v2 : Int32) (v3 : Int32) (v7 : Int32) (v8 : Int32) (g : GS_) : K_ RX7 cX7_compare 10 none 3 57 false EV_ 140 [some (.inr (7, some v0)), none, some (.inl v2), some (.inl v3), none, none, none, some (.inl v7), some (.inl v8), none] [] g (f7_compare_b140 v0 v2 v3 v7 v8 g) := by
  unfold f7_compare_b140
  refine k_aloadn (j := 0) dX7_compare_140 rfl rfl ?_
  refine k_getr fg_7_9 rfl rfl dX7_compare_141 (fun x1 => ?_)
  refine k_iloadn (j := 2) dX7_compare_144 rfl rfl ?_
  refine k_iload dX7_compare_145 rfl ?_
  rcases x1 with _ | a2
  · exact k_ocn
  refine k_ocs ?_
  refine k_iast dX7_compare_147 (fun g3 => ?_)
  refine k_aloadn (j := 0) dX7_compare_148 rfl rfl ?_
  refine k_getr fg_7_15 rfl rfl dX7_compare_149 (fun x4 => ?_)
  refine k_iloadn (j := 2) dX7_compare_152 rfl rfl ?_
  refine k_iload dX7_compare_153 rfl ?_
  rcases x4 with _ | a5
  · exact k_ocn
  refine k_ocs ?_
  refine k_iast dX7_compare_155 (fun g6 => ?_)
  refine k_aloadn (j := 0) dX7_compare_156 rfl rfl ?_
  refine k_getr fg_7_18 rfl rfl dX7_compare_157 (fun x7 => ?_)
  refine k_iloadn (j := 2) dX7_compare_160 rfl rfl ?_
  refine k_iloadn (j := 3) dX7_compare_161 rfl rfl ?_
  rcases x7 with _ | a8
  · exact k_ocn
  refine k_ocs ?_
  refine k_iast dX7_compare_162 (fun g9 => ?_)
  exact k_return rfl dX7_compare_163
def f7_compare_b128 (v0 : Nat) (v2 : Int32) (v3 : Int32) (v7 : Int32) (v8 : Int32) (s0 : Int32) (g : GS_) : Option (Unit × GS_) :=
  if v3 = (1 : Int32) then f7_compare_b140 v0 v2 v3 v7 v8 g else if s0 = 0 then some ((), g) else f7_compare_b140 v0 v2 v3 v7 v8 g
theorem t7_compare_b128 (v0 : Nat) (v2 : Int32) (v3 : Int32) (v7 : Int32) (v8 : Int32) (s0 : Int32) (g : GS_) : K_ RX7 cX7_compare 10 none 3 57 false EV_ 128 [some (.inr (7, some v0)), none, some (.inl v2), some (.inl v3), none, none, none, some (.inl v7), some (.inl v8), none] [.inl s0] g (f7_compare_b128 v0 v2 v3 v7 v8 s0 g) := by
  unfold f7_compare_b128
  refine k_ist (L' := [some (.inr (7, some v0)), none, some (.inl v2), some (.inl v3), none, none, none, some (.inl v7), some (.inl v8), some (.inl s0)]) dX7_compare_128 (by decide) rfl ?_
  refine k_iloadn (j := 3) dX7_compare_130 rfl rfl ?_
  refine k_iconst (v := (1 : Int32)) dX7_compare_131 rfl ?_
  refine k_icmpeq (tgt := 140) dX7_compare_132 (by decide) (fun _ => ?_) (fun _ => ?_)
  · refine k_msk (L' := [some (.inr (7, some v0)), none, some (.inl v2), some (.inl v3), none, none, none, some (.inl v7), some (.inl v8), none]) [true, true, true, true, true, true, true, true, true, false] rfl ?_
    exact t7_compare_b140 v0 v2 v3 v7 v8 g
  refine k_iload dX7_compare_135 rfl ?_
  refine k_ifeq (tgt := 163) dX7_compare_137 (by decide) (fun _ => ?_) (fun _ => ?_)
  · exact k_return rfl dX7_compare_163
  refine k_msk (L' := [some (.inr (7, some v0)), none, some (.inl v2), some (.inl v3), none, none, none, some (.inl v7), some (.inl v8), none]) [true, true, true, true, true, true, true, true, true, false] rfl ?_
  exact t7_compare_b140 v0 v2 v3 v7 v8 g
def f7_compare_b123 (v0 : Nat) (v2 : Int32) (v3 : Int32) (v7 : Int32) (v8 : Int32) (g : GS_) : Option (Unit × GS_) :=
  f7_compare_b128 v0 v2 v3 v7 v8 (1 : Int32) g
theorem t7_compare_b123 (v0 : Nat) (v2 : Int32) (v3 : Int32) (v7 : Int32) (v8 : Int32) (g : GS_) : K_ RX7 cX7_compare 10 none 3 57 false EV_ 123 [some (.inr (7, some v0)), none, some (.inl v2), some (.inl v3), none, none, none, some (.inl v7), some (.inl v8), none] [] g (f7_compare_b123 v0 v2 v3 v7 v8 g) := by
  unfold f7_compare_b123
  refine k_iconst (v := (1 : Int32)) dX7_compare_123 rfl ?_
  refine k_goto (tgt := 128) dX7_compare_124 (by decide) ?_
  exact t7_compare_b128 v0 v2 v3 v7 v8 (1 : Int32) g
def f7_compare_b127 (v0 : Nat) (v2 : Int32) (v3 : Int32) (v7 : Int32) (v8 : Int32) (g : GS_) : Option (Unit × GS_) :=
  f7_compare_b128 v0 v2 v3 v7 v8 (0 : Int32) g
theorem t7_compare_b127 (v0 : Nat) (v2 : Int32) (v3 : Int32) (v7 : Int32) (v8 : Int32) (g : GS_) : K_ RX7 cX7_compare 10 none 3 57 false EV_ 127 [some (.inr (7, some v0)), none, some (.inl v2), some (.inl v3), none, none, none, some (.inl v7), some (.inl v8), none] [] g (f7_compare_b127 v0 v2 v3 v7 v8 g) := by
  unfold f7_compare_b127
  refine k_iconst (v := (0 : Int32)) dX7_compare_127 rfl ?_
  exact t7_compare_b128 v0 v2 v3 v7 v8 (0 : Int32) g
def f7_compare_b51 (v0 : Nat) (v1 : Option Nat) (v2 : Int32) (v3 : Int32) (v5 : Int32) (s0 : Int32) (g : GS_) : Option (Unit × GS_) :=
  oc_ v1 none fun a10 => if inb v2 (gln g 20 a10) then if inb (v5 - (1 : Int32)) (gln g 20 a10) then bd_ (f7_itemLength (gai g 20 a10 v2.toInt.toNat) (gai g 20 a10 (v5 - (1 : Int32)).toInt.toNat) v3 g) fun z12 g11 => lr_ (gfr g11 224 v0) fun x13 => oc_ x13 none fun a14 => if inb v5 (gln g11 20 a14) then lr_ ((z12 + s0) + (gai g11 20 a14 v5.toInt.toNat)) fun z15 => lr_ (gfr g11 225 v0) fun x16 => oc_ x16 none fun a17 => if inb v5 (gln g11 20 a17) then lr_ ((1 : Int32) + (gai g11 20 a17 v5.toInt.toNat)) fun z18 => lr_ (gfr g11 224 v0) fun x19 => oc_ x19 none fun a20 => if inb v2 (gln g11 20 a20) then if z15 < (gai g11 20 a20 v2.toInt.toNat) then f7_compare_b123 v0 v2 v3 z15 z18 g11 else lr_ (gfr g11 224 v0) fun x21 => oc_ x21 none fun a22 => if inb v2 (gln g11 20 a22) then if z15 = (gai g11 20 a22 v2.toInt.toNat) then lr_ (gfr g11 225 v0) fun x23 => oc_ x23 none fun a24 => if inb v2 (gln g11 20 a24) then if (gai g11 20 a24 v2.toInt.toNat) < z18 then f7_compare_b127 v0 v2 v3 z15 z18 g11 else f7_compare_b123 v0 v2 v3 z15 z18 g11 else none else f7_compare_b127 v0 v2 v3 z15 z18 g11 else none else none else none else none else none else none
theorem t7_compare_b51 (v0 : Nat) (v1 : Option Nat) (v2 : Int32) (v3 : Int32) (v5 : Int32) (s0 : Int32) (g : GS_) : K_ RX7 cX7_compare 10 none 3 57 false EV_ 51 [some (.inr (7, some v0)), some (.inr (20, v1)), some (.inl v2), some (.inl v3), none, some (.inl v5), none, none, none, none] [.inl s0] g (f7_compare_b51 v0 v1 v2 v3 v5 s0 g) := by
  unfold f7_compare_b51
  refine k_ist (L' := [some (.inr (7, some v0)), some (.inr (20, v1)), some (.inl v2), some (.inl v3), none, some (.inl v5), some (.inl s0), none, none, none]) dX7_compare_51 (by decide) rfl ?_
  refine k_aloadn (j := 1) dX7_compare_53 rfl rfl ?_
  refine k_iloadn (j := 2) dX7_compare_54 rfl rfl ?_
  rcases v1 with _ | a10
  · exact k_ocn
  refine k_ocs ?_
  refine k_iald dX7_compare_55 ?_
  refine k_aloadn (j := 1) dX7_compare_56 rfl rfl ?_
  refine k_iload dX7_compare_57 rfl ?_
  refine k_iconst (v := (1 : Int32)) dX7_compare_59 rfl ?_
  refine k_isub dX7_compare_60 ?_
  refine k_iald dX7_compare_61 ?_
  refine k_iloadn (j := 3) dX7_compare_62 rfl rfl ?_
  refine k_callSi [.inl (gai g 20 a10 v2.toInt.toNat), .inl (gai g 20 a10 (v5 - (1 : Int32)).toInt.toNat), .inl v3] (t7_itemLength (gai g 20 a10 v2.toInt.toNat) (gai g 20 a10 (v5 - (1 : Int32)).toInt.toNat) v3 g) cw_cX7_itemLength ml_7_49 rfl rfl (by decide) (by decide) (Nat.le_of_ble_eq_true rfl) dX7_compare_63 (fun z12 g11 => ?_)
  refine k_iload dX7_compare_66 rfl ?_
  refine k_iadd dX7_compare_68 ?_
  refine k_aloadn (j := 0) dX7_compare_69 rfl rfl ?_
  refine k_getr fg_7_9 rfl rfl dX7_compare_70 (fun x13 => ?_)
  refine k_iload dX7_compare_73 rfl ?_
  rcases x13 with _ | a14
  · exact k_ocn
  refine k_ocs ?_
  refine k_iald dX7_compare_75 ?_
  refine k_iadd dX7_compare_76 ?_
  refine k_istl (L2 := fun z15 => [some (.inr (7, some v0)), some (.inr (20, some a10)), some (.inl v2), some (.inl v3), none, some (.inl v5), some (.inl s0), some (.inl z15), none, none]) dX7_compare_77 (by decide) (fun _ => rfl) (fun z15 => ?_)
  refine k_iconst (v := (1 : Int32)) dX7_compare_79 rfl ?_
  refine k_aloadn (j := 0) dX7_compare_80 rfl rfl ?_
  refine k_getr fg_7_15 rfl rfl dX7_compare_81 (fun x16 => ?_)
  refine k_iload dX7_compare_84 rfl ?_
  rcases x16 with _ | a17
  · exact k_ocn
  refine k_ocs ?_
  refine k_iald dX7_compare_86 ?_
  refine k_iadd dX7_compare_87 ?_
  refine k_istl (L2 := fun z18 => [some (.inr (7, some v0)), some (.inr (20, some a10)), some (.inl v2), some (.inl v3), none, some (.inl v5), some (.inl s0), some (.inl z15), some (.inl z18), none]) dX7_compare_88 (by decide) (fun _ => rfl) (fun z18 => ?_)
  refine k_iload dX7_compare_90 rfl ?_
  refine k_aloadn (j := 0) dX7_compare_92 rfl rfl ?_
  refine k_getr fg_7_9 rfl rfl dX7_compare_93 (fun x19 => ?_)
  refine k_iloadn (j := 2) dX7_compare_96 rfl rfl ?_
  rcases x19 with _ | a20
  · exact k_ocn
  refine k_ocs ?_
  refine k_iald dX7_compare_97 ?_
  refine k_icmplt (tgt := 123) dX7_compare_98 (by decide) (fun _ => ?_) (fun _ => ?_)
  · refine k_msk (L' := [some (.inr (7, some v0)), none, some (.inl v2), some (.inl v3), none, none, none, some (.inl z15), some (.inl z18), none]) [true, false, true, true, true, false, false, true, true, true] rfl ?_
    exact t7_compare_b123 v0 v2 v3 z15 z18 g11
  refine k_iload dX7_compare_101 rfl ?_
  refine k_aloadn (j := 0) dX7_compare_103 rfl rfl ?_
  refine k_getr fg_7_9 rfl rfl dX7_compare_104 (fun x21 => ?_)
  refine k_iloadn (j := 2) dX7_compare_107 rfl rfl ?_
  rcases x21 with _ | a22
  · exact k_ocn
  refine k_ocs ?_
  refine k_iald dX7_compare_108 ?_
  refine k_icmpne (tgt := 127) dX7_compare_109 (by decide) (fun _ => ?_) (fun _ => ?_)
  · refine k_iload dX7_compare_112 rfl ?_
    refine k_aloadn (j := 0) dX7_compare_114 rfl rfl ?_
    refine k_getr fg_7_15 rfl rfl dX7_compare_115 (fun x23 => ?_)
    refine k_iloadn (j := 2) dX7_compare_118 rfl rfl ?_
    rcases x23 with _ | a24
    · exact k_ocn
    refine k_ocs ?_
    refine k_iald dX7_compare_119 ?_
    refine k_icmpgt (tgt := 127) dX7_compare_120 (by decide) (fun _ => ?_) (fun _ => ?_)
    · refine k_msk (L' := [some (.inr (7, some v0)), none, some (.inl v2), some (.inl v3), none, none, none, some (.inl z15), some (.inl z18), none]) [true, false, true, true, true, false, false, true, true, true] rfl ?_
      exact t7_compare_b127 v0 v2 v3 z15 z18 g11
    refine k_msk (L' := [some (.inr (7, some v0)), none, some (.inl v2), some (.inl v3), none, none, none, some (.inl z15), some (.inl z18), none]) [true, false, true, true, true, false, false, true, true, true] rfl ?_
    exact t7_compare_b123 v0 v2 v3 z15 z18 g11
  refine k_msk (L' := [some (.inr (7, some v0)), none, some (.inl v2), some (.inl v3), none, none, none, some (.inl z15), some (.inl z18), none]) [true, false, true, true, true, false, false, true, true, true] rfl ?_
  exact t7_compare_b127 v0 v2 v3 z15 z18 g11
def f7_compare (v0 : Nat) (v1 : Option Nat) (v2 : Int32) (v3 : Int32) (v4 : Int32) (g : GS_) : Option (Unit × GS_) :=
  lr_ (v2 + v3) fun z25 => if v2 < 0 then some ((), g) else if v3 < (1 : Int32) then some ((), g) else if v4 < z25 then some ((), g) else lr_ (gfr g 224 v0) fun x26 => oc_ x26 none fun a27 => if (Int32.ofNat (gln g 20 a27)) ≤ z25 then some ((), g) else oc_ v1 none fun a28 => if v4 ≤ (Int32.ofNat (gln g 20 a28)) then if v4 ≤ z25 then f7_compare_b51 v0 (some a28) v2 v3 z25 (0 : Int32) g else f7_compare_b51 v0 (some a28) v2 v3 z25 (1 : Int32) g else some ((), g)
theorem t7_compare (v0 : Nat) (v1 : Option Nat) (v2 : Int32) (v3 : Int32) (v4 : Int32) (g : GS_) : Cn_ yX7_compare cX7_compare 10 none 3 57 EV_ [.inr (7, some v0), .inr (20, v1), .inl v2, .inl v3, .inl v4] g (f7_compare v0 v1 v2 v3 v4 g) := by
  refine k_method (own := RX7) (ini := false) (L1 := [some (.inr (7, some v0)), some (.inr (20, v1)), some (.inl v2), some (.inl v3), some (.inl v4), none, none, none, none, none]) (by decide +kernel) rfl (fun h => by cases h) (Nat.le_of_ble_eq_true rfl) rfl ?_
  unfold f7_compare
  refine k_iloadn (j := 2) dX7_compare_0 rfl rfl ?_
  refine k_iloadn (j := 3) dX7_compare_1 rfl rfl ?_
  refine k_iadd dX7_compare_2 ?_
  refine k_istl (L2 := fun z25 => [some (.inr (7, some v0)), some (.inr (20, v1)), some (.inl v2), some (.inl v3), some (.inl v4), some (.inl z25), none, none, none, none]) dX7_compare_3 (by decide) (fun _ => rfl) (fun z25 => ?_)
  refine k_iloadn (j := 2) dX7_compare_5 rfl rfl ?_
  refine k_iflt (tgt := 38) dX7_compare_6 (by decide) (fun _ => ?_) (fun _ => ?_)
  · exact k_return rfl dX7_compare_38
  refine k_iloadn (j := 3) dX7_compare_9 rfl rfl ?_
  refine k_iconst (v := (1 : Int32)) dX7_compare_10 rfl ?_
  refine k_icmplt (tgt := 38) dX7_compare_11 (by decide) (fun _ => ?_) (fun _ => ?_)
  · exact k_return rfl dX7_compare_38
  refine k_iload dX7_compare_14 rfl ?_
  refine k_iload dX7_compare_16 rfl ?_
  refine k_icmpgt (tgt := 38) dX7_compare_18 (by decide) (fun _ => ?_) (fun _ => ?_)
  · exact k_return rfl dX7_compare_38
  refine k_iload dX7_compare_21 rfl ?_
  refine k_aloadn (j := 0) dX7_compare_23 rfl rfl ?_
  refine k_getr fg_7_9 rfl rfl dX7_compare_24 (fun x26 => ?_)
  rcases x26 with _ | a27
  · exact k_ocn
  refine k_ocs ?_
  refine k_alen dX7_compare_27 (by decide) ?_
  refine k_icmpge (tgt := 38) dX7_compare_28 (by decide) (fun _ => ?_) (fun _ => ?_)
  · exact k_return rfl dX7_compare_38
  refine k_iload dX7_compare_31 rfl ?_
  refine k_aloadn (j := 1) dX7_compare_33 rfl rfl ?_
  rcases v1 with _ | a28
  · exact k_ocn
  refine k_ocs ?_
  refine k_alen dX7_compare_34 (by decide) ?_
  refine k_icmple (tgt := 39) dX7_compare_35 (by decide) (fun _ => ?_) (fun _ => ?_)
  · refine k_iload dX7_compare_39 rfl ?_
    refine k_iload dX7_compare_41 rfl ?_
    refine k_icmpge (tgt := 50) dX7_compare_43 (by decide) (fun _ => ?_) (fun _ => ?_)
    · refine k_iconst (v := (0 : Int32)) dX7_compare_50 rfl ?_
      refine k_msk (L' := [some (.inr (7, some v0)), some (.inr (20, some a28)), some (.inl v2), some (.inl v3), none, some (.inl z25), none, none, none, none]) [true, true, true, true, false, true, true, true, true, true] rfl ?_
      exact t7_compare_b51 v0 (some a28) v2 v3 z25 (0 : Int32) g
    refine k_iconst (v := (1 : Int32)) dX7_compare_46 rfl ?_
    refine k_goto (tgt := 51) dX7_compare_47 (by decide) ?_
    refine k_msk (L' := [some (.inr (7, some v0)), some (.inr (20, some a28)), some (.inl v2), some (.inl v3), none, some (.inl z25), none, none, none, none]) [true, true, true, true, false, true, true, true, true, true] rfl ?_
    exact t7_compare_b51 v0 (some a28) v2 v3 z25 (1 : Int32) g
  exact k_return rfl dX7_compare_38
theorem dX7_chooseFirstItem_0 : decode cX7_chooseFirstItem 0 = .ok (.aload_n 0, 1) := by decide +kernel
theorem dX7_chooseFirstItem_1 : decode cX7_chooseFirstItem 1 = .ok (.aload_n 1, 1) := by decide +kernel
theorem dX7_chooseFirstItem_2 : decode cX7_chooseFirstItem 2 = .ok (.iload_n 2, 1) := by decide +kernel
theorem dX7_chooseFirstItem_3 : decode cX7_chooseFirstItem 3 = .ok (.iconst 1, 1) := by decide +kernel
theorem dX7_chooseFirstItem_4 : decode cX7_chooseFirstItem 4 = .ok (.iload 4, 2) := by decide +kernel
theorem dX7_chooseFirstItem_6 : decode cX7_chooseFirstItem 6 = .ok (.invokevirtual 46, 3) := by decide +kernel
theorem dX7_chooseFirstItem_9 : decode cX7_chooseFirstItem 9 = .ok (.iload_n 3, 1) := by decide +kernel
theorem dX7_chooseFirstItem_10 : decode cX7_chooseFirstItem 10 = .ok (.iconst 2, 1) := by decide +kernel
theorem dX7_chooseFirstItem_11 : decode cX7_chooseFirstItem 11 = .ok (.if_icmp .le 14, 3) := by decide +kernel
theorem dX7_chooseFirstItem_14 : decode cX7_chooseFirstItem 14 = .ok (.aload_n 0, 1) := by decide +kernel
theorem dX7_chooseFirstItem_15 : decode cX7_chooseFirstItem 15 = .ok (.aload_n 1, 1) := by decide +kernel
theorem dX7_chooseFirstItem_16 : decode cX7_chooseFirstItem 16 = .ok (.iload_n 2, 1) := by decide +kernel
theorem dX7_chooseFirstItem_17 : decode cX7_chooseFirstItem 17 = .ok (.iload_n 3, 1) := by decide +kernel
theorem dX7_chooseFirstItem_18 : decode cX7_chooseFirstItem 18 = .ok (.iconst 1, 1) := by decide +kernel
theorem dX7_chooseFirstItem_19 : decode cX7_chooseFirstItem 19 = .ok (.isub, 1) := by decide +kernel
theorem dX7_chooseFirstItem_20 : decode cX7_chooseFirstItem 20 = .ok (.iload 4, 2) := by decide +kernel
theorem dX7_chooseFirstItem_22 : decode cX7_chooseFirstItem 22 = .ok (.invokevirtual 46, 3) := by decide +kernel
theorem dX7_chooseFirstItem_25 : decode cX7_chooseFirstItem 25 = .ok (.iload_n 3, 1) := by decide +kernel
theorem dX7_chooseFirstItem_26 : decode cX7_chooseFirstItem 26 = .ok (.iconst 1, 1) := by decide +kernel
theorem dX7_chooseFirstItem_27 : decode cX7_chooseFirstItem 27 = .ok (.if_icmp .le 12, 3) := by decide +kernel
theorem dX7_chooseFirstItem_30 : decode cX7_chooseFirstItem 30 = .ok (.aload_n 0, 1) := by decide +kernel
theorem dX7_chooseFirstItem_31 : decode cX7_chooseFirstItem 31 = .ok (.aload_n 1, 1) := by decide +kernel
theorem dX7_chooseFirstItem_32 : decode cX7_chooseFirstItem 32 = .ok (.iload_n 2, 1) := by decide +kernel
theorem dX7_chooseFirstItem_33 : decode cX7_chooseFirstItem 33 = .ok (.iload_n 3, 1) := by decide +kernel
theorem dX7_chooseFirstItem_34 : decode cX7_chooseFirstItem 34 = .ok (.iload 4, 2) := by decide +kernel
theorem dX7_chooseFirstItem_36 : decode cX7_chooseFirstItem 36 = .ok (.invokevirtual 46, 3) := by decide +kernel
theorem dX7_chooseFirstItem_39 : decode cX7_chooseFirstItem 39 = .ok (.return_, 1) := by decide +kernel
def f7_chooseFirstItem_b25 (v0 : Nat) (v1 : Option Nat) (v2 : Int32) (v3 : Int32) (v4 : Int32) (g : GS_) : Option (Unit × GS_) :=
  if v3 ≤ (1 : Int32) then some ((), g) else bd_ (f7_compare v0 v1 v2 v3 v4 g) fun _ g1 => some ((), g1)
theorem t7_chooseFirstItem_b25 (v0 : Nat) (v1 : Option Nat) (v2 : Int32) (v3 : Int32) (v4 : Int32) (g : GS_) : K_ RX7 cX7_chooseFirstItem 5 none 4 86 false EV_ 25 [some (.inr (7, some v0)), some (.inr (20, v1)), some (.inl v2), some (.inl v3), some (.inl v4)] [] g (f7_chooseFirstItem_b25 v0 v1 v2 v3 v4 g) := by
  unfold f7_chooseFirstItem_b25
  refine k_iloadn (j := 3) dX7_chooseFirstItem_25 rfl rfl ?_
  refine k_iconst (v := (1 : Int32)) dX7_chooseFirstItem_26 rfl ?_
  refine k_icmple (tgt := 39) dX7_chooseFirstItem_27 (by decide) (fun _ => ?_) (fun _ => ?_)
  · exact k_return rfl dX7_chooseFirstItem_39
  refine k_aloadn (j := 0) dX7_chooseFirstItem_30 rfl rfl ?_
  refine k_aloadn (j := 1) dX7_chooseFirstItem_31 rfl rfl ?_
  refine k_iloadn (j := 2) dX7_chooseFirstItem_32 rfl rfl ?_
  refine k_iloadn (j := 3) dX7_chooseFirstItem_33 rfl rfl ?_
  refine k_iload dX7_chooseFirstItem_34 rfl ?_
  refine k_callVv [.inr (20, v1), .inl v2, .inl v3, .inl v4] (t7_compare v0 v1 v2 v3 v4 g) cw_cX7_compare (Or.inl ml_7_46) rfl rfl (by decide) (by decide) (Nat.le_of_ble_eq_true rfl) dX7_chooseFirstItem_36 (fun _ g1 => ?_)
  exact k_return rfl dX7_chooseFirstItem_39
def f7_chooseFirstItem (v0 : Nat) (v1 : Option Nat) (v2 : Int32) (v3 : Int32) (v4 : Int32) (g : GS_) : Option (Unit × GS_) :=
  bd_ (f7_compare v0 v1 v2 (1 : Int32) v4 g) fun _ g2 => if v3 ≤ (2 : Int32) then f7_chooseFirstItem_b25 v0 v1 v2 v3 v4 g2 else bd_ (f7_compare v0 v1 v2 (v3 - (1 : Int32)) v4 g2) fun _ g3 => f7_chooseFirstItem_b25 v0 v1 v2 v3 v4 g3
theorem t7_chooseFirstItem (v0 : Nat) (v1 : Option Nat) (v2 : Int32) (v3 : Int32) (v4 : Int32) (g : GS_) : Cn_ yX7_chooseFirstItem cX7_chooseFirstItem 5 none 4 86 EV_ [.inr (7, some v0), .inr (20, v1), .inl v2, .inl v3, .inl v4] g (f7_chooseFirstItem v0 v1 v2 v3 v4 g) := by
  refine k_method (own := RX7) (ini := false) (L1 := [some (.inr (7, some v0)), some (.inr (20, v1)), some (.inl v2), some (.inl v3), some (.inl v4)]) (by decide +kernel) rfl (fun h => by cases h) (Nat.le_of_ble_eq_true rfl) rfl ?_
  unfold f7_chooseFirstItem
  refine k_aloadn (j := 0) dX7_chooseFirstItem_0 rfl rfl ?_
  refine k_aloadn (j := 1) dX7_chooseFirstItem_1 rfl rfl ?_
  refine k_iloadn (j := 2) dX7_chooseFirstItem_2 rfl rfl ?_
  refine k_iconst (v := (1 : Int32)) dX7_chooseFirstItem_3 rfl ?_
  refine k_iload dX7_chooseFirstItem_4 rfl ?_
  refine k_callVv [.inr (20, v1), .inl v2, .inl (1 : Int32), .inl v4] (t7_compare v0 v1 v2 (1 : Int32) v4 g) cw_cX7_compare (Or.inl ml_7_46) rfl rfl (by decide) (by decide) (Nat.le_of_ble_eq_true rfl) dX7_chooseFirstItem_6 (fun _ g2 => ?_)
  refine k_iloadn (j := 3) dX7_chooseFirstItem_9 rfl rfl ?_
  refine k_iconst (v := (2 : Int32)) dX7_chooseFirstItem_10 rfl ?_
  refine k_icmple (tgt := 25) dX7_chooseFirstItem_11 (by decide) (fun _ => ?_) (fun _ => ?_)
  · exact t7_chooseFirstItem_b25 v0 v1 v2 v3 v4 g2
  refine k_aloadn (j := 0) dX7_chooseFirstItem_14 rfl rfl ?_
  refine k_aloadn (j := 1) dX7_chooseFirstItem_15 rfl rfl ?_
  refine k_iloadn (j := 2) dX7_chooseFirstItem_16 rfl rfl ?_
  refine k_iloadn (j := 3) dX7_chooseFirstItem_17 rfl rfl ?_
  refine k_iconst (v := (1 : Int32)) dX7_chooseFirstItem_18 rfl ?_
  refine k_isub dX7_chooseFirstItem_19 ?_
  refine k_iload dX7_chooseFirstItem_20 rfl ?_
  refine k_callVv [.inr (20, v1), .inl v2, .inl (v3 - (1 : Int32)), .inl v4] (t7_compare v0 v1 v2 (v3 - (1 : Int32)) v4 g2) cw_cX7_compare (Or.inl ml_7_46) rfl rfl (by decide) (by decide) (Nat.le_of_ble_eq_true rfl) dX7_chooseFirstItem_22 (fun _ g3 => ?_)
  exact t7_chooseFirstItem_b25 v0 v1 v2 v3 v4 g3
theorem dX7_describe_0 : decode cX7_describe 0 = .ok (.aload_n 1, 1) := by decide +kernel
theorem dX7_describe_1 : decode cX7_describe 1 = .ok (.arraylength, 1) := by decide +kernel
theorem dX7_describe_2 : decode cX7_describe 2 = .ok (.sipush 400, 3) := by decide +kernel
theorem dX7_describe_5 : decode cX7_describe 5 = .ok (.invokestatic 28, 3) := by decide +kernel
theorem dX7_describe_8 : decode cX7_describe 8 = .ok (.istore_n 2, 1) := by decide +kernel
theorem dX7_describe_9 : decode cX7_describe 9 = .ok (.aload_n 0, 1) := by decide +kernel
theorem dX7_describe_10 : decode cX7_describe 10 = .ok (.getfield 9, 3) := by decide +kernel
theorem dX7_describe_13 : decode cX7_describe 13 = .ok (.iload_n 2, 1) := by decide +kernel
theorem dX7_describe_14 : decode cX7_describe 14 = .ok (.iconst 0, 1) := by decide +kernel
theorem dX7_describe_15 : decode cX7_describe 15 = .ok (.iastore, 1) := by decide +kernel
theorem dX7_describe_16 : decode cX7_describe 16 = .ok (.aload_n 0, 1) := by decide +kernel
theorem dX7_describe_17 : decode cX7_describe 17 = .ok (.getfield 15, 3) := by decide +kernel
theorem dX7_describe_20 : decode cX7_describe 20 = .ok (.iload_n 2, 1) := by decide +kernel
theorem dX7_describe_21 : decode cX7_describe 21 = .ok (.iconst 0, 1) := by decide +kernel
theorem dX7_describe_22 : decode cX7_describe 22 = .ok (.iastore, 1) := by decide +kernel
theorem dX7_describe_23 : decode cX7_describe 23 = .ok (.aload_n 0, 1) := by decide +kernel
theorem dX7_describe_24 : decode cX7_describe 24 = .ok (.getfield 18, 3) := by decide +kernel
theorem dX7_describe_27 : decode cX7_describe 27 = .ok (.iload_n 2, 1) := by decide +kernel
theorem dX7_describe_28 : decode cX7_describe 28 = .ok (.iconst 0, 1) := by decide +kernel
theorem dX7_describe_29 : decode cX7_describe 29 = .ok (.iastore, 1) := by decide +kernel
theorem dX7_describe_30 : decode cX7_describe 30 = .ok (.iconst 0, 1) := by decide +kernel
theorem dX7_describe_31 : decode cX7_describe 31 = .ok (.istore_n 3, 1) := by decide +kernel
theorem dX7_describe_32 : decode cX7_describe 32 = .ok (.iconst 0, 1) := by decide +kernel
theorem dX7_describe_33 : decode cX7_describe 33 = .ok (.istore 4, 2) := by decide +kernel
theorem dX7_describe_35 : decode cX7_describe 35 = .ok (.iload_n 2, 1) := by decide +kernel
theorem dX7_describe_36 : decode cX7_describe 36 = .ok (.iconst 1, 1) := by decide +kernel
theorem dX7_describe_37 : decode cX7_describe 37 = .ok (.isub, 1) := by decide +kernel
theorem dX7_describe_38 : decode cX7_describe 38 = .ok (.istore 5, 2) := by decide +kernel
theorem dX7_describe_40 : decode cX7_describe 40 = .ok (.iload 5, 2) := by decide +kernel
theorem dX7_describe_42 : decode cX7_describe 42 = .ok (.ifCond .lt 103, 3) := by decide +kernel
theorem dX7_describe_45 : decode cX7_describe 45 = .ok (.iload 5, 2) := by decide +kernel
theorem dX7_describe_47 : decode cX7_describe 47 = .ok (.iconst 1, 1) := by decide +kernel
theorem dX7_describe_48 : decode cX7_describe 48 = .ok (.iadd, 1) := by decide +kernel
theorem dX7_describe_49 : decode cX7_describe 49 = .ok (.iload_n 2, 1) := by decide +kernel
theorem dX7_describe_50 : decode cX7_describe 50 = .ok (.if_icmp .ge 17, 3) := by decide +kernel
theorem dX7_describe_53 : decode cX7_describe 53 = .ok (.aload_n 1, 1) := by decide +kernel
theorem dX7_describe_54 : decode cX7_describe 54 = .ok (.iload 5, 2) := by decide +kernel
theorem dX7_describe_56 : decode cX7_describe 56 = .ok (.iconst 1, 1) := by decide +kernel
theorem dX7_describe_57 : decode cX7_describe 57 = .ok (.iadd, 1) := by decide +kernel
theorem dX7_describe_58 : decode cX7_describe 58 = .ok (.iaload, 1) := by decide +kernel
theorem dX7_describe_59 : decode cX7_describe 59 = .ok (.aload_n 1, 1) := by decide +kernel
theorem dX7_describe_60 : decode cX7_describe 60 = .ok (.iload 5, 2) := by decide +kernel
theorem dX7_describe_62 : decode cX7_describe 62 = .ok (.iaload, 1) := by decide +kernel
theorem dX7_describe_63 : decode cX7_describe 63 = .ok (.isub, 1) := by decide +kernel
theorem dX7_describe_64 : decode cX7_describe 64 = .ok (.goto 4, 3) := by decide +kernel
theorem dX7_describe_67 : decode cX7_describe 67 = .ok (.iconst 0, 1) := by decide +kernel
theorem dX7_describe_68 : decode cX7_describe 68 = .ok (.istore 6, 2) := by decide +kernel
theorem dX7_describe_70 : decode cX7_describe 70 = .ok (.iload 6, 2) := by decide +kernel
theorem dX7_describe_72 : decode cX7_describe 72 = .ok (.iconst 1, 1) := by decide +kernel
theorem dX7_describe_73 : decode cX7_describe 73 = .ok (.if_icmp .eq 22, 3) := by decide +kernel
theorem dX7_describe_76 : decode cX7_describe 76 = .ok (.iload 6, 2) := by decide +kernel
theorem dX7_describe_78 : decode cX7_describe 78 = .ok (.iconst (-1), 1) := by decide +kernel
theorem dX7_describe_79 : decode cX7_describe 79 = .ok (.if_icmp .eq 16, 3) := by decide +kernel
theorem dX7_describe_82 : decode cX7_describe 82 = .ok (.iload 6, 2) := by decide +kernel
theorem dX7_describe_84 : decode cX7_describe 84 = .ok (.iconst 2, 1) := by decide +kernel
theorem dX7_describe_85 : decode cX7_describe 85 = .ok (.if_icmp .eq 10, 3) := by decide +kernel
theorem dX7_describe_88 : decode cX7_describe 88 = .ok (.iload 6, 2) := by decide +kernel
theorem dX7_describe_90 : decode cX7_describe 90 = .ok (.bipush (-2), 2) := by decide +kernel
theorem dX7_describe_92 : decode cX7_describe 92 = .ok (.if_icmp .ne 7, 3) := by decide +kernel
theorem dX7_describe_95 : decode cX7_describe 95 = .ok (.iconst 1, 1) := by decide +kernel
theorem dX7_describe_96 : decode cX7_describe 96 = .ok (.goto 4, 3) := by decide +kernel
theorem dX7_describe_99 : decode cX7_describe 99 = .ok (.iconst 0, 1) := by decide +kernel
theorem dX7_describe_100 : decode cX7_describe 100 = .ok (.istore 7, 2) := by decide +kernel
theorem dX7_describe_102 : decode cX7_describe 102 = .ok (.iload 7, 2) := by decide +kernel
theorem dX7_describe_104 : decode cX7_describe 104 = .ok (.ifCond .ne 7, 3) := by decide +kernel
theorem dX7_describe_107 : decode cX7_describe 107 = .ok (.iconst 1, 1) := by decide +kernel
theorem dX7_describe_108 : decode cX7_describe 108 = .ok (.goto 17, 3) := by decide +kernel
theorem dX7_describe_111 : decode cX7_describe 111 = .ok (.iload 6, 2) := by decide +kernel
theorem dX7_describe_113 : decode cX7_describe 113 = .ok (.iload 4, 2) := by decide +kernel
theorem dX7_describe_115 : decode cX7_describe 115 = .ok (.if_icmp .ne 9, 3) := by decide +kernel
theorem dX7_describe_118 : decode cX7_describe 118 = .ok (.iload_n 3, 1) := by decide +kernel
theorem dX7_describe_119 : decode cX7_describe 119 = .ok (.iconst 1, 1) := by decide +kernel
theorem dX7_describe_120 : decode cX7_describe 120 = .ok (.iadd, 1) := by decide +kernel
theorem dX7_describe_121 : decode cX7_describe 121 = .ok (.goto 4, 3) := by decide +kernel
theorem dX7_describe_124 : decode cX7_describe 124 = .ok (.iconst 2, 1) := by decide +kernel
theorem dX7_describe_125 : decode cX7_describe 125 = .ok (.istore_n 3, 1) := by decide +kernel
theorem dX7_describe_126 : decode cX7_describe 126 = .ok (.iload 6, 2) := by decide +kernel
theorem dX7_describe_128 : decode cX7_describe 128 = .ok (.istore 4, 2) := by decide +kernel
theorem dX7_describe_130 : decode cX7_describe 130 = .ok (.aload_n 0, 1) := by decide +kernel
theorem dX7_describe_131 : decode cX7_describe 131 = .ok (.aload_n 1, 1) := by decide +kernel
theorem dX7_describe_132 : decode cX7_describe 132 = .ok (.iload 5, 2) := by decide +kernel
theorem dX7_describe_134 : decode cX7_describe 134 = .ok (.iload_n 3, 1) := by decide +kernel
theorem dX7_describe_135 : decode cX7_describe 135 = .ok (.iload_n 2, 1) := by decide +kernel
theorem dX7_describe_136 : decode cX7_describe 136 = .ok (.invokevirtual 34, 3) := by decide +kernel
theorem dX7_describe_139 : decode cX7_describe 139 = .ok (.iinc 5 (-1), 3) := by decide +kernel
theorem dX7_describe_142 : decode cX7_describe 142 = .ok (.goto (-102), 3) := by decide +kernel
theorem dX7_describe_145 : decode cX7_describe 145 = .ok (.aload_n 0, 1) := by decide +kernel
theorem dX7_describe_146 : decode cX7_describe 146 = .ok (.aload_n 1, 1) := by decide +kernel
theorem dX7_describe_147 : decode cX7_describe 147 = .ok (.iload_n 2, 1) := by decide +kernel
theorem dX7_describe_148 : decode cX7_describe 148 = .ok (.invokevirtual 38, 3) := by decide +kernel
theorem dX7_describe_151 : decode cX7_describe 151 = .ok (.return_, 1) := by decide +kernel
def f7_describe_b125 (c40 : Nat → (Option Nat) → Int32 → Int32 → Int32 → Int32 → GS_ → Option (Unit × GS_)) (v0 : Nat) (v1 : Option Nat) (v2 : Int32) (v5 : Int32) (v6 : Int32) (s0 : Int32) (g : GS_) : Option (Unit × GS_) :=
  bd_ (f7_chooseFirstItem v0 v1 v5 s0 v2 g) fun _ g1 => c40 v0 v1 v2 s0 v6 (v5 + (-1 : Int32)) g1
theorem t7_describe_b125 (c40 : Nat → (Option Nat) → Int32 → Int32 → Int32 → Int32 → GS_ → Option (Unit × GS_)) (h40 : ∀ (v0 : Nat) (v1 : Option Nat) (v2 : Int32) (v3 : Int32) (v4 : Int32) (v5 : Int32) (g : GS_), K_ RX7 cX7_describe 8 none 5 110 false EV_ 40 [some (.inr (7, some v0)), some (.inr (20, v1)), some (.inl v2), some (.inl v3), some (.inl v4), some (.inl v5), none, none] [] g (c40 v0 v1 v2 v3 v4 v5 g)) (v0 : Nat) (v1 : Option Nat) (v2 : Int32) (v5 : Int32) (v6 : Int32) (s0 : Int32) (g : GS_) : K_ RX7 cX7_describe 8 none 5 110 false EV_ 125 [some (.inr (7, some v0)), some (.inr (20, v1)), some (.inl v2), none, none, some (.inl v5), some (.inl v6), none] [.inl s0] g (f7_describe_b125 c40 v0 v1 v2 v5 v6 s0 g) := by
  unfold f7_describe_b125
  refine k_istn (j := 3) (L' := [some (.inr (7, some v0)), some (.inr (20, v1)), some (.inl v2), some (.inl s0), none, some (.inl v5), some (.inl v6), none]) dX7_describe_125 rfl (by decide) rfl ?_
  refine k_iload dX7_describe_126 rfl ?_
  refine k_ist (L' := [some (.inr (7, some v0)), some (.inr (20, v1)), some (.inl v2), some (.inl s0), some (.inl v6), some (.inl v5), some (.inl v6), none]) dX7_describe_128 (by decide) rfl ?_
  refine k_aloadn (j := 0) dX7_describe_130 rfl rfl ?_
  refine k_aloadn (j := 1) dX7_describe_131 rfl rfl ?_
  refine k_iload dX7_describe_132 rfl ?_
  refine k_iloadn (j := 3) dX7_describe_134 rfl rfl ?_
  refine k_iloadn (j := 2) dX7_describe_135 rfl rfl ?_
  refine k_callVv [.inr (20, v1), .inl v5, .inl s0, .inl v2] (t7_chooseFirstItem v0 v1 v5 s0 v2 g) cw_cX7_chooseFirstItem (Or.inl ml_7_34) rfl rfl (by decide) (by decide) (Nat.le_of_ble_eq_true rfl) dX7_describe_136 (fun _ g1 => ?_)
  refine k_iinc (v := (v5 + (-1 : Int32))) (L' := [some (.inr (7, some v0)), some (.inr (20, v1)), some (.inl v2), some (.inl s0), some (.inl v6), some (.inl (v5 + (-1 : Int32))), some (.inl v6), none]) dX7_describe_139 rfl rfl (by decide) rfl ?_
  refine k_goto (tgt := 40) dX7_describe_142 (by decide) ?_
  refine k_msk (L' := [some (.inr (7, some v0)), some (.inr (20, v1)), some (.inl v2), some (.inl s0), some (.inl v6), some (.inl (v5 + (-1 : Int32))), none, none]) [true, true, true, true, true, true, false, true] rfl ?_
  exact h40 v0 v1 v2 s0 v6 (v5 + (-1 : Int32)) g1
def f7_describe_b100 (c40 : Nat → (Option Nat) → Int32 → Int32 → Int32 → Int32 → GS_ → Option (Unit × GS_)) (v0 : Nat) (v1 : Option Nat) (v2 : Int32) (v3 : Int32) (v4 : Int32) (v5 : Int32) (v6 : Int32) (s0 : Int32) (g : GS_) : Option (Unit × GS_) :=
  if s0 = 0 then f7_describe_b125 c40 v0 v1 v2 v5 v6 (1 : Int32) g else if v6 = v4 then f7_describe_b125 c40 v0 v1 v2 v5 v6 (v3 + (1 : Int32)) g else f7_describe_b125 c40 v0 v1 v2 v5 v6 (2 : Int32) g
theorem t7_describe_b100 (c40 : Nat → (Option Nat) → Int32 → Int32 → Int32 → Int32 → GS_ → Option (Unit × GS_)) (h40 : ∀ (v0 : Nat) (v1 : Option Nat) (v2 : Int32) (v3 : Int32) (v4 : Int32) (v5 : Int32) (g : GS_), K_ RX7 cX7_describe 8 none 5 110 false EV_ 40 [some (.inr (7, some v0)), some (.inr (20, v1)), some (.inl v2), some (.inl v3), some (.inl v4), some (.inl v5), none, none] [] g (c40 v0 v1 v2 v3 v4 v5 g)) (v0 : Nat) (v1 : Option Nat) (v2 : Int32) (v3 : Int32) (v4 : Int32) (v5 : Int32) (v6 : Int32) (s0 : Int32) (g : GS_) : K_ RX7 cX7_describe 8 none 5 110 false EV_ 100 [some (.inr (7, some v0)), some (.inr (20, v1)), some (.inl v2), some (.inl v3), some (.inl v4), some (.inl v5), some (.inl v6), none] [.inl s0] g (f7_describe_b100 c40 v0 v1 v2 v3 v4 v5 v6 s0 g) := by
  unfold f7_describe_b100
  refine k_ist (L' := [some (.inr (7, some v0)), some (.inr (20, v1)), some (.inl v2), some (.inl v3), some (.inl v4), some (.inl v5), some (.inl v6), some (.inl s0)]) dX7_describe_100 (by decide) rfl ?_
  refine k_iload dX7_describe_102 rfl ?_
  refine k_ifne (tgt := 111) dX7_describe_104 (by decide) (fun _ => ?_) (fun _ => ?_)
  · refine k_iconst (v := (1 : Int32)) dX7_describe_107 rfl ?_
    refine k_goto (tgt := 125) dX7_describe_108 (by decide) ?_
    refine k_msk (L' := [some (.inr (7, some v0)), some (.inr (20, v1)), some (.inl v2), none, none, some (.inl v5), some (.inl v6), none]) [true, true, true, false, false, true, true, false] rfl ?_
    exact t7_describe_b125 c40 h40 v0 v1 v2 v5 v6 (1 : Int32) g
  refine k_iload dX7_describe_111 rfl ?_
  refine k_iload dX7_describe_113 rfl ?_
  refine k_icmpne (tgt := 124) dX7_describe_115 (by decide) (fun _ => ?_) (fun _ => ?_)
  · refine k_iloadn (j := 3) dX7_describe_118 rfl rfl ?_
    refine k_iconst (v := (1 : Int32)) dX7_describe_119 rfl ?_
    refine k_iadd dX7_describe_120 ?_
    refine k_goto (tgt := 125) dX7_describe_121 (by decide) ?_
    refine k_msk (L' := [some (.inr (7, some v0)), some (.inr (20, v1)), some (.inl v2), none, none, some (.inl v5), some (.inl v6), none]) [true, true, true, false, false, true, true, false] rfl ?_
    exact t7_describe_b125 c40 h40 v0 v1 v2 v5 v6 (v3 + (1 : Int32)) g
  refine k_iconst (v := (2 : Int32)) dX7_describe_124 rfl ?_
  refine k_msk (L' := [some (.inr (7, some v0)), some (.inr (20, v1)), some (.inl v2), none, none, some (.inl v5), some (.inl v6), none]) [true, true, true, false, false, true, true, false] rfl ?_
  exact t7_describe_b125 c40 h40 v0 v1 v2 v5 v6 (2 : Int32) g
def f7_describe_b95 (c40 : Nat → (Option Nat) → Int32 → Int32 → Int32 → Int32 → GS_ → Option (Unit × GS_)) (v0 : Nat) (v1 : Option Nat) (v2 : Int32) (v3 : Int32) (v4 : Int32) (v5 : Int32) (v6 : Int32) (g : GS_) : Option (Unit × GS_) :=
  f7_describe_b100 c40 v0 v1 v2 v3 v4 v5 v6 (1 : Int32) g
theorem t7_describe_b95 (c40 : Nat → (Option Nat) → Int32 → Int32 → Int32 → Int32 → GS_ → Option (Unit × GS_)) (h40 : ∀ (v0 : Nat) (v1 : Option Nat) (v2 : Int32) (v3 : Int32) (v4 : Int32) (v5 : Int32) (g : GS_), K_ RX7 cX7_describe 8 none 5 110 false EV_ 40 [some (.inr (7, some v0)), some (.inr (20, v1)), some (.inl v2), some (.inl v3), some (.inl v4), some (.inl v5), none, none] [] g (c40 v0 v1 v2 v3 v4 v5 g)) (v0 : Nat) (v1 : Option Nat) (v2 : Int32) (v3 : Int32) (v4 : Int32) (v5 : Int32) (v6 : Int32) (g : GS_) : K_ RX7 cX7_describe 8 none 5 110 false EV_ 95 [some (.inr (7, some v0)), some (.inr (20, v1)), some (.inl v2), some (.inl v3), some (.inl v4), some (.inl v5), some (.inl v6), none] [] g (f7_describe_b95 c40 v0 v1 v2 v3 v4 v5 v6 g) := by
  unfold f7_describe_b95
  refine k_iconst (v := (1 : Int32)) dX7_describe_95 rfl ?_
  refine k_goto (tgt := 100) dX7_describe_96 (by decide) ?_
  exact t7_describe_b100 c40 h40 v0 v1 v2 v3 v4 v5 v6 (1 : Int32) g
def f7_describe_b68 (c40 : Nat → (Option Nat) → Int32 → Int32 → Int32 → Int32 → GS_ → Option (Unit × GS_)) (v0 : Nat) (v1 : Option Nat) (v2 : Int32) (v3 : Int32) (v4 : Int32) (v5 : Int32) (s0 : Int32) (g : GS_) : Option (Unit × GS_) :=
  if s0 = (1 : Int32) then f7_describe_b95 c40 v0 v1 v2 v3 v4 v5 s0 g else if s0 = (-1 : Int32) then f7_describe_b95 c40 v0 v1 v2 v3 v4 v5 s0 g else if s0 = (2 : Int32) then f7_describe_b95 c40 v0 v1 v2 v3 v4 v5 s0 g else if s0 = (-2 : Int32) then f7_describe_b95 c40 v0 v1 v2 v3 v4 v5 s0 g else f7_describe_b100 c40 v0 v1 v2 v3 v4 v5 s0 (0 : Int32) g
theorem t7_describe_b68 (c40 : Nat → (Option Nat) → Int32 → Int32 → Int32 → Int32 → GS_ → Option (Unit × GS_)) (h40 : ∀ (v0 : Nat) (v1 : Option Nat) (v2 : Int32) (v3 : Int32) (v4 : Int32) (v5 : Int32) (g : GS_), K_ RX7 cX7_describe 8 none 5 110 false EV_ 40 [some (.inr (7, some v0)), some (.inr (20, v1)), some (.inl v2), some (.inl v3), some (.inl v4), some (.inl v5), none, none] [] g (c40 v0 v1 v2 v3 v4 v5 g)) (v0 : Nat) (v1 : Option Nat) (v2 : Int32) (v3 : Int32) (v4 : Int32) (v5 : Int32) (s0 : Int32) (g : GS_) : K_ RX7 cX7_describe 8 none 5 110 false EV_ 68 [some (.inr (7, some v0)), some (.inr (20, v1)), some (.inl v2), some (.inl v3), some (.inl v4), some (.inl v5), none, none] [.inl s0] g (f7_describe_b68 c40 v0 v1 v2 v3 v4 v5 s0 g) := by
  unfold f7_describe_b68
  refine k_ist (L' := [some (.inr (7, some v0)), some (.inr (20, v1)), some (.inl v2), some (.inl v3), some (.inl v4), some (.inl v5), some (.inl s0), none]) dX7_describe_68 (by decide) rfl ?_
  refine k_iload dX7_describe_70 rfl ?_
  refine k_iconst (v := (1 : Int32)) dX7_describe_72 rfl ?_
  refine k_icmpeq (tgt := 95) dX7_describe_73 (by decide) (fun _ => ?_) (fun _ => ?_)
  · exact t7_describe_b95 c40 h40 v0 v1 v2 v3 v4 v5 s0 g
  refine k_iload dX7_describe_76 rfl ?_
  refine k_iconst (v := (-1 : Int32)) dX7_describe_78 rfl ?_
  refine k_icmpeq (tgt := 95) dX7_describe_79 (by decide) (fun _ => ?_) (fun _ => ?_)
  · exact t7_describe_b95 c40 h40 v0 v1 v2 v3 v4 v5 s0 g
  refine k_iload dX7_describe_82 rfl ?_
  refine k_iconst (v := (2 : Int32)) dX7_describe_84 rfl ?_
  refine k_icmpeq (tgt := 95) dX7_describe_85 (by decide) (fun _ => ?_) (fun _ => ?_)
  · exact t7_describe_b95 c40 h40 v0 v1 v2 v3 v4 v5 s0 g
  refine k_iload dX7_describe_88 rfl ?_
  refine k_bipush (v := (-2 : Int32)) dX7_describe_90 rfl ?_
  refine k_icmpne (tgt := 99) dX7_describe_92 (by decide) (fun _ => ?_) (fun _ => ?_)
  · exact t7_describe_b95 c40 h40 v0 v1 v2 v3 v4 v5 s0 g
  refine k_iconst (v := (0 : Int32)) dX7_describe_99 rfl ?_
  exact t7_describe_b100 c40 h40 v0 v1 v2 v3 v4 v5 s0 (0 : Int32) g
def f7_describe_b40 : Nat → Nat → (Option Nat) → Int32 → Int32 → Int32 → Int32 → GS_ → Option (Unit × GS_)
  | 0, _, _, _, _, _, _, _ => none
  | n + 1, v0, v1, v2, v3, v4, v5, g =>
    if v5 < 0 then bd_ (f7_write v0 v1 v2 g) fun _ g2 => some ((), g2) else if v2 ≤ (v5 + (1 : Int32)) then f7_describe_b68 (f7_describe_b40 n) v0 v1 v2 v3 v4 v5 (0 : Int32) g else oc_ v1 none fun a3 => if inb (v5 + (1 : Int32)) (gln g 20 a3) then if inb v5 (gln g 20 a3) then f7_describe_b68 (f7_describe_b40 n) v0 (some a3) v2 v3 v4 v5 ((gai g 20 a3 (v5 + (1 : Int32)).toInt.toNat) - (gai g 20 a3 v5.toInt.toNat)) g else none else none
theorem t7_describe_b40 : ∀ (n : Nat) (v0 : Nat) (v1 : Option Nat) (v2 : Int32) (v3 : Int32) (v4 : Int32) (v5 : Int32) (g : GS_), K_ RX7 cX7_describe 8 none 5 110 false EV_ 40 [some (.inr (7, some v0)), some (.inr (20, v1)), some (.inl v2), some (.inl v3), some (.inl v4), some (.inl v5), none, none] [] g (f7_describe_b40 n v0 v1 v2 v3 v4 v5 g) := by
  intro n
  induction n with
  | zero =>
    intro v0 v1 v2 v3 v4 v5 g
    exact k_fail
  | succ n ih =>
    intro v0 v1 v2 v3 v4 v5 g
    show K_ RX7 cX7_describe 8 none 5 110 false EV_ 40 [some (.inr (7, some v0)), some (.inr (20, v1)), some (.inl v2), some (.inl v3), some (.inl v4), some (.inl v5), none, none] [] g (if v5 < 0 then bd_ (f7_write v0 v1 v2 g) fun _ g2 => some ((), g2) else if v2 ≤ (v5 + (1 : Int32)) then f7_describe_b68 (f7_describe_b40 n) v0 v1 v2 v3 v4 v5 (0 : Int32) g else oc_ v1 none fun a3 => if inb (v5 + (1 : Int32)) (gln g 20 a3) then if inb v5 (gln g 20 a3) then f7_describe_b68 (f7_describe_b40 n) v0 (some a3) v2 v3 v4 v5 ((gai g 20 a3 (v5 + (1 : Int32)).toInt.toNat) - (gai g 20 a3 v5.toInt.toNat)) g else none else none)
    refine k_iload dX7_describe_40 rfl ?_
    refine k_iflt (tgt := 145) dX7_describe_42 (by decide) (fun _ => ?_) (fun _ => ?_)
    · refine k_aloadn (j := 0) dX7_describe_145 rfl rfl ?_
      refine k_aloadn (j := 1) dX7_describe_146 rfl rfl ?_
      refine k_iloadn (j := 2) dX7_describe_147 rfl rfl ?_
      refine k_callVv [.inr (20, v1), .inl v2] (t7_write v0 v1 v2 g) cw_cX7_write (Or.inl ml_7_38) rfl rfl (by decide) (by decide) (Nat.le_of_ble_eq_true rfl) dX7_describe_148 (fun _ g2 => ?_)
      exact k_return rfl dX7_describe_151
    refine k_iload dX7_describe_45 rfl ?_
    refine k_iconst (v := (1 : Int32)) dX7_describe_47 rfl ?_
    refine k_iadd dX7_describe_48 ?_
    refine k_iloadn (j := 2) dX7_describe_49 rfl rfl ?_
    refine k_icmpge (tgt := 67) dX7_describe_50 (by decide) (fun _ => ?_) (fun _ => ?_)
    · refine k_iconst (v := (0 : Int32)) dX7_describe_67 rfl ?_
      exact t7_describe_b68 (f7_describe_b40 n) ih v0 v1 v2 v3 v4 v5 (0 : Int32) g
    refine k_aloadn (j := 1) dX7_describe_53 rfl rfl ?_
    refine k_iload dX7_describe_54 rfl ?_
    refine k_iconst (v := (1 : Int32)) dX7_describe_56 rfl ?_
    refine k_iadd dX7_describe_57 ?_
    rcases v1 with _ | a3
    · exact k_ocn
    refine k_ocs ?_
    refine k_iald dX7_describe_58 ?_
    refine k_aloadn (j := 1) dX7_describe_59 rfl rfl ?_
    refine k_iload dX7_describe_60 rfl ?_
    refine k_iald dX7_describe_62 ?_
    refine k_isub dX7_describe_63 ?_
    refine k_goto (tgt := 68) dX7_describe_64 (by decide) ?_
    exact t7_describe_b68 (f7_describe_b40 n) ih v0 (some a3) v2 v3 v4 v5 ((gai g 20 a3 (v5 + (1 : Int32)).toInt.toNat) - (gai g 20 a3 v5.toInt.toNat)) g
def f7_describe (v0 : Nat) (v1 : Option Nat) (g : GS_) : Option (Unit × GS_) :=
  oc_ v1 none fun a4 => lr_ (jmin (Int32.ofNat (gln g 20 a4)) (400 : Int32)) fun z5 => lr_ (gfr g 224 v0) fun x6 => oc_ x6 none fun a7 => if inb z5 (gln g 20 a7) then lr_ (sai g 20 a7 z5.toInt.toNat (0 : Int32)) (fun g8 => lr_ (gfr g8 225 v0) fun x9 => oc_ x9 none fun a10 => if inb z5 (gln g8 20 a10) then lr_ (sai g8 20 a10 z5.toInt.toNat (0 : Int32)) (fun g11 => lr_ (gfr g11 226 v0) fun x12 => oc_ x12 none fun a13 => if inb z5 (gln g11 20 a13) then lr_ (sai g11 20 a13 z5.toInt.toNat (0 : Int32)) (fun g14 => lr_ (z5 - (1 : Int32)) fun z15 => f7_describe_b40 FU_ v0 (some a4) z5 (0 : Int32) (0 : Int32) z15 g14) else none) else none) else none
theorem t7_describe (v0 : Nat) (v1 : Option Nat) (g : GS_) : Cn_ yX7_describe cX7_describe 8 none 5 110 EV_ [.inr (7, some v0), .inr (20, v1)] g (f7_describe v0 v1 g) := by
  refine k_method (own := RX7) (ini := false) (L1 := [some (.inr (7, some v0)), some (.inr (20, v1)), none, none, none, none, none, none]) (by decide +kernel) rfl (fun h => by cases h) (Nat.le_of_ble_eq_true rfl) rfl ?_
  unfold f7_describe
  refine k_aloadn (j := 1) dX7_describe_0 rfl rfl ?_
  rcases v1 with _ | a4
  · exact k_ocn
  refine k_ocs ?_
  refine k_alen dX7_describe_1 (by decide) ?_
  refine k_sipush (v := (400 : Int32)) dX7_describe_2 rfl ?_
  refine k_min mw_min ml_7_28 (by decide) (Nat.le_of_ble_eq_true rfl) dX7_describe_5 ?_
  refine k_istnl (j := 2) (L2 := fun z5 => [some (.inr (7, some v0)), some (.inr (20, some a4)), some (.inl z5), none, none, none, none, none]) dX7_describe_8 rfl (by decide) (fun _ => rfl) (fun z5 => ?_)
  refine k_aloadn (j := 0) dX7_describe_9 rfl rfl ?_
  refine k_getr fg_7_9 rfl rfl dX7_describe_10 (fun x6 => ?_)
  refine k_iloadn (j := 2) dX7_describe_13 rfl rfl ?_
  refine k_iconst (v := (0 : Int32)) dX7_describe_14 rfl ?_
  rcases x6 with _ | a7
  · exact k_ocn
  refine k_ocs ?_
  refine k_iast dX7_describe_15 (fun g8 => ?_)
  refine k_aloadn (j := 0) dX7_describe_16 rfl rfl ?_
  refine k_getr fg_7_15 rfl rfl dX7_describe_17 (fun x9 => ?_)
  refine k_iloadn (j := 2) dX7_describe_20 rfl rfl ?_
  refine k_iconst (v := (0 : Int32)) dX7_describe_21 rfl ?_
  rcases x9 with _ | a10
  · exact k_ocn
  refine k_ocs ?_
  refine k_iast dX7_describe_22 (fun g11 => ?_)
  refine k_aloadn (j := 0) dX7_describe_23 rfl rfl ?_
  refine k_getr fg_7_18 rfl rfl dX7_describe_24 (fun x12 => ?_)
  refine k_iloadn (j := 2) dX7_describe_27 rfl rfl ?_
  refine k_iconst (v := (0 : Int32)) dX7_describe_28 rfl ?_
  rcases x12 with _ | a13
  · exact k_ocn
  refine k_ocs ?_
  refine k_iast dX7_describe_29 (fun g14 => ?_)
  refine k_iconst (v := (0 : Int32)) dX7_describe_30 rfl ?_
  refine k_istn (j := 3) (L' := [some (.inr (7, some v0)), some (.inr (20, some a4)), some (.inl z5), some (.inl (0 : Int32)), none, none, none, none]) dX7_describe_31 rfl (by decide) rfl ?_
  refine k_iconst (v := (0 : Int32)) dX7_describe_32 rfl ?_
  refine k_ist (L' := [some (.inr (7, some v0)), some (.inr (20, some a4)), some (.inl z5), some (.inl (0 : Int32)), some (.inl (0 : Int32)), none, none, none]) dX7_describe_33 (by decide) rfl ?_
  refine k_iloadn (j := 2) dX7_describe_35 rfl rfl ?_
  refine k_iconst (v := (1 : Int32)) dX7_describe_36 rfl ?_
  refine k_isub dX7_describe_37 ?_
  refine k_istl (L2 := fun z15 => [some (.inr (7, some v0)), some (.inr (20, some a4)), some (.inl z5), some (.inl (0 : Int32)), some (.inl (0 : Int32)), some (.inl z15), none, none]) dX7_describe_38 (by decide) (fun _ => rfl) (fun z15 => ?_)
  exact t7_describe_b40 FU_ v0 (some a4) z5 (0 : Int32) (0 : Int32) z15 g14
theorem dX7_itemCount_0 : decode cX7_itemCount 0 = .ok (.aload_n 0, 1) := by decide +kernel
theorem dX7_itemCount_1 : decode cX7_itemCount 1 = .ok (.getfield 15, 3) := by decide +kernel
theorem dX7_itemCount_4 : decode cX7_itemCount 4 = .ok (.iconst 0, 1) := by decide +kernel
theorem dX7_itemCount_5 : decode cX7_itemCount 5 = .ok (.iaload, 1) := by decide +kernel
theorem dX7_itemCount_6 : decode cX7_itemCount 6 = .ok (.ireturn, 1) := by decide +kernel
def f7_itemCount (v0 : Nat) (g : GS_) : Option (Int32 × GS_) :=
  lr_ (gfr g 225 v0) fun x1 => oc_ x1 none fun a2 => if inb (0 : Int32) (gln g 20 a2) then some ((gai g 20 a2 (0 : Int32).toInt.toNat), g) else none
theorem t7_itemCount (v0 : Nat) (g : GS_) : Cn_ yX7_itemCount cX7_itemCount 1 (some .int) 0 0 EI_ [.inr (7, some v0)] g (f7_itemCount v0 g) := by
  refine k_method (own := RX7) (ini := false) (L1 := [some (.inr (7, some v0))]) (by decide +kernel) rfl (fun h => by cases h) (Nat.le_of_ble_eq_true rfl) rfl ?_
  unfold f7_itemCount
  refine k_aloadn (j := 0) dX7_itemCount_0 rfl rfl ?_
  refine k_getr fg_7_15 rfl rfl dX7_itemCount_1 (fun x1 => ?_)
  refine k_iconst (v := (0 : Int32)) dX7_itemCount_4 rfl ?_
  rcases x1 with _ | a2
  · exact k_ocn
  refine k_ocs ?_
  refine k_iald dX7_itemCount_5 ?_
  exact k_ireturn rfl dX7_itemCount_6
theorem dX7_has_0 : decode cX7_has 0 = .ok (.iload_n 1, 1) := by decide +kernel
theorem dX7_has_1 : decode cX7_has 1 = .ok (.ifCond .lt 24, 3) := by decide +kernel
theorem dX7_has_4 : decode cX7_has 4 = .ok (.iload_n 1, 1) := by decide +kernel
theorem dX7_has_5 : decode cX7_has 5 = .ok (.aload_n 0, 1) := by decide +kernel
theorem dX7_has_6 : decode cX7_has 6 = .ok (.getfield 24, 3) := by decide +kernel
theorem dX7_has_9 : decode cX7_has 9 = .ok (.if_icmp .ge 16, 3) := by decide +kernel
theorem dX7_has_12 : decode cX7_has 12 = .ok (.iload_n 1, 1) := by decide +kernel
theorem dX7_has_13 : decode cX7_has 13 = .ok (.aload_n 0, 1) := by decide +kernel
theorem dX7_has_14 : decode cX7_has 14 = .ok (.getfield 21, 3) := by decide +kernel
theorem dX7_has_17 : decode cX7_has 17 = .ok (.arraylength, 1) := by decide +kernel
theorem dX7_has_18 : decode cX7_has 18 = .ok (.if_icmp .ge 7, 3) := by decide +kernel
theorem dX7_has_21 : decode cX7_has 21 = .ok (.iconst 1, 1) := by decide +kernel
theorem dX7_has_22 : decode cX7_has 22 = .ok (.goto 4, 3) := by decide +kernel
theorem dX7_has_25 : decode cX7_has 25 = .ok (.iconst 0, 1) := by decide +kernel
theorem dX7_has_26 : decode cX7_has 26 = .ok (.ireturn, 1) := by decide +kernel
def f7_has_b25 (g : GS_) : Option (Int32 × GS_) :=
  some ((0 : Int32), g)
theorem t7_has_b25 (g : GS_) : K_ RX7 cX7_has 2 (some .boolean) 0 0 false EI_ 25 [none, none] [] g (f7_has_b25 g) := by
  unfold f7_has_b25
  refine k_iconst (v := (0 : Int32)) dX7_has_25 rfl ?_
  exact k_zreturn rfl (by decide) dX7_has_26
def f7_has (v0 : Nat) (v1 : Int32) (g : GS_) : Option (Int32 × GS_) :=
  if v1 < 0 then f7_has_b25 g else if (gfi g 228 v0) ≤ v1 then f7_has_b25 g else lr_ (gfr g 227 v0) fun x1 => oc_ x1 none fun a2 => if (Int32.ofNat (gln g 20 a2)) ≤ v1 then f7_has_b25 g else some ((1 : Int32), g)
theorem t7_has (v0 : Nat) (v1 : Int32) (g : GS_) : Cn_ yX7_has cX7_has 2 (some .boolean) 0 0 EI_ [.inr (7, some v0), .inl v1] g (f7_has v0 v1 g) := by
  refine k_method (own := RX7) (ini := false) (L1 := [some (.inr (7, some v0)), some (.inl v1)]) (by decide +kernel) rfl (fun h => by cases h) (Nat.le_of_ble_eq_true rfl) rfl ?_
  unfold f7_has
  refine k_iloadn (j := 1) dX7_has_0 rfl rfl ?_
  refine k_iflt (tgt := 25) dX7_has_1 (by decide) (fun _ => ?_) (fun _ => ?_)
  · refine k_msk (L' := [none, none]) [false, false] rfl ?_
    exact t7_has_b25 g
  refine k_iloadn (j := 1) dX7_has_4 rfl rfl ?_
  refine k_aloadn (j := 0) dX7_has_5 rfl rfl ?_
  refine k_geti fg_7_24 rfl rfl dX7_has_6 ?_
  refine k_icmpge (tgt := 25) dX7_has_9 (by decide) (fun _ => ?_) (fun _ => ?_)
  · refine k_msk (L' := [none, none]) [false, false] rfl ?_
    exact t7_has_b25 g
  refine k_iloadn (j := 1) dX7_has_12 rfl rfl ?_
  refine k_aloadn (j := 0) dX7_has_13 rfl rfl ?_
  refine k_getr fg_7_21 rfl rfl dX7_has_14 (fun x1 => ?_)
  rcases x1 with _ | a2
  · exact k_ocn
  refine k_ocs ?_
  refine k_alen dX7_has_17 (by decide) ?_
  refine k_icmpge (tgt := 25) dX7_has_18 (by decide) (fun _ => ?_) (fun _ => ?_)
  · refine k_msk (L' := [none, none]) [false, false] rfl ?_
    exact t7_has_b25 g
  refine k_iconst (v := (1 : Int32)) dX7_has_21 rfl ?_
  refine k_goto (tgt := 26) dX7_has_22 (by decide) ?_
  exact k_zreturn rfl (by decide) dX7_has_26
theorem dX7_characterAt_0 : decode cX7_characterAt 0 = .ok (.aload_n 0, 1) := by decide +kernel
theorem dX7_characterAt_1 : decode cX7_characterAt 1 = .ok (.iload_n 1, 1) := by decide +kernel
theorem dX7_characterAt_2 : decode cX7_characterAt 2 = .ok (.invokevirtual 42, 3) := by decide +kernel
theorem dX7_characterAt_5 : decode cX7_characterAt 5 = .ok (.ifCond .eq 12, 3) := by decide +kernel
theorem dX7_characterAt_8 : decode cX7_characterAt 8 = .ok (.aload_n 0, 1) := by decide +kernel
theorem dX7_characterAt_9 : decode cX7_characterAt 9 = .ok (.getfield 21, 3) := by decide +kernel
theorem dX7_characterAt_12 : decode cX7_characterAt 12 = .ok (.iload_n 1, 1) := by decide +kernel
theorem dX7_characterAt_13 : decode cX7_characterAt 13 = .ok (.iaload, 1) := by decide +kernel
theorem dX7_characterAt_14 : decode cX7_characterAt 14 = .ok (.goto 4, 3) := by decide +kernel
theorem dX7_characterAt_17 : decode cX7_characterAt 17 = .ok (.iconst 0, 1) := by decide +kernel
theorem dX7_characterAt_18 : decode cX7_characterAt 18 = .ok (.ireturn, 1) := by decide +kernel
def f7_characterAt (v0 : Nat) (v1 : Int32) (g : GS_) : Option (Int32 × GS_) :=
  bd_ (f7_has v0 v1 g) fun z2 g1 => if z2 = 0 then some ((0 : Int32), g1) else lr_ (gfr g1 227 v0) fun x3 => oc_ x3 none fun a4 => if inb v1 (gln g1 20 a4) then some ((gai g1 20 a4 v1.toInt.toNat), g1) else none
theorem t7_characterAt (v0 : Nat) (v1 : Int32) (g : GS_) : Cn_ yX7_characterAt cX7_characterAt 2 (some .int) 1 21 EI_ [.inr (7, some v0), .inl v1] g (f7_characterAt v0 v1 g) := by
  refine k_method (own := RX7) (ini := false) (L1 := [some (.inr (7, some v0)), some (.inl v1)]) (by decide +kernel) rfl (fun h => by cases h) (Nat.le_of_ble_eq_true rfl) rfl ?_
  unfold f7_characterAt
  refine k_aloadn (j := 0) dX7_characterAt_0 rfl rfl ?_
  refine k_iloadn (j := 1) dX7_characterAt_1 rfl rfl ?_
  refine k_callVi [.inl v1] (t7_has v0 v1 g) cw_cX7_has (Or.inl ml_7_42) rfl rfl (by decide) (by decide) (Nat.le_of_ble_eq_true rfl) dX7_characterAt_2 (fun z2 g1 => ?_)
  refine k_ifeq (tgt := 17) dX7_characterAt_5 (by decide) (fun _ => ?_) (fun _ => ?_)
  · refine k_iconst (v := (0 : Int32)) dX7_characterAt_17 rfl ?_
    exact k_ireturn rfl dX7_characterAt_18
  refine k_aloadn (j := 0) dX7_characterAt_8 rfl rfl ?_
  refine k_getr fg_7_21 rfl rfl dX7_characterAt_9 (fun x3 => ?_)
  refine k_iloadn (j := 1) dX7_characterAt_12 rfl rfl ?_
  rcases x3 with _ | a4
  · exact k_ocn
  refine k_ocs ?_
  refine k_iald dX7_characterAt_13 ?_
  refine k_goto (tgt := 18) dX7_characterAt_14 (by decide) ?_
  exact k_ireturn rfl dX7_characterAt_18
theorem dX8_quotaOf_0 : decode cX8_quotaOf 0 = .ok (.iload_n 1, 1) := by decide +kernel
theorem dX8_quotaOf_1 : decode cX8_quotaOf 1 = .ok (.ifCond .lt 21, 3) := by decide +kernel
theorem dX8_quotaOf_4 : decode cX8_quotaOf 4 = .ok (.iload_n 1, 1) := by decide +kernel
theorem dX8_quotaOf_5 : decode cX8_quotaOf 5 = .ok (.aload_n 0, 1) := by decide +kernel
theorem dX8_quotaOf_6 : decode cX8_quotaOf 6 = .ok (.getfield 50, 3) := by decide +kernel
theorem dX8_quotaOf_9 : decode cX8_quotaOf 9 = .ok (.arraylength, 1) := by decide +kernel
theorem dX8_quotaOf_10 : decode cX8_quotaOf 10 = .ok (.if_icmp .ge 12, 3) := by decide +kernel
theorem dX8_quotaOf_13 : decode cX8_quotaOf 13 = .ok (.aload_n 0, 1) := by decide +kernel
theorem dX8_quotaOf_14 : decode cX8_quotaOf 14 = .ok (.getfield 50, 3) := by decide +kernel
theorem dX8_quotaOf_17 : decode cX8_quotaOf 17 = .ok (.iload_n 1, 1) := by decide +kernel
theorem dX8_quotaOf_18 : decode cX8_quotaOf 18 = .ok (.iaload, 1) := by decide +kernel
theorem dX8_quotaOf_19 : decode cX8_quotaOf 19 = .ok (.goto 4, 3) := by decide +kernel
theorem dX8_quotaOf_22 : decode cX8_quotaOf 22 = .ok (.iconst 0, 1) := by decide +kernel
theorem dX8_quotaOf_23 : decode cX8_quotaOf 23 = .ok (.ireturn, 1) := by decide +kernel
def f8_quotaOf_b22 (g : GS_) : Option (Int32 × GS_) :=
  some ((0 : Int32), g)
theorem t8_quotaOf_b22 (g : GS_) : K_ RX8 cX8_quotaOf 2 (some .int) 0 0 false EI_ 22 [none, none] [] g (f8_quotaOf_b22 g) := by
  unfold f8_quotaOf_b22
  refine k_iconst (v := (0 : Int32)) dX8_quotaOf_22 rfl ?_
  exact k_ireturn rfl dX8_quotaOf_23
def f8_quotaOf (v0 : Nat) (v1 : Int32) (g : GS_) : Option (Int32 × GS_) :=
  if v1 < 0 then f8_quotaOf_b22 g else lr_ (gfr g 264 v0) fun x1 => oc_ x1 none fun a2 => if (Int32.ofNat (gln g 20 a2)) ≤ v1 then f8_quotaOf_b22 g else lr_ (gfr g 264 v0) fun x3 => oc_ x3 none fun a4 => if inb v1 (gln g 20 a4) then some ((gai g 20 a4 v1.toInt.toNat), g) else none
theorem t8_quotaOf (v0 : Nat) (v1 : Int32) (g : GS_) : Cn_ yX8_quotaOf cX8_quotaOf 2 (some .int) 0 0 EI_ [.inr (8, some v0), .inl v1] g (f8_quotaOf v0 v1 g) := by
  refine k_method (own := RX8) (ini := false) (L1 := [some (.inr (8, some v0)), some (.inl v1)]) (by decide +kernel) rfl (fun h => by cases h) (Nat.le_of_ble_eq_true rfl) rfl ?_
  unfold f8_quotaOf
  refine k_iloadn (j := 1) dX8_quotaOf_0 rfl rfl ?_
  refine k_iflt (tgt := 22) dX8_quotaOf_1 (by decide) (fun _ => ?_) (fun _ => ?_)
  · refine k_msk (L' := [none, none]) [false, false] rfl ?_
    exact t8_quotaOf_b22 g
  refine k_iloadn (j := 1) dX8_quotaOf_4 rfl rfl ?_
  refine k_aloadn (j := 0) dX8_quotaOf_5 rfl rfl ?_
  refine k_getr fg_8_50 rfl rfl dX8_quotaOf_6 (fun x1 => ?_)
  rcases x1 with _ | a2
  · exact k_ocn
  refine k_ocs ?_
  refine k_alen dX8_quotaOf_9 (by decide) ?_
  refine k_icmpge (tgt := 22) dX8_quotaOf_10 (by decide) (fun _ => ?_) (fun _ => ?_)
  · refine k_msk (L' := [none, none]) [false, false] rfl ?_
    exact t8_quotaOf_b22 g
  refine k_aloadn (j := 0) dX8_quotaOf_13 rfl rfl ?_
  refine k_getr fg_8_50 rfl rfl dX8_quotaOf_14 (fun x3 => ?_)
  refine k_iloadn (j := 1) dX8_quotaOf_17 rfl rfl ?_
  rcases x3 with _ | a4
  · exact k_ocn
  refine k_ocs ?_
  refine k_iald dX8_quotaOf_18 ?_
  refine k_goto (tgt := 23) dX8_quotaOf_19 (by decide) ?_
  exact k_ireturn rfl dX8_quotaOf_23
theorem dX8_changeQuota_0 : decode cX8_changeQuota 0 = .ok (.iload_n 1, 1) := by decide +kernel
theorem dX8_changeQuota_1 : decode cX8_changeQuota 1 = .ok (.ifCond .lt 19, 3) := by decide +kernel
theorem dX8_changeQuota_4 : decode cX8_changeQuota 4 = .ok (.iload_n 1, 1) := by decide +kernel
theorem dX8_changeQuota_5 : decode cX8_changeQuota 5 = .ok (.aload_n 0, 1) := by decide +kernel
theorem dX8_changeQuota_6 : decode cX8_changeQuota 6 = .ok (.getfield 50, 3) := by decide +kernel
theorem dX8_changeQuota_9 : decode cX8_changeQuota 9 = .ok (.arraylength, 1) := by decide +kernel
theorem dX8_changeQuota_10 : decode cX8_changeQuota 10 = .ok (.if_icmp .ge 10, 3) := by decide +kernel
theorem dX8_changeQuota_13 : decode cX8_changeQuota 13 = .ok (.aload_n 0, 1) := by decide +kernel
theorem dX8_changeQuota_14 : decode cX8_changeQuota 14 = .ok (.getfield 50, 3) := by decide +kernel
theorem dX8_changeQuota_17 : decode cX8_changeQuota 17 = .ok (.iload_n 1, 1) := by decide +kernel
theorem dX8_changeQuota_18 : decode cX8_changeQuota 18 = .ok (.iload_n 2, 1) := by decide +kernel
theorem dX8_changeQuota_19 : decode cX8_changeQuota 19 = .ok (.iastore, 1) := by decide +kernel
theorem dX8_changeQuota_20 : decode cX8_changeQuota 20 = .ok (.return_, 1) := by decide +kernel
def f8_changeQuota (v0 : Nat) (v1 : Int32) (v2 : Int32) (g : GS_) : Option (Unit × GS_) :=
  if v1 < 0 then some ((), g) else lr_ (gfr g 264 v0) fun x1 => oc_ x1 none fun a2 => if (Int32.ofNat (gln g 20 a2)) ≤ v1 then some ((), g) else lr_ (gfr g 264 v0) fun x3 => oc_ x3 none fun a4 => if inb v1 (gln g 20 a4) then lr_ (sai g 20 a4 v1.toInt.toNat v2) (fun g5 => some ((), g5)) else none
theorem t8_changeQuota (v0 : Nat) (v1 : Int32) (v2 : Int32) (g : GS_) : Cn_ yX8_changeQuota cX8_changeQuota 3 none 0 0 EV_ [.inr (8, some v0), .inl v1, .inl v2] g (f8_changeQuota v0 v1 v2 g) := by
  refine k_method (own := RX8) (ini := false) (L1 := [some (.inr (8, some v0)), some (.inl v1), some (.inl v2)]) (by decide +kernel) rfl (fun h => by cases h) (Nat.le_of_ble_eq_true rfl) rfl ?_
  unfold f8_changeQuota
  refine k_iloadn (j := 1) dX8_changeQuota_0 rfl rfl ?_
  refine k_iflt (tgt := 20) dX8_changeQuota_1 (by decide) (fun _ => ?_) (fun _ => ?_)
  · exact k_return rfl dX8_changeQuota_20
  refine k_iloadn (j := 1) dX8_changeQuota_4 rfl rfl ?_
  refine k_aloadn (j := 0) dX8_changeQuota_5 rfl rfl ?_
  refine k_getr fg_8_50 rfl rfl dX8_changeQuota_6 (fun x1 => ?_)
  rcases x1 with _ | a2
  · exact k_ocn
  refine k_ocs ?_
  refine k_alen dX8_changeQuota_9 (by decide) ?_
  refine k_icmpge (tgt := 20) dX8_changeQuota_10 (by decide) (fun _ => ?_) (fun _ => ?_)
  · exact k_return rfl dX8_changeQuota_20
  refine k_aloadn (j := 0) dX8_changeQuota_13 rfl rfl ?_
  refine k_getr fg_8_50 rfl rfl dX8_changeQuota_14 (fun x3 => ?_)
  refine k_iloadn (j := 1) dX8_changeQuota_17 rfl rfl ?_
  refine k_iloadn (j := 2) dX8_changeQuota_18 rfl rfl ?_
  rcases x3 with _ | a4
  · exact k_ocn
  refine k_ocs ?_
  refine k_iast dX8_changeQuota_19 (fun g5 => ?_)
  exact k_return rfl dX8_changeQuota_20
theorem dX8_printedFor_0 : decode cX8_printedFor 0 = .ok (.iload_n 1, 1) := by decide +kernel
theorem dX8_printedFor_1 : decode cX8_printedFor 1 = .ok (.ifCond .lt 21, 3) := by decide +kernel
theorem dX8_printedFor_4 : decode cX8_printedFor 4 = .ok (.iload_n 1, 1) := by decide +kernel
theorem dX8_printedFor_5 : decode cX8_printedFor 5 = .ok (.aload_n 0, 1) := by decide +kernel
theorem dX8_printedFor_6 : decode cX8_printedFor 6 = .ok (.getfield 53, 3) := by decide +kernel
theorem dX8_printedFor_9 : decode cX8_printedFor 9 = .ok (.arraylength, 1) := by decide +kernel
theorem dX8_printedFor_10 : decode cX8_printedFor 10 = .ok (.if_icmp .ge 12, 3) := by decide +kernel
theorem dX8_printedFor_13 : decode cX8_printedFor 13 = .ok (.aload_n 0, 1) := by decide +kernel
theorem dX8_printedFor_14 : decode cX8_printedFor 14 = .ok (.getfield 53, 3) := by decide +kernel
theorem dX8_printedFor_17 : decode cX8_printedFor 17 = .ok (.iload_n 1, 1) := by decide +kernel
theorem dX8_printedFor_18 : decode cX8_printedFor 18 = .ok (.iaload, 1) := by decide +kernel
theorem dX8_printedFor_19 : decode cX8_printedFor 19 = .ok (.goto 4, 3) := by decide +kernel
theorem dX8_printedFor_22 : decode cX8_printedFor 22 = .ok (.iconst 0, 1) := by decide +kernel
theorem dX8_printedFor_23 : decode cX8_printedFor 23 = .ok (.ireturn, 1) := by decide +kernel
def f8_printedFor_b22 (g : GS_) : Option (Int32 × GS_) :=
  some ((0 : Int32), g)
theorem t8_printedFor_b22 (g : GS_) : K_ RX8 cX8_printedFor 2 (some .int) 0 0 false EI_ 22 [none, none] [] g (f8_printedFor_b22 g) := by
  unfold f8_printedFor_b22
  refine k_iconst (v := (0 : Int32)) dX8_printedFor_22 rfl ?_
  exact k_ireturn rfl dX8_printedFor_23
def f8_printedFor (v0 : Nat) (v1 : Int32) (g : GS_) : Option (Int32 × GS_) :=
  if v1 < 0 then f8_printedFor_b22 g else lr_ (gfr g 265 v0) fun x1 => oc_ x1 none fun a2 => if (Int32.ofNat (gln g 20 a2)) ≤ v1 then f8_printedFor_b22 g else lr_ (gfr g 265 v0) fun x3 => oc_ x3 none fun a4 => if inb v1 (gln g 20 a4) then some ((gai g 20 a4 v1.toInt.toNat), g) else none
theorem t8_printedFor (v0 : Nat) (v1 : Int32) (g : GS_) : Cn_ yX8_printedFor cX8_printedFor 2 (some .int) 0 0 EI_ [.inr (8, some v0), .inl v1] g (f8_printedFor v0 v1 g) := by
  refine k_method (own := RX8) (ini := false) (L1 := [some (.inr (8, some v0)), some (.inl v1)]) (by decide +kernel) rfl (fun h => by cases h) (Nat.le_of_ble_eq_true rfl) rfl ?_
  unfold f8_printedFor
  refine k_iloadn (j := 1) dX8_printedFor_0 rfl rfl ?_
  refine k_iflt (tgt := 22) dX8_printedFor_1 (by decide) (fun _ => ?_) (fun _ => ?_)
  · refine k_msk (L' := [none, none]) [false, false] rfl ?_
    exact t8_printedFor_b22 g
  refine k_iloadn (j := 1) dX8_printedFor_4 rfl rfl ?_
  refine k_aloadn (j := 0) dX8_printedFor_5 rfl rfl ?_
  refine k_getr fg_8_53 rfl rfl dX8_printedFor_6 (fun x1 => ?_)
  rcases x1 with _ | a2
  · exact k_ocn
  refine k_ocs ?_
  refine k_alen dX8_printedFor_9 (by decide) ?_
  refine k_icmpge (tgt := 22) dX8_printedFor_10 (by decide) (fun _ => ?_) (fun _ => ?_)
  · refine k_msk (L' := [none, none]) [false, false] rfl ?_
    exact t8_printedFor_b22 g
  refine k_aloadn (j := 0) dX8_printedFor_13 rfl rfl ?_
  refine k_getr fg_8_53 rfl rfl dX8_printedFor_14 (fun x3 => ?_)
  refine k_iloadn (j := 1) dX8_printedFor_17 rfl rfl ?_
  rcases x3 with _ | a4
  · exact k_ocn
  refine k_ocs ?_
  refine k_iald dX8_printedFor_18 ?_
  refine k_goto (tgt := 23) dX8_printedFor_19 (by decide) ?_
  exact k_ireturn rfl dX8_printedFor_23
theorem dX8_jobAt_0 : decode cX8_jobAt 0 = .ok (.iload_n 1, 1) := by decide +kernel
theorem dX8_jobAt_1 : decode cX8_jobAt 1 = .ok (.ifCond .lt 29, 3) := by decide +kernel
theorem dX8_jobAt_4 : decode cX8_jobAt 4 = .ok (.iload_n 1, 1) := by decide +kernel
theorem dX8_jobAt_5 : decode cX8_jobAt 5 = .ok (.aload_n 0, 1) := by decide +kernel
theorem dX8_jobAt_6 : decode cX8_jobAt 6 = .ok (.getfield 27, 3) := by decide +kernel
theorem dX8_jobAt_9 : decode cX8_jobAt 9 = .ok (.if_icmp .ge 21, 3) := by decide +kernel
theorem dX8_jobAt_12 : decode cX8_jobAt 12 = .ok (.iload_n 1, 1) := by decide +kernel
theorem dX8_jobAt_13 : decode cX8_jobAt 13 = .ok (.aload_n 0, 1) := by decide +kernel
theorem dX8_jobAt_14 : decode cX8_jobAt 14 = .ok (.getfield 23, 3) := by decide +kernel
theorem dX8_jobAt_17 : decode cX8_jobAt 17 = .ok (.arraylength, 1) := by decide +kernel
theorem dX8_jobAt_18 : decode cX8_jobAt 18 = .ok (.if_icmp .ge 12, 3) := by decide +kernel
theorem dX8_jobAt_21 : decode cX8_jobAt 21 = .ok (.aload_n 0, 1) := by decide +kernel
theorem dX8_jobAt_22 : decode cX8_jobAt 22 = .ok (.getfield 23, 3) := by decide +kernel
theorem dX8_jobAt_25 : decode cX8_jobAt 25 = .ok (.iload_n 1, 1) := by decide +kernel
theorem dX8_jobAt_26 : decode cX8_jobAt 26 = .ok (.aaload, 1) := by decide +kernel
theorem dX8_jobAt_27 : decode cX8_jobAt 27 = .ok (.goto 4, 3) := by decide +kernel
theorem dX8_jobAt_30 : decode cX8_jobAt 30 = .ok (.aconst_null, 1) := by decide +kernel
theorem dX8_jobAt_31 : decode cX8_jobAt 31 = .ok (.areturn, 1) := by decide +kernel
def f8_jobAt_b30 (g : GS_) : Option (Option Nat × GS_) :=
  some (none, g)
theorem t8_jobAt_b30 (g : GS_) : K_ RX8 cX8_jobAt 2 (some (.object RX1)) 0 0 false (ER_ 1) 30 [none, none] [] g (f8_jobAt_b30 g) := by
  unfold f8_jobAt_b30
  refine k_null (t := 1) dX8_jobAt_30 ?_
  exact k_areturn rfl (Or.inl ⟨_, rfl⟩) dX8_jobAt_31
def f8_jobAt (v0 : Nat) (v1 : Int32) (g : GS_) : Option (Option Nat × GS_) :=
  if v1 < 0 then f8_jobAt_b30 g else if (gfi g 259 v0) ≤ v1 then f8_jobAt_b30 g else lr_ (gfr g 258 v0) fun x1 => oc_ x1 none fun a2 => if (Int32.ofNat (gln g 23 a2)) ≤ v1 then f8_jobAt_b30 g else lr_ (gfr g 258 v0) fun x3 => oc_ x3 none fun a4 => if inb v1 (gln g 23 a4) then lr_ (gar g 23 a4 v1.toInt.toNat) (fun x5 => some (x5, g)) else none
theorem t8_jobAt (v0 : Nat) (v1 : Int32) (g : GS_) : Cn_ yX8_jobAt cX8_jobAt 2 (some (.object RX1)) 0 0 (ER_ 1) [.inr (8, some v0), .inl v1] g (f8_jobAt v0 v1 g) := by
  refine k_method (own := RX8) (ini := false) (L1 := [some (.inr (8, some v0)), some (.inl v1)]) (by decide +kernel) rfl (fun h => by cases h) (Nat.le_of_ble_eq_true rfl) rfl ?_
  unfold f8_jobAt
  refine k_iloadn (j := 1) dX8_jobAt_0 rfl rfl ?_
  refine k_iflt (tgt := 30) dX8_jobAt_1 (by decide) (fun _ => ?_) (fun _ => ?_)
  · refine k_msk (L' := [none, none]) [false, false] rfl ?_
    exact t8_jobAt_b30 g
  refine k_iloadn (j := 1) dX8_jobAt_4 rfl rfl ?_
  refine k_aloadn (j := 0) dX8_jobAt_5 rfl rfl ?_
  refine k_geti fg_8_27 rfl rfl dX8_jobAt_6 ?_
  refine k_icmpge (tgt := 30) dX8_jobAt_9 (by decide) (fun _ => ?_) (fun _ => ?_)
  · refine k_msk (L' := [none, none]) [false, false] rfl ?_
    exact t8_jobAt_b30 g
  refine k_iloadn (j := 1) dX8_jobAt_12 rfl rfl ?_
  refine k_aloadn (j := 0) dX8_jobAt_13 rfl rfl ?_
  refine k_getr fg_8_23 rfl rfl dX8_jobAt_14 (fun x1 => ?_)
  rcases x1 with _ | a2
  · exact k_ocn
  refine k_ocs ?_
  refine k_alen dX8_jobAt_17 (by decide) ?_
  refine k_icmpge (tgt := 30) dX8_jobAt_18 (by decide) (fun _ => ?_) (fun _ => ?_)
  · refine k_msk (L' := [none, none]) [false, false] rfl ?_
    exact t8_jobAt_b30 g
  refine k_aloadn (j := 0) dX8_jobAt_21 rfl rfl ?_
  refine k_getr fg_8_23 rfl rfl dX8_jobAt_22 (fun x3 => ?_)
  refine k_iloadn (j := 1) dX8_jobAt_25 rfl rfl ?_
  rcases x3 with _ | a4
  · exact k_ocn
  refine k_ocs ?_
  refine k_aald rfl dX8_jobAt_26 (fun x5 => ?_)
  refine k_goto (tgt := 31) dX8_jobAt_27 (by decide) ?_
  exact k_areturn rfl (Or.inl ⟨_, rfl⟩) dX8_jobAt_31
theorem dX8_waitingJobs_0 : decode cX8_waitingJobs 0 = .ok (.iconst 0, 1) := by decide +kernel
theorem dX8_waitingJobs_1 : decode cX8_waitingJobs 1 = .ok (.istore_n 1, 1) := by decide +kernel
theorem dX8_waitingJobs_2 : decode cX8_waitingJobs 2 = .ok (.iconst 0, 1) := by decide +kernel
theorem dX8_waitingJobs_3 : decode cX8_waitingJobs 3 = .ok (.istore_n 2, 1) := by decide +kernel
theorem dX8_waitingJobs_4 : decode cX8_waitingJobs 4 = .ok (.iload_n 2, 1) := by decide +kernel
theorem dX8_waitingJobs_5 : decode cX8_waitingJobs 5 = .ok (.aload_n 0, 1) := by decide +kernel
theorem dX8_waitingJobs_6 : decode cX8_waitingJobs 6 = .ok (.getfield 27, 3) := by decide +kernel
theorem dX8_waitingJobs_9 : decode cX8_waitingJobs 9 = .ok (.if_icmp .ge 29, 3) := by decide +kernel
theorem dX8_waitingJobs_12 : decode cX8_waitingJobs 12 = .ok (.aload_n 0, 1) := by decide +kernel
theorem dX8_waitingJobs_13 : decode cX8_waitingJobs 13 = .ok (.iload_n 2, 1) := by decide +kernel
theorem dX8_waitingJobs_14 : decode cX8_waitingJobs 14 = .ok (.invokevirtual 97, 3) := by decide +kernel
theorem dX8_waitingJobs_17 : decode cX8_waitingJobs 17 = .ok (.astore_n 3, 1) := by decide +kernel
theorem dX8_waitingJobs_18 : decode cX8_waitingJobs 18 = .ok (.aload_n 3, 1) := by decide +kernel
theorem dX8_waitingJobs_19 : decode cX8_waitingJobs 19 = .ok (.ifnull 13, 3) := by decide +kernel
theorem dX8_waitingJobs_22 : decode cX8_waitingJobs 22 = .ok (.aload_n 3, 1) := by decide +kernel
theorem dX8_waitingJobs_23 : decode cX8_waitingJobs 23 = .ok (.getfield 101, 3) := by decide +kernel
theorem dX8_waitingJobs_26 : decode cX8_waitingJobs 26 = .ok (.ifCond .ne 6, 3) := by decide +kernel
theorem dX8_waitingJobs_29 : decode cX8_waitingJobs 29 = .ok (.iinc 1 1, 3) := by decide +kernel
theorem dX8_waitingJobs_32 : decode cX8_waitingJobs 32 = .ok (.iinc 2 1, 3) := by decide +kernel
theorem dX8_waitingJobs_35 : decode cX8_waitingJobs 35 = .ok (.goto (-31), 3) := by decide +kernel
theorem dX8_waitingJobs_38 : decode cX8_waitingJobs 38 = .ok (.iload_n 1, 1) := by decide +kernel
theorem dX8_waitingJobs_39 : decode cX8_waitingJobs 39 = .ok (.ireturn, 1) := by decide +kernel
def f8_waitingJobs_b32 (c4 : Nat → Int32 → Int32 → GS_ → Option (Int32 × GS_)) (v0 : Nat) (v1 : Int32) (v2 : Int32) (g : GS_) : Option (Int32 × GS_) :=
  c4 v0 v1 (v2 + (1 : Int32)) g
theorem t8_waitingJobs_b32 (c4 : Nat → Int32 → Int32 → GS_ → Option (Int32 × GS_)) (h4 : ∀ (v0 : Nat) (v1 : Int32) (v2 : Int32) (g : GS_), K_ RX8 cX8_waitingJobs 4 (some .int) 1 21 false EI_ 4 [some (.inr (8, some v0)), some (.inl v1), some (.inl v2), none] [] g (c4 v0 v1 v2 g)) (v0 : Nat) (v1 : Int32) (v2 : Int32) (g : GS_) : K_ RX8 cX8_waitingJobs 4 (some .int) 1 21 false EI_ 32 [some (.inr (8, some v0)), some (.inl v1), some (.inl v2), none] [] g (f8_waitingJobs_b32 c4 v0 v1 v2 g) := by
  unfold f8_waitingJobs_b32
  refine k_iinc (v := (v2 + (1 : Int32))) (L' := [some (.inr (8, some v0)), some (.inl v1), some (.inl (v2 + (1 : Int32))), none]) dX8_waitingJobs_32 rfl rfl (by decide) rfl ?_
  refine k_goto (tgt := 4) dX8_waitingJobs_35 (by decide) ?_
  exact h4 v0 v1 (v2 + (1 : Int32)) g
def f8_waitingJobs_b4 : Nat → Nat → Int32 → Int32 → GS_ → Option (Int32 × GS_)
  | 0, _, _, _, _ => none
  | n + 1, v0, v1, v2, g =>
    if (gfi g 259 v0) ≤ v2 then some (v1, g) else bd_ (f8_jobAt v0 v2 g) fun x2 g1 => oc_ x2 (f8_waitingJobs_b32 (f8_waitingJobs_b4 n) v0 v1 v2 g1) fun a3 => if (gfi g1 35 a3) = 0 then f8_waitingJobs_b32 (f8_waitingJobs_b4 n) v0 (v1 + (1 : Int32)) v2 g1 else f8_waitingJobs_b32 (f8_waitingJobs_b4 n) v0 v1 v2 g1
theorem t8_waitingJobs_b4 : ∀ (n : Nat) (v0 : Nat) (v1 : Int32) (v2 : Int32) (g : GS_), K_ RX8 cX8_waitingJobs 4 (some .int) 1 21 false EI_ 4 [some (.inr (8, some v0)), some (.inl v1), some (.inl v2), none] [] g (f8_waitingJobs_b4 n v0 v1 v2 g) := by
  intro n
  induction n with
  | zero =>
    intro v0 v1 v2 g
    exact k_fail
  | succ n ih =>
    intro v0 v1 v2 g
    show K_ RX8 cX8_waitingJobs 4 (some .int) 1 21 false EI_ 4 [some (.inr (8, some v0)), some (.inl v1), some (.inl v2), none] [] g (if (gfi g 259 v0) ≤ v2 then some (v1, g) else bd_ (f8_jobAt v0 v2 g) fun x2 g1 => oc_ x2 (f8_waitingJobs_b32 (f8_waitingJobs_b4 n) v0 v1 v2 g1) fun a3 => if (gfi g1 35 a3) = 0 then f8_waitingJobs_b32 (f8_waitingJobs_b4 n) v0 (v1 + (1 : Int32)) v2 g1 else f8_waitingJobs_b32 (f8_waitingJobs_b4 n) v0 v1 v2 g1)
    refine k_iloadn (j := 2) dX8_waitingJobs_4 rfl rfl ?_
    refine k_aloadn (j := 0) dX8_waitingJobs_5 rfl rfl ?_
    refine k_geti fg_8_27 rfl rfl dX8_waitingJobs_6 ?_
    refine k_icmpge (tgt := 38) dX8_waitingJobs_9 (by decide) (fun _ => ?_) (fun _ => ?_)
    · refine k_iloadn (j := 1) dX8_waitingJobs_38 rfl rfl ?_
      exact k_ireturn rfl dX8_waitingJobs_39
    refine k_aloadn (j := 0) dX8_waitingJobs_12 rfl rfl ?_
    refine k_iloadn (j := 2) dX8_waitingJobs_13 rfl rfl ?_
    refine k_callVr [.inl v2] (t8_jobAt v0 v2 g) cw_cX8_jobAt (Or.inl ml_8_97) rfl rfl (by decide) (by decide) (Nat.le_of_ble_eq_true rfl) dX8_waitingJobs_14 (fun x2 g1 => ?_)
    refine k_astn (j := 3) (L' := [some (.inr (8, some v0)), some (.inl v1), some (.inl v2), some (.inr (1, x2))]) dX8_waitingJobs_17 rfl (by decide) rfl ?_
    refine k_aloadn (j := 3) dX8_waitingJobs_18 rfl rfl ?_
    rcases x2 with _ | a3
    · refine k_ifnulln (tgt := 32) dX8_waitingJobs_19 (by decide) ?_
      refine k_msk (L' := [some (.inr (8, some v0)), some (.inl v1), some (.inl v2), none]) [true, true, true, false] rfl ?_
      exact t8_waitingJobs_b32 (f8_waitingJobs_b4 n) ih v0 v1 v2 g1
    refine k_ifnulls dX8_waitingJobs_19 ?_
    refine k_aloadn (j := 3) dX8_waitingJobs_22 rfl rfl ?_
    refine k_geti fg_8_101 rfl rfl dX8_waitingJobs_23 ?_
    refine k_ifne (tgt := 32) dX8_waitingJobs_26 (by decide) (fun _ => ?_) (fun _ => ?_)
    · refine k_iinc (v := (v1 + (1 : Int32))) (L' := [some (.inr (8, some v0)), some (.inl (v1 + (1 : Int32))), some (.inl v2), some (.inr (1, some a3))]) dX8_waitingJobs_29 rfl rfl (by decide) rfl ?_
      refine k_msk (L' := [some (.inr (8, some v0)), some (.inl (v1 + (1 : Int32))), some (.inl v2), none]) [true, true, true, false] rfl ?_
      exact t8_waitingJobs_b32 (f8_waitingJobs_b4 n) ih v0 (v1 + (1 : Int32)) v2 g1
    refine k_msk (L' := [some (.inr (8, some v0)), some (.inl v1), some (.inl v2), none]) [true, true, true, false] rfl ?_
    exact t8_waitingJobs_b32 (f8_waitingJobs_b4 n) ih v0 v1 v2 g1
def f8_waitingJobs (v0 : Nat) (g : GS_) : Option (Int32 × GS_) :=
  f8_waitingJobs_b4 FU_ v0 (0 : Int32) (0 : Int32) g
theorem t8_waitingJobs (v0 : Nat) (g : GS_) : Cn_ yX8_waitingJobs cX8_waitingJobs 4 (some .int) 1 21 EI_ [.inr (8, some v0)] g (f8_waitingJobs v0 g) := by
  refine k_method (own := RX8) (ini := false) (L1 := [some (.inr (8, some v0)), none, none, none]) (by decide +kernel) rfl (fun h => by cases h) (Nat.le_of_ble_eq_true rfl) rfl ?_
  unfold f8_waitingJobs
  refine k_iconst (v := (0 : Int32)) dX8_waitingJobs_0 rfl ?_
  refine k_istn (j := 1) (L' := [some (.inr (8, some v0)), some (.inl (0 : Int32)), none, none]) dX8_waitingJobs_1 rfl (by decide) rfl ?_
  refine k_iconst (v := (0 : Int32)) dX8_waitingJobs_2 rfl ?_
  refine k_istn (j := 2) (L' := [some (.inr (8, some v0)), some (.inl (0 : Int32)), some (.inl (0 : Int32)), none]) dX8_waitingJobs_3 rfl (by decide) rfl ?_
  exact t8_waitingJobs_b4 FU_ v0 (0 : Int32) (0 : Int32) g
theorem dX8_loseSheet_0 : decode cX8_loseSheet 0 = .ok (.aload_n 0, 1) := by decide +kernel
theorem dX8_loseSheet_1 : decode cX8_loseSheet 1 = .ok (.aload_n 1, 1) := by decide +kernel
theorem dX8_loseSheet_2 : decode cX8_loseSheet 2 = .ok (.getfield 104, 3) := by decide +kernel
theorem dX8_loseSheet_5 : decode cX8_loseSheet 5 = .ok (.invokevirtual 97, 3) := by decide +kernel
theorem dX8_loseSheet_8 : decode cX8_loseSheet 8 = .ok (.astore_n 2, 1) := by decide +kernel
theorem dX8_loseSheet_9 : decode cX8_loseSheet 9 = .ok (.aload_n 2, 1) := by decide +kernel
theorem dX8_loseSheet_10 : decode cX8_loseSheet 10 = .ok (.ifnull 11, 3) := by decide +kernel
theorem dX8_loseSheet_13 : decode cX8_loseSheet 13 = .ok (.aload_n 2, 1) := by decide +kernel
theorem dX8_loseSheet_14 : decode cX8_loseSheet 14 = .ok (.aload_n 0, 1) := by decide +kernel
theorem dX8_loseSheet_15 : decode cX8_loseSheet 15 = .ok (.getfield 75, 3) := by decide +kernel
theorem dX8_loseSheet_18 : decode cX8_loseSheet 18 = .ok (.invokevirtual 107, 3) := by decide +kernel
theorem dX8_loseSheet_21 : decode cX8_loseSheet 21 = .ok (.aload_n 1, 1) := by decide +kernel
theorem dX8_loseSheet_22 : decode cX8_loseSheet 22 = .ok (.bipush (-6), 2) := by decide +kernel
theorem dX8_loseSheet_24 : decode cX8_loseSheet 24 = .ok (.putfield 104, 3) := by decide +kernel
theorem dX8_loseSheet_27 : decode cX8_loseSheet 27 = .ok (.aload_n 1, 1) := by decide +kernel
theorem dX8_loseSheet_28 : decode cX8_loseSheet 28 = .ok (.dup, 1) := by decide +kernel
theorem dX8_loseSheet_29 : decode cX8_loseSheet 29 = .ok (.getfield 111, 3) := by decide +kernel
theorem dX8_loseSheet_32 : decode cX8_loseSheet 32 = .ok (.iconst 1, 1) := by decide +kernel
theorem dX8_loseSheet_33 : decode cX8_loseSheet 33 = .ok (.iadd, 1) := by decide +kernel
theorem dX8_loseSheet_34 : decode cX8_loseSheet 34 = .ok (.putfield 111, 3) := by decide +kernel
theorem dX8_loseSheet_37 : decode cX8_loseSheet 37 = .ok (.return_, 1) := by decide +kernel
def f8_loseSheet_b21 (v1 : Option Nat) (g : GS_) : Option (Unit × GS_) :=
  oc_ v1 none fun a1 => lr_ (sfi g 165 a1 (-6 : Int32)) fun g2 => lr_ (sfi g2 167 a1 ((gfi g2 167 a1) + (1 : Int32))) fun g3 => some ((), g3)
theorem t8_loseSheet_b21 (v1 : Option Nat) (g : GS_) : K_ RX8 cX8_loseSheet 3 none 2 42 false EV_ 21 [none, some (.inr (5, v1)), none] [] g (f8_loseSheet_b21 v1 g) := by
  unfold f8_loseSheet_b21
  refine k_aloadn (j := 1) dX8_loseSheet_21 rfl rfl ?_
  refine k_bipush (v := (-6 : Int32)) dX8_loseSheet_22 rfl ?_
  rcases v1 with _ | a1
  · exact k_ocn
  refine k_ocs ?_
  refine k_puti fp_8_104 rfl rfl dX8_loseSheet_24 (fun g2 => ?_)
  refine k_aloadn (j := 1) dX8_loseSheet_27 rfl rfl ?_
  refine k_dup dX8_loseSheet_28 ?_
  refine k_geti fg_8_111 rfl rfl dX8_loseSheet_29 ?_
  refine k_iconst (v := (1 : Int32)) dX8_loseSheet_32 rfl ?_
  refine k_iadd dX8_loseSheet_33 ?_
  refine k_puti fp_8_111 rfl rfl dX8_loseSheet_34 (fun g3 => ?_)
  exact k_return rfl dX8_loseSheet_37
def f8_loseSheet (v0 : Nat) (v1 : Option Nat) (g : GS_) : Option (Unit × GS_) :=
  oc_ v1 none fun a4 => bd_ (f8_jobAt v0 (gfi g 165 a4) g) fun x6 g5 => oc_ x6 (f8_loseSheet_b21 (some a4) g5) fun a7 => bd_ (f1_stopPrinting a7 (gfi g5 271 v0) g5) fun _ g8 => f8_loseSheet_b21 (some a4) g8
theorem t8_loseSheet (v0 : Nat) (v1 : Option Nat) (g : GS_) : Cn_ yX8_loseSheet cX8_loseSheet 3 none 2 42 EV_ [.inr (8, some v0), .inr (5, v1)] g (f8_loseSheet v0 v1 g) := by
  refine k_method (own := RX8) (ini := false) (L1 := [some (.inr (8, some v0)), some (.inr (5, v1)), none]) (by decide +kernel) rfl (fun h => by cases h) (Nat.le_of_ble_eq_true rfl) rfl ?_
  unfold f8_loseSheet
  refine k_aloadn (j := 0) dX8_loseSheet_0 rfl rfl ?_
  refine k_aloadn (j := 1) dX8_loseSheet_1 rfl rfl ?_
  rcases v1 with _ | a4
  · exact k_ocn
  refine k_ocs ?_
  refine k_geti fg_8_104 rfl rfl dX8_loseSheet_2 ?_
  refine k_callVr [.inl (gfi g 165 a4)] (t8_jobAt v0 (gfi g 165 a4) g) cw_cX8_jobAt (Or.inl ml_8_97) rfl rfl (by decide) (by decide) (Nat.le_of_ble_eq_true rfl) dX8_loseSheet_5 (fun x6 g5 => ?_)
  refine k_astn (j := 2) (L' := [some (.inr (8, some v0)), some (.inr (5, some a4)), some (.inr (1, x6))]) dX8_loseSheet_8 rfl (by decide) rfl ?_
  refine k_aloadn (j := 2) dX8_loseSheet_9 rfl rfl ?_
  rcases x6 with _ | a7
  · refine k_ifnulln (tgt := 21) dX8_loseSheet_10 (by decide) ?_
    refine k_msk (L' := [none, some (.inr (5, some a4)), none]) [false, true, false] rfl ?_
    exact t8_loseSheet_b21 (some a4) g5
  refine k_ifnulls dX8_loseSheet_10 ?_
  refine k_aloadn (j := 2) dX8_loseSheet_13 rfl rfl ?_
  refine k_aloadn (j := 0) dX8_loseSheet_14 rfl rfl ?_
  refine k_geti fg_8_75 rfl rfl dX8_loseSheet_15 ?_
  refine k_callVv [.inl (gfi g5 271 v0)] (t1_stopPrinting a7 (gfi g5 271 v0) g5) cw_cX1_stopPrinting (Or.inl ml_8_107) rfl rfl (by decide) (by decide) (Nat.le_of_ble_eq_true rfl) dX8_loseSheet_18 (fun _ g8 => ?_)
  refine k_msk (L' := [none, some (.inr (5, some a4)), none]) [false, true, false] rfl ?_
  exact t8_loseSheet_b21 (some a4) g8
theorem dX8_printerAt_0 : decode cX8_printerAt 0 = .ok (.iload_n 1, 1) := by decide +kernel
theorem dX8_printerAt_1 : decode cX8_printerAt 1 = .ok (.ifCond .lt 24, 3) := by decide +kernel
theorem dX8_printerAt_4 : decode cX8_printerAt 4 = .ok (.iload_n 1, 1) := by decide +kernel
theorem dX8_printerAt_5 : decode cX8_printerAt 5 = .ok (.aload_n 0, 1) := by decide +kernel
theorem dX8_printerAt_6 : decode cX8_printerAt 6 = .ok (.getfield 36, 3) := by decide +kernel
theorem dX8_printerAt_9 : decode cX8_printerAt 9 = .ok (.if_icmp .ge 16, 3) := by decide +kernel
theorem dX8_printerAt_12 : decode cX8_printerAt 12 = .ok (.iload_n 1, 1) := by decide +kernel
theorem dX8_printerAt_13 : decode cX8_printerAt 13 = .ok (.aload_n 0, 1) := by decide +kernel
theorem dX8_printerAt_14 : decode cX8_printerAt 14 = .ok (.getfield 32, 3) := by decide +kernel
theorem dX8_printerAt_17 : decode cX8_printerAt 17 = .ok (.arraylength, 1) := by decide +kernel
theorem dX8_printerAt_18 : decode cX8_printerAt 18 = .ok (.if_icmp .ge 7, 3) := by decide +kernel
theorem dX8_printerAt_21 : decode cX8_printerAt 21 = .ok (.iconst 1, 1) := by decide +kernel
theorem dX8_printerAt_22 : decode cX8_printerAt 22 = .ok (.goto 4, 3) := by decide +kernel
theorem dX8_printerAt_25 : decode cX8_printerAt 25 = .ok (.iconst 0, 1) := by decide +kernel
theorem dX8_printerAt_26 : decode cX8_printerAt 26 = .ok (.istore_n 2, 1) := by decide +kernel
theorem dX8_printerAt_27 : decode cX8_printerAt 27 = .ok (.iload_n 2, 1) := by decide +kernel
theorem dX8_printerAt_28 : decode cX8_printerAt 28 = .ok (.ifCond .eq 12, 3) := by decide +kernel
theorem dX8_printerAt_31 : decode cX8_printerAt 31 = .ok (.aload_n 0, 1) := by decide +kernel
theorem dX8_printerAt_32 : decode cX8_printerAt 32 = .ok (.getfield 32, 3) := by decide +kernel
theorem dX8_printerAt_35 : decode cX8_printerAt 35 = .ok (.iload_n 1, 1) := by decide +kernel
theorem dX8_printerAt_36 : decode cX8_printerAt 36 = .ok (.aaload, 1) := by decide +kernel
theorem dX8_printerAt_37 : decode cX8_printerAt 37 = .ok (.goto 4, 3) := by decide +kernel
theorem dX8_printerAt_40 : decode cX8_printerAt 40 = .ok (.aconst_null, 1) := by decide +kernel
theorem dX8_printerAt_41 : decode cX8_printerAt 41 = .ok (.areturn, 1) := by decide +kernel
def f8_printerAt_b26 (v0 : Nat) (v1 : Int32) (s0 : Int32) (g : GS_) : Option (Option Nat × GS_) :=
  if s0 = 0 then some (none, g) else lr_ (gfr g 260 v0) fun x1 => oc_ x1 none fun a2 => if inb v1 (gln g 24 a2) then lr_ (gar g 24 a2 v1.toInt.toNat) (fun x3 => some (x3, g)) else none
theorem t8_printerAt_b26 (v0 : Nat) (v1 : Int32) (s0 : Int32) (g : GS_) : K_ RX8 cX8_printerAt 3 (some (.object RX5)) 0 0 false (ER_ 5) 26 [some (.inr (8, some v0)), some (.inl v1), none] [.inl s0] g (f8_printerAt_b26 v0 v1 s0 g) := by
  unfold f8_printerAt_b26
  refine k_istn (j := 2) (L' := [some (.inr (8, some v0)), some (.inl v1), some (.inl s0)]) dX8_printerAt_26 rfl (by decide) rfl ?_
  refine k_iloadn (j := 2) dX8_printerAt_27 rfl rfl ?_
  refine k_ifeq (tgt := 40) dX8_printerAt_28 (by decide) (fun _ => ?_) (fun _ => ?_)
  · refine k_null (t := 5) dX8_printerAt_40 ?_
    exact k_areturn rfl (Or.inl ⟨_, rfl⟩) dX8_printerAt_41
  refine k_aloadn (j := 0) dX8_printerAt_31 rfl rfl ?_
  refine k_getr fg_8_32 rfl rfl dX8_printerAt_32 (fun x1 => ?_)
  refine k_iloadn (j := 1) dX8_printerAt_35 rfl rfl ?_
  rcases x1 with _ | a2
  · exact k_ocn
  refine k_ocs ?_
  refine k_aald rfl dX8_printerAt_36 (fun x3 => ?_)
  refine k_goto (tgt := 41) dX8_printerAt_37 (by decide) ?_
  exact k_areturn rfl (Or.inl ⟨_, rfl⟩) dX8_printerAt_41
def f8_printerAt_b25 (v0 : Nat) (v1 : Int32) (g : GS_) : Option (Option Nat × GS_) :=
  f8_printerAt_b26 v0 v1 (0 : Int32) g
theorem t8_printerAt_b25 (v0 : Nat) (v1 : Int32) (g : GS_) : K_ RX8 cX8_printerAt 3 (some (.object RX5)) 0 0 false (ER_ 5) 25 [some (.inr (8, some v0)), some (.inl v1), none] [] g (f8_printerAt_b25 v0 v1 g) := by
  unfold f8_printerAt_b25
  refine k_iconst (v := (0 : Int32)) dX8_printerAt_25 rfl ?_
  exact t8_printerAt_b26 v0 v1 (0 : Int32) g
def f8_printerAt (v0 : Nat) (v1 : Int32) (g : GS_) : Option (Option Nat × GS_) :=
  if v1 < 0 then f8_printerAt_b25 v0 v1 g else if (gfi g 261 v0) ≤ v1 then f8_printerAt_b25 v0 v1 g else lr_ (gfr g 260 v0) fun x4 => oc_ x4 none fun a5 => if (Int32.ofNat (gln g 24 a5)) ≤ v1 then f8_printerAt_b25 v0 v1 g else f8_printerAt_b26 v0 v1 (1 : Int32) g
theorem t8_printerAt (v0 : Nat) (v1 : Int32) (g : GS_) : Cn_ yX8_printerAt cX8_printerAt 3 (some (.object RX5)) 0 0 (ER_ 5) [.inr (8, some v0), .inl v1] g (f8_printerAt v0 v1 g) := by
  refine k_method (own := RX8) (ini := false) (L1 := [some (.inr (8, some v0)), some (.inl v1), none]) (by decide +kernel) rfl (fun h => by cases h) (Nat.le_of_ble_eq_true rfl) rfl ?_
  unfold f8_printerAt
  refine k_iloadn (j := 1) dX8_printerAt_0 rfl rfl ?_
  refine k_iflt (tgt := 25) dX8_printerAt_1 (by decide) (fun _ => ?_) (fun _ => ?_)
  · exact t8_printerAt_b25 v0 v1 g
  refine k_iloadn (j := 1) dX8_printerAt_4 rfl rfl ?_
  refine k_aloadn (j := 0) dX8_printerAt_5 rfl rfl ?_
  refine k_geti fg_8_36 rfl rfl dX8_printerAt_6 ?_
  refine k_icmpge (tgt := 25) dX8_printerAt_9 (by decide) (fun _ => ?_) (fun _ => ?_)
  · exact t8_printerAt_b25 v0 v1 g
  refine k_iloadn (j := 1) dX8_printerAt_12 rfl rfl ?_
  refine k_aloadn (j := 0) dX8_printerAt_13 rfl rfl ?_
  refine k_getr fg_8_32 rfl rfl dX8_printerAt_14 (fun x4 => ?_)
  rcases x4 with _ | a5
  · exact k_ocn
  refine k_ocs ?_
  refine k_alen dX8_printerAt_17 (by decide) ?_
  refine k_icmpge (tgt := 25) dX8_printerAt_18 (by decide) (fun _ => ?_) (fun _ => ?_)
  · exact t8_printerAt_b25 v0 v1 g
  refine k_iconst (v := (1 : Int32)) dX8_printerAt_21 rfl ?_
  refine k_goto (tgt := 26) dX8_printerAt_22 (by decide) ?_
  exact t8_printerAt_b26 v0 v1 (1 : Int32) g
theorem dX8_countFor_0 : decode cX8_countFor 0 = .ok (.iload_n 1, 1) := by decide +kernel
theorem dX8_countFor_1 : decode cX8_countFor 1 = .ok (.ifCond .lt 22, 3) := by decide +kernel
theorem dX8_countFor_4 : decode cX8_countFor 4 = .ok (.iload_n 1, 1) := by decide +kernel
theorem dX8_countFor_5 : decode cX8_countFor 5 = .ok (.aload_n 0, 1) := by decide +kernel
theorem dX8_countFor_6 : decode cX8_countFor 6 = .ok (.getfield 53, 3) := by decide +kernel
theorem dX8_countFor_9 : decode cX8_countFor 9 = .ok (.arraylength, 1) := by decide +kernel
theorem dX8_countFor_10 : decode cX8_countFor 10 = .ok (.if_icmp .ge 13, 3) := by decide +kernel
theorem dX8_countFor_13 : decode cX8_countFor 13 = .ok (.aload_n 0, 1) := by decide +kernel
theorem dX8_countFor_14 : decode cX8_countFor 14 = .ok (.getfield 53, 3) := by decide +kernel
theorem dX8_countFor_17 : decode cX8_countFor 17 = .ok (.iload_n 1, 1) := by decide +kernel
theorem dX8_countFor_18 : decode cX8_countFor 18 = .ok (.dup2, 1) := by decide +kernel
theorem dX8_countFor_19 : decode cX8_countFor 19 = .ok (.iaload, 1) := by decide +kernel
theorem dX8_countFor_20 : decode cX8_countFor 20 = .ok (.iconst 1, 1) := by decide +kernel
theorem dX8_countFor_21 : decode cX8_countFor 21 = .ok (.iadd, 1) := by decide +kernel
theorem dX8_countFor_22 : decode cX8_countFor 22 = .ok (.iastore, 1) := by decide +kernel
theorem dX8_countFor_23 : decode cX8_countFor 23 = .ok (.return_, 1) := by decide +kernel
def f8_countFor (v0 : Nat) (v1 : Int32) (g : GS_) : Option (Unit × GS_) :=
  if v1 < 0 then some ((), g) else lr_ (gfr g 265 v0) fun x1 => oc_ x1 none fun a2 => if (Int32.ofNat (gln g 20 a2)) ≤ v1 then some ((), g) else lr_ (gfr g 265 v0) fun x3 => oc_ x3 none fun a4 => if inb v1 (gln g 20 a4) then if inb v1 (gln g 20 a4) then lr_ (sai g 20 a4 v1.toInt.toNat ((gai g 20 a4 v1.toInt.toNat) + (1 : Int32))) (fun g5 => some ((), g5)) else none else none
theorem t8_countFor (v0 : Nat) (v1 : Int32) (g : GS_) : Cn_ yX8_countFor cX8_countFor 2 none 0 0 EV_ [.inr (8, some v0), .inl v1] g (f8_countFor v0 v1 g) := by
  refine k_method (own := RX8) (ini := false) (L1 := [some (.inr (8, some v0)), some (.inl v1)]) (by decide +kernel) rfl (fun h => by cases h) (Nat.le_of_ble_eq_true rfl) rfl ?_
  unfold f8_countFor
  refine k_iloadn (j := 1) dX8_countFor_0 rfl rfl ?_
  refine k_iflt (tgt := 23) dX8_countFor_1 (by decide) (fun _ => ?_) (fun _ => ?_)
  · exact k_return rfl dX8_countFor_23
  refine k_iloadn (j := 1) dX8_countFor_4 rfl rfl ?_
  refine k_aloadn (j := 0) dX8_countFor_5 rfl rfl ?_
  refine k_getr fg_8_53 rfl rfl dX8_countFor_6 (fun x1 => ?_)
  rcases x1 with _ | a2
  · exact k_ocn
  refine k_ocs ?_
  refine k_alen dX8_countFor_9 (by decide) ?_
  refine k_icmpge (tgt := 23) dX8_countFor_10 (by decide) (fun _ => ?_) (fun _ => ?_)
  · exact k_return rfl dX8_countFor_23
  refine k_aloadn (j := 0) dX8_countFor_13 rfl rfl ?_
  refine k_getr fg_8_53 rfl rfl dX8_countFor_14 (fun x3 => ?_)
  refine k_iloadn (j := 1) dX8_countFor_17 rfl rfl ?_
  refine k_dup2 dX8_countFor_18 ?_
  rcases x3 with _ | a4
  · exact k_ocn
  refine k_ocs ?_
  refine k_iald dX8_countFor_19 ?_
  refine k_iconst (v := (1 : Int32)) dX8_countFor_20 rfl ?_
  refine k_iadd dX8_countFor_21 ?_
  refine k_iast dX8_countFor_22 (fun g5 => ?_)
  exact k_return rfl dX8_countFor_23
theorem dX8_markDone_0 : decode cX8_markDone 0 = .ok (.aload_n 1, 1) := by decide +kernel
theorem dX8_markDone_1 : decode cX8_markDone 1 = .ok (.iconst 3, 1) := by decide +kernel
theorem dX8_markDone_2 : decode cX8_markDone 2 = .ok (.putfield 101, 3) := by decide +kernel
theorem dX8_markDone_5 : decode cX8_markDone 5 = .ok (.aload_n 1, 1) := by decide +kernel
theorem dX8_markDone_6 : decode cX8_markDone 6 = .ok (.iconst (-1), 1) := by decide +kernel
theorem dX8_markDone_7 : decode cX8_markDone 7 = .ok (.putfield 176, 3) := by decide +kernel
theorem dX8_markDone_10 : decode cX8_markDone 10 = .ok (.aload_n 0, 1) := by decide +kernel
theorem dX8_markDone_11 : decode cX8_markDone 11 = .ok (.getfield 66, 3) := by decide +kernel
theorem dX8_markDone_14 : decode cX8_markDone 14 = .ok (.ifCond .lt 38, 3) := by decide +kernel
theorem dX8_markDone_17 : decode cX8_markDone 17 = .ok (.aload_n 0, 1) := by decide +kernel
theorem dX8_markDone_18 : decode cX8_markDone 18 = .ok (.getfield 66, 3) := by decide +kernel
theorem dX8_markDone_21 : decode cX8_markDone 21 = .ok (.aload_n 0, 1) := by decide +kernel
theorem dX8_markDone_22 : decode cX8_markDone 22 = .ok (.getfield 63, 3) := by decide +kernel
theorem dX8_markDone_25 : decode cX8_markDone 25 = .ok (.arraylength, 1) := by decide +kernel
theorem dX8_markDone_26 : decode cX8_markDone 26 = .ok (.if_icmp .ge 26, 3) := by decide +kernel
theorem dX8_markDone_29 : decode cX8_markDone 29 = .ok (.aload_n 0, 1) := by decide +kernel
theorem dX8_markDone_30 : decode cX8_markDone 30 = .ok (.getfield 63, 3) := by decide +kernel
theorem dX8_markDone_33 : decode cX8_markDone 33 = .ok (.aload_n 0, 1) := by decide +kernel
theorem dX8_markDone_34 : decode cX8_markDone 34 = .ok (.getfield 66, 3) := by decide +kernel
theorem dX8_markDone_37 : decode cX8_markDone 37 = .ok (.aload_n 1, 1) := by decide +kernel
theorem dX8_markDone_38 : decode cX8_markDone 38 = .ok (.getfield 146, 3) := by decide +kernel
theorem dX8_markDone_41 : decode cX8_markDone 41 = .ok (.iastore, 1) := by decide +kernel
theorem dX8_markDone_42 : decode cX8_markDone 42 = .ok (.aload_n 0, 1) := by decide +kernel
theorem dX8_markDone_43 : decode cX8_markDone 43 = .ok (.dup, 1) := by decide +kernel
theorem dX8_markDone_44 : decode cX8_markDone 44 = .ok (.getfield 66, 3) := by decide +kernel
theorem dX8_markDone_47 : decode cX8_markDone 47 = .ok (.iconst 1, 1) := by decide +kernel
theorem dX8_markDone_48 : decode cX8_markDone 48 = .ok (.iadd, 1) := by decide +kernel
theorem dX8_markDone_49 : decode cX8_markDone 49 = .ok (.putfield 66, 3) := by decide +kernel
theorem dX8_markDone_52 : decode cX8_markDone 52 = .ok (.return_, 1) := by decide +kernel
def f8_markDone (v0 : Nat) (v1 : Option Nat) (g : GS_) : Option (Unit × GS_) :=
  oc_ v1 none fun a1 => lr_ (sfi g 35 a1 (3 : Int32)) fun g2 => lr_ (sfi g2 38 a1 (-1 : Int32)) fun g3 => if (gfi g3 268 v0) < 0 then some ((), g3) else lr_ (gfr g3 267 v0) fun x4 => oc_ x4 none fun a5 => if (Int32.ofNat (gln g3 20 a5)) ≤ (gfi g3 268 v0) then some ((), g3) else lr_ (gfr g3 267 v0) fun x6 => oc_ x6 none fun a7 => if inb (gfi g3 268 v0) (gln g3 20 a7) then lr_ (sai g3 20 a7 (gfi g3 268 v0).toInt.toNat (gfi g3 32 a1)) (fun g8 => lr_ (sfi g8 268 v0 ((gfi g8 268 v0) + (1 : Int32))) fun g9 => some ((), g9)) else none
theorem t8_markDone (v0 : Nat) (v1 : Option Nat) (g : GS_) : Cn_ yX8_markDone cX8_markDone 2 none 0 0 EV_ [.inr (8, some v0), .inr (1, v1)] g (f8_markDone v0 v1 g) := by
  refine k_method (own := RX8) (ini := false) (L1 := [some (.inr (8, some v0)), some (.inr (1, v1))]) (by decide +kernel) rfl (fun h => by cases h) (Nat.le_of_ble_eq_true rfl) rfl ?_
  unfold f8_markDone
  refine k_aloadn (j := 1) dX8_markDone_0 rfl rfl ?_
  refine k_iconst (v := (3 : Int32)) dX8_markDone_1 rfl ?_
  rcases v1 with _ | a1
  · exact k_ocn
  refine k_ocs ?_
  refine k_puti fp_8_101 rfl rfl dX8_markDone_2 (fun g2 => ?_)
  refine k_aloadn (j := 1) dX8_markDone_5 rfl rfl ?_
  refine k_iconst (v := (-1 : Int32)) dX8_markDone_6 rfl ?_
  refine k_puti fp_8_176 rfl rfl dX8_markDone_7 (fun g3 => ?_)
  refine k_aloadn (j := 0) dX8_markDone_10 rfl rfl ?_
  refine k_geti fg_8_66 rfl rfl dX8_markDone_11 ?_
  refine k_iflt (tgt := 52) dX8_markDone_14 (by decide) (fun _ => ?_) (fun _ => ?_)
  · exact k_return rfl dX8_markDone_52
  refine k_aloadn (j := 0) dX8_markDone_17 rfl rfl ?_
  refine k_geti fg_8_66 rfl rfl dX8_markDone_18 ?_
  refine k_aloadn (j := 0) dX8_markDone_21 rfl rfl ?_
  refine k_getr fg_8_63 rfl rfl dX8_markDone_22 (fun x4 => ?_)
  rcases x4 with _ | a5
  · exact k_ocn
  refine k_ocs ?_
  refine k_alen dX8_markDone_25 (by decide) ?_
  refine k_icmpge (tgt := 52) dX8_markDone_26 (by decide) (fun _ => ?_) (fun _ => ?_)
  · exact k_return rfl dX8_markDone_52
  refine k_aloadn (j := 0) dX8_markDone_29 rfl rfl ?_
  refine k_getr fg_8_63 rfl rfl dX8_markDone_30 (fun x6 => ?_)
  refine k_aloadn (j := 0) dX8_markDone_33 rfl rfl ?_
  refine k_geti fg_8_66 rfl rfl dX8_markDone_34 ?_
  refine k_aloadn (j := 1) dX8_markDone_37 rfl rfl ?_
  refine k_geti fg_8_146 rfl rfl dX8_markDone_38 ?_
  rcases x6 with _ | a7
  · exact k_ocn
  refine k_ocs ?_
  refine k_iast dX8_markDone_41 (fun g8 => ?_)
  refine k_aloadn (j := 0) dX8_markDone_42 rfl rfl ?_
  refine k_dup dX8_markDone_43 ?_
  refine k_geti fg_8_66 rfl rfl dX8_markDone_44 ?_
  refine k_iconst (v := (1 : Int32)) dX8_markDone_47 rfl ?_
  refine k_iadd dX8_markDone_48 ?_
  refine k_puti fp_8_66 rfl rfl dX8_markDone_49 (fun g9 => ?_)
  exact k_return rfl dX8_markDone_52
theorem dX8_hasSupply_0 : decode cX8_hasSupply 0 = .ok (.aload_n 1, 1) := by decide +kernel
theorem dX8_hasSupply_1 : decode cX8_hasSupply 1 = .ok (.aload_n 2, 1) := by decide +kernel
theorem dX8_hasSupply_2 : decode cX8_hasSupply 2 = .ok (.getfield 193, 3) := by decide +kernel
theorem dX8_hasSupply_5 : decode cX8_hasSupply 5 = .ok (.getfield 197, 3) := by decide +kernel
theorem dX8_hasSupply_8 : decode cX8_hasSupply 8 = .ok (.invokevirtual 203, 3) := by decide +kernel
theorem dX8_hasSupply_11 : decode cX8_hasSupply 11 = .ok (.ifCond .le 26, 3) := by decide +kernel
theorem dX8_hasSupply_14 : decode cX8_hasSupply 14 = .ok (.aload_n 0, 1) := by decide +kernel
theorem dX8_hasSupply_15 : decode cX8_hasSupply 15 = .ok (.aload_n 2, 1) := by decide +kernel
theorem dX8_hasSupply_16 : decode cX8_hasSupply 16 = .ok (.getfield 160, 3) := by decide +kernel
theorem dX8_hasSupply_19 : decode cX8_hasSupply 19 = .ok (.invokevirtual 226, 3) := by decide +kernel
theorem dX8_hasSupply_22 : decode cX8_hasSupply 22 = .ok (.aload_n 0, 1) := by decide +kernel
theorem dX8_hasSupply_23 : decode cX8_hasSupply 23 = .ok (.aload_n 2, 1) := by decide +kernel
theorem dX8_hasSupply_24 : decode cX8_hasSupply 24 = .ok (.getfield 160, 3) := by decide +kernel
theorem dX8_hasSupply_27 : decode cX8_hasSupply 27 = .ok (.invokevirtual 229, 3) := by decide +kernel
theorem dX8_hasSupply_30 : decode cX8_hasSupply 30 = .ok (.if_icmp .ge 7, 3) := by decide +kernel
theorem dX8_hasSupply_33 : decode cX8_hasSupply 33 = .ok (.iconst 1, 1) := by decide +kernel
theorem dX8_hasSupply_34 : decode cX8_hasSupply 34 = .ok (.goto 4, 3) := by decide +kernel
theorem dX8_hasSupply_37 : decode cX8_hasSupply 37 = .ok (.iconst 0, 1) := by decide +kernel
theorem dX8_hasSupply_38 : decode cX8_hasSupply 38 = .ok (.ireturn, 1) := by decide +kernel
def f8_hasSupply_b37 (g : GS_) : Option (Int32 × GS_) :=
  some ((0 : Int32), g)
theorem t8_hasSupply_b37 (g : GS_) : K_ RX8 cX8_hasSupply 3 (some .boolean) 1 21 false EI_ 37 [none, none, none] [] g (f8_hasSupply_b37 g) := by
  unfold f8_hasSupply_b37
  refine k_iconst (v := (0 : Int32)) dX8_hasSupply_37 rfl ?_
  exact k_zreturn rfl (by decide) dX8_hasSupply_38
def f8_hasSupply (v0 : Nat) (v1 : Option Nat) (v2 : Option Nat) (g : GS_) : Option (Int32 × GS_) :=
  oc_ v2 none fun a1 => lr_ (gfr g 128 a1) fun x2 => oc_ x2 none fun a3 => oc_ v1 none fun a4 => bd_ (f5_sheetsIn a4 (gfi g 1 a3) g) fun z6 g5 => if z6 ≤ 0 then f8_hasSupply_b37 g5 else bd_ (f8_printedFor v0 (gfi g5 135 a1) g5) fun z8 g7 => bd_ (f8_quotaOf v0 (gfi g7 135 a1) g7) fun z10 g9 => if z10 ≤ z8 then f8_hasSupply_b37 g9 else some ((1 : Int32), g9)
theorem t8_hasSupply (v0 : Nat) (v1 : Option Nat) (v2 : Option Nat) (g : GS_) : Cn_ yX8_hasSupply cX8_hasSupply 3 (some .boolean) 1 21 EI_ [.inr (8, some v0), .inr (5, v1), .inr (4, v2)] g (f8_hasSupply v0 v1 v2 g) := by
  refine k_method (own := RX8) (ini := false) (L1 := [some (.inr (8, some v0)), some (.inr (5, v1)), some (.inr (4, v2))]) (by decide +kernel) rfl (fun h => by cases h) (Nat.le_of_ble_eq_true rfl) rfl ?_
  unfold f8_hasSupply
  refine k_aloadn (j := 1) dX8_hasSupply_0 rfl rfl ?_
  refine k_aloadn (j := 2) dX8_hasSupply_1 rfl rfl ?_
  rcases v2 with _ | a1
  · exact k_ocn
  refine k_ocs ?_
  refine k_getr fg_8_193 rfl rfl dX8_hasSupply_2 (fun x2 => ?_)
  rcases x2 with _ | a3
  · exact k_ocn
  refine k_ocs ?_
  refine k_geti fg_8_197 rfl rfl dX8_hasSupply_5 ?_
  rcases v1 with _ | a4
  · exact k_ocn
  refine k_ocs ?_
  refine k_callVi [.inl (gfi g 1 a3)] (t5_sheetsIn a4 (gfi g 1 a3) g) cw_cX5_sheetsIn (Or.inl ml_8_203) rfl rfl (by decide) (by decide) (Nat.le_of_ble_eq_true rfl) dX8_hasSupply_8 (fun z6 g5 => ?_)
  refine k_ifle (tgt := 37) dX8_hasSupply_11 (by decide) (fun _ => ?_) (fun _ => ?_)
  · refine k_msk (L' := [none, none, none]) [false, false, false] rfl ?_
    exact t8_hasSupply_b37 g5
  refine k_aloadn (j := 0) dX8_hasSupply_14 rfl rfl ?_
  refine k_aloadn (j := 2) dX8_hasSupply_15 rfl rfl ?_
  refine k_geti fg_8_160 rfl rfl dX8_hasSupply_16 ?_
  refine k_callVi [.inl (gfi g5 135 a1)] (t8_printedFor v0 (gfi g5 135 a1) g5) cw_cX8_printedFor (Or.inl ml_8_226) rfl rfl (by decide) (by decide) (Nat.le_of_ble_eq_true rfl) dX8_hasSupply_19 (fun z8 g7 => ?_)
  refine k_aloadn (j := 0) dX8_hasSupply_22 rfl rfl ?_
  refine k_aloadn (j := 2) dX8_hasSupply_23 rfl rfl ?_
  refine k_geti fg_8_160 rfl rfl dX8_hasSupply_24 ?_
  refine k_callVi [.inl (gfi g7 135 a1)] (t8_quotaOf v0 (gfi g7 135 a1) g7) cw_cX8_quotaOf (Or.inl ml_8_229) rfl rfl (by decide) (by decide) (Nat.le_of_ble_eq_true rfl) dX8_hasSupply_27 (fun z10 g9 => ?_)
  refine k_icmpge (tgt := 37) dX8_hasSupply_30 (by decide) (fun _ => ?_) (fun _ => ?_)
  · refine k_msk (L' := [none, none, none]) [false, false, false] rfl ?_
    exact t8_hasSupply_b37 g9
  refine k_iconst (v := (1 : Int32)) dX8_hasSupply_33 rfl ?_
  refine k_goto (tgt := 38) dX8_hasSupply_34 (by decide) ?_
  exact k_zreturn rfl (by decide) dX8_hasSupply_38
theorem dX8_isPrintable_0 : decode cX8_isPrintable 0 = .ok (.aload_n 2, 1) := by decide +kernel
theorem dX8_isPrintable_1 : decode cX8_isPrintable 1 = .ok (.getfield 101, 3) := by decide +kernel
theorem dX8_isPrintable_4 : decode cX8_isPrintable 4 = .ok (.ifCond .ne 36, 3) := by decide +kernel
theorem dX8_isPrintable_7 : decode cX8_isPrintable 7 = .ok (.aload_n 1, 1) := by decide +kernel
theorem dX8_isPrintable_8 : decode cX8_isPrintable 8 = .ok (.getfield 220, 3) := by decide +kernel
theorem dX8_isPrintable_11 : decode cX8_isPrintable 11 = .ok (.ifCond .ne 13, 3) := by decide +kernel
theorem dX8_isPrintable_14 : decode cX8_isPrintable 14 = .ok (.aload_n 2, 1) := by decide +kernel
theorem dX8_isPrintable_15 : decode cX8_isPrintable 15 = .ok (.getfield 156, 3) := by decide +kernel
theorem dX8_isPrintable_18 : decode cX8_isPrintable 18 = .ok (.getfield 223, 3) := by decide +kernel
theorem dX8_isPrintable_21 : decode cX8_isPrintable 21 = .ok (.ifCond .ne 19, 3) := by decide +kernel
theorem dX8_isPrintable_24 : decode cX8_isPrintable 24 = .ok (.aload_n 0, 1) := by decide +kernel
theorem dX8_isPrintable_25 : decode cX8_isPrintable 25 = .ok (.aload_n 1, 1) := by decide +kernel
theorem dX8_isPrintable_26 : decode cX8_isPrintable 26 = .ok (.aload_n 2, 1) := by decide +kernel
theorem dX8_isPrintable_27 : decode cX8_isPrintable 27 = .ok (.getfield 156, 3) := by decide +kernel
theorem dX8_isPrintable_30 : decode cX8_isPrintable 30 = .ok (.invokevirtual 179, 3) := by decide +kernel
theorem dX8_isPrintable_33 : decode cX8_isPrintable 33 = .ok (.ifCond .eq 7, 3) := by decide +kernel
theorem dX8_isPrintable_36 : decode cX8_isPrintable 36 = .ok (.iconst 1, 1) := by decide +kernel
theorem dX8_isPrintable_37 : decode cX8_isPrintable 37 = .ok (.goto 4, 3) := by decide +kernel
theorem dX8_isPrintable_40 : decode cX8_isPrintable 40 = .ok (.iconst 0, 1) := by decide +kernel
theorem dX8_isPrintable_41 : decode cX8_isPrintable 41 = .ok (.ireturn, 1) := by decide +kernel
def f8_isPrintable_b40 (g : GS_) : Option (Int32 × GS_) :=
  some ((0 : Int32), g)
theorem t8_isPrintable_b40 (g : GS_) : K_ RX8 cX8_isPrintable 3 (some .boolean) 2 43 false EI_ 40 [none, none, none] [] g (f8_isPrintable_b40 g) := by
  unfold f8_isPrintable_b40
  refine k_iconst (v := (0 : Int32)) dX8_isPrintable_40 rfl ?_
  exact k_zreturn rfl (by decide) dX8_isPrintable_41
def f8_isPrintable_b24 (v0 : Nat) (v1 : Option Nat) (v2 : Option Nat) (g : GS_) : Option (Int32 × GS_) :=
  oc_ v2 none fun a1 => lr_ (gfr g 33 a1) fun x2 => bd_ (f8_hasSupply v0 v1 x2 g) fun z4 g3 => if z4 = 0 then f8_isPrintable_b40 g3 else some ((1 : Int32), g3)
theorem t8_isPrintable_b24 (v0 : Nat) (v1 : Option Nat) (v2 : Option Nat) (g : GS_) : K_ RX8 cX8_isPrintable 3 (some .boolean) 2 43 false EI_ 24 [some (.inr (8, some v0)), some (.inr (5, v1)), some (.inr (1, v2))] [] g (f8_isPrintable_b24 v0 v1 v2 g) := by
  unfold f8_isPrintable_b24
  refine k_aloadn (j := 0) dX8_isPrintable_24 rfl rfl ?_
  refine k_aloadn (j := 1) dX8_isPrintable_25 rfl rfl ?_
  refine k_aloadn (j := 2) dX8_isPrintable_26 rfl rfl ?_
  rcases v2 with _ | a1
  · exact k_ocn
  refine k_ocs ?_
  refine k_getr fg_8_156 rfl rfl dX8_isPrintable_27 (fun x2 => ?_)
  refine k_callVi [.inr (5, v1), .inr (4, x2)] (t8_hasSupply v0 v1 x2 g) cw_cX8_hasSupply (Or.inl ml_8_179) rfl rfl (by decide) (by decide) (Nat.le_of_ble_eq_true rfl) dX8_isPrintable_30 (fun z4 g3 => ?_)
  refine k_ifeq (tgt := 40) dX8_isPrintable_33 (by decide) (fun _ => ?_) (fun _ => ?_)
  · refine k_msk (L' := [none, none, none]) [false, false, false] rfl ?_
    exact t8_isPrintable_b40 g3
  refine k_iconst (v := (1 : Int32)) dX8_isPrintable_36 rfl ?_
  refine k_goto (tgt := 41) dX8_isPrintable_37 (by decide) ?_
  exact k_zreturn rfl (by decide) dX8_isPrintable_41
def f8_isPrintable (v0 : Nat) (v1 : Option Nat) (v2 : Option Nat) (g : GS_) : Option (Int32 × GS_) :=
  oc_ v2 none fun a5 => if (gfi g 35 a5) = 0 then oc_ v1 none fun a6 => if (gfi g 162 a6) = 0 then lr_ (gfr g 33 a5) fun x7 => oc_ x7 none fun a8 => if (gfi g 137 a8) = 0 then f8_isPrintable_b24 v0 (some a6) (some a5) g else f8_isPrintable_b40 g else f8_isPrintable_b24 v0 (some a6) (some a5) g else f8_isPrintable_b40 g
theorem t8_isPrintable (v0 : Nat) (v1 : Option Nat) (v2 : Option Nat) (g : GS_) : Cn_ yX8_isPrintable cX8_isPrintable 3 (some .boolean) 2 43 EI_ [.inr (8, some v0), .inr (5, v1), .inr (1, v2)] g (f8_isPrintable v0 v1 v2 g) := by
  refine k_method (own := RX8) (ini := false) (L1 := [some (.inr (8, some v0)), some (.inr (5, v1)), some (.inr (1, v2))]) (by decide +kernel) rfl (fun h => by cases h) (Nat.le_of_ble_eq_true rfl) rfl ?_
  unfold f8_isPrintable
  refine k_aloadn (j := 2) dX8_isPrintable_0 rfl rfl ?_
  rcases v2 with _ | a5
  · exact k_ocn
  refine k_ocs ?_
  refine k_geti fg_8_101 rfl rfl dX8_isPrintable_1 ?_
  refine k_ifne (tgt := 40) dX8_isPrintable_4 (by decide) (fun _ => ?_) (fun _ => ?_)
  · refine k_aloadn (j := 1) dX8_isPrintable_7 rfl rfl ?_
    rcases v1 with _ | a6
    · exact k_ocn
    refine k_ocs ?_
    refine k_geti fg_8_220 rfl rfl dX8_isPrintable_8 ?_
    refine k_ifne (tgt := 24) dX8_isPrintable_11 (by decide) (fun _ => ?_) (fun _ => ?_)
    · refine k_aloadn (j := 2) dX8_isPrintable_14 rfl rfl ?_
      refine k_getr fg_8_156 rfl rfl dX8_isPrintable_15 (fun x7 => ?_)
      rcases x7 with _ | a8
      · exact k_ocn
      refine k_ocs ?_
      refine k_geti fg_8_223 rfl rfl dX8_isPrintable_18 ?_
      refine k_ifne (tgt := 40) dX8_isPrintable_21 (by decide) (fun _ => ?_) (fun _ => ?_)
      · exact t8_isPrintable_b24 v0 (some a6) (some a5) g
      refine k_msk (L' := [none, none, none]) [false, false, false] rfl ?_
      exact t8_isPrintable_b40 g
    exact t8_isPrintable_b24 v0 (some a6) (some a5) g
  refine k_msk (L' := [none, none, none]) [false, false, false] rfl ?_
  exact t8_isPrintable_b40 g
theorem dX8_bestFor_0 : decode cX8_bestFor 0 = .ok (.aconst_null, 1) := by decide +kernel
theorem dX8_bestFor_1 : decode cX8_bestFor 1 = .ok (.astore_n 2, 1) := by decide +kernel
theorem dX8_bestFor_2 : decode cX8_bestFor 2 = .ok (.iconst 0, 1) := by decide +kernel
theorem dX8_bestFor_3 : decode cX8_bestFor 3 = .ok (.istore_n 3, 1) := by decide +kernel
theorem dX8_bestFor_4 : decode cX8_bestFor 4 = .ok (.iconst 0, 1) := by decide +kernel
theorem dX8_bestFor_5 : decode cX8_bestFor 5 = .ok (.istore 4, 2) := by decide +kernel
theorem dX8_bestFor_7 : decode cX8_bestFor 7 = .ok (.iload 4, 2) := by decide +kernel
theorem dX8_bestFor_9 : decode cX8_bestFor 9 = .ok (.aload_n 0, 1) := by decide +kernel
theorem dX8_bestFor_10 : decode cX8_bestFor 10 = .ok (.getfield 27, 3) := by decide +kernel
theorem dX8_bestFor_13 : decode cX8_bestFor 13 = .ok (.if_icmp .ge 63, 3) := by decide +kernel
theorem dX8_bestFor_16 : decode cX8_bestFor 16 = .ok (.aload_n 0, 1) := by decide +kernel
theorem dX8_bestFor_17 : decode cX8_bestFor 17 = .ok (.iload 4, 2) := by decide +kernel
theorem dX8_bestFor_19 : decode cX8_bestFor 19 = .ok (.invokevirtual 97, 3) := by decide +kernel
theorem dX8_bestFor_22 : decode cX8_bestFor 22 = .ok (.astore 5, 2) := by decide +kernel
theorem dX8_bestFor_24 : decode cX8_bestFor 24 = .ok (.aload 5, 2) := by decide +kernel
theorem dX8_bestFor_26 : decode cX8_bestFor 26 = .ok (.ifnull 44, 3) := by decide +kernel
theorem dX8_bestFor_29 : decode cX8_bestFor 29 = .ok (.aload_n 0, 1) := by decide +kernel
theorem dX8_bestFor_30 : decode cX8_bestFor 30 = .ok (.aload_n 1, 1) := by decide +kernel
theorem dX8_bestFor_31 : decode cX8_bestFor 31 = .ok (.aload 5, 2) := by decide +kernel
theorem dX8_bestFor_33 : decode cX8_bestFor 33 = .ok (.invokevirtual 216, 3) := by decide +kernel
theorem dX8_bestFor_36 : decode cX8_bestFor 36 = .ok (.ifCond .eq 34, 3) := by decide +kernel
theorem dX8_bestFor_39 : decode cX8_bestFor 39 = .ok (.aload 5, 2) := by decide +kernel
theorem dX8_bestFor_41 : decode cX8_bestFor 41 = .ok (.aload_n 0, 1) := by decide +kernel
theorem dX8_bestFor_42 : decode cX8_bestFor 42 = .ok (.getfield 75, 3) := by decide +kernel
theorem dX8_bestFor_45 : decode cX8_bestFor 45 = .ok (.aload_n 0, 1) := by decide +kernel
theorem dX8_bestFor_46 : decode cX8_bestFor 46 = .ok (.getfield 69, 3) := by decide +kernel
theorem dX8_bestFor_49 : decode cX8_bestFor 49 = .ok (.invokevirtual 187, 3) := by decide +kernel
theorem dX8_bestFor_52 : decode cX8_bestFor 52 = .ok (.istore 6, 2) := by decide +kernel
theorem dX8_bestFor_54 : decode cX8_bestFor 54 = .ok (.aload_n 2, 1) := by decide +kernel
theorem dX8_bestFor_55 : decode cX8_bestFor 55 = .ok (.ifnull 9, 3) := by decide +kernel
theorem dX8_bestFor_58 : decode cX8_bestFor 58 = .ok (.iload 6, 2) := by decide +kernel
theorem dX8_bestFor_60 : decode cX8_bestFor 60 = .ok (.iload_n 3, 1) := by decide +kernel
theorem dX8_bestFor_61 : decode cX8_bestFor 61 = .ok (.if_icmp .le 9, 3) := by decide +kernel
theorem dX8_bestFor_64 : decode cX8_bestFor 64 = .ok (.aload 5, 2) := by decide +kernel
theorem dX8_bestFor_66 : decode cX8_bestFor 66 = .ok (.astore_n 2, 1) := by decide +kernel
theorem dX8_bestFor_67 : decode cX8_bestFor 67 = .ok (.iload 6, 2) := by decide +kernel
theorem dX8_bestFor_69 : decode cX8_bestFor 69 = .ok (.istore_n 3, 1) := by decide +kernel
theorem dX8_bestFor_70 : decode cX8_bestFor 70 = .ok (.iinc 4 1, 3) := by decide +kernel
theorem dX8_bestFor_73 : decode cX8_bestFor 73 = .ok (.goto (-66), 3) := by decide +kernel
theorem dX8_bestFor_76 : decode cX8_bestFor 76 = .ok (.aload_n 2, 1) := by decide +kernel
theorem dX8_bestFor_77 : decode cX8_bestFor 77 = .ok (.areturn, 1) := by decide +kernel
def f8_bestFor_b70 (c7 : Nat → (Option Nat) → (Option Nat) → Int32 → Int32 → GS_ → Option (Option Nat × GS_)) (v0 : Nat) (v1 : Option Nat) (v2 : Option Nat) (v3 : Int32) (v4 : Int32) (g : GS_) : Option (Option Nat × GS_) :=
  c7 v0 v1 v2 v3 (v4 + (1 : Int32)) g
theorem t8_bestFor_b70 (c7 : Nat → (Option Nat) → (Option Nat) → Int32 → Int32 → GS_ → Option (Option Nat × GS_)) (h7 : ∀ (v0 : Nat) (v1 : Option Nat) (v2 : Option Nat) (v3 : Int32) (v4 : Int32) (g : GS_), K_ RX8 cX8_bestFor 7 (some (.object RX1)) 3 65 false (ER_ 1) 7 [some (.inr (8, some v0)), some (.inr (5, v1)), some (.inr (1, v2)), some (.inl v3), some (.inl v4), none, none] [] g (c7 v0 v1 v2 v3 v4 g)) (v0 : Nat) (v1 : Option Nat) (v2 : Option Nat) (v3 : Int32) (v4 : Int32) (g : GS_) : K_ RX8 cX8_bestFor 7 (some (.object RX1)) 3 65 false (ER_ 1) 70 [some (.inr (8, some v0)), some (.inr (5, v1)), some (.inr (1, v2)), some (.inl v3), some (.inl v4), none, none] [] g (f8_bestFor_b70 c7 v0 v1 v2 v3 v4 g) := by
  unfold f8_bestFor_b70
  refine k_iinc (v := (v4 + (1 : Int32))) (L' := [some (.inr (8, some v0)), some (.inr (5, v1)), some (.inr (1, v2)), some (.inl v3), some (.inl (v4 + (1 : Int32))), none, none]) dX8_bestFor_70 rfl rfl (by decide) rfl ?_
  refine k_goto (tgt := 7) dX8_bestFor_73 (by decide) ?_
  exact h7 v0 v1 v2 v3 (v4 + (1 : Int32)) g
def f8_bestFor_b64 (c7 : Nat → (Option Nat) → (Option Nat) → Int32 → Int32 → GS_ → Option (Option Nat × GS_)) (v0 : Nat) (v1 : Option Nat) (v4 : Int32) (v5 : Option Nat) (v6 : Int32) (g : GS_) : Option (Option Nat × GS_) :=
  f8_bestFor_b70 c7 v0 v1 v5 v6 v4 g
theorem t8_bestFor_b64 (c7 : Nat → (Option Nat) → (Option Nat) → Int32 → Int32 → GS_ → Option (Option Nat × GS_)) (h7 : ∀ (v0 : Nat) (v1 : Option Nat) (v2 : Option Nat) (v3 : Int32) (v4 : Int32) (g : GS_), K_ RX8 cX8_bestFor 7 (some (.object RX1)) 3 65 false (ER_ 1) 7 [some (.inr (8, some v0)), some (.inr (5, v1)), some (.inr (1, v2)), some (.inl v3), some (.inl v4), none, none] [] g (c7 v0 v1 v2 v3 v4 g)) (v0 : Nat) (v1 : Option Nat) (v4 : Int32) (v5 : Option Nat) (v6 : Int32) (g : GS_) : K_ RX8 cX8_bestFor 7 (some (.object RX1)) 3 65 false (ER_ 1) 64 [some (.inr (8, some v0)), some (.inr (5, v1)), none, none, some (.inl v4), some (.inr (1, v5)), some (.inl v6)] [] g (f8_bestFor_b64 c7 v0 v1 v4 v5 v6 g) := by
  unfold f8_bestFor_b64
  refine k_aload dX8_bestFor_64 rfl ?_
  refine k_astn (j := 2) (L' := [some (.inr (8, some v0)), some (.inr (5, v1)), some (.inr (1, v5)), none, some (.inl v4), some (.inr (1, v5)), some (.inl v6)]) dX8_bestFor_66 rfl (by decide) rfl ?_
  refine k_iload dX8_bestFor_67 rfl ?_
  refine k_istn (j := 3) (L' := [some (.inr (8, some v0)), some (.inr (5, v1)), some (.inr (1, v5)), some (.inl v6), some (.inl v4), some (.inr (1, v5)), some (.inl v6)]) dX8_bestFor_69 rfl (by decide) rfl ?_
  refine k_msk (L' := [some (.inr (8, some v0)), some (.inr (5, v1)), some (.inr (1, v5)), some (.inl v6), some (.inl v4), none, none]) [true, true, true, true, true, false, false] rfl ?_
  exact t8_bestFor_b70 c7 h7 v0 v1 v5 v6 v4 g
def f8_bestFor_b7 : Nat → Nat → (Option Nat) → (Option Nat) → Int32 → Int32 → GS_ → Option (Option Nat × GS_)
  | 0, _, _, _, _, _, _ => none
  | n + 1, v0, v1, v2, v3, v4, g =>
    if (gfi g 259 v0) ≤ v4 then some (v2, g) else bd_ (f8_jobAt v0 v4 g) fun x2 g1 => oc_ x2 (f8_bestFor_b70 (f8_bestFor_b7 n) v0 v1 v2 v3 v4 g1) fun a3 => bd_ (f8_isPrintable v0 v1 (some a3) g1) fun z5 g4 => if z5 = 0 then f8_bestFor_b70 (f8_bestFor_b7 n) v0 v1 v2 v3 v4 g4 else bd_ (f1_rankAt a3 (gfi g4 271 v0) (gfi g4 269 v0) g4) fun z7 g6 => oc_ v2 (f8_bestFor_b64 (f8_bestFor_b7 n) v0 v1 v4 (some a3) z7 g6) fun a8 => if z7 ≤ v3 then f8_bestFor_b70 (f8_bestFor_b7 n) v0 v1 (some a8) v3 v4 g6 else f8_bestFor_b64 (f8_bestFor_b7 n) v0 v1 v4 (some a3) z7 g6
theorem t8_bestFor_b7 : ∀ (n : Nat) (v0 : Nat) (v1 : Option Nat) (v2 : Option Nat) (v3 : Int32) (v4 : Int32) (g : GS_), K_ RX8 cX8_bestFor 7 (some (.object RX1)) 3 65 false (ER_ 1) 7 [some (.inr (8, some v0)), some (.inr (5, v1)), some (.inr (1, v2)), some (.inl v3), some (.inl v4), none, none] [] g (f8_bestFor_b7 n v0 v1 v2 v3 v4 g) := by
  intro n
  induction n with
  | zero =>
    intro v0 v1 v2 v3 v4 g
    exact k_fail
  | succ n ih =>
    intro v0 v1 v2 v3 v4 g
    show K_ RX8 cX8_bestFor 7 (some (.object RX1)) 3 65 false (ER_ 1) 7 [some (.inr (8, some v0)), some (.inr (5, v1)), some (.inr (1, v2)), some (.inl v3), some (.inl v4), none, none] [] g (if (gfi g 259 v0) ≤ v4 then some (v2, g) else bd_ (f8_jobAt v0 v4 g) fun x2 g1 => oc_ x2 (f8_bestFor_b70 (f8_bestFor_b7 n) v0 v1 v2 v3 v4 g1) fun a3 => bd_ (f8_isPrintable v0 v1 (some a3) g1) fun z5 g4 => if z5 = 0 then f8_bestFor_b70 (f8_bestFor_b7 n) v0 v1 v2 v3 v4 g4 else bd_ (f1_rankAt a3 (gfi g4 271 v0) (gfi g4 269 v0) g4) fun z7 g6 => oc_ v2 (f8_bestFor_b64 (f8_bestFor_b7 n) v0 v1 v4 (some a3) z7 g6) fun a8 => if z7 ≤ v3 then f8_bestFor_b70 (f8_bestFor_b7 n) v0 v1 (some a8) v3 v4 g6 else f8_bestFor_b64 (f8_bestFor_b7 n) v0 v1 v4 (some a3) z7 g6)
    refine k_iload dX8_bestFor_7 rfl ?_
    refine k_aloadn (j := 0) dX8_bestFor_9 rfl rfl ?_
    refine k_geti fg_8_27 rfl rfl dX8_bestFor_10 ?_
    refine k_icmpge (tgt := 76) dX8_bestFor_13 (by decide) (fun _ => ?_) (fun _ => ?_)
    · refine k_aloadn (j := 2) dX8_bestFor_76 rfl rfl ?_
      exact k_areturn rfl (Or.inl ⟨_, rfl⟩) dX8_bestFor_77
    refine k_aloadn (j := 0) dX8_bestFor_16 rfl rfl ?_
    refine k_iload dX8_bestFor_17 rfl ?_
    refine k_callVr [.inl v4] (t8_jobAt v0 v4 g) cw_cX8_jobAt (Or.inl ml_8_97) rfl rfl (by decide) (by decide) (Nat.le_of_ble_eq_true rfl) dX8_bestFor_19 (fun x2 g1 => ?_)
    refine k_ast (L' := [some (.inr (8, some v0)), some (.inr (5, v1)), some (.inr (1, v2)), some (.inl v3), some (.inl v4), some (.inr (1, x2)), none]) dX8_bestFor_22 (by decide) rfl ?_
    refine k_aload dX8_bestFor_24 rfl ?_
    rcases x2 with _ | a3
    · refine k_ifnulln (tgt := 70) dX8_bestFor_26 (by decide) ?_
      refine k_msk (L' := [some (.inr (8, some v0)), some (.inr (5, v1)), some (.inr (1, v2)), some (.inl v3), some (.inl v4), none, none]) [true, true, true, true, true, false, true] rfl ?_
      exact t8_bestFor_b70 (f8_bestFor_b7 n) ih v0 v1 v2 v3 v4 g1
    refine k_ifnulls dX8_bestFor_26 ?_
    refine k_aloadn (j := 0) dX8_bestFor_29 rfl rfl ?_
    refine k_aloadn (j := 1) dX8_bestFor_30 rfl rfl ?_
    refine k_aload dX8_bestFor_31 rfl ?_
    refine k_callVi [.inr (5, v1), .inr (1, some a3)] (t8_isPrintable v0 v1 (some a3) g1) cw_cX8_isPrintable (Or.inl ml_8_216) rfl rfl (by decide) (by decide) (Nat.le_of_ble_eq_true rfl) dX8_bestFor_33 (fun z5 g4 => ?_)
    refine k_ifeq (tgt := 70) dX8_bestFor_36 (by decide) (fun _ => ?_) (fun _ => ?_)
    · refine k_msk (L' := [some (.inr (8, some v0)), some (.inr (5, v1)), some (.inr (1, v2)), some (.inl v3), some (.inl v4), none, none]) [true, true, true, true, true, false, true] rfl ?_
      exact t8_bestFor_b70 (f8_bestFor_b7 n) ih v0 v1 v2 v3 v4 g4
    refine k_aload dX8_bestFor_39 rfl ?_
    refine k_aloadn (j := 0) dX8_bestFor_41 rfl rfl ?_
    refine k_geti fg_8_75 rfl rfl dX8_bestFor_42 ?_
    refine k_aloadn (j := 0) dX8_bestFor_45 rfl rfl ?_
    refine k_geti fg_8_69 rfl rfl dX8_bestFor_46 ?_
    refine k_callVi [.inl (gfi g4 271 v0), .inl (gfi g4 269 v0)] (t1_rankAt a3 (gfi g4 271 v0) (gfi g4 269 v0) g4) cw_cX1_rankAt (Or.inl ml_8_187) rfl rfl (by decide) (by decide) (Nat.le_of_ble_eq_true rfl) dX8_bestFor_49 (fun z7 g6 => ?_)
    refine k_ist (L' := [some (.inr (8, some v0)), some (.inr (5, v1)), some (.inr (1, v2)), some (.inl v3), some (.inl v4), some (.inr (1, some a3)), some (.inl z7)]) dX8_bestFor_52 (by decide) rfl ?_
    refine k_aloadn (j := 2) dX8_bestFor_54 rfl rfl ?_
    rcases v2 with _ | a8
    · refine k_ifnulln (tgt := 64) dX8_bestFor_55 (by decide) ?_
      refine k_msk (L' := [some (.inr (8, some v0)), some (.inr (5, v1)), none, none, some (.inl v4), some (.inr (1, some a3)), some (.inl z7)]) [true, true, false, false, true, true, true] rfl ?_
      exact t8_bestFor_b64 (f8_bestFor_b7 n) ih v0 v1 v4 (some a3) z7 g6
    refine k_ifnulls dX8_bestFor_55 ?_
    refine k_iload dX8_bestFor_58 rfl ?_
    refine k_iloadn (j := 3) dX8_bestFor_60 rfl rfl ?_
    refine k_icmple (tgt := 70) dX8_bestFor_61 (by decide) (fun _ => ?_) (fun _ => ?_)
    · refine k_msk (L' := [some (.inr (8, some v0)), some (.inr (5, v1)), some (.inr (1, some a8)), some (.inl v3), some (.inl v4), none, none]) [true, true, true, true, true, false, false] rfl ?_
      exact t8_bestFor_b70 (f8_bestFor_b7 n) ih v0 v1 (some a8) v3 v4 g6
    refine k_msk (L' := [some (.inr (8, some v0)), some (.inr (5, v1)), none, none, some (.inl v4), some (.inr (1, some a3)), some (.inl z7)]) [true, true, false, false, true, true, true] rfl ?_
    exact t8_bestFor_b64 (f8_bestFor_b7 n) ih v0 v1 v4 (some a3) z7 g6
def f8_bestFor (v0 : Nat) (v1 : Option Nat) (g : GS_) : Option (Option Nat × GS_) :=
  f8_bestFor_b7 FU_ v0 v1 none (0 : Int32) (0 : Int32) g
theorem t8_bestFor (v0 : Nat) (v1 : Option Nat) (g : GS_) : Cn_ yX8_bestFor cX8_bestFor 7 (some (.object RX1)) 3 65 (ER_ 1) [.inr (8, some v0), .inr (5, v1)] g (f8_bestFor v0 v1 g) := by
  refine k_method (own := RX8) (ini := false) (L1 := [some (.inr (8, some v0)), some (.inr (5, v1)), none, none, none, none, none]) (by decide +kernel) rfl (fun h => by cases h) (Nat.le_of_ble_eq_true rfl) rfl ?_
  unfold f8_bestFor
  refine k_null (t := 1) dX8_bestFor_0 ?_
  refine k_astn (j := 2) (L' := [some (.inr (8, some v0)), some (.inr (5, v1)), some (.inr (1, none)), none, none, none, none]) dX8_bestFor_1 rfl (by decide) rfl ?_
  refine k_iconst (v := (0 : Int32)) dX8_bestFor_2 rfl ?_
  refine k_istn (j := 3) (L' := [some (.inr (8, some v0)), some (.inr (5, v1)), some (.inr (1, none)), some (.inl (0 : Int32)), none, none, none]) dX8_bestFor_3 rfl (by decide) rfl ?_
  refine k_iconst (v := (0 : Int32)) dX8_bestFor_4 rfl ?_
  refine k_ist (L' := [some (.inr (8, some v0)), some (.inr (5, v1)), some (.inr (1, none)), some (.inl (0 : Int32)), some (.inl (0 : Int32)), none, none]) dX8_bestFor_5 (by decide) rfl ?_
  exact t8_bestFor_b7 FU_ v0 v1 none (0 : Int32) (0 : Int32) g
theorem dX8_isOutranked_0 : decode cX8_isOutranked 0 = .ok (.aload_n 2, 1) := by decide +kernel
theorem dX8_isOutranked_1 : decode cX8_isOutranked 1 = .ok (.ifnull 34, 3) := by decide +kernel
theorem dX8_isOutranked_4 : decode cX8_isOutranked 4 = .ok (.aload_n 2, 1) := by decide +kernel
theorem dX8_isOutranked_5 : decode cX8_isOutranked 5 = .ok (.aload_n 0, 1) := by decide +kernel
theorem dX8_isOutranked_6 : decode cX8_isOutranked 6 = .ok (.getfield 75, 3) := by decide +kernel
theorem dX8_isOutranked_9 : decode cX8_isOutranked 9 = .ok (.aload_n 0, 1) := by decide +kernel
theorem dX8_isOutranked_10 : decode cX8_isOutranked 10 = .ok (.getfield 69, 3) := by decide +kernel
theorem dX8_isOutranked_13 : decode cX8_isOutranked 13 = .ok (.invokevirtual 187, 3) := by decide +kernel
theorem dX8_isOutranked_16 : decode cX8_isOutranked 16 = .ok (.bipush 10, 2) := by decide +kernel
theorem dX8_isOutranked_18 : decode cX8_isOutranked 18 = .ok (.aload_n 1, 1) := by decide +kernel
theorem dX8_isOutranked_19 : decode cX8_isOutranked 19 = .ok (.getfield 190, 3) := by decide +kernel
theorem dX8_isOutranked_22 : decode cX8_isOutranked 22 = .ok (.imul, 1) := by decide +kernel
theorem dX8_isOutranked_23 : decode cX8_isOutranked 23 = .ok (.aload_n 0, 1) := by decide +kernel
theorem dX8_isOutranked_24 : decode cX8_isOutranked 24 = .ok (.getfield 72, 3) := by decide +kernel
theorem dX8_isOutranked_27 : decode cX8_isOutranked 27 = .ok (.iadd, 1) := by decide +kernel
theorem dX8_isOutranked_28 : decode cX8_isOutranked 28 = .ok (.if_icmp .le 7, 3) := by decide +kernel
theorem dX8_isOutranked_31 : decode cX8_isOutranked 31 = .ok (.iconst 1, 1) := by decide +kernel
theorem dX8_isOutranked_32 : decode cX8_isOutranked 32 = .ok (.goto 4, 3) := by decide +kernel
theorem dX8_isOutranked_35 : decode cX8_isOutranked 35 = .ok (.iconst 0, 1) := by decide +kernel
theorem dX8_isOutranked_36 : decode cX8_isOutranked 36 = .ok (.ireturn, 1) := by decide +kernel
def f8_isOutranked_b35 (g : GS_) : Option (Int32 × GS_) :=
  some ((0 : Int32), g)
theorem t8_isOutranked_b35 (g : GS_) : K_ RX8 cX8_isOutranked 3 (some .boolean) 1 23 false EI_ 35 [none, none, none] [] g (f8_isOutranked_b35 g) := by
  unfold f8_isOutranked_b35
  refine k_iconst (v := (0 : Int32)) dX8_isOutranked_35 rfl ?_
  exact k_zreturn rfl (by decide) dX8_isOutranked_36
def f8_isOutranked (v0 : Nat) (v1 : Option Nat) (v2 : Option Nat) (g : GS_) : Option (Int32 × GS_) :=
  oc_ v2 (f8_isOutranked_b35 g) fun a1 => bd_ (f1_rankAt a1 (gfi g 271 v0) (gfi g 269 v0) g) fun z3 g2 => oc_ v1 none fun a4 => if z3 ≤ (((10 : Int32) * (gfi g2 34 a4)) + (gfi g2 270 v0)) then f8_isOutranked_b35 g2 else some ((1 : Int32), g2)
theorem t8_isOutranked (v0 : Nat) (v1 : Option Nat) (v2 : Option Nat) (g : GS_) : Cn_ yX8_isOutranked cX8_isOutranked 3 (some .boolean) 1 23 EI_ [.inr (8, some v0), .inr (1, v1), .inr (1, v2)] g (f8_isOutranked v0 v1 v2 g) := by
  refine k_method (own := RX8) (ini := false) (L1 := [some (.inr (8, some v0)), some (.inr (1, v1)), some (.inr (1, v2))]) (by decide +kernel) rfl (fun h => by cases h) (Nat.le_of_ble_eq_true rfl) rfl ?_
  unfold f8_isOutranked
  refine k_aloadn (j := 2) dX8_isOutranked_0 rfl rfl ?_
  rcases v2 with _ | a1
  · refine k_ifnulln (tgt := 35) dX8_isOutranked_1 (by decide) ?_
    refine k_msk (L' := [none, none, none]) [false, false, false] rfl ?_
    exact t8_isOutranked_b35 g
  refine k_ifnulls dX8_isOutranked_1 ?_
  refine k_aloadn (j := 2) dX8_isOutranked_4 rfl rfl ?_
  refine k_aloadn (j := 0) dX8_isOutranked_5 rfl rfl ?_
  refine k_geti fg_8_75 rfl rfl dX8_isOutranked_6 ?_
  refine k_aloadn (j := 0) dX8_isOutranked_9 rfl rfl ?_
  refine k_geti fg_8_69 rfl rfl dX8_isOutranked_10 ?_
  refine k_callVi [.inl (gfi g 271 v0), .inl (gfi g 269 v0)] (t1_rankAt a1 (gfi g 271 v0) (gfi g 269 v0) g) cw_cX1_rankAt (Or.inl ml_8_187) rfl rfl (by decide) (by decide) (Nat.le_of_ble_eq_true rfl) dX8_isOutranked_13 (fun z3 g2 => ?_)
  refine k_bipush (v := (10 : Int32)) dX8_isOutranked_16 rfl ?_
  refine k_aloadn (j := 1) dX8_isOutranked_18 rfl rfl ?_
  rcases v1 with _ | a4
  · exact k_ocn
  refine k_ocs ?_
  refine k_geti fg_8_190 rfl rfl dX8_isOutranked_19 ?_
  refine k_imul dX8_isOutranked_22 ?_
  refine k_aloadn (j := 0) dX8_isOutranked_23 rfl rfl ?_
  refine k_geti fg_8_72 rfl rfl dX8_isOutranked_24 ?_
  refine k_iadd dX8_isOutranked_27 ?_
  refine k_icmple (tgt := 35) dX8_isOutranked_28 (by decide) (fun _ => ?_) (fun _ => ?_)
  · refine k_msk (L' := [none, none, none]) [false, false, false] rfl ?_
    exact t8_isOutranked_b35 g2
  refine k_iconst (v := (1 : Int32)) dX8_isOutranked_31 rfl ?_
  refine k_goto (tgt := 36) dX8_isOutranked_32 (by decide) ?_
  exact k_zreturn rfl (by decide) dX8_isOutranked_36
theorem dX8_beginSheet_0 : decode cX8_beginSheet 0 = .ok (.aload_n 2, 1) := by decide +kernel
theorem dX8_beginSheet_1 : decode cX8_beginSheet 1 = .ok (.getfield 156, 3) := by decide +kernel
theorem dX8_beginSheet_4 : decode cX8_beginSheet 4 = .ok (.astore_n 3, 1) := by decide +kernel
theorem dX8_beginSheet_5 : decode cX8_beginSheet 5 = .ok (.aload_n 3, 1) := by decide +kernel
theorem dX8_beginSheet_6 : decode cX8_beginSheet 6 = .ok (.getfield 193, 3) := by decide +kernel
theorem dX8_beginSheet_9 : decode cX8_beginSheet 9 = .ok (.getfield 197, 3) := by decide +kernel
theorem dX8_beginSheet_12 : decode cX8_beginSheet 12 = .ok (.istore 4, 2) := by decide +kernel
theorem dX8_beginSheet_14 : decode cX8_beginSheet 14 = .ok (.aload_n 3, 1) := by decide +kernel
theorem dX8_beginSheet_15 : decode cX8_beginSheet 15 = .ok (.aload_n 2, 1) := by decide +kernel
theorem dX8_beginSheet_16 : decode cX8_beginSheet 16 = .ok (.getfield 149, 3) := by decide +kernel
theorem dX8_beginSheet_19 : decode cX8_beginSheet 19 = .ok (.invokevirtual 200, 3) := by decide +kernel
theorem dX8_beginSheet_22 : decode cX8_beginSheet 22 = .ok (.istore 5, 2) := by decide +kernel
theorem dX8_beginSheet_24 : decode cX8_beginSheet 24 = .ok (.aload_n 1, 1) := by decide +kernel
theorem dX8_beginSheet_25 : decode cX8_beginSheet 25 = .ok (.iload 4, 2) := by decide +kernel
theorem dX8_beginSheet_27 : decode cX8_beginSheet 27 = .ok (.aload_n 1, 1) := by decide +kernel
theorem dX8_beginSheet_28 : decode cX8_beginSheet 28 = .ok (.iload 4, 2) := by decide +kernel
theorem dX8_beginSheet_30 : decode cX8_beginSheet 30 = .ok (.invokevirtual 203, 3) := by decide +kernel
theorem dX8_beginSheet_33 : decode cX8_beginSheet 33 = .ok (.iconst 1, 1) := by decide +kernel
theorem dX8_beginSheet_34 : decode cX8_beginSheet 34 = .ok (.isub, 1) := by decide +kernel
theorem dX8_beginSheet_35 : decode cX8_beginSheet 35 = .ok (.invokevirtual 206, 3) := by decide +kernel
theorem dX8_beginSheet_38 : decode cX8_beginSheet 38 = .ok (.aload_n 1, 1) := by decide +kernel
theorem dX8_beginSheet_39 : decode cX8_beginSheet 39 = .ok (.aload_n 1, 1) := by decide +kernel
theorem dX8_beginSheet_40 : decode cX8_beginSheet 40 = .ok (.aload_n 3, 1) := by decide +kernel
theorem dX8_beginSheet_41 : decode cX8_beginSheet 41 = .ok (.iload 5, 2) := by decide +kernel
theorem dX8_beginSheet_43 : decode cX8_beginSheet 43 = .ok (.iconst 0, 1) := by decide +kernel
theorem dX8_beginSheet_44 : decode cX8_beginSheet 44 = .ok (.invokevirtual 210, 3) := by decide +kernel
theorem dX8_beginSheet_47 : decode cX8_beginSheet 47 = .ok (.invokevirtual 213, 3) := by decide +kernel
theorem dX8_beginSheet_50 : decode cX8_beginSheet 50 = .ok (.aload_n 1, 1) := by decide +kernel
theorem dX8_beginSheet_51 : decode cX8_beginSheet 51 = .ok (.aload_n 3, 1) := by decide +kernel
theorem dX8_beginSheet_52 : decode cX8_beginSheet 52 = .ok (.iload 5, 2) := by decide +kernel
theorem dX8_beginSheet_54 : decode cX8_beginSheet 54 = .ok (.iconst 1, 1) := by decide +kernel
theorem dX8_beginSheet_55 : decode cX8_beginSheet 55 = .ok (.invokevirtual 210, 3) := by decide +kernel
theorem dX8_beginSheet_58 : decode cX8_beginSheet 58 = .ok (.invokevirtual 213, 3) := by decide +kernel
theorem dX8_beginSheet_61 : decode cX8_beginSheet 61 = .ok (.iadd, 1) := by decide +kernel
theorem dX8_beginSheet_62 : decode cX8_beginSheet 62 = .ok (.putfield 125, 3) := by decide +kernel
theorem dX8_beginSheet_65 : decode cX8_beginSheet 65 = .ok (.aload_n 1, 1) := by decide +kernel
theorem dX8_beginSheet_66 : decode cX8_beginSheet 66 = .ok (.iconst 1, 1) := by decide +kernel
theorem dX8_beginSheet_67 : decode cX8_beginSheet 67 = .ok (.putfield 124, 3) := by decide +kernel
theorem dX8_beginSheet_70 : decode cX8_beginSheet 70 = .ok (.aload_n 1, 1) := by decide +kernel
theorem dX8_beginSheet_71 : decode cX8_beginSheet 71 = .ok (.aload_n 2, 1) := by decide +kernel
theorem dX8_beginSheet_72 : decode cX8_beginSheet 72 = .ok (.getfield 146, 3) := by decide +kernel
theorem dX8_beginSheet_75 : decode cX8_beginSheet 75 = .ok (.putfield 104, 3) := by decide +kernel
theorem dX8_beginSheet_78 : decode cX8_beginSheet 78 = .ok (.aload_n 2, 1) := by decide +kernel
theorem dX8_beginSheet_79 : decode cX8_beginSheet 79 = .ok (.iconst 1, 1) := by decide +kernel
theorem dX8_beginSheet_80 : decode cX8_beginSheet 80 = .ok (.putfield 101, 3) := by decide +kernel
theorem dX8_beginSheet_83 : decode cX8_beginSheet 83 = .ok (.return_, 1) := by decide +kernel
def f8_beginSheet (v0 : Nat) (v1 : Option Nat) (v2 : Option Nat) (g : GS_) : Option (Unit × GS_) :=
  oc_ v2 none fun a1 => lr_ (gfr g 33 a1) fun x2 => oc_ x2 none fun a3 => lr_ (gfr g 128 a3) fun x4 => oc_ x4 none fun a5 => lr_ (gfi g 1 a5) fun z6 => bd_ (f4_sheetOfCopy a3 (gfi g 36 a1) g) fun z8 g7 => oc_ v1 none fun a9 => bd_ (f5_sheetsIn a9 z6 g7) fun z11 g10 => bd_ (f5_changeTray a9 z6 (z11 - (1 : Int32)) g10) fun _ g12 => bd_ (f4_loadOn a3 z8 (0 : Int32) g12) fun z14 g13 => bd_ (f5_ticksFor a9 z14 g13) fun z16 g15 => bd_ (f4_loadOn a3 z8 (1 : Int32) g15) fun z18 g17 => bd_ (f5_ticksFor a9 z18 g17) fun z20 g19 => lr_ (sfi g19 166 a9 (z16 + z20)) fun g21 => lr_ (sfi g21 164 a9 (1 : Int32)) fun g22 => lr_ (sfi g22 165 a9 (gfi g22 32 a1)) fun g23 => lr_ (sfi g23 35 a1 (1 : Int32)) fun g24 => some ((), g24)
theorem t8_beginSheet (v0 : Nat) (v1 : Option Nat) (v2 : Option Nat) (g : GS_) : Cn_ yX8_beginSheet cX8_beginSheet 6 none 3 65 EV_ [.inr (8, some v0), .inr (5, v1), .inr (1, v2)] g (f8_beginSheet v0 v1 v2 g) := by
  refine k_method (own := RX8) (ini := false) (L1 := [some (.inr (8, some v0)), some (.inr (5, v1)), some (.inr (1, v2)), none, none, none]) (by decide +kernel) rfl (fun h => by cases h) (Nat.le_of_ble_eq_true rfl) rfl ?_
  unfold f8_beginSheet
  refine k_aloadn (j := 2) dX8_beginSheet_0 rfl rfl ?_
  rcases v2 with _ | a1
  · exact k_ocn
  refine k_ocs ?_
  refine k_getr fg_8_156 rfl rfl dX8_beginSheet_1 (fun x2 => ?_)
  refine k_astn (j := 3) (L' := [some (.inr (8, some v0)), some (.inr (5, v1)), some (.inr (1, some a1)), some (.inr (4, x2)), none, none]) dX8_beginSheet_4 rfl (by decide) rfl ?_
  refine k_aloadn (j := 3) dX8_beginSheet_5 rfl rfl ?_
  rcases x2 with _ | a3
  · exact k_ocn
  refine k_ocs ?_
  refine k_getr fg_8_193 rfl rfl dX8_beginSheet_6 (fun x4 => ?_)
  rcases x4 with _ | a5
  · exact k_ocn
  refine k_ocs ?_
  refine k_geti fg_8_197 rfl rfl dX8_beginSheet_9 ?_
  refine k_istl (L2 := fun z6 => [some (.inr (8, some v0)), some (.inr (5, v1)), some (.inr (1, some a1)), some (.inr (4, some a3)), some (.inl z6), none]) dX8_beginSheet_12 (by decide) (fun _ => rfl) (fun z6 => ?_)
  refine k_aloadn (j := 3) dX8_beginSheet_14 rfl rfl ?_
  refine k_aloadn (j := 2) dX8_beginSheet_15 rfl rfl ?_
  refine k_geti fg_8_149 rfl rfl dX8_beginSheet_16 ?_
  refine k_callVi [.inl (gfi g 36 a1)] (t4_sheetOfCopy a3 (gfi g 36 a1) g) cw_cX4_sheetOfCopy (Or.inl ml_8_200) rfl rfl (by decide) (by decide) (Nat.le_of_ble_eq_true rfl) dX8_beginSheet_19 (fun z8 g7 => ?_)
  refine k_ist (L' := [some (.inr (8, some v0)), some (.inr (5, v1)), some (.inr (1, some a1)), some (.inr (4, some a3)), some (.inl z6), some (.inl z8)]) dX8_beginSheet_22 (by decide) rfl ?_
  refine k_aloadn (j := 1) dX8_beginSheet_24 rfl rfl ?_
  refine k_iload dX8_beginSheet_25 rfl ?_
  refine k_aloadn (j := 1) dX8_beginSheet_27 rfl rfl ?_
  refine k_iload dX8_beginSheet_28 rfl ?_
  rcases v1 with _ | a9
  · exact k_ocn
  refine k_ocs ?_
  refine k_callVi [.inl z6] (t5_sheetsIn a9 z6 g7) cw_cX5_sheetsIn (Or.inl ml_8_203) rfl rfl (by decide) (by decide) (Nat.le_of_ble_eq_true rfl) dX8_beginSheet_30 (fun z11 g10 => ?_)
  refine k_iconst (v := (1 : Int32)) dX8_beginSheet_33 rfl ?_
  refine k_isub dX8_beginSheet_34 ?_
  refine k_callVv [.inl z6, .inl (z11 - (1 : Int32))] (t5_changeTray a9 z6 (z11 - (1 : Int32)) g10) cw_cX5_changeTray (Or.inl ml_8_206) rfl rfl (by decide) (by decide) (Nat.le_of_ble_eq_true rfl) dX8_beginSheet_35 (fun _ g12 => ?_)
  refine k_aloadn (j := 1) dX8_beginSheet_38 rfl rfl ?_
  refine k_aloadn (j := 1) dX8_beginSheet_39 rfl rfl ?_
  refine k_aloadn (j := 3) dX8_beginSheet_40 rfl rfl ?_
  refine k_iload dX8_beginSheet_41 rfl ?_
  refine k_iconst (v := (0 : Int32)) dX8_beginSheet_43 rfl ?_
  refine k_callVi [.inl z8, .inl (0 : Int32)] (t4_loadOn a3 z8 (0 : Int32) g12) cw_cX4_loadOn (Or.inl ml_8_210) rfl rfl (by decide) (by decide) (Nat.le_of_ble_eq_true rfl) dX8_beginSheet_44 (fun z14 g13 => ?_)
  refine k_callVi [.inl z14] (t5_ticksFor a9 z14 g13) cw_cX5_ticksFor (Or.inl ml_8_213) rfl rfl (by decide) (by decide) (Nat.le_of_ble_eq_true rfl) dX8_beginSheet_47 (fun z16 g15 => ?_)
  refine k_aloadn (j := 1) dX8_beginSheet_50 rfl rfl ?_
  refine k_aloadn (j := 3) dX8_beginSheet_51 rfl rfl ?_
  refine k_iload dX8_beginSheet_52 rfl ?_
  refine k_iconst (v := (1 : Int32)) dX8_beginSheet_54 rfl ?_
  refine k_callVi [.inl z8, .inl (1 : Int32)] (t4_loadOn a3 z8 (1 : Int32) g15) cw_cX4_loadOn (Or.inl ml_8_210) rfl rfl (by decide) (by decide) (Nat.le_of_ble_eq_true rfl) dX8_beginSheet_55 (fun z18 g17 => ?_)
  refine k_callVi [.inl z18] (t5_ticksFor a9 z18 g17) cw_cX5_ticksFor (Or.inl ml_8_213) rfl rfl (by decide) (by decide) (Nat.le_of_ble_eq_true rfl) dX8_beginSheet_58 (fun z20 g19 => ?_)
  refine k_iadd dX8_beginSheet_61 ?_
  refine k_puti fp_8_125 rfl rfl dX8_beginSheet_62 (fun g21 => ?_)
  refine k_aloadn (j := 1) dX8_beginSheet_65 rfl rfl ?_
  refine k_iconst (v := (1 : Int32)) dX8_beginSheet_66 rfl ?_
  refine k_puti fp_8_124 rfl rfl dX8_beginSheet_67 (fun g22 => ?_)
  refine k_aloadn (j := 1) dX8_beginSheet_70 rfl rfl ?_
  refine k_aloadn (j := 2) dX8_beginSheet_71 rfl rfl ?_
  refine k_geti fg_8_146 rfl rfl dX8_beginSheet_72 ?_
  refine k_puti fp_8_104 rfl rfl dX8_beginSheet_75 (fun g23 => ?_)
  refine k_aloadn (j := 2) dX8_beginSheet_78 rfl rfl ?_
  refine k_iconst (v := (1 : Int32)) dX8_beginSheet_79 rfl ?_
  refine k_puti fp_8_101 rfl rfl dX8_beginSheet_80 (fun g24 => ?_)
  exact k_return rfl dX8_beginSheet_83
theorem dX8_endSheet_0 : decode cX8_endSheet 0 = .ok (.aload_n 0, 1) := by decide +kernel
theorem dX8_endSheet_1 : decode cX8_endSheet 1 = .ok (.aload_n 2, 1) := by decide +kernel
theorem dX8_endSheet_2 : decode cX8_endSheet 2 = .ok (.getfield 104, 3) := by decide +kernel
theorem dX8_endSheet_5 : decode cX8_endSheet 5 = .ok (.invokevirtual 97, 3) := by decide +kernel
theorem dX8_endSheet_8 : decode cX8_endSheet 8 = .ok (.astore_n 3, 1) := by decide +kernel
theorem dX8_endSheet_9 : decode cX8_endSheet 9 = .ok (.aload_n 3, 1) := by decide +kernel
theorem dX8_endSheet_10 : decode cX8_endSheet 10 = .ok (.ifnonnull 9, 3) := by decide +kernel
theorem dX8_endSheet_13 : decode cX8_endSheet 13 = .ok (.aload_n 2, 1) := by decide +kernel
theorem dX8_endSheet_14 : decode cX8_endSheet 14 = .ok (.iconst 0, 1) := by decide +kernel
theorem dX8_endSheet_15 : decode cX8_endSheet 15 = .ok (.putfield 124, 3) := by decide +kernel
theorem dX8_endSheet_18 : decode cX8_endSheet 18 = .ok (.return_, 1) := by decide +kernel
theorem dX8_endSheet_19 : decode cX8_endSheet 19 = .ok (.aload_n 0, 1) := by decide +kernel
theorem dX8_endSheet_20 : decode cX8_endSheet 20 = .ok (.getfield 59, 3) := by decide +kernel
theorem dX8_endSheet_23 : decode cX8_endSheet 23 = .ok (.aload_n 0, 1) := by decide +kernel
theorem dX8_endSheet_24 : decode cX8_endSheet 24 = .ok (.getfield 75, 3) := by decide +kernel
theorem dX8_endSheet_27 : decode cX8_endSheet 27 = .ok (.iload_n 1, 1) := by decide +kernel
theorem dX8_endSheet_28 : decode cX8_endSheet 28 = .ok (.aload_n 3, 1) := by decide +kernel
theorem dX8_endSheet_29 : decode cX8_endSheet 29 = .ok (.getfield 146, 3) := by decide +kernel
theorem dX8_endSheet_32 : decode cX8_endSheet 32 = .ok (.aload_n 3, 1) := by decide +kernel
theorem dX8_endSheet_33 : decode cX8_endSheet 33 = .ok (.getfield 149, 3) := by decide +kernel
theorem dX8_endSheet_36 : decode cX8_endSheet 36 = .ok (.invokevirtual 152, 3) := by decide +kernel
theorem dX8_endSheet_39 : decode cX8_endSheet 39 = .ok (.aload_n 0, 1) := by decide +kernel
theorem dX8_endSheet_40 : decode cX8_endSheet 40 = .ok (.aload_n 3, 1) := by decide +kernel
theorem dX8_endSheet_41 : decode cX8_endSheet 41 = .ok (.getfield 156, 3) := by decide +kernel
theorem dX8_endSheet_44 : decode cX8_endSheet 44 = .ok (.getfield 160, 3) := by decide +kernel
theorem dX8_endSheet_47 : decode cX8_endSheet 47 = .ok (.invokevirtual 165, 3) := by decide +kernel
theorem dX8_endSheet_50 : decode cX8_endSheet 50 = .ok (.aload_n 3, 1) := by decide +kernel
theorem dX8_endSheet_51 : decode cX8_endSheet 51 = .ok (.dup, 1) := by decide +kernel
theorem dX8_endSheet_52 : decode cX8_endSheet 52 = .ok (.getfield 149, 3) := by decide +kernel
theorem dX8_endSheet_55 : decode cX8_endSheet 55 = .ok (.iconst 1, 1) := by decide +kernel
theorem dX8_endSheet_56 : decode cX8_endSheet 56 = .ok (.iadd, 1) := by decide +kernel
theorem dX8_endSheet_57 : decode cX8_endSheet 57 = .ok (.putfield 149, 3) := by decide +kernel
theorem dX8_endSheet_60 : decode cX8_endSheet 60 = .ok (.aload_n 3, 1) := by decide +kernel
theorem dX8_endSheet_61 : decode cX8_endSheet 61 = .ok (.getfield 149, 3) := by decide +kernel
theorem dX8_endSheet_64 : decode cX8_endSheet 64 = .ok (.aload_n 3, 1) := by decide +kernel
theorem dX8_endSheet_65 : decode cX8_endSheet 65 = .ok (.getfield 156, 3) := by decide +kernel
theorem dX8_endSheet_68 : decode cX8_endSheet 68 = .ok (.invokevirtual 168, 3) := by decide +kernel
theorem dX8_endSheet_71 : decode cX8_endSheet 71 = .ok (.if_icmp .lt 11, 3) := by decide +kernel
theorem dX8_endSheet_74 : decode cX8_endSheet 74 = .ok (.aload_n 0, 1) := by decide +kernel
theorem dX8_endSheet_75 : decode cX8_endSheet 75 = .ok (.aload_n 3, 1) := by decide +kernel
theorem dX8_endSheet_76 : decode cX8_endSheet 76 = .ok (.invokevirtual 172, 3) := by decide +kernel
theorem dX8_endSheet_79 : decode cX8_endSheet 79 = .ok (.goto 54, 3) := by decide +kernel
theorem dX8_endSheet_82 : decode cX8_endSheet 82 = .ok (.aload_n 3, 1) := by decide +kernel
theorem dX8_endSheet_83 : decode cX8_endSheet 83 = .ok (.getfield 176, 3) := by decide +kernel
theorem dX8_endSheet_86 : decode cX8_endSheet 86 = .ok (.iconst (-1), 1) := by decide +kernel
theorem dX8_endSheet_87 : decode cX8_endSheet 87 = .ok (.if_icmp .ne 28, 3) := by decide +kernel
theorem dX8_endSheet_90 : decode cX8_endSheet 90 = .ok (.aload_n 0, 1) := by decide +kernel
theorem dX8_endSheet_91 : decode cX8_endSheet 91 = .ok (.aload_n 2, 1) := by decide +kernel
theorem dX8_endSheet_92 : decode cX8_endSheet 92 = .ok (.aload_n 3, 1) := by decide +kernel
theorem dX8_endSheet_93 : decode cX8_endSheet 93 = .ok (.getfield 156, 3) := by decide +kernel
theorem dX8_endSheet_96 : decode cX8_endSheet 96 = .ok (.invokevirtual 179, 3) := by decide +kernel
theorem dX8_endSheet_99 : decode cX8_endSheet 99 = .ok (.ifCond .eq 16, 3) := by decide +kernel
theorem dX8_endSheet_102 : decode cX8_endSheet 102 = .ok (.aload_n 0, 1) := by decide +kernel
theorem dX8_endSheet_103 : decode cX8_endSheet 103 = .ok (.aload_n 3, 1) := by decide +kernel
theorem dX8_endSheet_104 : decode cX8_endSheet 104 = .ok (.aload_n 0, 1) := by decide +kernel
theorem dX8_endSheet_105 : decode cX8_endSheet 105 = .ok (.aload_n 2, 1) := by decide +kernel
theorem dX8_endSheet_106 : decode cX8_endSheet 106 = .ok (.invokevirtual 132, 3) := by decide +kernel
theorem dX8_endSheet_109 : decode cX8_endSheet 109 = .ok (.invokevirtual 183, 3) := by decide +kernel
theorem dX8_endSheet_112 : decode cX8_endSheet 112 = .ok (.ifCond .eq 14, 3) := by decide +kernel
theorem dX8_endSheet_115 : decode cX8_endSheet 115 = .ok (.aload_n 3, 1) := by decide +kernel
theorem dX8_endSheet_116 : decode cX8_endSheet 116 = .ok (.aload_n 0, 1) := by decide +kernel
theorem dX8_endSheet_117 : decode cX8_endSheet 117 = .ok (.getfield 75, 3) := by decide +kernel
theorem dX8_endSheet_120 : decode cX8_endSheet 120 = .ok (.invokevirtual 107, 3) := by decide +kernel
theorem dX8_endSheet_123 : decode cX8_endSheet 123 = .ok (.goto 10, 3) := by decide +kernel
theorem dX8_endSheet_126 : decode cX8_endSheet 126 = .ok (.aload_n 0, 1) := by decide +kernel
theorem dX8_endSheet_127 : decode cX8_endSheet 127 = .ok (.aload_n 2, 1) := by decide +kernel
theorem dX8_endSheet_128 : decode cX8_endSheet 128 = .ok (.aload_n 3, 1) := by decide +kernel
theorem dX8_endSheet_129 : decode cX8_endSheet 129 = .ok (.invokevirtual 136, 3) := by decide +kernel
theorem dX8_endSheet_132 : decode cX8_endSheet 132 = .ok (.return_, 1) := by decide +kernel
theorem dX8_endSheet_133 : decode cX8_endSheet 133 = .ok (.aload_n 2, 1) := by decide +kernel
theorem dX8_endSheet_134 : decode cX8_endSheet 134 = .ok (.iconst 0, 1) := by decide +kernel
theorem dX8_endSheet_135 : decode cX8_endSheet 135 = .ok (.putfield 124, 3) := by decide +kernel
theorem dX8_endSheet_138 : decode cX8_endSheet 138 = .ok (.aload_n 2, 1) := by decide +kernel
theorem dX8_endSheet_139 : decode cX8_endSheet 139 = .ok (.bipush (-6), 2) := by decide +kernel
theorem dX8_endSheet_141 : decode cX8_endSheet 141 = .ok (.putfield 104, 3) := by decide +kernel
theorem dX8_endSheet_144 : decode cX8_endSheet 144 = .ok (.return_, 1) := by decide +kernel
def f8_endSheet_b133 (v2 : Option Nat) (g : GS_) : Option (Unit × GS_) :=
  oc_ v2 none fun a1 => lr_ (sfi g 164 a1 (0 : Int32)) fun g2 => lr_ (sfi g2 165 a1 (-6 : Int32)) fun g3 => some ((), g3)
theorem t8_endSheet_b133 (v2 : Option Nat) (g : GS_) : K_ RX8 cX8_endSheet 4 none 4 91 false EV_ 133 [none, none, some (.inr (5, v2)), none] [] g (f8_endSheet_b133 v2 g) := by
  unfold f8_endSheet_b133
  refine k_aloadn (j := 2) dX8_endSheet_133 rfl rfl ?_
  refine k_iconst (v := (0 : Int32)) dX8_endSheet_134 rfl ?_
  rcases v2 with _ | a1
  · exact k_ocn
  refine k_ocs ?_
  refine k_puti fp_8_124 rfl rfl dX8_endSheet_135 (fun g2 => ?_)
  refine k_aloadn (j := 2) dX8_endSheet_138 rfl rfl ?_
  refine k_bipush (v := (-6 : Int32)) dX8_endSheet_139 rfl ?_
  refine k_puti fp_8_104 rfl rfl dX8_endSheet_141 (fun g3 => ?_)
  exact k_return rfl dX8_endSheet_144
def f8_endSheet_b115 (v0 : Nat) (v2 : Option Nat) (v3 : Option Nat) (g : GS_) : Option (Unit × GS_) :=
  oc_ v3 none fun a4 => bd_ (f1_stopPrinting a4 (gfi g 271 v0) g) fun _ g5 => f8_endSheet_b133 v2 g5
theorem t8_endSheet_b115 (v0 : Nat) (v2 : Option Nat) (v3 : Option Nat) (g : GS_) : K_ RX8 cX8_endSheet 4 none 4 91 false EV_ 115 [some (.inr (8, some v0)), none, some (.inr (5, v2)), some (.inr (1, v3))] [] g (f8_endSheet_b115 v0 v2 v3 g) := by
  unfold f8_endSheet_b115
  refine k_aloadn (j := 3) dX8_endSheet_115 rfl rfl ?_
  refine k_aloadn (j := 0) dX8_endSheet_116 rfl rfl ?_
  refine k_geti fg_8_75 rfl rfl dX8_endSheet_117 ?_
  rcases v3 with _ | a4
  · exact k_ocn
  refine k_ocs ?_
  refine k_callVv [.inl (gfi g 271 v0)] (t1_stopPrinting a4 (gfi g 271 v0) g) cw_cX1_stopPrinting (Or.inl ml_8_107) rfl rfl (by decide) (by decide) (Nat.le_of_ble_eq_true rfl) dX8_endSheet_120 (fun _ g5 => ?_)
  refine k_goto (tgt := 133) dX8_endSheet_123 (by decide) ?_
  refine k_msk (L' := [none, none, some (.inr (5, v2)), none]) [false, true, true, false] rfl ?_
  exact t8_endSheet_b133 v2 g5
def f8_endSheet (v0 : Nat) (v1 : Int32) (v2 : Option Nat) (g : GS_) : Option (Unit × GS_) :=
  oc_ v2 none fun a6 => bd_ (f8_jobAt v0 (gfi g 165 a6) g) fun x8 g7 => oc_ x8 (lr_ (sfi g7 164 a6 (0 : Int32)) fun g10 => some ((), g10)) fun a9 => lr_ (gfr g7 266 v0) fun x11 => oc_ x11 none fun a12 => bd_ (f2_write a12 (gfi g7 271 v0) v1 (gfi g7 32 a9) (gfi g7 36 a9) g7) fun _ g13 => lr_ (gfr g13 33 a9) fun x14 => oc_ x14 none fun a15 => bd_ (f8_countFor v0 (gfi g13 135 a15) g13) fun _ g16 => lr_ (sfi g16 36 a9 ((gfi g16 36 a9) + (1 : Int32))) fun g17 => lr_ (gfr g17 33 a9) fun x18 => oc_ x18 none fun a19 => bd_ (f4_sheets a19 g17) fun z21 g20 => if (gfi g17 36 a9) < z21 then if (gfi g20 38 a9) = (-1 : Int32) then lr_ (gfr g20 33 a9) fun x22 => bd_ (f8_hasSupply v0 (some a6) x22 g20) fun z24 g23 => if z24 = 0 then f8_endSheet_b115 v0 (some a6) (some a9) g23 else bd_ (f8_bestFor v0 (some a6) g23) fun x26 g25 => bd_ (f8_isOutranked v0 (some a9) x26 g25) fun z28 g27 => if z28 = 0 then bd_ (f8_beginSheet v0 (some a6) (some a9) g27) fun _ g29 => some ((), g29) else f8_endSheet_b115 v0 (some a6) (some a9) g27 else f8_endSheet_b115 v0 (some a6) (some a9) g20 else bd_ (f8_markDone v0 (some a9) g20) fun _ g30 => f8_endSheet_b133 (some a6) g30
theorem t8_endSheet (v0 : Nat) (v1 : Int32) (v2 : Option Nat) (g : GS_) : Cn_ yX8_endSheet cX8_endSheet 4 none 4 91 EV_ [.inr (8, some v0), .inl v1, .inr (5, v2)] g (f8_endSheet v0 v1 v2 g) := by
  refine k_method (own := RX8) (ini := false) (L1 := [some (.inr (8, some v0)), some (.inl v1), some (.inr (5, v2)), none]) (by decide +kernel) rfl (fun h => by cases h) (Nat.le_of_ble_eq_true rfl) rfl ?_
  unfold f8_endSheet
  refine k_aloadn (j := 0) dX8_endSheet_0 rfl rfl ?_
  refine k_aloadn (j := 2) dX8_endSheet_1 rfl rfl ?_
  rcases v2 with _ | a6
  · exact k_ocn
  refine k_ocs ?_
  refine k_geti fg_8_104 rfl rfl dX8_endSheet_2 ?_
  refine k_callVr [.inl (gfi g 165 a6)] (t8_jobAt v0 (gfi g 165 a6) g) cw_cX8_jobAt (Or.inl ml_8_97) rfl rfl (by decide) (by decide) (Nat.le_of_ble_eq_true rfl) dX8_endSheet_5 (fun x8 g7 => ?_)
  refine k_astn (j := 3) (L' := [some (.inr (8, some v0)), some (.inl v1), some (.inr (5, some a6)), some (.inr (1, x8))]) dX8_endSheet_8 rfl (by decide) rfl ?_
  refine k_aloadn (j := 3) dX8_endSheet_9 rfl rfl ?_
  rcases x8 with _ | a9
  · refine k_ifnonnulln dX8_endSheet_10 ?_
    refine k_aloadn (j := 2) dX8_endSheet_13 rfl rfl ?_
    refine k_iconst (v := (0 : Int32)) dX8_endSheet_14 rfl ?_
    refine k_puti fp_8_124 rfl rfl dX8_endSheet_15 (fun g10 => ?_)
    exact k_return rfl dX8_endSheet_18
  refine k_ifnonnulls (tgt := 19) dX8_endSheet_10 (by decide) ?_
  refine k_aloadn (j := 0) dX8_endSheet_19 rfl rfl ?_
  refine k_getr fg_8_59 rfl rfl dX8_endSheet_20 (fun x11 => ?_)
  refine k_aloadn (j := 0) dX8_endSheet_23 rfl rfl ?_
  refine k_geti fg_8_75 rfl rfl dX8_endSheet_24 ?_
  refine k_iloadn (j := 1) dX8_endSheet_27 rfl rfl ?_
  refine k_aloadn (j := 3) dX8_endSheet_28 rfl rfl ?_
  refine k_geti fg_8_146 rfl rfl dX8_endSheet_29 ?_
  refine k_aloadn (j := 3) dX8_endSheet_32 rfl rfl ?_
  refine k_geti fg_8_149 rfl rfl dX8_endSheet_33 ?_
  rcases x11 with _ | a12
  · exact k_ocn
  refine k_ocs ?_
  refine k_callVv [.inl (gfi g7 271 v0), .inl v1, .inl (gfi g7 32 a9), .inl (gfi g7 36 a9)] (t2_write a12 (gfi g7 271 v0) v1 (gfi g7 32 a9) (gfi g7 36 a9) g7) cw_cX2_write (Or.inl ml_8_152) rfl rfl (by decide) (by decide) (Nat.le_of_ble_eq_true rfl) dX8_endSheet_36 (fun _ g13 => ?_)
  refine k_aloadn (j := 0) dX8_endSheet_39 rfl rfl ?_
  refine k_aloadn (j := 3) dX8_endSheet_40 rfl rfl ?_
  refine k_getr fg_8_156 rfl rfl dX8_endSheet_41 (fun x14 => ?_)
  rcases x14 with _ | a15
  · exact k_ocn
  refine k_ocs ?_
  refine k_geti fg_8_160 rfl rfl dX8_endSheet_44 ?_
  refine k_callVv [.inl (gfi g13 135 a15)] (t8_countFor v0 (gfi g13 135 a15) g13) cw_cX8_countFor (Or.inl ml_8_165) rfl rfl (by decide) (by decide) (Nat.le_of_ble_eq_true rfl) dX8_endSheet_47 (fun _ g16 => ?_)
  refine k_aloadn (j := 3) dX8_endSheet_50 rfl rfl ?_
  refine k_dup dX8_endSheet_51 ?_
  refine k_geti fg_8_149 rfl rfl dX8_endSheet_52 ?_
  refine k_iconst (v := (1 : Int32)) dX8_endSheet_55 rfl ?_
  refine k_iadd dX8_endSheet_56 ?_
  refine k_puti fp_8_149 rfl rfl dX8_endSheet_57 (fun g17 => ?_)
  refine k_aloadn (j := 3) dX8_endSheet_60 rfl rfl ?_
  refine k_geti fg_8_149 rfl rfl dX8_endSheet_61 ?_
  refine k_aloadn (j := 3) dX8_endSheet_64 rfl rfl ?_
  refine k_getr fg_8_156 rfl rfl dX8_endSheet_65 (fun x18 => ?_)
  rcases x18 with _ | a19
  · exact k_ocn
  refine k_ocs ?_
  refine k_callVi [] (t4_sheets a19 g17) cw_cX4_sheets (Or.inl ml_8_168) rfl rfl (by decide) (by decide) (Nat.le_of_ble_eq_true rfl) dX8_endSheet_68 (fun z21 g20 => ?_)
  refine k_icmplt (tgt := 82) dX8_endSheet_71 (by decide) (fun _ => ?_) (fun _ => ?_)
  · refine k_aloadn (j := 3) dX8_endSheet_82 rfl rfl ?_
    refine k_geti fg_8_176 rfl rfl dX8_endSheet_83 ?_
    refine k_iconst (v := (-1 : Int32)) dX8_endSheet_86 rfl ?_
    refine k_icmpne (tgt := 115) dX8_endSheet_87 (by decide) (fun _ => ?_) (fun _ => ?_)
    · refine k_aloadn (j := 0) dX8_endSheet_90 rfl rfl ?_
      refine k_aloadn (j := 2) dX8_endSheet_91 rfl rfl ?_
      refine k_aloadn (j := 3) dX8_endSheet_92 rfl rfl ?_
      refine k_getr fg_8_156 rfl rfl dX8_endSheet_93 (fun x22 => ?_)
      refine k_callVi [.inr (5, some a6), .inr (4, x22)] (t8_hasSupply v0 (some a6) x22 g20) cw_cX8_hasSupply (Or.inl ml_8_179) rfl rfl (by decide) (by decide) (Nat.le_of_ble_eq_true rfl) dX8_endSheet_96 (fun z24 g23 => ?_)
      refine k_ifeq (tgt := 115) dX8_endSheet_99 (by decide) (fun _ => ?_) (fun _ => ?_)
      · refine k_msk (L' := [some (.inr (8, some v0)), none, some (.inr (5, some a6)), some (.inr (1, some a9))]) [true, false, true, true] rfl ?_
        exact t8_endSheet_b115 v0 (some a6) (some a9) g23
      refine k_aloadn (j := 0) dX8_endSheet_102 rfl rfl ?_
      refine k_aloadn (j := 3) dX8_endSheet_103 rfl rfl ?_
      refine k_aloadn (j := 0) dX8_endSheet_104 rfl rfl ?_
      refine k_aloadn (j := 2) dX8_endSheet_105 rfl rfl ?_
      refine k_callVr [.inr (5, some a6)] (t8_bestFor v0 (some a6) g23) cw_cX8_bestFor (Or.inl ml_8_132) rfl rfl (by decide) (by decide) (Nat.le_of_ble_eq_true rfl) dX8_endSheet_106 (fun x26 g25 => ?_)
      refine k_callVi [.inr (1, some a9), .inr (1, x26)] (t8_isOutranked v0 (some a9) x26 g25) cw_cX8_isOutranked (Or.inl ml_8_183) rfl rfl (by decide) (by decide) (Nat.le_of_ble_eq_true rfl) dX8_endSheet_109 (fun z28 g27 => ?_)
      refine k_ifeq (tgt := 126) dX8_endSheet_112 (by decide) (fun _ => ?_) (fun _ => ?_)
      · refine k_aloadn (j := 0) dX8_endSheet_126 rfl rfl ?_
        refine k_aloadn (j := 2) dX8_endSheet_127 rfl rfl ?_
        refine k_aloadn (j := 3) dX8_endSheet_128 rfl rfl ?_
        refine k_callVv [.inr (5, some a6), .inr (1, some a9)] (t8_beginSheet v0 (some a6) (some a9) g27) cw_cX8_beginSheet (Or.inl ml_8_136) rfl rfl (by decide) (by decide) (Nat.le_of_ble_eq_true rfl) dX8_endSheet_129 (fun _ g29 => ?_)
        exact k_return rfl dX8_endSheet_132
      refine k_msk (L' := [some (.inr (8, some v0)), none, some (.inr (5, some a6)), some (.inr (1, some a9))]) [true, false, true, true] rfl ?_
      exact t8_endSheet_b115 v0 (some a6) (some a9) g27
    refine k_msk (L' := [some (.inr (8, some v0)), none, some (.inr (5, some a6)), some (.inr (1, some a9))]) [true, false, true, true] rfl ?_
    exact t8_endSheet_b115 v0 (some a6) (some a9) g20
  refine k_aloadn (j := 0) dX8_endSheet_74 rfl rfl ?_
  refine k_aloadn (j := 3) dX8_endSheet_75 rfl rfl ?_
  refine k_callVv [.inr (1, some a9)] (t8_markDone v0 (some a9) g20) cw_cX8_markDone (Or.inl ml_8_172) rfl rfl (by decide) (by decide) (Nat.le_of_ble_eq_true rfl) dX8_endSheet_76 (fun _ g30 => ?_)
  refine k_goto (tgt := 133) dX8_endSheet_79 (by decide) ?_
  refine k_msk (L' := [none, none, some (.inr (5, some a6)), none]) [false, false, true, false] rfl ?_
  exact t8_endSheet_b133 (some a6) g30
theorem dX8_passTick_0 : decode cX8_passTick 0 = .ok (.aload_n 0, 1) := by decide +kernel
theorem dX8_passTick_1 : decode cX8_passTick 1 = .ok (.dup, 1) := by decide +kernel
theorem dX8_passTick_2 : decode cX8_passTick 2 = .ok (.getfield 75, 3) := by decide +kernel
theorem dX8_passTick_5 : decode cX8_passTick 5 = .ok (.iconst 1, 1) := by decide +kernel
theorem dX8_passTick_6 : decode cX8_passTick 6 = .ok (.iadd, 1) := by decide +kernel
theorem dX8_passTick_7 : decode cX8_passTick 7 = .ok (.putfield 75, 3) := by decide +kernel
theorem dX8_passTick_10 : decode cX8_passTick 10 = .ok (.iconst 0, 1) := by decide +kernel
theorem dX8_passTick_11 : decode cX8_passTick 11 = .ok (.istore_n 1, 1) := by decide +kernel
theorem dX8_passTick_12 : decode cX8_passTick 12 = .ok (.iload_n 1, 1) := by decide +kernel
theorem dX8_passTick_13 : decode cX8_passTick 13 = .ok (.aload_n 0, 1) := by decide +kernel
theorem dX8_passTick_14 : decode cX8_passTick 14 = .ok (.getfield 36, 3) := by decide +kernel
theorem dX8_passTick_17 : decode cX8_passTick 17 = .ok (.if_icmp .ge 50, 3) := by decide +kernel
theorem dX8_passTick_20 : decode cX8_passTick 20 = .ok (.aload_n 0, 1) := by decide +kernel
theorem dX8_passTick_21 : decode cX8_passTick 21 = .ok (.iload_n 1, 1) := by decide +kernel
theorem dX8_passTick_22 : decode cX8_passTick 22 = .ok (.invokevirtual 120, 3) := by decide +kernel
theorem dX8_passTick_25 : decode cX8_passTick 25 = .ok (.astore_n 2, 1) := by decide +kernel
theorem dX8_passTick_26 : decode cX8_passTick 26 = .ok (.aload_n 2, 1) := by decide +kernel
theorem dX8_passTick_27 : decode cX8_passTick 27 = .ok (.ifnull 34, 3) := by decide +kernel
theorem dX8_passTick_30 : decode cX8_passTick 30 = .ok (.aload_n 2, 1) := by decide +kernel
theorem dX8_passTick_31 : decode cX8_passTick 31 = .ok (.getfield 124, 3) := by decide +kernel
theorem dX8_passTick_34 : decode cX8_passTick 34 = .ok (.iconst 1, 1) := by decide +kernel
theorem dX8_passTick_35 : decode cX8_passTick 35 = .ok (.if_icmp .ne 26, 3) := by decide +kernel
theorem dX8_passTick_38 : decode cX8_passTick 38 = .ok (.aload_n 2, 1) := by decide +kernel
theorem dX8_passTick_39 : decode cX8_passTick 39 = .ok (.dup, 1) := by decide +kernel
theorem dX8_passTick_40 : decode cX8_passTick 40 = .ok (.getfield 125, 3) := by decide +kernel
theorem dX8_passTick_43 : decode cX8_passTick 43 = .ok (.iconst 1, 1) := by decide +kernel
theorem dX8_passTick_44 : decode cX8_passTick 44 = .ok (.isub, 1) := by decide +kernel
theorem dX8_passTick_45 : decode cX8_passTick 45 = .ok (.putfield 125, 3) := by decide +kernel
theorem dX8_passTick_48 : decode cX8_passTick 48 = .ok (.aload_n 2, 1) := by decide +kernel
theorem dX8_passTick_49 : decode cX8_passTick 49 = .ok (.getfield 125, 3) := by decide +kernel
theorem dX8_passTick_52 : decode cX8_passTick 52 = .ok (.ifCond .gt 9, 3) := by decide +kernel
theorem dX8_passTick_55 : decode cX8_passTick 55 = .ok (.aload_n 0, 1) := by decide +kernel
theorem dX8_passTick_56 : decode cX8_passTick 56 = .ok (.iload_n 1, 1) := by decide +kernel
theorem dX8_passTick_57 : decode cX8_passTick 57 = .ok (.aload_n 2, 1) := by decide +kernel
theorem dX8_passTick_58 : decode cX8_passTick 58 = .ok (.invokevirtual 128, 3) := by decide +kernel
theorem dX8_passTick_61 : decode cX8_passTick 61 = .ok (.iinc 1 1, 3) := by decide +kernel
theorem dX8_passTick_64 : decode cX8_passTick 64 = .ok (.goto (-52), 3) := by decide +kernel
theorem dX8_passTick_67 : decode cX8_passTick 67 = .ok (.iconst 0, 1) := by decide +kernel
theorem dX8_passTick_68 : decode cX8_passTick 68 = .ok (.istore_n 1, 1) := by decide +kernel
theorem dX8_passTick_69 : decode cX8_passTick 69 = .ok (.iload_n 1, 1) := by decide +kernel
theorem dX8_passTick_70 : decode cX8_passTick 70 = .ok (.aload_n 0, 1) := by decide +kernel
theorem dX8_passTick_71 : decode cX8_passTick 71 = .ok (.getfield 36, 3) := by decide +kernel
theorem dX8_passTick_74 : decode cX8_passTick 74 = .ok (.if_icmp .ge 42, 3) := by decide +kernel
theorem dX8_passTick_77 : decode cX8_passTick 77 = .ok (.aload_n 0, 1) := by decide +kernel
theorem dX8_passTick_78 : decode cX8_passTick 78 = .ok (.iload_n 1, 1) := by decide +kernel
theorem dX8_passTick_79 : decode cX8_passTick 79 = .ok (.invokevirtual 120, 3) := by decide +kernel
theorem dX8_passTick_82 : decode cX8_passTick 82 = .ok (.astore_n 2, 1) := by decide +kernel
theorem dX8_passTick_83 : decode cX8_passTick 83 = .ok (.aload_n 2, 1) := by decide +kernel
theorem dX8_passTick_84 : decode cX8_passTick 84 = .ok (.ifnull 26, 3) := by decide +kernel
theorem dX8_passTick_87 : decode cX8_passTick 87 = .ok (.aload_n 2, 1) := by decide +kernel
theorem dX8_passTick_88 : decode cX8_passTick 88 = .ok (.getfield 124, 3) := by decide +kernel
theorem dX8_passTick_91 : decode cX8_passTick 91 = .ok (.ifCond .ne 19, 3) := by decide +kernel
theorem dX8_passTick_94 : decode cX8_passTick 94 = .ok (.aload_n 0, 1) := by decide +kernel
theorem dX8_passTick_95 : decode cX8_passTick 95 = .ok (.aload_n 2, 1) := by decide +kernel
theorem dX8_passTick_96 : decode cX8_passTick 96 = .ok (.invokevirtual 132, 3) := by decide +kernel
theorem dX8_passTick_99 : decode cX8_passTick 99 = .ok (.astore_n 3, 1) := by decide +kernel
theorem dX8_passTick_100 : decode cX8_passTick 100 = .ok (.aload_n 3, 1) := by decide +kernel
theorem dX8_passTick_101 : decode cX8_passTick 101 = .ok (.ifnull 9, 3) := by decide +kernel
theorem dX8_passTick_104 : decode cX8_passTick 104 = .ok (.aload_n 0, 1) := by decide +kernel
theorem dX8_passTick_105 : decode cX8_passTick 105 = .ok (.aload_n 2, 1) := by decide +kernel
theorem dX8_passTick_106 : decode cX8_passTick 106 = .ok (.aload_n 3, 1) := by decide +kernel
theorem dX8_passTick_107 : decode cX8_passTick 107 = .ok (.invokevirtual 136, 3) := by decide +kernel
theorem dX8_passTick_110 : decode cX8_passTick 110 = .ok (.iinc 1 1, 3) := by decide +kernel
theorem dX8_passTick_113 : decode cX8_passTick 113 = .ok (.goto (-44), 3) := by decide +kernel
theorem dX8_passTick_116 : decode cX8_passTick 116 = .ok (.return_, 1) := by decide +kernel
def f8_passTick_b110 (c69 : Nat → Int32 → GS_ → Option (Unit × GS_)) (v0 : Nat) (v1 : Int32) (g : GS_) : Option (Unit × GS_) :=
  c69 v0 (v1 + (1 : Int32)) g
theorem t8_passTick_b110 (c69 : Nat → Int32 → GS_ → Option (Unit × GS_)) (h69 : ∀ (v0 : Nat) (v1 : Int32) (g : GS_), K_ RX8 cX8_passTick 4 none 5 114 false EV_ 69 [some (.inr (8, some v0)), some (.inl v1), none, none] [] g (c69 v0 v1 g)) (v0 : Nat) (v1 : Int32) (g : GS_) : K_ RX8 cX8_passTick 4 none 5 114 false EV_ 110 [some (.inr (8, some v0)), some (.inl v1), none, none] [] g (f8_passTick_b110 c69 v0 v1 g) := by
  unfold f8_passTick_b110
  refine k_iinc (v := (v1 + (1 : Int32))) (L' := [some (.inr (8, some v0)), some (.inl (v1 + (1 : Int32))), none, none]) dX8_passTick_110 rfl rfl (by decide) rfl ?_
  refine k_goto (tgt := 69) dX8_passTick_113 (by decide) ?_
  exact h69 v0 (v1 + (1 : Int32)) g
def f8_passTick_b69 : Nat → Nat → Int32 → GS_ → Option (Unit × GS_)
  | 0, _, _, _ => none
  | n + 1, v0, v1, g =>
    if (gfi g 261 v0) ≤ v1 then some ((), g) else bd_ (f8_printerAt v0 v1 g) fun x2 g1 => oc_ x2 (f8_passTick_b110 (f8_passTick_b69 n) v0 v1 g1) fun a3 => if (gfi g1 164 a3) = 0 then bd_ (f8_bestFor v0 (some a3) g1) fun x5 g4 => oc_ x5 (f8_passTick_b110 (f8_passTick_b69 n) v0 v1 g4) fun a6 => bd_ (f8_beginSheet v0 (some a3) (some a6) g4) fun _ g7 => f8_passTick_b110 (f8_passTick_b69 n) v0 v1 g7 else f8_passTick_b110 (f8_passTick_b69 n) v0 v1 g1
theorem t8_passTick_b69 : ∀ (n : Nat) (v0 : Nat) (v1 : Int32) (g : GS_), K_ RX8 cX8_passTick 4 none 5 114 false EV_ 69 [some (.inr (8, some v0)), some (.inl v1), none, none] [] g (f8_passTick_b69 n v0 v1 g) := by
  intro n
  induction n with
  | zero =>
    intro v0 v1 g
    exact k_fail
  | succ n ih =>
    intro v0 v1 g
    show K_ RX8 cX8_passTick 4 none 5 114 false EV_ 69 [some (.inr (8, some v0)), some (.inl v1), none, none] [] g (if (gfi g 261 v0) ≤ v1 then some ((), g) else bd_ (f8_printerAt v0 v1 g) fun x2 g1 => oc_ x2 (f8_passTick_b110 (f8_passTick_b69 n) v0 v1 g1) fun a3 => if (gfi g1 164 a3) = 0 then bd_ (f8_bestFor v0 (some a3) g1) fun x5 g4 => oc_ x5 (f8_passTick_b110 (f8_passTick_b69 n) v0 v1 g4) fun a6 => bd_ (f8_beginSheet v0 (some a3) (some a6) g4) fun _ g7 => f8_passTick_b110 (f8_passTick_b69 n) v0 v1 g7 else f8_passTick_b110 (f8_passTick_b69 n) v0 v1 g1)
    refine k_iloadn (j := 1) dX8_passTick_69 rfl rfl ?_
    refine k_aloadn (j := 0) dX8_passTick_70 rfl rfl ?_
    refine k_geti fg_8_36 rfl rfl dX8_passTick_71 ?_
    refine k_icmpge (tgt := 116) dX8_passTick_74 (by decide) (fun _ => ?_) (fun _ => ?_)
    · exact k_return rfl dX8_passTick_116
    refine k_aloadn (j := 0) dX8_passTick_77 rfl rfl ?_
    refine k_iloadn (j := 1) dX8_passTick_78 rfl rfl ?_
    refine k_callVr [.inl v1] (t8_printerAt v0 v1 g) cw_cX8_printerAt (Or.inl ml_8_120) rfl rfl (by decide) (by decide) (Nat.le_of_ble_eq_true rfl) dX8_passTick_79 (fun x2 g1 => ?_)
    refine k_astn (j := 2) (L' := [some (.inr (8, some v0)), some (.inl v1), some (.inr (5, x2)), none]) dX8_passTick_82 rfl (by decide) rfl ?_
    refine k_aloadn (j := 2) dX8_passTick_83 rfl rfl ?_
    rcases x2 with _ | a3
    · refine k_ifnulln (tgt := 110) dX8_passTick_84 (by decide) ?_
      refine k_msk (L' := [some (.inr (8, some v0)), some (.inl v1), none, none]) [true, true, false, true] rfl ?_
      exact t8_passTick_b110 (f8_passTick_b69 n) ih v0 v1 g1
    refine k_ifnulls dX8_passTick_84 ?_
    refine k_aloadn (j := 2) dX8_passTick_87 rfl rfl ?_
    refine k_geti fg_8_124 rfl rfl dX8_passTick_88 ?_
    refine k_ifne (tgt := 110) dX8_passTick_91 (by decide) (fun _ => ?_) (fun _ => ?_)
    · refine k_aloadn (j := 0) dX8_passTick_94 rfl rfl ?_
      refine k_aloadn (j := 2) dX8_passTick_95 rfl rfl ?_
      refine k_callVr [.inr (5, some a3)] (t8_bestFor v0 (some a3) g1) cw_cX8_bestFor (Or.inl ml_8_132) rfl rfl (by decide) (by decide) (Nat.le_of_ble_eq_true rfl) dX8_passTick_96 (fun x5 g4 => ?_)
      refine k_astn (j := 3) (L' := [some (.inr (8, some v0)), some (.inl v1), some (.inr (5, some a3)), some (.inr (1, x5))]) dX8_passTick_99 rfl (by decide) rfl ?_
      refine k_aloadn (j := 3) dX8_passTick_100 rfl rfl ?_
      rcases x5 with _ | a6
      · refine k_ifnulln (tgt := 110) dX8_passTick_101 (by decide) ?_
        refine k_msk (L' := [some (.inr (8, some v0)), some (.inl v1), none, none]) [true, true, false, false] rfl ?_
        exact t8_passTick_b110 (f8_passTick_b69 n) ih v0 v1 g4
      refine k_ifnulls dX8_passTick_101 ?_
      refine k_aloadn (j := 0) dX8_passTick_104 rfl rfl ?_
      refine k_aloadn (j := 2) dX8_passTick_105 rfl rfl ?_
      refine k_aloadn (j := 3) dX8_passTick_106 rfl rfl ?_
      refine k_callVv [.inr (5, some a3), .inr (1, some a6)] (t8_beginSheet v0 (some a3) (some a6) g4) cw_cX8_beginSheet (Or.inl ml_8_136) rfl rfl (by decide) (by decide) (Nat.le_of_ble_eq_true rfl) dX8_passTick_107 (fun _ g7 => ?_)
      refine k_msk (L' := [some (.inr (8, some v0)), some (.inl v1), none, none]) [true, true, false, false] rfl ?_
      exact t8_passTick_b110 (f8_passTick_b69 n) ih v0 v1 g7
    refine k_msk (L' := [some (.inr (8, some v0)), some (.inl v1), none, none]) [true, true, false, true] rfl ?_
    exact t8_passTick_b110 (f8_passTick_b69 n) ih v0 v1 g1
def f8_passTick_b61 (c12 : Nat → Int32 → GS_ → Option (Unit × GS_)) (v0 : Nat) (v1 : Int32) (g : GS_) : Option (Unit × GS_) :=
  c12 v0 (v1 + (1 : Int32)) g
theorem t8_passTick_b61 (c12 : Nat → Int32 → GS_ → Option (Unit × GS_)) (h12 : ∀ (v0 : Nat) (v1 : Int32) (g : GS_), K_ RX8 cX8_passTick 4 none 5 114 false EV_ 12 [some (.inr (8, some v0)), some (.inl v1), none, none] [] g (c12 v0 v1 g)) (v0 : Nat) (v1 : Int32) (g : GS_) : K_ RX8 cX8_passTick 4 none 5 114 false EV_ 61 [some (.inr (8, some v0)), some (.inl v1), none, none] [] g (f8_passTick_b61 c12 v0 v1 g) := by
  unfold f8_passTick_b61
  refine k_iinc (v := (v1 + (1 : Int32))) (L' := [some (.inr (8, some v0)), some (.inl (v1 + (1 : Int32))), none, none]) dX8_passTick_61 rfl rfl (by decide) rfl ?_
  refine k_goto (tgt := 12) dX8_passTick_64 (by decide) ?_
  exact h12 v0 (v1 + (1 : Int32)) g
def f8_passTick_b12 : Nat → Nat → Int32 → GS_ → Option (Unit × GS_)
  | 0, _, _, _ => none
  | n + 1, v0, v1, g =>
    if (gfi g 261 v0) ≤ v1 then f8_passTick_b69 FU_ v0 (0 : Int32) g else bd_ (f8_printerAt v0 v1 g) fun x9 g8 => oc_ x9 (f8_passTick_b61 (f8_passTick_b12 n) v0 v1 g8) fun a10 => if (gfi g8 164 a10) = (1 : Int32) then lr_ (sfi g8 166 a10 ((gfi g8 166 a10) - (1 : Int32))) fun g11 => if 0 < (gfi g11 166 a10) then f8_passTick_b61 (f8_passTick_b12 n) v0 v1 g11 else bd_ (f8_endSheet v0 v1 (some a10) g11) fun _ g12 => f8_passTick_b61 (f8_passTick_b12 n) v0 v1 g12 else f8_passTick_b61 (f8_passTick_b12 n) v0 v1 g8
theorem t8_passTick_b12 : ∀ (n : Nat) (v0 : Nat) (v1 : Int32) (g : GS_), K_ RX8 cX8_passTick 4 none 5 114 false EV_ 12 [some (.inr (8, some v0)), some (.inl v1), none, none] [] g (f8_passTick_b12 n v0 v1 g) := by
  intro n
  induction n with
  | zero =>
    intro v0 v1 g
    exact k_fail
  | succ n ih =>
    intro v0 v1 g
    show K_ RX8 cX8_passTick 4 none 5 114 false EV_ 12 [some (.inr (8, some v0)), some (.inl v1), none, none] [] g (if (gfi g 261 v0) ≤ v1 then f8_passTick_b69 FU_ v0 (0 : Int32) g else bd_ (f8_printerAt v0 v1 g) fun x9 g8 => oc_ x9 (f8_passTick_b61 (f8_passTick_b12 n) v0 v1 g8) fun a10 => if (gfi g8 164 a10) = (1 : Int32) then lr_ (sfi g8 166 a10 ((gfi g8 166 a10) - (1 : Int32))) fun g11 => if 0 < (gfi g11 166 a10) then f8_passTick_b61 (f8_passTick_b12 n) v0 v1 g11 else bd_ (f8_endSheet v0 v1 (some a10) g11) fun _ g12 => f8_passTick_b61 (f8_passTick_b12 n) v0 v1 g12 else f8_passTick_b61 (f8_passTick_b12 n) v0 v1 g8)
    refine k_iloadn (j := 1) dX8_passTick_12 rfl rfl ?_
    refine k_aloadn (j := 0) dX8_passTick_13 rfl rfl ?_
    refine k_geti fg_8_36 rfl rfl dX8_passTick_14 ?_
    refine k_icmpge (tgt := 67) dX8_passTick_17 (by decide) (fun _ => ?_) (fun _ => ?_)
    · refine k_iconst (v := (0 : Int32)) dX8_passTick_67 rfl ?_
      refine k_istn (j := 1) (L' := [some (.inr (8, some v0)), some (.inl (0 : Int32)), none, none]) dX8_passTick_68 rfl (by decide) rfl ?_
      exact t8_passTick_b69 FU_ v0 (0 : Int32) g
    refine k_aloadn (j := 0) dX8_passTick_20 rfl rfl ?_
    refine k_iloadn (j := 1) dX8_passTick_21 rfl rfl ?_
    refine k_callVr [.inl v1] (t8_printerAt v0 v1 g) cw_cX8_printerAt (Or.inl ml_8_120) rfl rfl (by decide) (by decide) (Nat.le_of_ble_eq_true rfl) dX8_passTick_22 (fun x9 g8 => ?_)
    refine k_astn (j := 2) (L' := [some (.inr (8, some v0)), some (.inl v1), some (.inr (5, x9)), none]) dX8_passTick_25 rfl (by decide) rfl ?_
    refine k_aloadn (j := 2) dX8_passTick_26 rfl rfl ?_
    rcases x9 with _ | a10
    · refine k_ifnulln (tgt := 61) dX8_passTick_27 (by decide) ?_
      refine k_msk (L' := [some (.inr (8, some v0)), some (.inl v1), none, none]) [true, true, false, true] rfl ?_
      exact t8_passTick_b61 (f8_passTick_b12 n) ih v0 v1 g8
    refine k_ifnulls dX8_passTick_27 ?_
    refine k_aloadn (j := 2) dX8_passTick_30 rfl rfl ?_
    refine k_geti fg_8_124 rfl rfl dX8_passTick_31 ?_
    refine k_iconst (v := (1 : Int32)) dX8_passTick_34 rfl ?_
    refine k_icmpne (tgt := 61) dX8_passTick_35 (by decide) (fun _ => ?_) (fun _ => ?_)
    · refine k_aloadn (j := 2) dX8_passTick_38 rfl rfl ?_
      refine k_dup dX8_passTick_39 ?_
      refine k_geti fg_8_125 rfl rfl dX8_passTick_40 ?_
      refine k_iconst (v := (1 : Int32)) dX8_passTick_43 rfl ?_
      refine k_isub dX8_passTick_44 ?_
      refine k_puti fp_8_125 rfl rfl dX8_passTick_45 (fun g11 => ?_)
      refine k_aloadn (j := 2) dX8_passTick_48 rfl rfl ?_
      refine k_geti fg_8_125 rfl rfl dX8_passTick_49 ?_
      refine k_ifgt (tgt := 61) dX8_passTick_52 (by decide) (fun _ => ?_) (fun _ => ?_)
      · refine k_msk (L' := [some (.inr (8, some v0)), some (.inl v1), none, none]) [true, true, false, true] rfl ?_
        exact t8_passTick_b61 (f8_passTick_b12 n) ih v0 v1 g11
      refine k_aloadn (j := 0) dX8_passTick_55 rfl rfl ?_
      refine k_iloadn (j := 1) dX8_passTick_56 rfl rfl ?_
      refine k_aloadn (j := 2) dX8_passTick_57 rfl rfl ?_
      refine k_callVv [.inl v1, .inr (5, some a10)] (t8_endSheet v0 v1 (some a10) g11) cw_cX8_endSheet (Or.inl ml_8_128) rfl rfl (by decide) (by decide) (Nat.le_of_ble_eq_true rfl) dX8_passTick_58 (fun _ g12 => ?_)
      refine k_msk (L' := [some (.inr (8, some v0)), some (.inl v1), none, none]) [true, true, false, true] rfl ?_
      exact t8_passTick_b61 (f8_passTick_b12 n) ih v0 v1 g12
    refine k_msk (L' := [some (.inr (8, some v0)), some (.inl v1), none, none]) [true, true, false, true] rfl ?_
    exact t8_passTick_b61 (f8_passTick_b12 n) ih v0 v1 g8
def f8_passTick (v0 : Nat) (g : GS_) : Option (Unit × GS_) :=
  lr_ (sfi g 271 v0 ((gfi g 271 v0) + (1 : Int32))) fun g13 => f8_passTick_b12 FU_ v0 (0 : Int32) g13
theorem t8_passTick (v0 : Nat) (g : GS_) : Cn_ yX8_passTick cX8_passTick 4 none 5 114 EV_ [.inr (8, some v0)] g (f8_passTick v0 g) := by
  refine k_method (own := RX8) (ini := false) (L1 := [some (.inr (8, some v0)), none, none, none]) (by decide +kernel) rfl (fun h => by cases h) (Nat.le_of_ble_eq_true rfl) rfl ?_
  unfold f8_passTick
  refine k_aloadn (j := 0) dX8_passTick_0 rfl rfl ?_
  refine k_dup dX8_passTick_1 ?_
  refine k_geti fg_8_75 rfl rfl dX8_passTick_2 ?_
  refine k_iconst (v := (1 : Int32)) dX8_passTick_5 rfl ?_
  refine k_iadd dX8_passTick_6 ?_
  refine k_puti fp_8_75 rfl rfl dX8_passTick_7 (fun g13 => ?_)
  refine k_iconst (v := (0 : Int32)) dX8_passTick_10 rfl ?_
  refine k_istn (j := 1) (L' := [some (.inr (8, some v0)), some (.inl (0 : Int32)), none, none]) dX8_passTick_11 rfl (by decide) rfl ?_
  exact t8_passTick_b12 FU_ v0 (0 : Int32) g13
theorem dX8_skipQuietTicks_0 : decode cX8_skipQuietTicks 0 = .ok (.iload_n 1, 1) := by decide +kernel
theorem dX8_skipQuietTicks_1 : decode cX8_skipQuietTicks 1 = .ok (.istore_n 2, 1) := by decide +kernel
theorem dX8_skipQuietTicks_2 : decode cX8_skipQuietTicks 2 = .ok (.iconst 0, 1) := by decide +kernel
theorem dX8_skipQuietTicks_3 : decode cX8_skipQuietTicks 3 = .ok (.istore_n 3, 1) := by decide +kernel
theorem dX8_skipQuietTicks_4 : decode cX8_skipQuietTicks 4 = .ok (.iload_n 3, 1) := by decide +kernel
theorem dX8_skipQuietTicks_5 : decode cX8_skipQuietTicks 5 = .ok (.aload_n 0, 1) := by decide +kernel
theorem dX8_skipQuietTicks_6 : decode cX8_skipQuietTicks 6 = .ok (.getfield 36, 3) := by decide +kernel
theorem dX8_skipQuietTicks_9 : decode cX8_skipQuietTicks 9 = .ok (.if_icmp .ge 42, 3) := by decide +kernel
theorem dX8_skipQuietTicks_12 : decode cX8_skipQuietTicks 12 = .ok (.aload_n 0, 1) := by decide +kernel
theorem dX8_skipQuietTicks_13 : decode cX8_skipQuietTicks 13 = .ok (.iload_n 3, 1) := by decide +kernel
theorem dX8_skipQuietTicks_14 : decode cX8_skipQuietTicks 14 = .ok (.invokevirtual 120, 3) := by decide +kernel
theorem dX8_skipQuietTicks_17 : decode cX8_skipQuietTicks 17 = .ok (.astore 4, 2) := by decide +kernel
theorem dX8_skipQuietTicks_19 : decode cX8_skipQuietTicks 19 = .ok (.aload 4, 2) := by decide +kernel
theorem dX8_skipQuietTicks_21 : decode cX8_skipQuietTicks 21 = .ok (.ifnull 24, 3) := by decide +kernel
theorem dX8_skipQuietTicks_24 : decode cX8_skipQuietTicks 24 = .ok (.aload 4, 2) := by decide +kernel
theorem dX8_skipQuietTicks_26 : decode cX8_skipQuietTicks 26 = .ok (.getfield 124, 3) := by decide +kernel
theorem dX8_skipQuietTicks_29 : decode cX8_skipQuietTicks 29 = .ok (.iconst 1, 1) := by decide +kernel
theorem dX8_skipQuietTicks_30 : decode cX8_skipQuietTicks 30 = .ok (.if_icmp .ne 15, 3) := by decide +kernel
theorem dX8_skipQuietTicks_33 : decode cX8_skipQuietTicks 33 = .ok (.iload_n 2, 1) := by decide +kernel
theorem dX8_skipQuietTicks_34 : decode cX8_skipQuietTicks 34 = .ok (.aload 4, 2) := by decide +kernel
theorem dX8_skipQuietTicks_36 : decode cX8_skipQuietTicks 36 = .ok (.getfield 125, 3) := by decide +kernel
theorem dX8_skipQuietTicks_39 : decode cX8_skipQuietTicks 39 = .ok (.iconst 1, 1) := by decide +kernel
theorem dX8_skipQuietTicks_40 : decode cX8_skipQuietTicks 40 = .ok (.isub, 1) := by decide +kernel
theorem dX8_skipQuietTicks_41 : decode cX8_skipQuietTicks 41 = .ok (.invokestatic 140, 3) := by decide +kernel
theorem dX8_skipQuietTicks_44 : decode cX8_skipQuietTicks 44 = .ok (.istore_n 2, 1) := by decide +kernel
theorem dX8_skipQuietTicks_45 : decode cX8_skipQuietTicks 45 = .ok (.iinc 3 1, 3) := by decide +kernel
theorem dX8_skipQuietTicks_48 : decode cX8_skipQuietTicks 48 = .ok (.goto (-44), 3) := by decide +kernel
theorem dX8_skipQuietTicks_51 : decode cX8_skipQuietTicks 51 = .ok (.iload_n 2, 1) := by decide +kernel
theorem dX8_skipQuietTicks_52 : decode cX8_skipQuietTicks 52 = .ok (.ifCond .gt 5, 3) := by decide +kernel
theorem dX8_skipQuietTicks_55 : decode cX8_skipQuietTicks 55 = .ok (.iconst 0, 1) := by decide +kernel
theorem dX8_skipQuietTicks_56 : decode cX8_skipQuietTicks 56 = .ok (.ireturn, 1) := by decide +kernel
theorem dX8_skipQuietTicks_57 : decode cX8_skipQuietTicks 57 = .ok (.aload_n 0, 1) := by decide +kernel
theorem dX8_skipQuietTicks_58 : decode cX8_skipQuietTicks 58 = .ok (.dup, 1) := by decide +kernel
theorem dX8_skipQuietTicks_59 : decode cX8_skipQuietTicks 59 = .ok (.getfield 75, 3) := by decide +kernel
theorem dX8_skipQuietTicks_62 : decode cX8_skipQuietTicks 62 = .ok (.iload_n 2, 1) := by decide +kernel
theorem dX8_skipQuietTicks_63 : decode cX8_skipQuietTicks 63 = .ok (.iadd, 1) := by decide +kernel
theorem dX8_skipQuietTicks_64 : decode cX8_skipQuietTicks 64 = .ok (.putfield 75, 3) := by decide +kernel
theorem dX8_skipQuietTicks_67 : decode cX8_skipQuietTicks 67 = .ok (.iconst 0, 1) := by decide +kernel
theorem dX8_skipQuietTicks_68 : decode cX8_skipQuietTicks 68 = .ok (.istore_n 3, 1) := by decide +kernel
theorem dX8_skipQuietTicks_69 : decode cX8_skipQuietTicks 69 = .ok (.iload_n 3, 1) := by decide +kernel
theorem dX8_skipQuietTicks_70 : decode cX8_skipQuietTicks 70 = .ok (.aload_n 0, 1) := by decide +kernel
theorem dX8_skipQuietTicks_71 : decode cX8_skipQuietTicks 71 = .ok (.getfield 36, 3) := by decide +kernel
theorem dX8_skipQuietTicks_74 : decode cX8_skipQuietTicks 74 = .ok (.if_icmp .ge 41, 3) := by decide +kernel
theorem dX8_skipQuietTicks_77 : decode cX8_skipQuietTicks 77 = .ok (.aload_n 0, 1) := by decide +kernel
theorem dX8_skipQuietTicks_78 : decode cX8_skipQuietTicks 78 = .ok (.iload_n 3, 1) := by decide +kernel
theorem dX8_skipQuietTicks_79 : decode cX8_skipQuietTicks 79 = .ok (.invokevirtual 120, 3) := by decide +kernel
theorem dX8_skipQuietTicks_82 : decode cX8_skipQuietTicks 82 = .ok (.astore 4, 2) := by decide +kernel
theorem dX8_skipQuietTicks_84 : decode cX8_skipQuietTicks 84 = .ok (.aload 4, 2) := by decide +kernel
theorem dX8_skipQuietTicks_86 : decode cX8_skipQuietTicks 86 = .ok (.ifnull 23, 3) := by decide +kernel
theorem dX8_skipQuietTicks_89 : decode cX8_skipQuietTicks 89 = .ok (.aload 4, 2) := by decide +kernel
theorem dX8_skipQuietTicks_91 : decode cX8_skipQuietTicks 91 = .ok (.getfield 124, 3) := by decide +kernel
theorem dX8_skipQuietTicks_94 : decode cX8_skipQuietTicks 94 = .ok (.iconst 1, 1) := by decide +kernel
theorem dX8_skipQuietTicks_95 : decode cX8_skipQuietTicks 95 = .ok (.if_icmp .ne 14, 3) := by decide +kernel
theorem dX8_skipQuietTicks_98 : decode cX8_skipQuietTicks 98 = .ok (.aload 4, 2) := by decide +kernel
theorem dX8_skipQuietTicks_100 : decode cX8_skipQuietTicks 100 = .ok (.dup, 1) := by decide +kernel
theorem dX8_skipQuietTicks_101 : decode cX8_skipQuietTicks 101 = .ok (.getfield 125, 3) := by decide +kernel
theorem dX8_skipQuietTicks_104 : decode cX8_skipQuietTicks 104 = .ok (.iload_n 2, 1) := by decide +kernel
theorem dX8_skipQuietTicks_105 : decode cX8_skipQuietTicks 105 = .ok (.isub, 1) := by decide +kernel
theorem dX8_skipQuietTicks_106 : decode cX8_skipQuietTicks 106 = .ok (.putfield 125, 3) := by decide +kernel
theorem dX8_skipQuietTicks_109 : decode cX8_skipQuietTicks 109 = .ok (.iinc 3 1, 3) := by decide +kernel
theorem dX8_skipQuietTicks_112 : decode cX8_skipQuietTicks 112 = .ok (.goto (-43), 3) := by decide +kernel
theorem dX8_skipQuietTicks_115 : decode cX8_skipQuietTicks 115 = .ok (.iload_n 2, 1) := by decide +kernel
theorem dX8_skipQuietTicks_116 : decode cX8_skipQuietTicks 116 = .ok (.ireturn, 1) := by decide +kernel
def f8_skipQuietTicks_b109 (c69 : Nat → Int32 → Int32 → GS_ → Option (Int32 × GS_)) (v0 : Nat) (v2 : Int32) (v3 : Int32) (g : GS_) : Option (Int32 × GS_) :=
  c69 v0 v2 (v3 + (1 : Int32)) g
theorem t8_skipQuietTicks_b109 (c69 : Nat → Int32 → Int32 → GS_ → Option (Int32 × GS_)) (h69 : ∀ (v0 : Nat) (v2 : Int32) (v3 : Int32) (g : GS_), K_ RX8 cX8_skipQuietTicks 5 (some .int) 1 22 false EI_ 69 [some (.inr (8, some v0)), none, some (.inl v2), some (.inl v3), none] [] g (c69 v0 v2 v3 g)) (v0 : Nat) (v2 : Int32) (v3 : Int32) (g : GS_) : K_ RX8 cX8_skipQuietTicks 5 (some .int) 1 22 false EI_ 109 [some (.inr (8, some v0)), none, some (.inl v2), some (.inl v3), none] [] g (f8_skipQuietTicks_b109 c69 v0 v2 v3 g) := by
  unfold f8_skipQuietTicks_b109
  refine k_iinc (v := (v3 + (1 : Int32))) (L' := [some (.inr (8, some v0)), none, some (.inl v2), some (.inl (v3 + (1 : Int32))), none]) dX8_skipQuietTicks_109 rfl rfl (by decide) rfl ?_
  refine k_goto (tgt := 69) dX8_skipQuietTicks_112 (by decide) ?_
  exact h69 v0 v2 (v3 + (1 : Int32)) g
def f8_skipQuietTicks_b69 : Nat → Nat → Int32 → Int32 → GS_ → Option (Int32 × GS_)
  | 0, _, _, _, _ => none
  | n + 1, v0, v2, v3, g =>
    if (gfi g 261 v0) ≤ v3 then some (v2, g) else bd_ (f8_printerAt v0 v3 g) fun x2 g1 => oc_ x2 (f8_skipQuietTicks_b109 (f8_skipQuietTicks_b69 n) v0 v2 v3 g1) fun a3 => if (gfi g1 164 a3) = (1 : Int32) then lr_ (sfi g1 166 a3 ((gfi g1 166 a3) - v2)) fun g4 => f8_skipQuietTicks_b109 (f8_skipQuietTicks_b69 n) v0 v2 v3 g4 else f8_skipQuietTicks_b109 (f8_skipQuietTicks_b69 n) v0 v2 v3 g1
theorem t8_skipQuietTicks_b69 : ∀ (n : Nat) (v0 : Nat) (v2 : Int32) (v3 : Int32) (g : GS_), K_ RX8 cX8_skipQuietTicks 5 (some .int) 1 22 false EI_ 69 [some (.inr (8, some v0)), none, some (.inl v2), some (.inl v3), none] [] g (f8_skipQuietTicks_b69 n v0 v2 v3 g) := by
  intro n
  induction n with
  | zero =>
    intro v0 v2 v3 g
    exact k_fail
  | succ n ih =>
    intro v0 v2 v3 g
    show K_ RX8 cX8_skipQuietTicks 5 (some .int) 1 22 false EI_ 69 [some (.inr (8, some v0)), none, some (.inl v2), some (.inl v3), none] [] g (if (gfi g 261 v0) ≤ v3 then some (v2, g) else bd_ (f8_printerAt v0 v3 g) fun x2 g1 => oc_ x2 (f8_skipQuietTicks_b109 (f8_skipQuietTicks_b69 n) v0 v2 v3 g1) fun a3 => if (gfi g1 164 a3) = (1 : Int32) then lr_ (sfi g1 166 a3 ((gfi g1 166 a3) - v2)) fun g4 => f8_skipQuietTicks_b109 (f8_skipQuietTicks_b69 n) v0 v2 v3 g4 else f8_skipQuietTicks_b109 (f8_skipQuietTicks_b69 n) v0 v2 v3 g1)
    refine k_iloadn (j := 3) dX8_skipQuietTicks_69 rfl rfl ?_
    refine k_aloadn (j := 0) dX8_skipQuietTicks_70 rfl rfl ?_
    refine k_geti fg_8_36 rfl rfl dX8_skipQuietTicks_71 ?_
    refine k_icmpge (tgt := 115) dX8_skipQuietTicks_74 (by decide) (fun _ => ?_) (fun _ => ?_)
    · refine k_iloadn (j := 2) dX8_skipQuietTicks_115 rfl rfl ?_
      exact k_ireturn rfl dX8_skipQuietTicks_116
    refine k_aloadn (j := 0) dX8_skipQuietTicks_77 rfl rfl ?_
    refine k_iloadn (j := 3) dX8_skipQuietTicks_78 rfl rfl ?_
    refine k_callVr [.inl v3] (t8_printerAt v0 v3 g) cw_cX8_printerAt (Or.inl ml_8_120) rfl rfl (by decide) (by decide) (Nat.le_of_ble_eq_true rfl) dX8_skipQuietTicks_79 (fun x2 g1 => ?_)
    refine k_ast (L' := [some (.inr (8, some v0)), none, some (.inl v2), some (.inl v3), some (.inr (5, x2))]) dX8_skipQuietTicks_82 (by decide) rfl ?_
    refine k_aload dX8_skipQuietTicks_84 rfl ?_
    rcases x2 with _ | a3
    · refine k_ifnulln (tgt := 109) dX8_skipQuietTicks_86 (by decide) ?_
      refine k_msk (L' := [some (.inr (8, some v0)), none, some (.inl v2), some (.inl v3), none]) [true, true, true, true, false] rfl ?_
      exact t8_skipQuietTicks_b109 (f8_skipQuietTicks_b69 n) ih v0 v2 v3 g1
    refine k_ifnulls dX8_skipQuietTicks_86 ?_
    refine k_aload dX8_skipQuietTicks_89 rfl ?_
    refine k_geti fg_8_124 rfl rfl dX8_skipQuietTicks_91 ?_
    refine k_iconst (v := (1 : Int32)) dX8_skipQuietTicks_94 rfl ?_
    refine k_icmpne (tgt := 109) dX8_skipQuietTicks_95 (by decide) (fun _ => ?_) (fun _ => ?_)
    · refine k_aload dX8_skipQuietTicks_98 rfl ?_
      refine k_dup dX8_skipQuietTicks_100 ?_
      refine k_geti fg_8_125 rfl rfl dX8_skipQuietTicks_101 ?_
      refine k_iloadn (j := 2) dX8_skipQuietTicks_104 rfl rfl ?_
      refine k_isub dX8_skipQuietTicks_105 ?_
      refine k_puti fp_8_125 rfl rfl dX8_skipQuietTicks_106 (fun g4 => ?_)
      refine k_msk (L' := [some (.inr (8, some v0)), none, some (.inl v2), some (.inl v3), none]) [true, true, true, true, false] rfl ?_
      exact t8_skipQuietTicks_b109 (f8_skipQuietTicks_b69 n) ih v0 v2 v3 g4
    refine k_msk (L' := [some (.inr (8, some v0)), none, some (.inl v2), some (.inl v3), none]) [true, true, true, true, false] rfl ?_
    exact t8_skipQuietTicks_b109 (f8_skipQuietTicks_b69 n) ih v0 v2 v3 g1
def f8_skipQuietTicks_b45 (c4 : Nat → Int32 → Int32 → GS_ → Option (Int32 × GS_)) (v0 : Nat) (v2 : Int32) (v3 : Int32) (g : GS_) : Option (Int32 × GS_) :=
  c4 v0 v2 (v3 + (1 : Int32)) g
theorem t8_skipQuietTicks_b45 (c4 : Nat → Int32 → Int32 → GS_ → Option (Int32 × GS_)) (h4 : ∀ (v0 : Nat) (v2 : Int32) (v3 : Int32) (g : GS_), K_ RX8 cX8_skipQuietTicks 5 (some .int) 1 22 false EI_ 4 [some (.inr (8, some v0)), none, some (.inl v2), some (.inl v3), none] [] g (c4 v0 v2 v3 g)) (v0 : Nat) (v2 : Int32) (v3 : Int32) (g : GS_) : K_ RX8 cX8_skipQuietTicks 5 (some .int) 1 22 false EI_ 45 [some (.inr (8, some v0)), none, some (.inl v2), some (.inl v3), none] [] g (f8_skipQuietTicks_b45 c4 v0 v2 v3 g) := by
  unfold f8_skipQuietTicks_b45
  refine k_iinc (v := (v3 + (1 : Int32))) (L' := [some (.inr (8, some v0)), none, some (.inl v2), some (.inl (v3 + (1 : Int32))), none]) dX8_skipQuietTicks_45 rfl rfl (by decide) rfl ?_
  refine k_goto (tgt := 4) dX8_skipQuietTicks_48 (by decide) ?_
  exact h4 v0 v2 (v3 + (1 : Int32)) g
def f8_skipQuietTicks_b4 : Nat → Nat → Int32 → Int32 → GS_ → Option (Int32 × GS_)
  | 0, _, _, _, _ => none
  | n + 1, v0, v2, v3, g =>
    if (gfi g 261 v0) ≤ v3 then if 0 < v2 then lr_ (sfi g 271 v0 ((gfi g 271 v0) + v2)) fun g5 => f8_skipQuietTicks_b69 FU_ v0 v2 (0 : Int32) g5 else some ((0 : Int32), g) else bd_ (f8_printerAt v0 v3 g) fun x7 g6 => oc_ x7 (f8_skipQuietTicks_b45 (f8_skipQuietTicks_b4 n) v0 v2 v3 g6) fun a8 => if (gfi g6 164 a8) = (1 : Int32) then lr_ (jmin v2 ((gfi g6 166 a8) - (1 : Int32))) fun z9 => f8_skipQuietTicks_b45 (f8_skipQuietTicks_b4 n) v0 z9 v3 g6 else f8_skipQuietTicks_b45 (f8_skipQuietTicks_b4 n) v0 v2 v3 g6
theorem t8_skipQuietTicks_b4 : ∀ (n : Nat) (v0 : Nat) (v2 : Int32) (v3 : Int32) (g : GS_), K_ RX8 cX8_skipQuietTicks 5 (some .int) 1 22 false EI_ 4 [some (.inr (8, some v0)), none, some (.inl v2), some (.inl v3), none] [] g (f8_skipQuietTicks_b4 n v0 v2 v3 g) := by
  intro n
  induction n with
  | zero =>
    intro v0 v2 v3 g
    exact k_fail
  | succ n ih =>
    intro v0 v2 v3 g
    show K_ RX8 cX8_skipQuietTicks 5 (some .int) 1 22 false EI_ 4 [some (.inr (8, some v0)), none, some (.inl v2), some (.inl v3), none] [] g (if (gfi g 261 v0) ≤ v3 then if 0 < v2 then lr_ (sfi g 271 v0 ((gfi g 271 v0) + v2)) fun g5 => f8_skipQuietTicks_b69 FU_ v0 v2 (0 : Int32) g5 else some ((0 : Int32), g) else bd_ (f8_printerAt v0 v3 g) fun x7 g6 => oc_ x7 (f8_skipQuietTicks_b45 (f8_skipQuietTicks_b4 n) v0 v2 v3 g6) fun a8 => if (gfi g6 164 a8) = (1 : Int32) then lr_ (jmin v2 ((gfi g6 166 a8) - (1 : Int32))) fun z9 => f8_skipQuietTicks_b45 (f8_skipQuietTicks_b4 n) v0 z9 v3 g6 else f8_skipQuietTicks_b45 (f8_skipQuietTicks_b4 n) v0 v2 v3 g6)
    refine k_iloadn (j := 3) dX8_skipQuietTicks_4 rfl rfl ?_
    refine k_aloadn (j := 0) dX8_skipQuietTicks_5 rfl rfl ?_
    refine k_geti fg_8_36 rfl rfl dX8_skipQuietTicks_6 ?_
    refine k_icmpge (tgt := 51) dX8_skipQuietTicks_9 (by decide) (fun _ => ?_) (fun _ => ?_)
    · refine k_iloadn (j := 2) dX8_skipQuietTicks_51 rfl rfl ?_
      refine k_ifgt (tgt := 57) dX8_skipQuietTicks_52 (by decide) (fun _ => ?_) (fun _ => ?_)
      · refine k_aloadn (j := 0) dX8_skipQuietTicks_57 rfl rfl ?_
        refine k_dup dX8_skipQuietTicks_58 ?_
        refine k_geti fg_8_75 rfl rfl dX8_skipQuietTicks_59 ?_
        refine k_iloadn (j := 2) dX8_skipQuietTicks_62 rfl rfl ?_
        refine k_iadd dX8_skipQuietTicks_63 ?_
        refine k_puti fp_8_75 rfl rfl dX8_skipQuietTicks_64 (fun g5 => ?_)
        refine k_iconst (v := (0 : Int32)) dX8_skipQuietTicks_67 rfl ?_
        refine k_istn (j := 3) (L' := [some (.inr (8, some v0)), none, some (.inl v2), some (.inl (0 : Int32)), none]) dX8_skipQuietTicks_68 rfl (by decide) rfl ?_
        exact t8_skipQuietTicks_b69 FU_ v0 v2 (0 : Int32) g5
      refine k_iconst (v := (0 : Int32)) dX8_skipQuietTicks_55 rfl ?_
      exact k_ireturn rfl dX8_skipQuietTicks_56
    refine k_aloadn (j := 0) dX8_skipQuietTicks_12 rfl rfl ?_
    refine k_iloadn (j := 3) dX8_skipQuietTicks_13 rfl rfl ?_
    refine k_callVr [.inl v3] (t8_printerAt v0 v3 g) cw_cX8_printerAt (Or.inl ml_8_120) rfl rfl (by decide) (by decide) (Nat.le_of_ble_eq_true rfl) dX8_skipQuietTicks_14 (fun x7 g6 => ?_)
    refine k_ast (L' := [some (.inr (8, some v0)), none, some (.inl v2), some (.inl v3), some (.inr (5, x7))]) dX8_skipQuietTicks_17 (by decide) rfl ?_
    refine k_aload dX8_skipQuietTicks_19 rfl ?_
    rcases x7 with _ | a8
    · refine k_ifnulln (tgt := 45) dX8_skipQuietTicks_21 (by decide) ?_
      refine k_msk (L' := [some (.inr (8, some v0)), none, some (.inl v2), some (.inl v3), none]) [true, true, true, true, false] rfl ?_
      exact t8_skipQuietTicks_b45 (f8_skipQuietTicks_b4 n) ih v0 v2 v3 g6
    refine k_ifnulls dX8_skipQuietTicks_21 ?_
    refine k_aload dX8_skipQuietTicks_24 rfl ?_
    refine k_geti fg_8_124 rfl rfl dX8_skipQuietTicks_26 ?_
    refine k_iconst (v := (1 : Int32)) dX8_skipQuietTicks_29 rfl ?_
    refine k_icmpne (tgt := 45) dX8_skipQuietTicks_30 (by decide) (fun _ => ?_) (fun _ => ?_)
    · refine k_iloadn (j := 2) dX8_skipQuietTicks_33 rfl rfl ?_
      refine k_aload dX8_skipQuietTicks_34 rfl ?_
      refine k_geti fg_8_125 rfl rfl dX8_skipQuietTicks_36 ?_
      refine k_iconst (v := (1 : Int32)) dX8_skipQuietTicks_39 rfl ?_
      refine k_isub dX8_skipQuietTicks_40 ?_
      refine k_min mw_min ml_8_140 (by decide) (Nat.le_of_ble_eq_true rfl) dX8_skipQuietTicks_41 ?_
      refine k_istnl (j := 2) (L2 := fun z9 => [some (.inr (8, some v0)), none, some (.inl z9), some (.inl v3), some (.inr (5, some a8))]) dX8_skipQuietTicks_44 rfl (by decide) (fun _ => rfl) (fun z9 => ?_)
      refine k_msk (L' := [some (.inr (8, some v0)), none, some (.inl z9), some (.inl v3), none]) [true, true, true, true, false] rfl ?_
      exact t8_skipQuietTicks_b45 (f8_skipQuietTicks_b4 n) ih v0 z9 v3 g6
    refine k_msk (L' := [some (.inr (8, some v0)), none, some (.inl v2), some (.inl v3), none]) [true, true, true, true, false] rfl ?_
    exact t8_skipQuietTicks_b45 (f8_skipQuietTicks_b4 n) ih v0 v2 v3 g6
def f8_skipQuietTicks (v0 : Nat) (v1 : Int32) (g : GS_) : Option (Int32 × GS_) :=
  f8_skipQuietTicks_b4 FU_ v0 v1 (0 : Int32) g
theorem t8_skipQuietTicks (v0 : Nat) (v1 : Int32) (g : GS_) : Cn_ yX8_skipQuietTicks cX8_skipQuietTicks 5 (some .int) 1 22 EI_ [.inr (8, some v0), .inl v1] g (f8_skipQuietTicks v0 v1 g) := by
  refine k_method (own := RX8) (ini := false) (L1 := [some (.inr (8, some v0)), some (.inl v1), none, none, none]) (by decide +kernel) rfl (fun h => by cases h) (Nat.le_of_ble_eq_true rfl) rfl ?_
  unfold f8_skipQuietTicks
  refine k_iloadn (j := 1) dX8_skipQuietTicks_0 rfl rfl ?_
  refine k_istn (j := 2) (L' := [some (.inr (8, some v0)), some (.inl v1), some (.inl v1), none, none]) dX8_skipQuietTicks_1 rfl (by decide) rfl ?_
  refine k_iconst (v := (0 : Int32)) dX8_skipQuietTicks_2 rfl ?_
  refine k_istn (j := 3) (L' := [some (.inr (8, some v0)), some (.inl v1), some (.inl v1), some (.inl (0 : Int32)), none]) dX8_skipQuietTicks_3 rfl (by decide) rfl ?_
  refine k_msk (L' := [some (.inr (8, some v0)), none, some (.inl v1), some (.inl (0 : Int32)), none]) [true, false, true, true, true] rfl ?_
  exact t8_skipQuietTicks_b4 FU_ v0 v1 (0 : Int32) g
theorem dX8_pass_0 : decode cX8_pass 0 = .ok (.iload_n 1, 1) := by decide +kernel
theorem dX8_pass_1 : decode cX8_pass 1 = .ok (.istore_n 2, 1) := by decide +kernel
theorem dX8_pass_2 : decode cX8_pass 2 = .ok (.iload_n 2, 1) := by decide +kernel
theorem dX8_pass_3 : decode cX8_pass 3 = .ok (.ifCond .le 21, 3) := by decide +kernel
theorem dX8_pass_6 : decode cX8_pass 6 = .ok (.aload_n 0, 1) := by decide +kernel
theorem dX8_pass_7 : decode cX8_pass 7 = .ok (.invokevirtual 114, 3) := by decide +kernel
theorem dX8_pass_10 : decode cX8_pass 10 = .ok (.iinc 2 (-1), 3) := by decide +kernel
theorem dX8_pass_13 : decode cX8_pass 13 = .ok (.iload_n 2, 1) := by decide +kernel
theorem dX8_pass_14 : decode cX8_pass 14 = .ok (.aload_n 0, 1) := by decide +kernel
theorem dX8_pass_15 : decode cX8_pass 15 = .ok (.iload_n 2, 1) := by decide +kernel
theorem dX8_pass_16 : decode cX8_pass 16 = .ok (.invokevirtual 117, 3) := by decide +kernel
theorem dX8_pass_19 : decode cX8_pass 19 = .ok (.isub, 1) := by decide +kernel
theorem dX8_pass_20 : decode cX8_pass 20 = .ok (.istore_n 2, 1) := by decide +kernel
theorem dX8_pass_21 : decode cX8_pass 21 = .ok (.goto (-19), 3) := by decide +kernel
theorem dX8_pass_24 : decode cX8_pass 24 = .ok (.return_, 1) := by decide +kernel
def f8_pass_b2 : Nat → Nat → Int32 → GS_ → Option (Unit × GS_)
  | 0, _, _, _ => none
  | n + 1, v0, v2, g =>
    if v2 ≤ 0 then some ((), g) else bd_ (f8_passTick v0 g) fun _ g1 => bd_ (f8_skipQuietTicks v0 (v2 + (-1 : Int32)) g1) fun z3 g2 => lr_ ((v2 + (-1 : Int32)) - z3) fun z4 => (f8_pass_b2 n) v0 z4 g2
theorem t8_pass_b2 : ∀ (n : Nat) (v0 : Nat) (v2 : Int32) (g : GS_), K_ RX8 cX8_pass 3 none 6 137 false EV_ 2 [some (.inr (8, some v0)), none, some (.inl v2)] [] g (f8_pass_b2 n v0 v2 g) := by
  intro n
  induction n with
  | zero =>
    intro v0 v2 g
    exact k_fail
  | succ n ih =>
    intro v0 v2 g
    show K_ RX8 cX8_pass 3 none 6 137 false EV_ 2 [some (.inr (8, some v0)), none, some (.inl v2)] [] g (if v2 ≤ 0 then some ((), g) else bd_ (f8_passTick v0 g) fun _ g1 => bd_ (f8_skipQuietTicks v0 (v2 + (-1 : Int32)) g1) fun z3 g2 => lr_ ((v2 + (-1 : Int32)) - z3) fun z4 => (f8_pass_b2 n) v0 z4 g2)
    refine k_iloadn (j := 2) dX8_pass_2 rfl rfl ?_
    refine k_ifle (tgt := 24) dX8_pass_3 (by decide) (fun _ => ?_) (fun _ => ?_)
    · exact k_return rfl dX8_pass_24
    refine k_aloadn (j := 0) dX8_pass_6 rfl rfl ?_
    refine k_callVv [] (t8_passTick v0 g) cw_cX8_passTick (Or.inl ml_8_114) rfl rfl (by decide) (by decide) (Nat.le_of_ble_eq_true rfl) dX8_pass_7 (fun _ g1 => ?_)
    refine k_iinc (v := (v2 + (-1 : Int32))) (L' := [some (.inr (8, some v0)), none, some (.inl (v2 + (-1 : Int32)))]) dX8_pass_10 rfl rfl (by decide) rfl ?_
    refine k_iloadn (j := 2) dX8_pass_13 rfl rfl ?_
    refine k_aloadn (j := 0) dX8_pass_14 rfl rfl ?_
    refine k_iloadn (j := 2) dX8_pass_15 rfl rfl ?_
    refine k_callVi [.inl (v2 + (-1 : Int32))] (t8_skipQuietTicks v0 (v2 + (-1 : Int32)) g1) cw_cX8_skipQuietTicks (Or.inl ml_8_117) rfl rfl (by decide) (by decide) (Nat.le_of_ble_eq_true rfl) dX8_pass_16 (fun z3 g2 => ?_)
    refine k_isub dX8_pass_19 ?_
    refine k_istnl (j := 2) (L2 := fun z4 => [some (.inr (8, some v0)), none, some (.inl z4)]) dX8_pass_20 rfl (by decide) (fun _ => rfl) (fun z4 => ?_)
    refine k_goto (tgt := 2) dX8_pass_21 (by decide) ?_
    exact ih v0 z4 g2
def f8_pass (v0 : Nat) (v1 : Int32) (g : GS_) : Option (Unit × GS_) :=
  f8_pass_b2 FU_ v0 v1 g
theorem t8_pass (v0 : Nat) (v1 : Int32) (g : GS_) : Cn_ yX8_pass cX8_pass 3 none 6 137 EV_ [.inr (8, some v0), .inl v1] g (f8_pass v0 v1 g) := by
  refine k_method (own := RX8) (ini := false) (L1 := [some (.inr (8, some v0)), some (.inl v1), none]) (by decide +kernel) rfl (fun h => by cases h) (Nat.le_of_ble_eq_true rfl) rfl ?_
  unfold f8_pass
  refine k_iloadn (j := 1) dX8_pass_0 rfl rfl ?_
  refine k_istn (j := 2) (L' := [some (.inr (8, some v0)), some (.inl v1), some (.inl v1)]) dX8_pass_1 rfl (by decide) rfl ?_
  refine k_msk (L' := [some (.inr (8, some v0)), none, some (.inl v1)]) [true, false, true] rfl ?_
  exact t8_pass_b2 FU_ v0 v1 g
theorem dX8_ticksUntilDone_0 : decode cX8_ticksUntilDone 0 = .ok (.aload_n 0, 1) := by decide +kernel
theorem dX8_ticksUntilDone_1 : decode cX8_ticksUntilDone 1 = .ok (.iload_n 1, 1) := by decide +kernel
theorem dX8_ticksUntilDone_2 : decode cX8_ticksUntilDone 2 = .ok (.invokevirtual 97, 3) := by decide +kernel
theorem dX8_ticksUntilDone_5 : decode cX8_ticksUntilDone 5 = .ok (.astore_n 3, 1) := by decide +kernel
theorem dX8_ticksUntilDone_6 : decode cX8_ticksUntilDone 6 = .ok (.aload_n 3, 1) := by decide +kernel
theorem dX8_ticksUntilDone_7 : decode cX8_ticksUntilDone 7 = .ok (.ifnonnull 6, 3) := by decide +kernel
theorem dX8_ticksUntilDone_10 : decode cX8_ticksUntilDone 10 = .ok (.bipush (-6), 2) := by decide +kernel
theorem dX8_ticksUntilDone_12 : decode cX8_ticksUntilDone 12 = .ok (.ireturn, 1) := by decide +kernel
theorem dX8_ticksUntilDone_13 : decode cX8_ticksUntilDone 13 = .ok (.aload_n 3, 1) := by decide +kernel
theorem dX8_ticksUntilDone_14 : decode cX8_ticksUntilDone 14 = .ok (.getfield 101, 3) := by decide +kernel
theorem dX8_ticksUntilDone_17 : decode cX8_ticksUntilDone 17 = .ok (.iconst 3, 1) := by decide +kernel
theorem dX8_ticksUntilDone_18 : decode cX8_ticksUntilDone 18 = .ok (.if_icmp .ne 5, 3) := by decide +kernel
theorem dX8_ticksUntilDone_21 : decode cX8_ticksUntilDone 21 = .ok (.iconst 0, 1) := by decide +kernel
theorem dX8_ticksUntilDone_22 : decode cX8_ticksUntilDone 22 = .ok (.ireturn, 1) := by decide +kernel
theorem dX8_ticksUntilDone_23 : decode cX8_ticksUntilDone 23 = .ok (.iconst 0, 1) := by decide +kernel
theorem dX8_ticksUntilDone_24 : decode cX8_ticksUntilDone 24 = .ok (.istore 4, 2) := by decide +kernel
theorem dX8_ticksUntilDone_26 : decode cX8_ticksUntilDone 26 = .ok (.iload 4, 2) := by decide +kernel
theorem dX8_ticksUntilDone_28 : decode cX8_ticksUntilDone 28 = .ok (.iload_n 2, 1) := by decide +kernel
theorem dX8_ticksUntilDone_29 : decode cX8_ticksUntilDone 29 = .ok (.if_icmp .ge 37, 3) := by decide +kernel
theorem dX8_ticksUntilDone_32 : decode cX8_ticksUntilDone 32 = .ok (.aload_n 0, 1) := by decide +kernel
theorem dX8_ticksUntilDone_33 : decode cX8_ticksUntilDone 33 = .ok (.invokevirtual 114, 3) := by decide +kernel
theorem dX8_ticksUntilDone_36 : decode cX8_ticksUntilDone 36 = .ok (.iinc 4 1, 3) := by decide +kernel
theorem dX8_ticksUntilDone_39 : decode cX8_ticksUntilDone 39 = .ok (.aload_n 3, 1) := by decide +kernel
theorem dX8_ticksUntilDone_40 : decode cX8_ticksUntilDone 40 = .ok (.getfield 101, 3) := by decide +kernel
theorem dX8_ticksUntilDone_43 : decode cX8_ticksUntilDone 43 = .ok (.iconst 3, 1) := by decide +kernel
theorem dX8_ticksUntilDone_44 : decode cX8_ticksUntilDone 44 = .ok (.if_icmp .ne 6, 3) := by decide +kernel
theorem dX8_ticksUntilDone_47 : decode cX8_ticksUntilDone 47 = .ok (.iload 4, 2) := by decide +kernel
theorem dX8_ticksUntilDone_49 : decode cX8_ticksUntilDone 49 = .ok (.ireturn, 1) := by decide +kernel
theorem dX8_ticksUntilDone_50 : decode cX8_ticksUntilDone 50 = .ok (.iload 4, 2) := by decide +kernel
theorem dX8_ticksUntilDone_52 : decode cX8_ticksUntilDone 52 = .ok (.aload_n 0, 1) := by decide +kernel
theorem dX8_ticksUntilDone_53 : decode cX8_ticksUntilDone 53 = .ok (.iload_n 2, 1) := by decide +kernel
theorem dX8_ticksUntilDone_54 : decode cX8_ticksUntilDone 54 = .ok (.iload 4, 2) := by decide +kernel
theorem dX8_ticksUntilDone_56 : decode cX8_ticksUntilDone 56 = .ok (.isub, 1) := by decide +kernel
theorem dX8_ticksUntilDone_57 : decode cX8_ticksUntilDone 57 = .ok (.invokevirtual 117, 3) := by decide +kernel
theorem dX8_ticksUntilDone_60 : decode cX8_ticksUntilDone 60 = .ok (.iadd, 1) := by decide +kernel
theorem dX8_ticksUntilDone_61 : decode cX8_ticksUntilDone 61 = .ok (.istore 4, 2) := by decide +kernel
theorem dX8_ticksUntilDone_63 : decode cX8_ticksUntilDone 63 = .ok (.goto (-37), 3) := by decide +kernel
theorem dX8_ticksUntilDone_66 : decode cX8_ticksUntilDone 66 = .ok (.bipush (-6), 2) := by decide +kernel
theorem dX8_ticksUntilDone_68 : decode cX8_ticksUntilDone 68 = .ok (.ireturn, 1) := by decide +kernel
def f8_ticksUntilDone_b26 : Nat → Nat → Int32 → (Option Nat) → Int32 → GS_ → Option (Int32 × GS_)
  | 0, _, _, _, _, _ => none
  | n + 1, v0, v2, v3, v4, g =>
    if v2 ≤ v4 then some ((-6 : Int32), g) else bd_ (f8_passTick v0 g) fun _ g1 => oc_ v3 none fun a2 => if (gfi g1 35 a2) = (3 : Int32) then some ((v4 + (1 : Int32)), g1) else bd_ (f8_skipQuietTicks v0 (v2 - (v4 + (1 : Int32))) g1) fun z4 g3 => lr_ ((v4 + (1 : Int32)) + z4) fun z5 => (f8_ticksUntilDone_b26 n) v0 v2 (some a2) z5 g3
theorem t8_ticksUntilDone_b26 : ∀ (n : Nat) (v0 : Nat) (v2 : Int32) (v3 : Option Nat) (v4 : Int32) (g : GS_), K_ RX8 cX8_ticksUntilDone 5 (some .int) 6 137 false EI_ 26 [some (.inr (8, some v0)), none, some (.inl v2), some (.inr (1, v3)), some (.inl v4)] [] g (f8_ticksUntilDone_b26 n v0 v2 v3 v4 g) := by
  intro n
  induction n with
  | zero =>
    intro v0 v2 v3 v4 g
    exact k_fail
  | succ n ih =>
    intro v0 v2 v3 v4 g
    show K_ RX8 cX8_ticksUntilDone 5 (some .int) 6 137 false EI_ 26 [some (.inr (8, some v0)), none, some (.inl v2), some (.inr (1, v3)), some (.inl v4)] [] g (if v2 ≤ v4 then some ((-6 : Int32), g) else bd_ (f8_passTick v0 g) fun _ g1 => oc_ v3 none fun a2 => if (gfi g1 35 a2) = (3 : Int32) then some ((v4 + (1 : Int32)), g1) else bd_ (f8_skipQuietTicks v0 (v2 - (v4 + (1 : Int32))) g1) fun z4 g3 => lr_ ((v4 + (1 : Int32)) + z4) fun z5 => (f8_ticksUntilDone_b26 n) v0 v2 (some a2) z5 g3)
    refine k_iload dX8_ticksUntilDone_26 rfl ?_
    refine k_iloadn (j := 2) dX8_ticksUntilDone_28 rfl rfl ?_
    refine k_icmpge (tgt := 66) dX8_ticksUntilDone_29 (by decide) (fun _ => ?_) (fun _ => ?_)
    · refine k_bipush (v := (-6 : Int32)) dX8_ticksUntilDone_66 rfl ?_
      exact k_ireturn rfl dX8_ticksUntilDone_68
    refine k_aloadn (j := 0) dX8_ticksUntilDone_32 rfl rfl ?_
    refine k_callVv [] (t8_passTick v0 g) cw_cX8_passTick (Or.inl ml_8_114) rfl rfl (by decide) (by decide) (Nat.le_of_ble_eq_true rfl) dX8_ticksUntilDone_33 (fun _ g1 => ?_)
    refine k_iinc (v := (v4 + (1 : Int32))) (L' := [some (.inr (8, some v0)), none, some (.inl v2), some (.inr (1, v3)), some (.inl (v4 + (1 : Int32)))]) dX8_ticksUntilDone_36 rfl rfl (by decide) rfl ?_
    refine k_aloadn (j := 3) dX8_ticksUntilDone_39 rfl rfl ?_
    rcases v3 with _ | a2
    · exact k_ocn
    refine k_ocs ?_
    refine k_geti fg_8_101 rfl rfl dX8_ticksUntilDone_40 ?_
    refine k_iconst (v := (3 : Int32)) dX8_ticksUntilDone_43 rfl ?_
    refine k_icmpne (tgt := 50) dX8_ticksUntilDone_44 (by decide) (fun _ => ?_) (fun _ => ?_)
    · refine k_iload dX8_ticksUntilDone_47 rfl ?_
      exact k_ireturn rfl dX8_ticksUntilDone_49
    refine k_iload dX8_ticksUntilDone_50 rfl ?_
    refine k_aloadn (j := 0) dX8_ticksUntilDone_52 rfl rfl ?_
    refine k_iloadn (j := 2) dX8_ticksUntilDone_53 rfl rfl ?_
    refine k_iload dX8_ticksUntilDone_54 rfl ?_
    refine k_isub dX8_ticksUntilDone_56 ?_
    refine k_callVi [.inl (v2 - (v4 + (1 : Int32)))] (t8_skipQuietTicks v0 (v2 - (v4 + (1 : Int32))) g1) cw_cX8_skipQuietTicks (Or.inl ml_8_117) rfl rfl (by decide) (by decide) (Nat.le_of_ble_eq_true rfl) dX8_ticksUntilDone_57 (fun z4 g3 => ?_)
    refine k_iadd dX8_ticksUntilDone_60 ?_
    refine k_istl (L2 := fun z5 => [some (.inr (8, some v0)), none, some (.inl v2), some (.inr (1, some a2)), some (.inl z5)]) dX8_ticksUntilDone_61 (by decide) (fun _ => rfl) (fun z5 => ?_)
    refine k_goto (tgt := 26) dX8_ticksUntilDone_63 (by decide) ?_
    exact ih v0 v2 (some a2) z5 g3
def f8_ticksUntilDone (v0 : Nat) (v1 : Int32) (v2 : Int32) (g : GS_) : Option (Int32 × GS_) :=
  bd_ (f8_jobAt v0 v1 g) fun x7 g6 => oc_ x7 (some ((-6 : Int32), g6)) fun a8 => if (gfi g6 35 a8) = (3 : Int32) then some ((0 : Int32), g6) else f8_ticksUntilDone_b26 FU_ v0 v2 (some a8) (0 : Int32) g6
theorem t8_ticksUntilDone (v0 : Nat) (v1 : Int32) (v2 : Int32) (g : GS_) : Cn_ yX8_ticksUntilDone cX8_ticksUntilDone 5 (some .int) 6 137 EI_ [.inr (8, some v0), .inl v1, .inl v2] g (f8_ticksUntilDone v0 v1 v2 g) := by
  refine k_method (own := RX8) (ini := false) (L1 := [some (.inr (8, some v0)), some (.inl v1), some (.inl v2), none, none]) (by decide +kernel) rfl (fun h => by cases h) (Nat.le_of_ble_eq_true rfl) rfl ?_
  unfold f8_ticksUntilDone
  refine k_aloadn (j := 0) dX8_ticksUntilDone_0 rfl rfl ?_
  refine k_iloadn (j := 1) dX8_ticksUntilDone_1 rfl rfl ?_
  refine k_callVr [.inl v1] (t8_jobAt v0 v1 g) cw_cX8_jobAt (Or.inl ml_8_97) rfl rfl (by decide) (by decide) (Nat.le_of_ble_eq_true rfl) dX8_ticksUntilDone_2 (fun x7 g6 => ?_)
  refine k_astn (j := 3) (L' := [some (.inr (8, some v0)), some (.inl v1), some (.inl v2), some (.inr (1, x7)), none]) dX8_ticksUntilDone_5 rfl (by decide) rfl ?_
  refine k_aloadn (j := 3) dX8_ticksUntilDone_6 rfl rfl ?_
  rcases x7 with _ | a8
  · refine k_ifnonnulln dX8_ticksUntilDone_7 ?_
    refine k_bipush (v := (-6 : Int32)) dX8_ticksUntilDone_10 rfl ?_
    exact k_ireturn rfl dX8_ticksUntilDone_12
  refine k_ifnonnulls (tgt := 13) dX8_ticksUntilDone_7 (by decide) ?_
  refine k_aloadn (j := 3) dX8_ticksUntilDone_13 rfl rfl ?_
  refine k_geti fg_8_101 rfl rfl dX8_ticksUntilDone_14 ?_
  refine k_iconst (v := (3 : Int32)) dX8_ticksUntilDone_17 rfl ?_
  refine k_icmpne (tgt := 23) dX8_ticksUntilDone_18 (by decide) (fun _ => ?_) (fun _ => ?_)
  · refine k_iconst (v := (0 : Int32)) dX8_ticksUntilDone_21 rfl ?_
    exact k_ireturn rfl dX8_ticksUntilDone_22
  refine k_iconst (v := (0 : Int32)) dX8_ticksUntilDone_23 rfl ?_
  refine k_ist (L' := [some (.inr (8, some v0)), some (.inl v1), some (.inl v2), some (.inr (1, some a8)), some (.inl (0 : Int32))]) dX8_ticksUntilDone_24 (by decide) rfl ?_
  refine k_msk (L' := [some (.inr (8, some v0)), none, some (.inl v2), some (.inr (1, some a8)), some (.inl (0 : Int32))]) [true, false, true, true, true] rfl ?_
  exact t8_ticksUntilDone_b26 FU_ v0 v2 (some a8) (0 : Int32) g6
theorem dX8_jobFinishedAs_0 : decode cX8_jobFinishedAs 0 = .ok (.iload_n 1, 1) := by decide +kernel
theorem dX8_jobFinishedAs_1 : decode cX8_jobFinishedAs 1 = .ok (.ifCond .lt 12, 3) := by decide +kernel
theorem dX8_jobFinishedAs_4 : decode cX8_jobFinishedAs 4 = .ok (.iload_n 1, 1) := by decide +kernel
theorem dX8_jobFinishedAs_5 : decode cX8_jobFinishedAs 5 = .ok (.aload_n 0, 1) := by decide +kernel
theorem dX8_jobFinishedAs_6 : decode cX8_jobFinishedAs 6 = .ok (.getfield 63, 3) := by decide +kernel
theorem dX8_jobFinishedAs_9 : decode cX8_jobFinishedAs 9 = .ok (.arraylength, 1) := by decide +kernel
theorem dX8_jobFinishedAs_10 : decode cX8_jobFinishedAs 10 = .ok (.if_icmp .lt 6, 3) := by decide +kernel
theorem dX8_jobFinishedAs_13 : decode cX8_jobFinishedAs 13 = .ok (.bipush (-6), 2) := by decide +kernel
theorem dX8_jobFinishedAs_15 : decode cX8_jobFinishedAs 15 = .ok (.ireturn, 1) := by decide +kernel
theorem dX8_jobFinishedAs_16 : decode cX8_jobFinishedAs 16 = .ok (.iconst 0, 1) := by decide +kernel
theorem dX8_jobFinishedAs_17 : decode cX8_jobFinishedAs 17 = .ok (.istore_n 3, 1) := by decide +kernel
theorem dX8_jobFinishedAs_18 : decode cX8_jobFinishedAs 18 = .ok (.iload_n 3, 1) := by decide +kernel
theorem dX8_jobFinishedAs_19 : decode cX8_jobFinishedAs 19 = .ok (.iload_n 2, 1) := by decide +kernel
theorem dX8_jobFinishedAs_20 : decode cX8_jobFinishedAs 20 = .ok (.if_icmp .ge 31, 3) := by decide +kernel
theorem dX8_jobFinishedAs_23 : decode cX8_jobFinishedAs 23 = .ok (.aload_n 0, 1) := by decide +kernel
theorem dX8_jobFinishedAs_24 : decode cX8_jobFinishedAs 24 = .ok (.getfield 66, 3) := by decide +kernel
theorem dX8_jobFinishedAs_27 : decode cX8_jobFinishedAs 27 = .ok (.iload_n 1, 1) := by decide +kernel
theorem dX8_jobFinishedAs_28 : decode cX8_jobFinishedAs 28 = .ok (.if_icmp .gt 23, 3) := by decide +kernel
theorem dX8_jobFinishedAs_31 : decode cX8_jobFinishedAs 31 = .ok (.aload_n 0, 1) := by decide +kernel
theorem dX8_jobFinishedAs_32 : decode cX8_jobFinishedAs 32 = .ok (.invokevirtual 114, 3) := by decide +kernel
theorem dX8_jobFinishedAs_35 : decode cX8_jobFinishedAs 35 = .ok (.iinc 3 1, 3) := by decide +kernel
theorem dX8_jobFinishedAs_38 : decode cX8_jobFinishedAs 38 = .ok (.iload_n 3, 1) := by decide +kernel
theorem dX8_jobFinishedAs_39 : decode cX8_jobFinishedAs 39 = .ok (.aload_n 0, 1) := by decide +kernel
theorem dX8_jobFinishedAs_40 : decode cX8_jobFinishedAs 40 = .ok (.iload_n 2, 1) := by decide +kernel
theorem dX8_jobFinishedAs_41 : decode cX8_jobFinishedAs 41 = .ok (.iload_n 3, 1) := by decide +kernel
theorem dX8_jobFinishedAs_42 : decode cX8_jobFinishedAs 42 = .ok (.isub, 1) := by decide +kernel
theorem dX8_jobFinishedAs_43 : decode cX8_jobFinishedAs 43 = .ok (.invokevirtual 117, 3) := by decide +kernel
theorem dX8_jobFinishedAs_46 : decode cX8_jobFinishedAs 46 = .ok (.iadd, 1) := by decide +kernel
theorem dX8_jobFinishedAs_47 : decode cX8_jobFinishedAs 47 = .ok (.istore_n 3, 1) := by decide +kernel
theorem dX8_jobFinishedAs_48 : decode cX8_jobFinishedAs 48 = .ok (.goto (-30), 3) := by decide +kernel
theorem dX8_jobFinishedAs_51 : decode cX8_jobFinishedAs 51 = .ok (.aload_n 0, 1) := by decide +kernel
theorem dX8_jobFinishedAs_52 : decode cX8_jobFinishedAs 52 = .ok (.getfield 66, 3) := by decide +kernel
theorem dX8_jobFinishedAs_55 : decode cX8_jobFinishedAs 55 = .ok (.iload_n 1, 1) := by decide +kernel
theorem dX8_jobFinishedAs_56 : decode cX8_jobFinishedAs 56 = .ok (.if_icmp .le 12, 3) := by decide +kernel
theorem dX8_jobFinishedAs_59 : decode cX8_jobFinishedAs 59 = .ok (.aload_n 0, 1) := by decide +kernel
theorem dX8_jobFinishedAs_60 : decode cX8_jobFinishedAs 60 = .ok (.getfield 63, 3) := by decide +kernel
theorem dX8_jobFinishedAs_63 : decode cX8_jobFinishedAs 63 = .ok (.iload_n 1, 1) := by decide +kernel
theorem dX8_jobFinishedAs_64 : decode cX8_jobFinishedAs 64 = .ok (.iaload, 1) := by decide +kernel
theorem dX8_jobFinishedAs_65 : decode cX8_jobFinishedAs 65 = .ok (.goto 5, 3) := by decide +kernel
theorem dX8_jobFinishedAs_68 : decode cX8_jobFinishedAs 68 = .ok (.bipush (-6), 2) := by decide +kernel
theorem dX8_jobFinishedAs_70 : decode cX8_jobFinishedAs 70 = .ok (.ireturn, 1) := by decide +kernel
def f8_jobFinishedAs_b51 (v0 : Nat) (v1 : Int32) (g : GS_) : Option (Int32 × GS_) :=
  if (gfi g 268 v0) ≤ v1 then some ((-6 : Int32), g) else lr_ (gfr g 267 v0) fun x1 => oc_ x1 none fun a2 => if inb v1 (gln g 20 a2) then some ((gai g 20 a2 v1.toInt.toNat), g) else none
theorem t8_jobFinishedAs_b51 (v0 : Nat) (v1 : Int32) (g : GS_) : K_ RX8 cX8_jobFinishedAs 4 (some .int) 6 137 false EI_ 51 [some (.inr (8, some v0)), some (.inl v1), none, none] [] g (f8_jobFinishedAs_b51 v0 v1 g) := by
  unfold f8_jobFinishedAs_b51
  refine k_aloadn (j := 0) dX8_jobFinishedAs_51 rfl rfl ?_
  refine k_geti fg_8_66 rfl rfl dX8_jobFinishedAs_52 ?_
  refine k_iloadn (j := 1) dX8_jobFinishedAs_55 rfl rfl ?_
  refine k_icmple (tgt := 68) dX8_jobFinishedAs_56 (by decide) (fun _ => ?_) (fun _ => ?_)
  · refine k_bipush (v := (-6 : Int32)) dX8_jobFinishedAs_68 rfl ?_
    exact k_ireturn rfl dX8_jobFinishedAs_70
  refine k_aloadn (j := 0) dX8_jobFinishedAs_59 rfl rfl ?_
  refine k_getr fg_8_63 rfl rfl dX8_jobFinishedAs_60 (fun x1 => ?_)
  refine k_iloadn (j := 1) dX8_jobFinishedAs_63 rfl rfl ?_
  rcases x1 with _ | a2
  · exact k_ocn
  refine k_ocs ?_
  refine k_iald dX8_jobFinishedAs_64 ?_
  refine k_goto (tgt := 70) dX8_jobFinishedAs_65 (by decide) ?_
  exact k_ireturn rfl dX8_jobFinishedAs_70
def f8_jobFinishedAs_b18 : Nat → Nat → Int32 → Int32 → Int32 → GS_ → Option (Int32 × GS_)
  | 0, _, _, _, _, _ => none
  | n + 1, v0, v1, v2, v3, g =>
    if v2 ≤ v3 then f8_jobFinishedAs_b51 v0 v1 g else if v1 < (gfi g 268 v0) then f8_jobFinishedAs_b51 v0 v1 g else bd_ (f8_passTick v0 g) fun _ g3 => bd_ (f8_skipQuietTicks v0 (v2 - (v3 + (1 : Int32))) g3) fun z5 g4 => lr_ ((v3 + (1 : Int32)) + z5) fun z6 => (f8_jobFinishedAs_b18 n) v0 v1 v2 z6 g4
theorem t8_jobFinishedAs_b18 : ∀ (n : Nat) (v0 : Nat) (v1 : Int32) (v2 : Int32) (v3 : Int32) (g : GS_), K_ RX8 cX8_jobFinishedAs 4 (some .int) 6 137 false EI_ 18 [some (.inr (8, some v0)), some (.inl v1), some (.inl v2), some (.inl v3)] [] g (f8_jobFinishedAs_b18 n v0 v1 v2 v3 g) := by
  intro n
  induction n with
  | zero =>
    intro v0 v1 v2 v3 g
    exact k_fail
  | succ n ih =>
    intro v0 v1 v2 v3 g
    show K_ RX8 cX8_jobFinishedAs 4 (some .int) 6 137 false EI_ 18 [some (.inr (8, some v0)), some (.inl v1), some (.inl v2), some (.inl v3)] [] g (if v2 ≤ v3 then f8_jobFinishedAs_b51 v0 v1 g else if v1 < (gfi g 268 v0) then f8_jobFinishedAs_b51 v0 v1 g else bd_ (f8_passTick v0 g) fun _ g3 => bd_ (f8_skipQuietTicks v0 (v2 - (v3 + (1 : Int32))) g3) fun z5 g4 => lr_ ((v3 + (1 : Int32)) + z5) fun z6 => (f8_jobFinishedAs_b18 n) v0 v1 v2 z6 g4)
    refine k_iloadn (j := 3) dX8_jobFinishedAs_18 rfl rfl ?_
    refine k_iloadn (j := 2) dX8_jobFinishedAs_19 rfl rfl ?_
    refine k_icmpge (tgt := 51) dX8_jobFinishedAs_20 (by decide) (fun _ => ?_) (fun _ => ?_)
    · refine k_msk (L' := [some (.inr (8, some v0)), some (.inl v1), none, none]) [true, true, false, false] rfl ?_
      exact t8_jobFinishedAs_b51 v0 v1 g
    refine k_aloadn (j := 0) dX8_jobFinishedAs_23 rfl rfl ?_
    refine k_geti fg_8_66 rfl rfl dX8_jobFinishedAs_24 ?_
    refine k_iloadn (j := 1) dX8_jobFinishedAs_27 rfl rfl ?_
    refine k_icmpgt (tgt := 51) dX8_jobFinishedAs_28 (by decide) (fun _ => ?_) (fun _ => ?_)
    · refine k_msk (L' := [some (.inr (8, some v0)), some (.inl v1), none, none]) [true, true, false, false] rfl ?_
      exact t8_jobFinishedAs_b51 v0 v1 g
    refine k_aloadn (j := 0) dX8_jobFinishedAs_31 rfl rfl ?_
    refine k_callVv [] (t8_passTick v0 g) cw_cX8_passTick (Or.inl ml_8_114) rfl rfl (by decide) (by decide) (Nat.le_of_ble_eq_true rfl) dX8_jobFinishedAs_32 (fun _ g3 => ?_)
    refine k_iinc (v := (v3 + (1 : Int32))) (L' := [some (.inr (8, some v0)), some (.inl v1), some (.inl v2), some (.inl (v3 + (1 : Int32)))]) dX8_jobFinishedAs_35 rfl rfl (by decide) rfl ?_
    refine k_iloadn (j := 3) dX8_jobFinishedAs_38 rfl rfl ?_
    refine k_aloadn (j := 0) dX8_jobFinishedAs_39 rfl rfl ?_
    refine k_iloadn (j := 2) dX8_jobFinishedAs_40 rfl rfl ?_
    refine k_iloadn (j := 3) dX8_jobFinishedAs_41 rfl rfl ?_
    refine k_isub dX8_jobFinishedAs_42 ?_
    refine k_callVi [.inl (v2 - (v3 + (1 : Int32)))] (t8_skipQuietTicks v0 (v2 - (v3 + (1 : Int32))) g3) cw_cX8_skipQuietTicks (Or.inl ml_8_117) rfl rfl (by decide) (by decide) (Nat.le_of_ble_eq_true rfl) dX8_jobFinishedAs_43 (fun z5 g4 => ?_)
    refine k_iadd dX8_jobFinishedAs_46 ?_
    refine k_istnl (j := 3) (L2 := fun z6 => [some (.inr (8, some v0)), some (.inl v1), some (.inl v2), some (.inl z6)]) dX8_jobFinishedAs_47 rfl (by decide) (fun _ => rfl) (fun z6 => ?_)
    refine k_goto (tgt := 18) dX8_jobFinishedAs_48 (by decide) ?_
    exact ih v0 v1 v2 z6 g4
def f8_jobFinishedAs (v0 : Nat) (v1 : Int32) (v2 : Int32) (g : GS_) : Option (Int32 × GS_) :=
  if v1 < 0 then some ((-6 : Int32), g) else lr_ (gfr g 267 v0) fun x7 => oc_ x7 none fun a8 => if v1 < (Int32.ofNat (gln g 20 a8)) then f8_jobFinishedAs_b18 FU_ v0 v1 v2 (0 : Int32) g else some ((-6 : Int32), g)
theorem t8_jobFinishedAs (v0 : Nat) (v1 : Int32) (v2 : Int32) (g : GS_) : Cn_ yX8_jobFinishedAs cX8_jobFinishedAs 4 (some .int) 6 137 EI_ [.inr (8, some v0), .inl v1, .inl v2] g (f8_jobFinishedAs v0 v1 v2 g) := by
  refine k_method (own := RX8) (ini := false) (L1 := [some (.inr (8, some v0)), some (.inl v1), some (.inl v2), none]) (by decide +kernel) rfl (fun h => by cases h) (Nat.le_of_ble_eq_true rfl) rfl ?_
  unfold f8_jobFinishedAs
  refine k_iloadn (j := 1) dX8_jobFinishedAs_0 rfl rfl ?_
  refine k_iflt (tgt := 13) dX8_jobFinishedAs_1 (by decide) (fun _ => ?_) (fun _ => ?_)
  · refine k_bipush (v := (-6 : Int32)) dX8_jobFinishedAs_13 rfl ?_
    exact k_ireturn rfl dX8_jobFinishedAs_15
  refine k_iloadn (j := 1) dX8_jobFinishedAs_4 rfl rfl ?_
  refine k_aloadn (j := 0) dX8_jobFinishedAs_5 rfl rfl ?_
  refine k_getr fg_8_63 rfl rfl dX8_jobFinishedAs_6 (fun x7 => ?_)
  rcases x7 with _ | a8
  · exact k_ocn
  refine k_ocs ?_
  refine k_alen dX8_jobFinishedAs_9 (by decide) ?_
  refine k_icmplt (tgt := 16) dX8_jobFinishedAs_10 (by decide) (fun _ => ?_) (fun _ => ?_)
  · refine k_iconst (v := (0 : Int32)) dX8_jobFinishedAs_16 rfl ?_
    refine k_istn (j := 3) (L' := [some (.inr (8, some v0)), some (.inl v1), some (.inl v2), some (.inl (0 : Int32))]) dX8_jobFinishedAs_17 rfl (by decide) rfl ?_
    exact t8_jobFinishedAs_b18 FU_ v0 v1 v2 (0 : Int32) g
  refine k_bipush (v := (-6 : Int32)) dX8_jobFinishedAs_13 rfl ?_
  exact k_ireturn rfl dX8_jobFinishedAs_15
