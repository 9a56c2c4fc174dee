/-! methods as functions over numbers, and that the machine does them: written by wip/whole/gen/mkparts.py (decode rows: printed names) -/
theorem dX4_placeOf_0 : decode cX4_placeOf 0 = .ok (.aload_n 0, 1) := by decide +kernel
theorem dX4_placeOf_1 : decode cX4_placeOf 1 = .ok (.getfield 55, 3) := by decide +kernel
theorem dX4_placeOf_4 : decode cX4_placeOf 4 = .ok (.ifCond .eq 77, 3) := by decide +kernel
theorem dX4_placeOf_7 : decode cX4_placeOf 7 = .ok (.iload_n 1, 1) := by decide +kernel
theorem dX4_placeOf_8 : decode cX4_placeOf 8 = .ok (.iconst 2, 1) := by decide +kernel
theorem dX4_placeOf_9 : decode cX4_placeOf 9 = .ok (.aload_n 0, 1) := by decide +kernel
theorem dX4_placeOf_10 : decode cX4_placeOf 10 = .ok (.getfield 65, 3) := by decide +kernel
theorem dX4_placeOf_13 : decode cX4_placeOf 13 = .ok (.imul, 1) := by decide +kernel
theorem dX4_placeOf_14 : decode cX4_placeOf 14 = .ok (.if_icmp .ge 7, 3) := by decide +kernel
theorem dX4_placeOf_17 : decode cX4_placeOf 17 = .ok (.iconst 1, 1) := by decide +kernel
theorem dX4_placeOf_18 : decode cX4_placeOf 18 = .ok (.goto 4, 3) := by decide +kernel
theorem dX4_placeOf_21 : decode cX4_placeOf 21 = .ok (.iconst 0, 1) := by decide +kernel
theorem dX4_placeOf_22 : decode cX4_placeOf 22 = .ok (.istore 6, 2) := by decide +kernel
theorem dX4_placeOf_24 : decode cX4_placeOf 24 = .ok (.iload 6, 2) := by decide +kernel
theorem dX4_placeOf_26 : decode cX4_placeOf 26 = .ok (.ifCond .eq 7, 3) := by decide +kernel
theorem dX4_placeOf_29 : decode cX4_placeOf 29 = .ok (.iload_n 1, 1) := by decide +kernel
theorem dX4_placeOf_30 : decode cX4_placeOf 30 = .ok (.goto 13, 3) := by decide +kernel
theorem dX4_placeOf_33 : decode cX4_placeOf 33 = .ok (.iconst 4, 1) := by decide +kernel
theorem dX4_placeOf_34 : decode cX4_placeOf 34 = .ok (.aload_n 0, 1) := by decide +kernel
theorem dX4_placeOf_35 : decode cX4_placeOf 35 = .ok (.getfield 65, 3) := by decide +kernel
theorem dX4_placeOf_38 : decode cX4_placeOf 38 = .ok (.imul, 1) := by decide +kernel
theorem dX4_placeOf_39 : decode cX4_placeOf 39 = .ok (.iconst 1, 1) := by decide +kernel
theorem dX4_placeOf_40 : decode cX4_placeOf 40 = .ok (.isub, 1) := by decide +kernel
theorem dX4_placeOf_41 : decode cX4_placeOf 41 = .ok (.iload_n 1, 1) := by decide +kernel
theorem dX4_placeOf_42 : decode cX4_placeOf 42 = .ok (.isub, 1) := by decide +kernel
theorem dX4_placeOf_43 : decode cX4_placeOf 43 = .ok (.istore 7, 2) := by decide +kernel
theorem dX4_placeOf_45 : decode cX4_placeOf 45 = .ok (.iload 7, 2) := by decide +kernel
theorem dX4_placeOf_47 : decode cX4_placeOf 47 = .ok (.iconst 2, 1) := by decide +kernel
theorem dX4_placeOf_48 : decode cX4_placeOf 48 = .ok (.idiv, 1) := by decide +kernel
theorem dX4_placeOf_49 : decode cX4_placeOf 49 = .ok (.istore_n 3, 1) := by decide +kernel
theorem dX4_placeOf_50 : decode cX4_placeOf 50 = .ok (.iload 7, 2) := by decide +kernel
theorem dX4_placeOf_52 : decode cX4_placeOf 52 = .ok (.iconst 2, 1) := by decide +kernel
theorem dX4_placeOf_53 : decode cX4_placeOf 53 = .ok (.irem, 1) := by decide +kernel
theorem dX4_placeOf_54 : decode cX4_placeOf 54 = .ok (.istore 4, 2) := by decide +kernel
theorem dX4_placeOf_56 : decode cX4_placeOf 56 = .ok (.iload 6, 2) := by decide +kernel
theorem dX4_placeOf_58 : decode cX4_placeOf 58 = .ok (.iload 4, 2) := by decide +kernel
theorem dX4_placeOf_60 : decode cX4_placeOf 60 = .ok (.ifCond .ne 7, 3) := by decide +kernel
theorem dX4_placeOf_63 : decode cX4_placeOf 63 = .ok (.iconst 1, 1) := by decide +kernel
theorem dX4_placeOf_64 : decode cX4_placeOf 64 = .ok (.goto 4, 3) := by decide +kernel
theorem dX4_placeOf_67 : decode cX4_placeOf 67 = .ok (.iconst 0, 1) := by decide +kernel
theorem dX4_placeOf_68 : decode cX4_placeOf 68 = .ok (.if_icmp .ne 7, 3) := by decide +kernel
theorem dX4_placeOf_71 : decode cX4_placeOf 71 = .ok (.iconst 1, 1) := by decide +kernel
theorem dX4_placeOf_72 : decode cX4_placeOf 72 = .ok (.goto 4, 3) := by decide +kernel
theorem dX4_placeOf_75 : decode cX4_placeOf 75 = .ok (.iconst 0, 1) := by decide +kernel
theorem dX4_placeOf_76 : decode cX4_placeOf 76 = .ok (.istore 5, 2) := by decide +kernel
theorem dX4_placeOf_78 : decode cX4_placeOf 78 = .ok (.goto 77, 3) := by decide +kernel
theorem dX4_placeOf_81 : decode cX4_placeOf 81 = .ok (.aload_n 0, 1) := by decide +kernel
theorem dX4_placeOf_82 : decode cX4_placeOf 82 = .ok (.getfield 62, 3) := by decide +kernel
theorem dX4_placeOf_85 : decode cX4_placeOf 85 = .ok (.iconst 1, 1) := by decide +kernel
theorem dX4_placeOf_86 : decode cX4_placeOf 86 = .ok (.if_icmp .ge 7, 3) := by decide +kernel
theorem dX4_placeOf_89 : decode cX4_placeOf 89 = .ok (.iconst 0, 1) := by decide +kernel
theorem dX4_placeOf_90 : decode cX4_placeOf 90 = .ok (.goto 9, 3) := by decide +kernel
theorem dX4_placeOf_93 : decode cX4_placeOf 93 = .ok (.iload_n 1, 1) := by decide +kernel
theorem dX4_placeOf_94 : decode cX4_placeOf 94 = .ok (.aload_n 0, 1) := by decide +kernel
theorem dX4_placeOf_95 : decode cX4_placeOf 95 = .ok (.getfield 62, 3) := by decide +kernel
theorem dX4_placeOf_98 : decode cX4_placeOf 98 = .ok (.idiv, 1) := by decide +kernel
theorem dX4_placeOf_99 : decode cX4_placeOf 99 = .ok (.istore 6, 2) := by decide +kernel
theorem dX4_placeOf_101 : decode cX4_placeOf 101 = .ok (.aload_n 0, 1) := by decide +kernel
theorem dX4_placeOf_102 : decode cX4_placeOf 102 = .ok (.getfield 59, 3) := by decide +kernel
theorem dX4_placeOf_105 : decode cX4_placeOf 105 = .ok (.ifCond .eq 10, 3) := by decide +kernel
theorem dX4_placeOf_108 : decode cX4_placeOf 108 = .ok (.iload 6, 2) := by decide +kernel
theorem dX4_placeOf_110 : decode cX4_placeOf 110 = .ok (.iconst 2, 1) := by decide +kernel
theorem dX4_placeOf_111 : decode cX4_placeOf 111 = .ok (.idiv, 1) := by decide +kernel
theorem dX4_placeOf_112 : decode cX4_placeOf 112 = .ok (.goto 5, 3) := by decide +kernel
theorem dX4_placeOf_115 : decode cX4_placeOf 115 = .ok (.iload 6, 2) := by decide +kernel
theorem dX4_placeOf_117 : decode cX4_placeOf 117 = .ok (.istore_n 3, 1) := by decide +kernel
theorem dX4_placeOf_118 : decode cX4_placeOf 118 = .ok (.aload_n 0, 1) := by decide +kernel
theorem dX4_placeOf_119 : decode cX4_placeOf 119 = .ok (.getfield 59, 3) := by decide +kernel
theorem dX4_placeOf_122 : decode cX4_placeOf 122 = .ok (.ifCond .eq 10, 3) := by decide +kernel
theorem dX4_placeOf_125 : decode cX4_placeOf 125 = .ok (.iload 6, 2) := by decide +kernel
theorem dX4_placeOf_127 : decode cX4_placeOf 127 = .ok (.iconst 2, 1) := by decide +kernel
theorem dX4_placeOf_128 : decode cX4_placeOf 128 = .ok (.irem, 1) := by decide +kernel
theorem dX4_placeOf_129 : decode cX4_placeOf 129 = .ok (.goto 4, 3) := by decide +kernel
theorem dX4_placeOf_132 : decode cX4_placeOf 132 = .ok (.iconst 0, 1) := by decide +kernel
theorem dX4_placeOf_133 : decode cX4_placeOf 133 = .ok (.istore 4, 2) := by decide +kernel
theorem dX4_placeOf_135 : decode cX4_placeOf 135 = .ok (.aload_n 0, 1) := by decide +kernel
theorem dX4_placeOf_136 : decode cX4_placeOf 136 = .ok (.getfield 62, 3) := by decide +kernel
theorem dX4_placeOf_139 : decode cX4_placeOf 139 = .ok (.iconst 1, 1) := by decide +kernel
theorem dX4_placeOf_140 : decode cX4_placeOf 140 = .ok (.if_icmp .ge 7, 3) := by decide +kernel
theorem dX4_placeOf_143 : decode cX4_placeOf 143 = .ok (.iconst 0, 1) := by decide +kernel
theorem dX4_placeOf_144 : decode cX4_placeOf 144 = .ok (.goto 9, 3) := by decide +kernel
theorem dX4_placeOf_147 : decode cX4_placeOf 147 = .ok (.iload_n 1, 1) := by decide +kernel
theorem dX4_placeOf_148 : decode cX4_placeOf 148 = .ok (.aload_n 0, 1) := by decide +kernel
theorem dX4_placeOf_149 : decode cX4_placeOf 149 = .ok (.getfield 62, 3) := by decide +kernel
theorem dX4_placeOf_152 : decode cX4_placeOf 152 = .ok (.irem, 1) := by decide +kernel
theorem dX4_placeOf_153 : decode cX4_placeOf 153 = .ok (.istore 5, 2) := by decide +kernel
theorem dX4_placeOf_155 : decode cX4_placeOf 155 = .ok (.aload_n 0, 1) := by decide +kernel
theorem dX4_placeOf_156 : decode cX4_placeOf 156 = .ok (.getfield 38, 3) := by decide +kernel
theorem dX4_placeOf_159 : decode cX4_placeOf 159 = .ok (.iconst 1, 1) := by decide +kernel
theorem dX4_placeOf_160 : decode cX4_placeOf 160 = .ok (.if_icmp .ne 7, 3) := by decide +kernel
theorem dX4_placeOf_163 : decode cX4_placeOf 163 = .ok (.iload_n 3, 1) := by decide +kernel
theorem dX4_placeOf_164 : decode cX4_placeOf 164 = .ok (.goto 9, 3) := by decide +kernel
theorem dX4_placeOf_167 : decode cX4_placeOf 167 = .ok (.iload_n 3, 1) := by decide +kernel
theorem dX4_placeOf_168 : decode cX4_placeOf 168 = .ok (.aload_n 0, 1) := by decide +kernel
theorem dX4_placeOf_169 : decode cX4_placeOf 169 = .ok (.getfield 35, 3) := by decide +kernel
theorem dX4_placeOf_172 : decode cX4_placeOf 172 = .ok (.imul, 1) := by decide +kernel
theorem dX4_placeOf_173 : decode cX4_placeOf 173 = .ok (.istore 6, 2) := by decide +kernel
theorem dX4_placeOf_175 : decode cX4_placeOf 175 = .ok (.iload_n 2, 1) := by decide +kernel
theorem dX4_placeOf_176 : decode cX4_placeOf 176 = .ok (.ifCond .ne 8, 3) := by decide +kernel
theorem dX4_placeOf_179 : decode cX4_placeOf 179 = .ok (.iload 6, 2) := by decide +kernel
theorem dX4_placeOf_181 : decode cX4_placeOf 181 = .ok (.goto 15, 3) := by decide +kernel
theorem dX4_placeOf_184 : decode cX4_placeOf 184 = .ok (.iload_n 2, 1) := by decide +kernel
theorem dX4_placeOf_185 : decode cX4_placeOf 185 = .ok (.iconst 1, 1) := by decide +kernel
theorem dX4_placeOf_186 : decode cX4_placeOf 186 = .ok (.if_icmp .ne 8, 3) := by decide +kernel
theorem dX4_placeOf_189 : decode cX4_placeOf 189 = .ok (.iload 4, 2) := by decide +kernel
theorem dX4_placeOf_191 : decode cX4_placeOf 191 = .ok (.goto 5, 3) := by decide +kernel
theorem dX4_placeOf_194 : decode cX4_placeOf 194 = .ok (.iload 5, 2) := by decide +kernel
theorem dX4_placeOf_196 : decode cX4_placeOf 196 = .ok (.ireturn, 1) := by decide +kernel
def f4_placeOf_b173 (v2 : Int32) (v4 : Int32) (v5 : Int32) (s0 : Int32) (g : GS_) : Option (Int32 × GS_) :=
  if v2 = 0 then some (s0, g) else if v2 = (1 : Int32) then some (v4, g) else some (v5, g)
theorem t4_placeOf_b173 (v2 : Int32) (v4 : Int32) (v5 : Int32) (s0 : Int32) (g : GS_) : K_ RX4 cX4_placeOf 8 (some .int) 0 0 false EI_ 173 [none, none, some (.inl v2), none, some (.inl v4), some (.inl v5), none, none] [.inl s0] g (f4_placeOf_b173 v2 v4 v5 s0 g) := by
  unfold f4_placeOf_b173
  refine k_ist (L' := [none, none, some (.inl v2), none, some (.inl v4), some (.inl v5), some (.inl s0), none]) dX4_placeOf_173 (by decide) rfl ?_
  refine k_iloadn (j := 2) dX4_placeOf_175 rfl rfl ?_
  refine k_ifne (tgt := 184) dX4_placeOf_176 (by decide) (fun _ => ?_) (fun _ => ?_)
  · refine k_iload dX4_placeOf_179 rfl ?_
    refine k_goto (tgt := 196) dX4_placeOf_181 (by decide) ?_
    exact k_ireturn rfl dX4_placeOf_196
  refine k_iloadn (j := 2) dX4_placeOf_184 rfl rfl ?_
  refine k_iconst (v := (1 : Int32)) dX4_placeOf_185 rfl ?_
  refine k_icmpne (tgt := 194) dX4_placeOf_186 (by decide) (fun _ => ?_) (fun _ => ?_)
  · refine k_iload dX4_placeOf_189 rfl ?_
    refine k_goto (tgt := 196) dX4_placeOf_191 (by decide) ?_
    exact k_ireturn rfl dX4_placeOf_196
  refine k_iload dX4_placeOf_194 rfl ?_
  exact k_ireturn rfl dX4_placeOf_196
def f4_placeOf_b155 (v0 : Nat) (v2 : Int32) (v3 : Int32) (v4 : Int32) (v5 : Int32) (g : GS_) : Option (Int32 × GS_) :=
  if (gfi g 132 v0) = (1 : Int32) then f4_placeOf_b173 v2 v4 v5 v3 g else f4_placeOf_b173 v2 v4 v5 (v3 * (gfi g 131 v0)) g
theorem t4_placeOf_b155 (v0 : Nat) (v2 : Int32) (v3 : Int32) (v4 : Int32) (v5 : Int32) (g : GS_) : K_ RX4 cX4_placeOf 8 (some .int) 0 0 false EI_ 155 [some (.inr (4, some v0)), none, some (.inl v2), some (.inl v3), some (.inl v4), some (.inl v5), none, none] [] g (f4_placeOf_b155 v0 v2 v3 v4 v5 g) := by
  unfold f4_placeOf_b155
  refine k_aloadn (j := 0) dX4_placeOf_155 rfl rfl ?_
  refine k_geti fg_4_38 rfl rfl dX4_placeOf_156 ?_
  refine k_iconst (v := (1 : Int32)) dX4_placeOf_159 rfl ?_
  refine k_icmpne (tgt := 167) dX4_placeOf_160 (by decide) (fun _ => ?_) (fun _ => ?_)
  · refine k_iloadn (j := 3) dX4_placeOf_163 rfl rfl ?_
    refine k_goto (tgt := 173) dX4_placeOf_164 (by decide) ?_
    refine k_msk (L' := [none, none, some (.inl v2), none, some (.inl v4), some (.inl v5), none, none]) [false, true, true, false, true, true, true, true] rfl ?_
    exact t4_placeOf_b173 v2 v4 v5 v3 g
  refine k_iloadn (j := 3) dX4_placeOf_167 rfl rfl ?_
  refine k_aloadn (j := 0) dX4_placeOf_168 rfl rfl ?_
  refine k_geti fg_4_35 rfl rfl dX4_placeOf_169 ?_
  refine k_imul dX4_placeOf_172 ?_
  refine k_msk (L' := [none, none, some (.inl v2), none, some (.inl v4), some (.inl v5), none, none]) [false, true, true, false, true, true, true, true] rfl ?_
  exact t4_placeOf_b173 v2 v4 v5 (v3 * (gfi g 131 v0)) g
def f4_placeOf_b153 (v0 : Nat) (v2 : Int32) (v3 : Int32) (v4 : Int32) (s0 : Int32) (g : GS_) : Option (Int32 × GS_) :=
  f4_placeOf_b155 v0 v2 v3 v4 s0 g
theorem t4_placeOf_b153 (v0 : Nat) (v2 : Int32) (v3 : Int32) (v4 : Int32) (s0 : Int32) (g : GS_) : K_ RX4 cX4_placeOf 8 (some .int) 0 0 false EI_ 153 [some (.inr (4, some v0)), none, some (.inl v2), some (.inl v3), some (.inl v4), none, none, none] [.inl s0] g (f4_placeOf_b153 v0 v2 v3 v4 s0 g) := by
  unfold f4_placeOf_b153
  refine k_ist (L' := [some (.inr (4, some v0)), none, some (.inl v2), some (.inl v3), some (.inl v4), some (.inl s0), none, none]) dX4_placeOf_153 (by decide) rfl ?_
  exact t4_placeOf_b155 v0 v2 v3 v4 s0 g
def f4_placeOf_b133 (v0 : Nat) (v1 : Int32) (v2 : Int32) (v3 : Int32) (s0 : Int32) (g : GS_) : Option (Int32 × GS_) :=
  if (1 : Int32) ≤ (gfi g 138 v0) then if (gfi g 138 v0) = 0 then none else f4_placeOf_b153 v0 v2 v3 s0 (jrem v1 (gfi g 138 v0)) g else f4_placeOf_b153 v0 v2 v3 s0 (0 : Int32) g
theorem t4_placeOf_b133 (v0 : Nat) (v1 : Int32) (v2 : Int32) (v3 : Int32) (s0 : Int32) (g : GS_) : K_ RX4 cX4_placeOf 8 (some .int) 0 0 false EI_ 133 [some (.inr (4, some v0)), some (.inl v1), some (.inl v2), some (.inl v3), none, none, none, none] [.inl s0] g (f4_placeOf_b133 v0 v1 v2 v3 s0 g) := by
  unfold f4_placeOf_b133
  refine k_ist (L' := [some (.inr (4, some v0)), some (.inl v1), some (.inl v2), some (.inl v3), some (.inl s0), none, none, none]) dX4_placeOf_133 (by decide) rfl ?_
  refine k_aloadn (j := 0) dX4_placeOf_135 rfl rfl ?_
  refine k_geti fg_4_62 rfl rfl dX4_placeOf_136 ?_
  refine k_iconst (v := (1 : Int32)) dX4_placeOf_139 rfl ?_
  refine k_icmpge (tgt := 147) dX4_placeOf_140 (by decide) (fun _ => ?_) (fun _ => ?_)
  · refine k_iloadn (j := 1) dX4_placeOf_147 rfl rfl ?_
    refine k_aloadn (j := 0) dX4_placeOf_148 rfl rfl ?_
    refine k_geti fg_4_62 rfl rfl dX4_placeOf_149 ?_
    refine k_irem dX4_placeOf_152 (fun _ => ?_)
    refine k_msk (L' := [some (.inr (4, some v0)), none, some (.inl v2), some (.inl v3), some (.inl s0), none, none, none]) [true, false, true, true, true, true, true, true] rfl ?_
    exact t4_placeOf_b153 v0 v2 v3 s0 (jrem v1 (gfi g 138 v0)) g
  refine k_iconst (v := (0 : Int32)) dX4_placeOf_143 rfl ?_
  refine k_goto (tgt := 153) dX4_placeOf_144 (by decide) ?_
  refine k_msk (L' := [some (.inr (4, some v0)), none, some (.inl v2), some (.inl v3), some (.inl s0), none, none, none]) [true, false, true, true, true, true, true, true] rfl ?_
  exact t4_placeOf_b153 v0 v2 v3 s0 (0 : Int32) g
def f4_placeOf_b117 (v0 : Nat) (v1 : Int32) (v2 : Int32) (v6 : Int32) (s0 : Int32) (g : GS_) : Option (Int32 × GS_) :=
  if (gfi g 137 v0) = 0 then f4_placeOf_b133 v0 v1 v2 s0 (0 : Int32) g else f4_placeOf_b133 v0 v1 v2 s0 (jrem v6 (2 : Int32)) g
theorem t4_placeOf_b117 (v0 : Nat) (v1 : Int32) (v2 : Int32) (v6 : Int32) (s0 : Int32) (g : GS_) : K_ RX4 cX4_placeOf 8 (some .int) 0 0 false EI_ 117 [some (.inr (4, some v0)), some (.inl v1), some (.inl v2), none, none, none, some (.inl v6), none] [.inl s0] g (f4_placeOf_b117 v0 v1 v2 v6 s0 g) := by
  unfold f4_placeOf_b117
  refine k_istn (j := 3) (L' := [some (.inr (4, some v0)), some (.inl v1), some (.inl v2), some (.inl s0), none, none, some (.inl v6), none]) dX4_placeOf_117 rfl (by decide) rfl ?_
  refine k_aloadn (j := 0) dX4_placeOf_118 rfl rfl ?_
  refine k_geti fg_4_59 rfl rfl dX4_placeOf_119 ?_
  refine k_ifeq (tgt := 132) dX4_placeOf_122 (by decide) (fun _ => ?_) (fun _ => ?_)
  · refine k_iconst (v := (0 : Int32)) dX4_placeOf_132 rfl ?_
    refine k_msk (L' := [some (.inr (4, some v0)), some (.inl v1), some (.inl v2), some (.inl s0), none, none, none, none]) [true, true, true, true, true, true, false, true] rfl ?_
    exact t4_placeOf_b133 v0 v1 v2 s0 (0 : Int32) g
  refine k_iload dX4_placeOf_125 rfl ?_
  refine k_iconst (v := (2 : Int32)) dX4_placeOf_127 rfl ?_
  refine k_iremc (by decide) dX4_placeOf_128 ?_
  refine k_goto (tgt := 133) dX4_placeOf_129 (by decide) ?_
  refine k_msk (L' := [some (.inr (4, some v0)), some (.inl v1), some (.inl v2), some (.inl s0), none, none, none, none]) [true, true, true, true, true, true, false, true] rfl ?_
  exact t4_placeOf_b133 v0 v1 v2 s0 (jrem v6 (2 : Int32)) g
def f4_placeOf_b99 (v0 : Nat) (v1 : Int32) (v2 : Int32) (s0 : Int32) (g : GS_) : Option (Int32 × GS_) :=
  if (gfi g 137 v0) = 0 then f4_placeOf_b117 v0 v1 v2 s0 s0 g else f4_placeOf_b117 v0 v1 v2 s0 (s0 / (2 : Int32)) g
theorem t4_placeOf_b99 (v0 : Nat) (v1 : Int32) (v2 : Int32) (s0 : Int32) (g : GS_) : K_ RX4 cX4_placeOf 8 (some .int) 0 0 false EI_ 99 [some (.inr (4, some v0)), some (.inl v1), some (.inl v2), none, none, none, none, none] [.inl s0] g (f4_placeOf_b99 v0 v1 v2 s0 g) := by
  unfold f4_placeOf_b99
  refine k_ist (L' := [some (.inr (4, some v0)), some (.inl v1), some (.inl v2), none, none, none, some (.inl s0), none]) dX4_placeOf_99 (by decide) rfl ?_
  refine k_aloadn (j := 0) dX4_placeOf_101 rfl rfl ?_
  refine k_geti fg_4_59 rfl rfl dX4_placeOf_102 ?_
  refine k_ifeq (tgt := 115) dX4_placeOf_105 (by decide) (fun _ => ?_) (fun _ => ?_)
  · refine k_iload dX4_placeOf_115 rfl ?_
    exact t4_placeOf_b117 v0 v1 v2 s0 s0 g
  refine k_iload dX4_placeOf_108 rfl ?_
  refine k_iconst (v := (2 : Int32)) dX4_placeOf_110 rfl ?_
  refine k_idivc (by decide) dX4_placeOf_111 ?_
  refine k_goto (tgt := 117) dX4_placeOf_112 (by decide) ?_
  exact t4_placeOf_b117 v0 v1 v2 s0 (s0 / (2 : Int32)) g
def f4_placeOf_b76 (v0 : Nat) (v2 : Int32) (v3 : Int32) (v4 : Int32) (s0 : Int32) (g : GS_) : Option (Int32 × GS_) :=
  f4_placeOf_b155 v0 v2 v3 v4 s0 g
theorem t4_placeOf_b76 (v0 : Nat) (v2 : Int32) (v3 : Int32) (v4 : Int32) (s0 : Int32) (g : GS_) : K_ RX4 cX4_placeOf 8 (some .int) 0 0 false EI_ 76 [some (.inr (4, some v0)), none, some (.inl v2), some (.inl v3), some (.inl v4), none, none, none] [.inl s0] g (f4_placeOf_b76 v0 v2 v3 v4 s0 g) := by
  unfold f4_placeOf_b76
  refine k_ist (L' := [some (.inr (4, some v0)), none, some (.inl v2), some (.inl v3), some (.inl v4), some (.inl s0), none, none]) dX4_placeOf_76 (by decide) rfl ?_
  refine k_goto (tgt := 155) dX4_placeOf_78 (by decide) ?_
  exact t4_placeOf_b155 v0 v2 v3 v4 s0 g
def f4_placeOf_b68 (v0 : Nat) (v2 : Int32) (v3 : Int32) (v4 : Int32) (s0 : Int32) (s1 : Int32) (g : GS_) : Option (Int32 × GS_) :=
  if s0 = s1 then f4_placeOf_b76 v0 v2 v3 v4 (1 : Int32) g else f4_placeOf_b76 v0 v2 v3 v4 (0 : Int32) g
theorem t4_placeOf_b68 (v0 : Nat) (v2 : Int32) (v3 : Int32) (v4 : Int32) (s0 : Int32) (s1 : Int32) (g : GS_) : K_ RX4 cX4_placeOf 8 (some .int) 0 0 false EI_ 68 [some (.inr (4, some v0)), none, some (.inl v2), some (.inl v3), some (.inl v4), none, none, none] [.inl s1, .inl s0] g (f4_placeOf_b68 v0 v2 v3 v4 s0 s1 g) := by
  unfold f4_placeOf_b68
  refine k_icmpne (tgt := 75) dX4_placeOf_68 (by decide) (fun _ => ?_) (fun _ => ?_)
  · refine k_iconst (v := (1 : Int32)) dX4_placeOf_71 rfl ?_
    refine k_goto (tgt := 76) dX4_placeOf_72 (by decide) ?_
    exact t4_placeOf_b76 v0 v2 v3 v4 (1 : Int32) g
  refine k_iconst (v := (0 : Int32)) dX4_placeOf_75 rfl ?_
  exact t4_placeOf_b76 v0 v2 v3 v4 (0 : Int32) g
def f4_placeOf_b43 (v0 : Nat) (v2 : Int32) (v6 : Int32) (s0 : Int32) (g : GS_) : Option (Int32 × GS_) :=
  lr_ (s0 / (2 : Int32)) fun z1 => lr_ (jrem s0 (2 : Int32)) fun z2 => if z2 = 0 then f4_placeOf_b68 v0 v2 z1 z2 v6 (1 : Int32) g else f4_placeOf_b68 v0 v2 z1 z2 v6 (0 : Int32) g
theorem t4_placeOf_b43 (v0 : Nat) (v2 : Int32) (v6 : Int32) (s0 : Int32) (g : GS_) : K_ RX4 cX4_placeOf 8 (some .int) 0 0 false EI_ 43 [some (.inr (4, some v0)), none, some (.inl v2), none, none, none, some (.inl v6), none] [.inl s0] g (f4_placeOf_b43 v0 v2 v6 s0 g) := by
  unfold f4_placeOf_b43
  refine k_ist (L' := [some (.inr (4, some v0)), none, some (.inl v2), none, none, none, some (.inl v6), some (.inl s0)]) dX4_placeOf_43 (by decide) rfl ?_
  refine k_iload dX4_placeOf_45 rfl ?_
  refine k_iconst (v := (2 : Int32)) dX4_placeOf_47 rfl ?_
  refine k_idivc (by decide) dX4_placeOf_48 ?_
  refine k_istnl (j := 3) (L2 := fun z1 => [some (.inr (4, some v0)), none, some (.inl v2), some (.inl z1), none, none, some (.inl v6), some (.inl s0)]) dX4_placeOf_49 rfl (by decide) (fun _ => rfl) (fun z1 => ?_)
  refine k_iload dX4_placeOf_50 rfl ?_
  refine k_iconst (v := (2 : Int32)) dX4_placeOf_52 rfl ?_
  refine k_iremc (by decide) dX4_placeOf_53 ?_
  refine k_istl (L2 := fun z2 => [some (.inr (4, some v0)), none, some (.inl v2), some (.inl z1), some (.inl z2), none, some (.inl v6), some (.inl s0)]) dX4_placeOf_54 (by decide) (fun _ => rfl) (fun z2 => ?_)
  refine k_iload dX4_placeOf_56 rfl ?_
  refine k_iload dX4_placeOf_58 rfl ?_
  refine k_ifne (tgt := 67) dX4_placeOf_60 (by decide) (fun _ => ?_) (fun _ => ?_)
  · refine k_iconst (v := (1 : Int32)) dX4_placeOf_63 rfl ?_
    refine k_goto (tgt := 68) dX4_placeOf_64 (by decide) ?_
    refine k_msk (L' := [some (.inr (4, some v0)), none, some (.inl v2), some (.inl z1), some (.inl z2), none, none, none]) [true, true, true, true, true, true, false, false] rfl ?_
    exact t4_placeOf_b68 v0 v2 z1 z2 v6 (1 : Int32) g
  refine k_iconst (v := (0 : Int32)) dX4_placeOf_67 rfl ?_
  refine k_msk (L' := [some (.inr (4, some v0)), none, some (.inl v2), some (.inl z1), some (.inl z2), none, none, none]) [true, true, true, true, true, true, false, false] rfl ?_
  exact t4_placeOf_b68 v0 v2 z1 z2 v6 (0 : Int32) g
def f4_placeOf_b22 (v0 : Nat) (v1 : Int32) (v2 : Int32) (s0 : Int32) (g : GS_) : Option (Int32 × GS_) :=
  if s0 = 0 then f4_placeOf_b43 v0 v2 s0 ((((4 : Int32) * (gfi g 139 v0)) - (1 : Int32)) - v1) g else f4_placeOf_b43 v0 v2 s0 v1 g
theorem t4_placeOf_b22 (v0 : Nat) (v1 : Int32) (v2 : Int32) (s0 : Int32) (g : GS_) : K_ RX4 cX4_placeOf 8 (some .int) 0 0 false EI_ 22 [some (.inr (4, some v0)), some (.inl v1), some (.inl v2), none, none, none, none, none] [.inl s0] g (f4_placeOf_b22 v0 v1 v2 s0 g) := by
  unfold f4_placeOf_b22
  refine k_ist (L' := [some (.inr (4, some v0)), some (.inl v1), some (.inl v2), none, none, none, some (.inl s0), none]) dX4_placeOf_22 (by decide) rfl ?_
  refine k_iload dX4_placeOf_24 rfl ?_
  refine k_ifeq (tgt := 33) dX4_placeOf_26 (by decide) (fun _ => ?_) (fun _ => ?_)
  · refine k_iconst (v := (4 : Int32)) dX4_placeOf_33 rfl ?_
    refine k_aloadn (j := 0) dX4_placeOf_34 rfl rfl ?_
    refine k_geti fg_4_65 rfl rfl dX4_placeOf_35 ?_
    refine k_imul dX4_placeOf_38 ?_
    refine k_iconst (v := (1 : Int32)) dX4_placeOf_39 rfl ?_
    refine k_isub dX4_placeOf_40 ?_
    refine k_iloadn (j := 1) dX4_placeOf_41 rfl rfl ?_
    refine k_isub dX4_placeOf_42 ?_
    refine k_msk (L' := [some (.inr (4, some v0)), none, some (.inl v2), none, none, none, some (.inl s0), none]) [true, false, true, true, true, true, true, true] rfl ?_
    exact t4_placeOf_b43 v0 v2 s0 ((((4 : Int32) * (gfi g 139 v0)) - (1 : Int32)) - v1) g
  refine k_iloadn (j := 1) dX4_placeOf_29 rfl rfl ?_
  refine k_goto (tgt := 43) dX4_placeOf_30 (by decide) ?_
  refine k_msk (L' := [some (.inr (4, some v0)), none, some (.inl v2), none, none, none, some (.inl s0), none]) [true, false, true, true, true, true, true, true] rfl ?_
  exact t4_placeOf_b43 v0 v2 s0 v1 g
def f4_placeOf (v0 : Nat) (v1 : Int32) (v2 : Int32) (g : GS_) : Option (Int32 × GS_) :=
  if (gfi g 136 v0) = 0 then if (1 : Int32) ≤ (gfi g 138 v0) then if (gfi g 138 v0) = 0 then none else f4_placeOf_b99 v0 v1 v2 (v1 / (gfi g 138 v0)) g else f4_placeOf_b99 v0 v1 v2 (0 : Int32) g else if ((2 : Int32) * (gfi g 139 v0)) ≤ v1 then f4_placeOf_b22 v0 v1 v2 (0 : Int32) g else f4_placeOf_b22 v0 v1 v2 (1 : Int32) g
theorem t4_placeOf (v0 : Nat) (v1 : Int32) (v2 : Int32) (g : GS_) : Cn_ yX4_placeOf cX4_placeOf 8 (some .int) 0 0 EI_ [.inr (4, some v0), .inl v1, .inl v2] g (f4_placeOf v0 v1 v2 g) := by
  refine k_method (own := RX4) (ini := false) (L1 := [some (.inr (4, some v0)), some (.inl v1), some (.inl v2), none, none, none, none, none]) (by decide +kernel) rfl (fun h => by cases h) (Nat.le_of_ble_eq_true rfl) rfl ?_
  unfold f4_placeOf
  refine k_aloadn (j := 0) dX4_placeOf_0 rfl rfl ?_
  refine k_geti fg_4_55 rfl rfl dX4_placeOf_1 ?_
  refine k_ifeq (tgt := 81) dX4_placeOf_4 (by decide) (fun _ => ?_) (fun _ => ?_)
  · refine k_aloadn (j := 0) dX4_placeOf_81 rfl rfl ?_
    refine k_geti fg_4_62 rfl rfl dX4_placeOf_82 ?_
    refine k_iconst (v := (1 : Int32)) dX4_placeOf_85 rfl ?_
    refine k_icmpge (tgt := 93) dX4_placeOf_86 (by decide) (fun _ => ?_) (fun _ => ?_)
    · refine k_iloadn (j := 1) dX4_placeOf_93 rfl rfl ?_
      refine k_aloadn (j := 0) dX4_placeOf_94 rfl rfl ?_
      refine k_geti fg_4_62 rfl rfl dX4_placeOf_95 ?_
      refine k_idiv dX4_placeOf_98 (fun _ => ?_)
      exact t4_placeOf_b99 v0 v1 v2 (v1 / (gfi g 138 v0)) g
    refine k_iconst (v := (0 : Int32)) dX4_placeOf_89 rfl ?_
    refine k_goto (tgt := 99) dX4_placeOf_90 (by decide) ?_
    exact t4_placeOf_b99 v0 v1 v2 (0 : Int32) g
  refine k_iloadn (j := 1) dX4_placeOf_7 rfl rfl ?_
  refine k_iconst (v := (2 : Int32)) dX4_placeOf_8 rfl ?_
  refine k_aloadn (j := 0) dX4_placeOf_9 rfl rfl ?_
  refine k_geti fg_4_65 rfl rfl dX4_placeOf_10 ?_
  refine k_imul dX4_placeOf_13 ?_
  refine k_icmpge (tgt := 21) dX4_placeOf_14 (by decide) (fun _ => ?_) (fun _ => ?_)
  · refine k_iconst (v := (0 : Int32)) dX4_placeOf_21 rfl ?_
    exact t4_placeOf_b22 v0 v1 v2 (0 : Int32) g
  refine k_iconst (v := (1 : Int32)) dX4_placeOf_17 rfl ?_
  refine k_goto (tgt := 22) dX4_placeOf_18 (by decide) ?_
  exact t4_placeOf_b22 v0 v1 v2 (1 : Int32) g
theorem dX4_turnsBacks_0 : decode cX4_turnsBacks 0 = .ok (.aload_n 0, 1) := by decide +kernel
theorem dX4_turnsBacks_1 : decode cX4_turnsBacks 1 = .ok (.getfield 46, 3) := by decide +kernel
theorem dX4_turnsBacks_4 : decode cX4_turnsBacks 4 = .ok (.iconst 2, 1) := by decide +kernel
theorem dX4_turnsBacks_5 : decode cX4_turnsBacks 5 = .ok (.if_icmp .ne 7, 3) := by decide +kernel
theorem dX4_turnsBacks_8 : decode cX4_turnsBacks 8 = .ok (.iconst 1, 1) := by decide +kernel
theorem dX4_turnsBacks_9 : decode cX4_turnsBacks 9 = .ok (.goto 4, 3) := by decide +kernel
theorem dX4_turnsBacks_12 : decode cX4_turnsBacks 12 = .ok (.iconst 0, 1) := by decide +kernel
theorem dX4_turnsBacks_13 : decode cX4_turnsBacks 13 = .ok (.aload_n 0, 1) := by decide +kernel
theorem dX4_turnsBacks_14 : decode cX4_turnsBacks 14 = .ok (.getfield 55, 3) := by decide +kernel
theorem dX4_turnsBacks_17 : decode cX4_turnsBacks 17 = .ok (.if_icmp .eq 7, 3) := by decide +kernel
theorem dX4_turnsBacks_20 : decode cX4_turnsBacks 20 = .ok (.iconst 1, 1) := by decide +kernel
theorem dX4_turnsBacks_21 : decode cX4_turnsBacks 21 = .ok (.goto 4, 3) := by decide +kernel
theorem dX4_turnsBacks_24 : decode cX4_turnsBacks 24 = .ok (.iconst 0, 1) := by decide +kernel
theorem dX4_turnsBacks_25 : decode cX4_turnsBacks 25 = .ok (.ireturn, 1) := by decide +kernel
def f4_turnsBacks_b13 (v0 : Nat) (s0 : Int32) (g : GS_) : Option (Int32 × GS_) :=
  if s0 = (gfi g 136 v0) then some ((0 : Int32), g) else some ((1 : Int32), g)
theorem t4_turnsBacks_b13 (v0 : Nat) (s0 : Int32) (g : GS_) : K_ RX4 cX4_turnsBacks 1 (some .boolean) 0 0 false EI_ 13 [some (.inr (4, some v0))] [.inl s0] g (f4_turnsBacks_b13 v0 s0 g) := by
  unfold f4_turnsBacks_b13
  refine k_aloadn (j := 0) dX4_turnsBacks_13 rfl rfl ?_
  refine k_geti fg_4_55 rfl rfl dX4_turnsBacks_14 ?_
  refine k_icmpeq (tgt := 24) dX4_turnsBacks_17 (by decide) (fun _ => ?_) (fun _ => ?_)
  · refine k_iconst (v := (0 : Int32)) dX4_turnsBacks_24 rfl ?_
    exact k_zreturn rfl (by decide) dX4_turnsBacks_25
  refine k_iconst (v := (1 : Int32)) dX4_turnsBacks_20 rfl ?_
  refine k_goto (tgt := 25) dX4_turnsBacks_21 (by decide) ?_
  exact k_zreturn rfl (by decide) dX4_turnsBacks_25
def f4_turnsBacks (v0 : Nat) (g : GS_) : Option (Int32 × GS_) :=
  if (gfi g 133 v0) = (2 : Int32) then f4_turnsBacks_b13 v0 (1 : Int32) g else f4_turnsBacks_b13 v0 (0 : Int32) g
theorem t4_turnsBacks (v0 : Nat) (g : GS_) : Cn_ yX4_turnsBacks cX4_turnsBacks 1 (some .boolean) 0 0 EI_ [.inr (4, some v0)] g (f4_turnsBacks v0 g) := by
  refine k_method (own := RX4) (ini := false) (L1 := [some (.inr (4, some v0))]) (by decide +kernel) rfl (fun h => by cases h) (Nat.le_of_ble_eq_true rfl) rfl ?_
  unfold f4_turnsBacks
  refine k_aloadn (j := 0) dX4_turnsBacks_0 rfl rfl ?_
  refine k_geti fg_4_46 rfl rfl dX4_turnsBacks_1 ?_
  refine k_iconst (v := (2 : Int32)) dX4_turnsBacks_4 rfl ?_
  refine k_icmpne (tgt := 12) dX4_turnsBacks_5 (by decide) (fun _ => ?_) (fun _ => ?_)
  · refine k_iconst (v := (1 : Int32)) dX4_turnsBacks_8 rfl ?_
    refine k_goto (tgt := 13) dX4_turnsBacks_9 (by decide) ?_
    exact t4_turnsBacks_b13 v0 (1 : Int32) g
  refine k_iconst (v := (0 : Int32)) dX4_turnsBacks_12 rfl ?_
  exact t4_turnsBacks_b13 v0 (0 : Int32) g
theorem dX5_init_0 : decode cX5_init 0 = .ok (.aload_n 0, 1) := by decide +kernel
theorem dX5_init_1 : decode cX5_init 1 = .ok (.invokespecial 3, 3) := by decide +kernel
theorem dX5_init_4 : decode cX5_init 4 = .ok (.aload_n 0, 1) := by decide +kernel
theorem dX5_init_5 : decode cX5_init 5 = .ok (.iconst 1, 1) := by decide +kernel
theorem dX5_init_6 : decode cX5_init 6 = .ok (.putfield 9, 3) := by decide +kernel
theorem dX5_init_9 : decode cX5_init 9 = .ok (.aload_n 0, 1) := by decide +kernel
theorem dX5_init_10 : decode cX5_init 10 = .ok (.iconst 1, 1) := by decide +kernel
theorem dX5_init_11 : decode cX5_init 11 = .ok (.putfield 15, 3) := by decide +kernel
theorem dX5_init_14 : decode cX5_init 14 = .ok (.aload_n 0, 1) := by decide +kernel
theorem dX5_init_15 : decode cX5_init 15 = .ok (.iconst 0, 1) := by decide +kernel
theorem dX5_init_16 : decode cX5_init 16 = .ok (.putfield 18, 3) := by decide +kernel
theorem dX5_init_19 : decode cX5_init 19 = .ok (.aload_n 0, 1) := by decide +kernel
theorem dX5_init_20 : decode cX5_init 20 = .ok (.iconst 3, 1) := by decide +kernel
theorem dX5_init_21 : decode cX5_init 21 = .ok (.newarray .int, 2) := by decide +kernel
theorem dX5_init_23 : decode cX5_init 23 = .ok (.putfield 22, 3) := by decide +kernel
theorem dX5_init_26 : decode cX5_init 26 = .ok (.aload_n 0, 1) := by decide +kernel
theorem dX5_init_27 : decode cX5_init 27 = .ok (.iconst 0, 1) := by decide +kernel
theorem dX5_init_28 : decode cX5_init 28 = .ok (.putfield 26, 3) := by decide +kernel
theorem dX5_init_31 : decode cX5_init 31 = .ok (.aload_n 0, 1) := by decide +kernel
theorem dX5_init_32 : decode cX5_init 32 = .ok (.bipush (-6), 2) := by decide +kernel
theorem dX5_init_34 : decode cX5_init 34 = .ok (.putfield 29, 3) := by decide +kernel
theorem dX5_init_37 : decode cX5_init 37 = .ok (.aload_n 0, 1) := by decide +kernel
theorem dX5_init_38 : decode cX5_init 38 = .ok (.iconst 0, 1) := by decide +kernel
theorem dX5_init_39 : decode cX5_init 39 = .ok (.putfield 32, 3) := by decide +kernel
theorem dX5_init_42 : decode cX5_init 42 = .ok (.aload_n 0, 1) := by decide +kernel
theorem dX5_init_43 : decode cX5_init 43 = .ok (.iconst 0, 1) := by decide +kernel
theorem dX5_init_44 : decode cX5_init 44 = .ok (.putfield 35, 3) := by decide +kernel
theorem dX5_init_47 : decode cX5_init 47 = .ok (.return_, 1) := by decide +kernel
def f5_init (v0 : Nat) (g : GS_) : Option (Unit × GS_) :=
  lr_ (sfi g 160 v0 (1 : Int32)) fun g1 => lr_ (sfi g1 161 v0 (1 : Int32)) fun g2 => lr_ (sfi g2 162 v0 (0 : Int32)) fun g3 => na_ g3 20 (3 : Int32) fun a4 g5 => lr_ (sfr g5 163 v0 (some a4)) fun g6 => lr_ (sfi g6 164 v0 (0 : Int32)) fun g7 => lr_ (sfi g7 165 v0 (-6 : Int32)) fun g8 => lr_ (sfi g8 166 v0 (0 : Int32)) fun g9 => lr_ (sfi g9 167 v0 (0 : Int32)) fun g10 => some ((), g10)
theorem t5_init (v0 : Nat) (g : GS_) : Cn_ yX5_init cX5_init 1 none 1 12 EV_ [.inr (5, some v0)] g (f5_init v0 g) := by
  refine k_method (own := RX5) (ini := true) (L1 := [some (.inr (5, some v0))]) (by decide +kernel) rfl (fun _ => rfl) (Nat.le_of_ble_eq_true rfl) rfl ?_
  unfold f5_init
  refine k_aloadn (j := 0) dX5_init_0 rfl rfl ?_
  refine k_objInit ml_5_3 oi_.1 oi_.2 (by decide) (Nat.le_of_ble_eq_true rfl) dX5_init_1 ?_
  refine k_aloadn (j := 0) dX5_init_4 rfl rfl ?_
  refine k_iconst (v := (1 : Int32)) dX5_init_5 rfl ?_
  refine k_puti fp_5_9 rfl rfl dX5_init_6 (fun g1 => ?_)
  refine k_aloadn (j := 0) dX5_init_9 rfl rfl ?_
  refine k_iconst (v := (1 : Int32)) dX5_init_10 rfl ?_
  refine k_puti fp_5_15 rfl rfl dX5_init_11 (fun g2 => ?_)
  refine k_aloadn (j := 0) dX5_init_14 rfl rfl ?_
  refine k_iconst (v := (0 : Int32)) dX5_init_15 rfl ?_
  refine k_putz fp_5_18 rfl rfl (by decide) dX5_init_16 (fun g3 => ?_)
  refine k_aloadn (j := 0) dX5_init_19 rfl rfl ?_
  refine k_iconst (v := (3 : Int32)) dX5_init_20 rfl ?_
  refine k_newa ac_20 dX5_init_21 (fun a4 g5 => ?_)
  refine k_putfr fp_5_22 ty_arr rfl rfl rfl dX5_init_23 (fun g6 => ?_)
  refine k_aloadn (j := 0) dX5_init_26 rfl rfl ?_
  refine k_iconst (v := (0 : Int32)) dX5_init_27 rfl ?_
  refine k_puti fp_5_26 rfl rfl dX5_init_28 (fun g7 => ?_)
  refine k_aloadn (j := 0) dX5_init_31 rfl rfl ?_
  refine k_bipush (v := (-6 : Int32)) dX5_init_32 rfl ?_
  refine k_puti fp_5_29 rfl rfl dX5_init_34 (fun g8 => ?_)
  refine k_aloadn (j := 0) dX5_init_37 rfl rfl ?_
  refine k_iconst (v := (0 : Int32)) dX5_init_38 rfl ?_
  refine k_puti fp_5_32 rfl rfl dX5_init_39 (fun g9 => ?_)
  refine k_aloadn (j := 0) dX5_init_42 rfl rfl ?_
  refine k_iconst (v := (0 : Int32)) dX5_init_43 rfl ?_
  refine k_puti fp_5_35 rfl rfl dX5_init_44 (fun g10 => ?_)
  exact k_return rfl dX5_init_47
theorem dX5_beginLife_0 : decode cX5_beginLife 0 = .ok (.aload_n 0, 1) := by decide +kernel
theorem dX5_beginLife_1 : decode cX5_beginLife 1 = .ok (.iload_n 1, 1) := by decide +kernel
theorem dX5_beginLife_2 : decode cX5_beginLife 2 = .ok (.putfield 9, 3) := by decide +kernel
theorem dX5_beginLife_5 : decode cX5_beginLife 5 = .ok (.aload_n 0, 1) := by decide +kernel
theorem dX5_beginLife_6 : decode cX5_beginLife 6 = .ok (.iload_n 2, 1) := by decide +kernel
theorem dX5_beginLife_7 : decode cX5_beginLife 7 = .ok (.putfield 15, 3) := by decide +kernel
theorem dX5_beginLife_10 : decode cX5_beginLife 10 = .ok (.aload_n 0, 1) := by decide +kernel
theorem dX5_beginLife_11 : decode cX5_beginLife 11 = .ok (.iload_n 3, 1) := by decide +kernel
theorem dX5_beginLife_12 : decode cX5_beginLife 12 = .ok (.putfield 18, 3) := by decide +kernel
theorem dX5_beginLife_15 : decode cX5_beginLife 15 = .ok (.iconst 0, 1) := by decide +kernel
theorem dX5_beginLife_16 : decode cX5_beginLife 16 = .ok (.istore 4, 2) := by decide +kernel
theorem dX5_beginLife_18 : decode cX5_beginLife 18 = .ok (.iload 4, 2) := by decide +kernel
theorem dX5_beginLife_20 : decode cX5_beginLife 20 = .ok (.aload_n 0, 1) := by decide +kernel
theorem dX5_beginLife_21 : decode cX5_beginLife 21 = .ok (.getfield 22, 3) := by decide +kernel
theorem dX5_beginLife_24 : decode cX5_beginLife 24 = .ok (.arraylength, 1) := by decide +kernel
theorem dX5_beginLife_25 : decode cX5_beginLife 25 = .ok (.if_icmp .ge 17, 3) := by decide +kernel
theorem dX5_beginLife_28 : decode cX5_beginLife 28 = .ok (.aload_n 0, 1) := by decide +kernel
theorem dX5_beginLife_29 : decode cX5_beginLife 29 = .ok (.getfield 22, 3) := by decide +kernel
theorem dX5_beginLife_32 : decode cX5_beginLife 32 = .ok (.iload 4, 2) := by decide +kernel
theorem dX5_beginLife_34 : decode cX5_beginLife 34 = .ok (.iconst 0, 1) := by decide +kernel
theorem dX5_beginLife_35 : decode cX5_beginLife 35 = .ok (.iastore, 1) := by decide +kernel
theorem dX5_beginLife_36 : decode cX5_beginLife 36 = .ok (.iinc 4 1, 3) := by decide +kernel
theorem dX5_beginLife_39 : decode cX5_beginLife 39 = .ok (.goto (-21), 3) := by decide +kernel
theorem dX5_beginLife_42 : decode cX5_beginLife 42 = .ok (.aload_n 0, 1) := by decide +kernel
theorem dX5_beginLife_43 : decode cX5_beginLife 43 = .ok (.iconst 0, 1) := by decide +kernel
theorem dX5_beginLife_44 : decode cX5_beginLife 44 = .ok (.putfield 26, 3) := by decide +kernel
theorem dX5_beginLife_47 : decode cX5_beginLife 47 = .ok (.aload_n 0, 1) := by decide +kernel
theorem dX5_beginLife_48 : decode cX5_beginLife 48 = .ok (.bipush (-6), 2) := by decide +kernel
theorem dX5_beginLife_50 : decode cX5_beginLife 50 = .ok (.putfield 29, 3) := by decide +kernel
theorem dX5_beginLife_53 : decode cX5_beginLife 53 = .ok (.aload_n 0, 1) := by decide +kernel
theorem dX5_beginLife_54 : decode cX5_beginLife 54 = .ok (.iconst 0, 1) := by decide +kernel
theorem dX5_beginLife_55 : decode cX5_beginLife 55 = .ok (.putfield 32, 3) := by decide +kernel
theorem dX5_beginLife_58 : decode cX5_beginLife 58 = .ok (.aload_n 0, 1) := by decide +kernel
theorem dX5_beginLife_59 : decode cX5_beginLife 59 = .ok (.iconst 0, 1) := by decide +kernel
theorem dX5_beginLife_60 : decode cX5_beginLife 60 = .ok (.putfield 35, 3) := by decide +kernel
theorem dX5_beginLife_63 : decode cX5_beginLife 63 = .ok (.return_, 1) := by decide +kernel
def f5_beginLife_b18 : Nat → Nat → Int32 → GS_ → Option (Unit × GS_)
  | 0, _, _, _ => none
  | n + 1, v0, v4, g =>
    lr_ (gfr g 163 v0) fun x1 => oc_ x1 none fun a2 => if (Int32.ofNat (gln g 20 a2)) ≤ v4 then lr_ (sfi g 164 v0 (0 : Int32)) fun g3 => lr_ (sfi g3 165 v0 (-6 : Int32)) fun g4 => lr_ (sfi g4 166 v0 (0 : Int32)) fun g5 => lr_ (sfi g5 167 v0 (0 : Int32)) fun g6 => some ((), g6) else lr_ (gfr g 163 v0) fun x7 => oc_ x7 none fun a8 => if inb v4 (gln g 20 a8) then lr_ (sai g 20 a8 v4.toInt.toNat (0 : Int32)) (fun g9 => (f5_beginLife_b18 n) v0 (v4 + (1 : Int32)) g9) else none
theorem t5_beginLife_b18 : ∀ (n : Nat) (v0 : Nat) (v4 : Int32) (g : GS_), K_ RX5 cX5_beginLife 5 none 0 0 false EV_ 18 [some (.inr (5, some v0)), none, none, none, some (.inl v4)] [] g (f5_beginLife_b18 n v0 v4 g) := by
  intro n
  induction n with
  | zero =>
    intro v0 v4 g
    exact k_fail
  | succ n ih =>
    intro v0 v4 g
    show K_ RX5 cX5_beginLife 5 none 0 0 false EV_ 18 [some (.inr (5, some v0)), none, none, none, some (.inl v4)] [] g (lr_ (gfr g 163 v0) fun x1 => oc_ x1 none fun a2 => if (Int32.ofNat (gln g 20 a2)) ≤ v4 then lr_ (sfi g 164 v0 (0 : Int32)) fun g3 => lr_ (sfi g3 165 v0 (-6 : Int32)) fun g4 => lr_ (sfi g4 166 v0 (0 : Int32)) fun g5 => lr_ (sfi g5 167 v0 (0 : Int32)) fun g6 => some ((), g6) else lr_ (gfr g 163 v0) fun x7 => oc_ x7 none fun a8 => if inb v4 (gln g 20 a8) then lr_ (sai g 20 a8 v4.toInt.toNat (0 : Int32)) (fun g9 => (f5_beginLife_b18 n) v0 (v4 + (1 : Int32)) g9) else none)
    refine k_iload dX5_beginLife_18 rfl ?_
    refine k_aloadn (j := 0) dX5_beginLife_20 rfl rfl ?_
    refine k_getr fg_5_22 rfl rfl dX5_beginLife_21 (fun x1 => ?_)
    rcases x1 with _ | a2
    · exact k_ocn
    refine k_ocs ?_
    refine k_alen dX5_beginLife_24 (by decide) ?_
    refine k_icmpge (tgt := 42) dX5_beginLife_25 (by decide) (fun _ => ?_) (fun _ => ?_)
    · refine k_aloadn (j := 0) dX5_beginLife_42 rfl rfl ?_
      refine k_iconst (v := (0 : Int32)) dX5_beginLife_43 rfl ?_
      refine k_puti fp_5_26 rfl rfl dX5_beginLife_44 (fun g3 => ?_)
      refine k_aloadn (j := 0) dX5_beginLife_47 rfl rfl ?_
      refine k_bipush (v := (-6 : Int32)) dX5_beginLife_48 rfl ?_
      refine k_puti fp_5_29 rfl rfl dX5_beginLife_50 (fun g4 => ?_)
      refine k_aloadn (j := 0) dX5_beginLife_53 rfl rfl ?_
      refine k_iconst (v := (0 : Int32)) dX5_beginLife_54 rfl ?_
      refine k_puti fp_5_32 rfl rfl dX5_beginLife_55 (fun g5 => ?_)
      refine k_aloadn (j := 0) dX5_beginLife_58 rfl rfl ?_
      refine k_iconst (v := (0 : Int32)) dX5_beginLife_59 rfl ?_
      refine k_puti fp_5_35 rfl rfl dX5_beginLife_60 (fun g6 => ?_)
      exact k_return rfl dX5_beginLife_63
    refine k_aloadn (j := 0) dX5_beginLife_28 rfl rfl ?_
    refine k_getr fg_5_22 rfl rfl dX5_beginLife_29 (fun x7 => ?_)
    refine k_iload dX5_beginLife_32 rfl ?_
    refine k_iconst (v := (0 : Int32)) dX5_beginLife_34 rfl ?_
    rcases x7 with _ | a8
    · exact k_ocn
    refine k_ocs ?_
    refine k_iast dX5_beginLife_35 (fun g9 => ?_)
    refine k_iinc (v := (v4 + (1 : Int32))) (L' := [some (.inr (5, some v0)), none, none, none, some (.inl (v4 + (1 : Int32)))]) dX5_beginLife_36 rfl rfl (by decide) rfl ?_
    refine k_goto (tgt := 18) dX5_beginLife_39 (by decide) ?_
    exact ih v0 (v4 + (1 : Int32)) g9
def f5_beginLife (v0 : Nat) (v1 : Int32) (v2 : Int32) (v3 : Int32) (g : GS_) : Option (Unit × GS_) :=
  lr_ (sfi g 160 v0 v1) fun g10 => lr_ (sfi g10 161 v0 v2) fun g11 => if v3 = 0 ∨ v3 = 1 then lr_ (sfi g11 162 v0 v3) (fun g12 => f5_beginLife_b18 FU_ v0 (0 : Int32) g12) else none
theorem t5_beginLife (v0 : Nat) (v1 : Int32) (v2 : Int32) (v3 : Int32) (g : GS_) : Cn_ yX5_beginLife cX5_beginLife 5 none 0 0 EV_ [.inr (5, some v0), .inl v1, .inl v2, .inl v3] g (f5_beginLife v0 v1 v2 v3 g) := by
  refine k_method (own := RX5) (ini := false) (L1 := [some (.inr (5, some v0)), some (.inl v1), some (.inl v2), some (.inl v3), none]) (by decide +kernel) rfl (fun h => by cases h) (Nat.le_of_ble_eq_true rfl) rfl ?_
  unfold f5_beginLife
  refine k_aloadn (j := 0) dX5_beginLife_0 rfl rfl ?_
  refine k_iloadn (j := 1) dX5_beginLife_1 rfl rfl ?_
  refine k_puti fp_5_9 rfl rfl dX5_beginLife_2 (fun g10 => ?_)
  refine k_aloadn (j := 0) dX5_beginLife_5 rfl rfl ?_
  refine k_iloadn (j := 2) dX5_beginLife_6 rfl rfl ?_
  refine k_puti fp_5_15 rfl rfl dX5_beginLife_7 (fun g11 => ?_)
  refine k_aloadn (j := 0) dX5_beginLife_10 rfl rfl ?_
  refine k_iloadn (j := 3) dX5_beginLife_11 rfl rfl ?_
  refine k_putzc fp_5_18 rfl rfl dX5_beginLife_12 (fun g12 => ?_)
  refine k_iconst (v := (0 : Int32)) dX5_beginLife_15 rfl ?_
  refine k_ist (L' := [some (.inr (5, some v0)), some (.inl v1), some (.inl v2), some (.inl v3), some (.inl (0 : Int32))]) dX5_beginLife_16 (by decide) rfl ?_
  refine k_msk (L' := [some (.inr (5, some v0)), none, none, none, some (.inl (0 : Int32))]) [true, false, false, false, true] rfl ?_
  exact t5_beginLife_b18 FU_ v0 (0 : Int32) g12
theorem dX5_sheetsIn_0 : decode cX5_sheetsIn 0 = .ok (.iload_n 1, 1) := by decide +kernel
theorem dX5_sheetsIn_1 : decode cX5_sheetsIn 1 = .ok (.ifCond .lt 21, 3) := by decide +kernel
theorem dX5_sheetsIn_4 : decode cX5_sheetsIn 4 = .ok (.iload_n 1, 1) := by decide +kernel
theorem dX5_sheetsIn_5 : decode cX5_sheetsIn 5 = .ok (.aload_n 0, 1) := by decide +kernel
theorem dX5_sheetsIn_6 : decode cX5_sheetsIn 6 = .ok (.getfield 22, 3) := by decide +kernel
theorem dX5_sheetsIn_9 : decode cX5_sheetsIn 9 = .ok (.arraylength, 1) := by decide +kernel
theorem dX5_sheetsIn_10 : decode cX5_sheetsIn 10 = .ok (.if_icmp .ge 12, 3) := by decide +kernel
theorem dX5_sheetsIn_13 : decode cX5_sheetsIn 13 = .ok (.aload_n 0, 1) := by decide +kernel
theorem dX5_sheetsIn_14 : decode cX5_sheetsIn 14 = .ok (.getfield 22, 3) := by decide +kernel
theorem dX5_sheetsIn_17 : decode cX5_sheetsIn 17 = .ok (.iload_n 1, 1) := by decide +kernel
theorem dX5_sheetsIn_18 : decode cX5_sheetsIn 18 = .ok (.iaload, 1) := by decide +kernel
theorem dX5_sheetsIn_19 : decode cX5_sheetsIn 19 = .ok (.goto 4, 3) := by decide +kernel
theorem dX5_sheetsIn_22 : decode cX5_sheetsIn 22 = .ok (.iconst 0, 1) := by decide +kernel
theorem dX5_sheetsIn_23 : decode cX5_sheetsIn 23 = .ok (.ireturn, 1) := by decide +kernel
def f5_sheetsIn_b22 (g : GS_) : Option (Int32 × GS_) :=
  some ((0 : Int32), g)
theorem t5_sheetsIn_b22 (g : GS_) : K_ RX5 cX5_sheetsIn 2 (some .int) 0 0 false EI_ 22 [none, none] [] g (f5_sheetsIn_b22 g) := by
  unfold f5_sheetsIn_b22
  refine k_iconst (v := (0 : Int32)) dX5_sheetsIn_22 rfl ?_
  exact k_ireturn rfl dX5_sheetsIn_23
def f5_sheetsIn (v0 : Nat) (v1 : Int32) (g : GS_) : Option (Int32 × GS_) :=
  if v1 < 0 then f5_sheetsIn_b22 g else lr_ (gfr g 163 v0) fun x1 => oc_ x1 none fun a2 => if (Int32.ofNat (gln g 20 a2)) ≤ v1 then f5_sheetsIn_b22 g else lr_ (gfr g 163 v0) fun x3 => oc_ x3 none fun a4 => if inb v1 (gln g 20 a4) then some ((gai g 20 a4 v1.toInt.toNat), g) else none
theorem t5_sheetsIn (v0 : Nat) (v1 : Int32) (g : GS_) : Cn_ yX5_sheetsIn cX5_sheetsIn 2 (some .int) 0 0 EI_ [.inr (5, some v0), .inl v1] g (f5_sheetsIn v0 v1 g) := by
  refine k_method (own := RX5) (ini := false) (L1 := [some (.inr (5, some v0)), some (.inl v1)]) (by decide +kernel) rfl (fun h => by cases h) (Nat.le_of_ble_eq_true rfl) rfl ?_
  unfold f5_sheetsIn
  refine k_iloadn (j := 1) dX5_sheetsIn_0 rfl rfl ?_
  refine k_iflt (tgt := 22) dX5_sheetsIn_1 (by decide) (fun _ => ?_) (fun _ => ?_)
  · refine k_msk (L' := [none, none]) [false, false] rfl ?_
    exact t5_sheetsIn_b22 g
  refine k_iloadn (j := 1) dX5_sheetsIn_4 rfl rfl ?_
  refine k_aloadn (j := 0) dX5_sheetsIn_5 rfl rfl ?_
  refine k_getr fg_5_22 rfl rfl dX5_sheetsIn_6 (fun x1 => ?_)
  rcases x1 with _ | a2
  · exact k_ocn
  refine k_ocs ?_
  refine k_alen dX5_sheetsIn_9 (by decide) ?_
  refine k_icmpge (tgt := 22) dX5_sheetsIn_10 (by decide) (fun _ => ?_) (fun _ => ?_)
  · refine k_msk (L' := [none, none]) [false, false] rfl ?_
    exact t5_sheetsIn_b22 g
  refine k_aloadn (j := 0) dX5_sheetsIn_13 rfl rfl ?_
  refine k_getr fg_5_22 rfl rfl dX5_sheetsIn_14 (fun x3 => ?_)
  refine k_iloadn (j := 1) dX5_sheetsIn_17 rfl rfl ?_
  rcases x3 with _ | a4
  · exact k_ocn
  refine k_ocs ?_
  refine k_iald dX5_sheetsIn_18 ?_
  refine k_goto (tgt := 23) dX5_sheetsIn_19 (by decide) ?_
  exact k_ireturn rfl dX5_sheetsIn_23
theorem dX5_changeTray_0 : decode cX5_changeTray 0 = .ok (.iload_n 1, 1) := by decide +kernel
theorem dX5_changeTray_1 : decode cX5_changeTray 1 = .ok (.ifCond .lt 19, 3) := by decide +kernel
theorem dX5_changeTray_4 : decode cX5_changeTray 4 = .ok (.iload_n 1, 1) := by decide +kernel
theorem dX5_changeTray_5 : decode cX5_changeTray 5 = .ok (.aload_n 0, 1) := by decide +kernel
theorem dX5_changeTray_6 : decode cX5_changeTray 6 = .ok (.getfield 22, 3) := by decide +kernel
theorem dX5_changeTray_9 : decode cX5_changeTray 9 = .ok (.arraylength, 1) := by decide +kernel
theorem dX5_changeTray_10 : decode cX5_changeTray 10 = .ok (.if_icmp .ge 10, 3) := by decide +kernel
theorem dX5_changeTray_13 : decode cX5_changeTray 13 = .ok (.aload_n 0, 1) := by decide +kernel
theorem dX5_changeTray_14 : decode cX5_changeTray 14 = .ok (.getfield 22, 3) := by decide +kernel
theorem dX5_changeTray_17 : decode cX5_changeTray 17 = .ok (.iload_n 1, 1) := by decide +kernel
theorem dX5_changeTray_18 : decode cX5_changeTray 18 = .ok (.iload_n 2, 1) := by decide +kernel
theorem dX5_changeTray_19 : decode cX5_changeTray 19 = .ok (.iastore, 1) := by decide +kernel
theorem dX5_changeTray_20 : decode cX5_changeTray 20 = .ok (.return_, 1) := by decide +kernel
def f5_changeTray (v0 : Nat) (v1 : Int32) (v2 : Int32) (g : GS_) : Option (Unit × GS_) :=
  if v1 < 0 then some ((), g) else lr_ (gfr g 163 v0) fun x1 => oc_ x1 none fun a2 => if (Int32.ofNat (gln g 20 a2)) ≤ v1 then some ((), g) else lr_ (gfr g 163 v0) fun x3 => oc_ x3 none fun a4 => if inb v1 (gln g 20 a4) then lr_ (sai g 20 a4 v1.toInt.toNat v2) (fun g5 => some ((), g5)) else none
theorem t5_changeTray (v0 : Nat) (v1 : Int32) (v2 : Int32) (g : GS_) : Cn_ yX5_changeTray cX5_changeTray 3 none 0 0 EV_ [.inr (5, some v0), .inl v1, .inl v2] g (f5_changeTray v0 v1 v2 g) := by
  refine k_method (own := RX5) (ini := false) (L1 := [some (.inr (5, some v0)), some (.inl v1), some (.inl v2)]) (by decide +kernel) rfl (fun h => by cases h) (Nat.le_of_ble_eq_true rfl) rfl ?_
  unfold f5_changeTray
  refine k_iloadn (j := 1) dX5_changeTray_0 rfl rfl ?_
  refine k_iflt (tgt := 20) dX5_changeTray_1 (by decide) (fun _ => ?_) (fun _ => ?_)
  · exact k_return rfl dX5_changeTray_20
  refine k_iloadn (j := 1) dX5_changeTray_4 rfl rfl ?_
  refine k_aloadn (j := 0) dX5_changeTray_5 rfl rfl ?_
  refine k_getr fg_5_22 rfl rfl dX5_changeTray_6 (fun x1 => ?_)
  rcases x1 with _ | a2
  · exact k_ocn
  refine k_ocs ?_
  refine k_alen dX5_changeTray_9 (by decide) ?_
  refine k_icmpge (tgt := 20) dX5_changeTray_10 (by decide) (fun _ => ?_) (fun _ => ?_)
  · exact k_return rfl dX5_changeTray_20
  refine k_aloadn (j := 0) dX5_changeTray_13 rfl rfl ?_
  refine k_getr fg_5_22 rfl rfl dX5_changeTray_14 (fun x3 => ?_)
  refine k_iloadn (j := 1) dX5_changeTray_17 rfl rfl ?_
  refine k_iloadn (j := 2) dX5_changeTray_18 rfl rfl ?_
  rcases x3 with _ | a4
  · exact k_ocn
  refine k_ocs ?_
  refine k_iast dX5_changeTray_19 (fun g5 => ?_)
  exact k_return rfl dX5_changeTray_20
theorem dX5_isCoarse_0 : decode cX5_isCoarse 0 = .ok (.iload_n 1, 1) := by decide +kernel
theorem dX5_isCoarse_1 : decode cX5_isCoarse 1 = .ok (.iconst (-1), 1) := by decide +kernel
theorem dX5_isCoarse_2 : decode cX5_isCoarse 2 = .ok (.if_icmp .eq 25, 3) := by decide +kernel
theorem dX5_isCoarse_5 : decode cX5_isCoarse 5 = .ok (.iconst 2, 1) := by decide +kernel
theorem dX5_isCoarse_6 : decode cX5_isCoarse 6 = .ok (.iload_n 1, 1) := by decide +kernel
theorem dX5_isCoarse_7 : decode cX5_isCoarse 7 = .ok (.bipush 16, 2) := by decide +kernel
theorem dX5_isCoarse_9 : decode cX5_isCoarse 9 = .ok (.iadd, 1) := by decide +kernel
theorem dX5_isCoarse_10 : decode cX5_isCoarse 10 = .ok (.iconst 1, 1) := by decide +kernel
theorem dX5_isCoarse_11 : decode cX5_isCoarse 11 = .ok (.isub, 1) := by decide +kernel
theorem dX5_isCoarse_12 : decode cX5_isCoarse 12 = .ok (.bipush 16, 2) := by decide +kernel
theorem dX5_isCoarse_14 : decode cX5_isCoarse 14 = .ok (.idiv, 1) := by decide +kernel
theorem dX5_isCoarse_15 : decode cX5_isCoarse 15 = .ok (.imul, 1) := by decide +kernel
theorem dX5_isCoarse_16 : decode cX5_isCoarse 16 = .ok (.aload_n 0, 1) := by decide +kernel
theorem dX5_isCoarse_17 : decode cX5_isCoarse 17 = .ok (.getfield 15, 3) := by decide +kernel
theorem dX5_isCoarse_20 : decode cX5_isCoarse 20 = .ok (.if_icmp .le 7, 3) := by decide +kernel
theorem dX5_isCoarse_23 : decode cX5_isCoarse 23 = .ok (.iconst 1, 1) := by decide +kernel
theorem dX5_isCoarse_24 : decode cX5_isCoarse 24 = .ok (.goto 4, 3) := by decide +kernel
theorem dX5_isCoarse_27 : decode cX5_isCoarse 27 = .ok (.iconst 0, 1) := by decide +kernel
theorem dX5_isCoarse_28 : decode cX5_isCoarse 28 = .ok (.ireturn, 1) := by decide +kernel
def f5_isCoarse_b27 (g : GS_) : Option (Int32 × GS_) :=
  some ((0 : Int32), g)
theorem t5_isCoarse_b27 (g : GS_) : K_ RX5 cX5_isCoarse 2 (some .boolean) 0 0 false EI_ 27 [none, none] [] g (f5_isCoarse_b27 g) := by
  unfold f5_isCoarse_b27
  refine k_iconst (v := (0 : Int32)) dX5_isCoarse_27 rfl ?_
  exact k_zreturn rfl (by decide) dX5_isCoarse_28
def f5_isCoarse (v0 : Nat) (v1 : Int32) (g : GS_) : Option (Int32 × GS_) :=
  if v1 = (-1 : Int32) then f5_isCoarse_b27 g else if ((2 : Int32) * (((v1 + (16 : Int32)) - (1 : Int32)) / (16 : Int32))) ≤ (gfi g 161 v0) then f5_isCoarse_b27 g else some ((1 : Int32), g)
theorem t5_isCoarse (v0 : Nat) (v1 : Int32) (g : GS_) : Cn_ yX5_isCoarse cX5_isCoarse 2 (some .boolean) 0 0 EI_ [.inr (5, some v0), .inl v1] g (f5_isCoarse v0 v1 g) := by
  refine k_method (own := RX5) (ini := false) (L1 := [some (.inr (5, some v0)), some (.inl v1)]) (by decide +kernel) rfl (fun h => by cases h) (Nat.le_of_ble_eq_true rfl) rfl ?_
  unfold f5_isCoarse
  refine k_iloadn (j := 1) dX5_isCoarse_0 rfl rfl ?_
  refine k_iconst (v := (-1 : Int32)) dX5_isCoarse_1 rfl ?_
  refine k_icmpeq (tgt := 27) dX5_isCoarse_2 (by decide) (fun _ => ?_) (fun _ => ?_)
  · refine k_msk (L' := [none, none]) [false, false] rfl ?_
    exact t5_isCoarse_b27 g
  refine k_iconst (v := (2 : Int32)) dX5_isCoarse_5 rfl ?_
  refine k_iloadn (j := 1) dX5_isCoarse_6 rfl rfl ?_
  refine k_bipush (v := (16 : Int32)) dX5_isCoarse_7 rfl ?_
  refine k_iadd dX5_isCoarse_9 ?_
  refine k_iconst (v := (1 : Int32)) dX5_isCoarse_10 rfl ?_
  refine k_isub dX5_isCoarse_11 ?_
  refine k_bipush (v := (16 : Int32)) dX5_isCoarse_12 rfl ?_
  refine k_idivc (by decide) dX5_isCoarse_14 ?_
  refine k_imul dX5_isCoarse_15 ?_
  refine k_aloadn (j := 0) dX5_isCoarse_16 rfl rfl ?_
  refine k_geti fg_5_15 rfl rfl dX5_isCoarse_17 ?_
  refine k_icmple (tgt := 27) dX5_isCoarse_20 (by decide) (fun _ => ?_) (fun _ => ?_)
  · refine k_msk (L' := [none, none]) [false, false] rfl ?_
    exact t5_isCoarse_b27 g
  refine k_iconst (v := (1 : Int32)) dX5_isCoarse_23 rfl ?_
  refine k_goto (tgt := 28) dX5_isCoarse_24 (by decide) ?_
  exact k_zreturn rfl (by decide) dX5_isCoarse_28
theorem dX5_bandsFor_0 : decode cX5_bandsFor 0 = .ok (.iload_n 1, 1) := by decide +kernel
theorem dX5_bandsFor_1 : decode cX5_bandsFor 1 = .ok (.iconst (-1), 1) := by decide +kernel
theorem dX5_bandsFor_2 : decode cX5_bandsFor 2 = .ok (.if_icmp .ne 5, 3) := by decide +kernel
theorem dX5_bandsFor_5 : decode cX5_bandsFor 5 = .ok (.iconst 0, 1) := by decide +kernel
theorem dX5_bandsFor_6 : decode cX5_bandsFor 6 = .ok (.ireturn, 1) := by decide +kernel
theorem dX5_bandsFor_7 : decode cX5_bandsFor 7 = .ok (.aload_n 0, 1) := by decide +kernel
theorem dX5_bandsFor_8 : decode cX5_bandsFor 8 = .ok (.iload_n 1, 1) := by decide +kernel
theorem dX5_bandsFor_9 : decode cX5_bandsFor 9 = .ok (.invokevirtual 38, 3) := by decide +kernel
theorem dX5_bandsFor_12 : decode cX5_bandsFor 12 = .ok (.ifCond .eq 9, 3) := by decide +kernel
theorem dX5_bandsFor_15 : decode cX5_bandsFor 15 = .ok (.iload_n 1, 1) := by decide +kernel
theorem dX5_bandsFor_16 : decode cX5_bandsFor 16 = .ok (.iconst 4, 1) := by decide +kernel
theorem dX5_bandsFor_17 : decode cX5_bandsFor 17 = .ok (.idiv, 1) := by decide +kernel
theorem dX5_bandsFor_18 : decode cX5_bandsFor 18 = .ok (.goto 4, 3) := by decide +kernel
theorem dX5_bandsFor_21 : decode cX5_bandsFor 21 = .ok (.iload_n 1, 1) := by decide +kernel
theorem dX5_bandsFor_22 : decode cX5_bandsFor 22 = .ok (.istore_n 2, 1) := by decide +kernel
theorem dX5_bandsFor_23 : decode cX5_bandsFor 23 = .ok (.iconst 1, 1) := by decide +kernel
theorem dX5_bandsFor_24 : decode cX5_bandsFor 24 = .ok (.istore_n 3, 1) := by decide +kernel
theorem dX5_bandsFor_25 : decode cX5_bandsFor 25 = .ok (.iload_n 3, 1) := by decide +kernel
theorem dX5_bandsFor_26 : decode cX5_bandsFor 26 = .ok (.bipush 16, 2) := by decide +kernel
theorem dX5_bandsFor_28 : decode cX5_bandsFor 28 = .ok (.if_icmp .ge 26, 3) := by decide +kernel
theorem dX5_bandsFor_31 : decode cX5_bandsFor 31 = .ok (.iconst 2, 1) := by decide +kernel
theorem dX5_bandsFor_32 : decode cX5_bandsFor 32 = .ok (.iload_n 2, 1) := by decide +kernel
theorem dX5_bandsFor_33 : decode cX5_bandsFor 33 = .ok (.iload_n 3, 1) := by decide +kernel
theorem dX5_bandsFor_34 : decode cX5_bandsFor 34 = .ok (.iadd, 1) := by decide +kernel
theorem dX5_bandsFor_35 : decode cX5_bandsFor 35 = .ok (.iconst 1, 1) := by decide +kernel
theorem dX5_bandsFor_36 : decode cX5_bandsFor 36 = .ok (.isub, 1) := by decide +kernel
theorem dX5_bandsFor_37 : decode cX5_bandsFor 37 = .ok (.iload_n 3, 1) := by decide +kernel
theorem dX5_bandsFor_38 : decode cX5_bandsFor 38 = .ok (.idiv, 1) := by decide +kernel
theorem dX5_bandsFor_39 : decode cX5_bandsFor 39 = .ok (.imul, 1) := by decide +kernel
theorem dX5_bandsFor_40 : decode cX5_bandsFor 40 = .ok (.aload_n 0, 1) := by decide +kernel
theorem dX5_bandsFor_41 : decode cX5_bandsFor 41 = .ok (.getfield 15, 3) := by decide +kernel
theorem dX5_bandsFor_44 : decode cX5_bandsFor 44 = .ok (.if_icmp .le 10, 3) := by decide +kernel
theorem dX5_bandsFor_47 : decode cX5_bandsFor 47 = .ok (.iload_n 3, 1) := by decide +kernel
theorem dX5_bandsFor_48 : decode cX5_bandsFor 48 = .ok (.iconst 2, 1) := by decide +kernel
theorem dX5_bandsFor_49 : decode cX5_bandsFor 49 = .ok (.imul, 1) := by decide +kernel
theorem dX5_bandsFor_50 : decode cX5_bandsFor 50 = .ok (.istore_n 3, 1) := by decide +kernel
theorem dX5_bandsFor_51 : decode cX5_bandsFor 51 = .ok (.goto (-26), 3) := by decide +kernel
theorem dX5_bandsFor_54 : decode cX5_bandsFor 54 = .ok (.iload_n 3, 1) := by decide +kernel
theorem dX5_bandsFor_55 : decode cX5_bandsFor 55 = .ok (.ireturn, 1) := by decide +kernel
def f5_bandsFor_b25 : Nat → Nat → Int32 → Int32 → GS_ → Option (Int32 × GS_)
  | 0, _, _, _, _ => none
  | n + 1, v0, v2, v3, g =>
    if (16 : Int32) ≤ v3 then some (v3, g) else if v3 = 0 then none else if ((2 : Int32) * (((v2 + v3) - (1 : Int32)) / v3)) ≤ (gfi g 161 v0) then some (v3, g) else lr_ (v3 * (2 : Int32)) fun z1 => (f5_bandsFor_b25 n) v0 v2 z1 g
theorem t5_bandsFor_b25 : ∀ (n : Nat) (v0 : Nat) (v2 : Int32) (v3 : Int32) (g : GS_), K_ RX5 cX5_bandsFor 4 (some .int) 1 21 false EI_ 25 [some (.inr (5, some v0)), none, some (.inl v2), some (.inl v3)] [] g (f5_bandsFor_b25 n v0 v2 v3 g) := by
  intro n
  induction n with
  | zero =>
    intro v0 v2 v3 g
    exact k_fail
  | succ n ih =>
    intro v0 v2 v3 g
    show K_ RX5 cX5_bandsFor 4 (some .int) 1 21 false EI_ 25 [some (.inr (5, some v0)), none, some (.inl v2), some (.inl v3)] [] g (if (16 : Int32) ≤ v3 then some (v3, g) else if v3 = 0 then none else if ((2 : Int32) * (((v2 + v3) - (1 : Int32)) / v3)) ≤ (gfi g 161 v0) then some (v3, g) else lr_ (v3 * (2 : Int32)) fun z1 => (f5_bandsFor_b25 n) v0 v2 z1 g)
    refine k_iloadn (j := 3) dX5_bandsFor_25 rfl rfl ?_
    refine k_bipush (v := (16 : Int32)) dX5_bandsFor_26 rfl ?_
    refine k_icmpge (tgt := 54) dX5_bandsFor_28 (by decide) (fun _ => ?_) (fun _ => ?_)
    · refine k_iloadn (j := 3) dX5_bandsFor_54 rfl rfl ?_
      exact k_ireturn rfl dX5_bandsFor_55
    refine k_iconst (v := (2 : Int32)) dX5_bandsFor_31 rfl ?_
    refine k_iloadn (j := 2) dX5_bandsFor_32 rfl rfl ?_
    refine k_iloadn (j := 3) dX5_bandsFor_33 rfl rfl ?_
    refine k_iadd dX5_bandsFor_34 ?_
    refine k_iconst (v := (1 : Int32)) dX5_bandsFor_35 rfl ?_
    refine k_isub dX5_bandsFor_36 ?_
    refine k_iloadn (j := 3) dX5_bandsFor_37 rfl rfl ?_
    refine k_idiv dX5_bandsFor_38 (fun _ => ?_)
    refine k_imul dX5_bandsFor_39 ?_
    refine k_aloadn (j := 0) dX5_bandsFor_40 rfl rfl ?_
    refine k_geti fg_5_15 rfl rfl dX5_bandsFor_41 ?_
    refine k_icmple (tgt := 54) dX5_bandsFor_44 (by decide) (fun _ => ?_) (fun _ => ?_)
    · refine k_iloadn (j := 3) dX5_bandsFor_54 rfl rfl ?_
      exact k_ireturn rfl dX5_bandsFor_55
    refine k_iloadn (j := 3) dX5_bandsFor_47 rfl rfl ?_
    refine k_iconst (v := (2 : Int32)) dX5_bandsFor_48 rfl ?_
    refine k_imul dX5_bandsFor_49 ?_
    refine k_istnl (j := 3) (L2 := fun z1 => [some (.inr (5, some v0)), none, some (.inl v2), some (.inl z1)]) dX5_bandsFor_50 rfl (by decide) (fun _ => rfl) (fun z1 => ?_)
    refine k_goto (tgt := 25) dX5_bandsFor_51 (by decide) ?_
    exact ih v0 v2 z1 g
def f5_bandsFor_b22 (v0 : Nat) (s0 : Int32) (g : GS_) : Option (Int32 × GS_) :=
  f5_bandsFor_b25 FU_ v0 s0 (1 : Int32) g
theorem t5_bandsFor_b22 (v0 : Nat) (s0 : Int32) (g : GS_) : K_ RX5 cX5_bandsFor 4 (some .int) 1 21 false EI_ 22 [some (.inr (5, some v0)), none, none, none] [.inl s0] g (f5_bandsFor_b22 v0 s0 g) := by
  unfold f5_bandsFor_b22
  refine k_istn (j := 2) (L' := [some (.inr (5, some v0)), none, some (.inl s0), none]) dX5_bandsFor_22 rfl (by decide) rfl ?_
  refine k_iconst (v := (1 : Int32)) dX5_bandsFor_23 rfl ?_
  refine k_istn (j := 3) (L' := [some (.inr (5, some v0)), none, some (.inl s0), some (.inl (1 : Int32))]) dX5_bandsFor_24 rfl (by decide) rfl ?_
  exact t5_bandsFor_b25 FU_ v0 s0 (1 : Int32) g
def f5_bandsFor (v0 : Nat) (v1 : Int32) (g : GS_) : Option (Int32 × GS_) :=
  if v1 = (-1 : Int32) then some ((0 : Int32), g) else bd_ (f5_isCoarse v0 v1 g) fun z3 g2 => if z3 = 0 then f5_bandsFor_b22 v0 v1 g2 else f5_bandsFor_b22 v0 (v1 / (4 : Int32)) g2
theorem t5_bandsFor (v0 : Nat) (v1 : Int32) (g : GS_) : Cn_ yX5_bandsFor cX5_bandsFor 4 (some .int) 1 21 EI_ [.inr (5, some v0), .inl v1] g (f5_bandsFor v0 v1 g) := by
  refine k_method (own := RX5) (ini := false) (L1 := [some (.inr (5, some v0)), some (.inl v1), none, none]) (by decide +kernel) rfl (fun h => by cases h) (Nat.le_of_ble_eq_true rfl) rfl ?_
  unfold f5_bandsFor
  refine k_iloadn (j := 1) dX5_bandsFor_0 rfl rfl ?_
  refine k_iconst (v := (-1 : Int32)) dX5_bandsFor_1 rfl ?_
  refine k_icmpne (tgt := 7) dX5_bandsFor_2 (by decide) (fun _ => ?_) (fun _ => ?_)
  · refine k_iconst (v := (0 : Int32)) dX5_bandsFor_5 rfl ?_
    exact k_ireturn rfl dX5_bandsFor_6
  refine k_aloadn (j := 0) dX5_bandsFor_7 rfl rfl ?_
  refine k_iloadn (j := 1) dX5_bandsFor_8 rfl rfl ?_
  refine k_callVi [.inl v1] (t5_isCoarse v0 v1 g) cw_cX5_isCoarse (Or.inl ml_5_38) rfl rfl (by decide) (by decide) (Nat.le_of_ble_eq_true rfl) dX5_bandsFor_9 (fun z3 g2 => ?_)
  refine k_ifeq (tgt := 21) dX5_bandsFor_12 (by decide) (fun _ => ?_) (fun _ => ?_)
  · refine k_iloadn (j := 1) dX5_bandsFor_21 rfl rfl ?_
    refine k_msk (L' := [some (.inr (5, some v0)), none, none, none]) [true, false, true, true] rfl ?_
    exact t5_bandsFor_b22 v0 v1 g2
  refine k_iloadn (j := 1) dX5_bandsFor_15 rfl rfl ?_
  refine k_iconst (v := (4 : Int32)) dX5_bandsFor_16 rfl ?_
  refine k_idivc (by decide) dX5_bandsFor_17 ?_
  refine k_goto (tgt := 22) dX5_bandsFor_18 (by decide) ?_
  refine k_msk (L' := [some (.inr (5, some v0)), none, none, none]) [true, false, true, true] rfl ?_
  exact t5_bandsFor_b22 v0 (v1 / (4 : Int32)) g2
theorem dX5_ticksFor_0 : decode cX5_ticksFor 0 = .ok (.iload_n 1, 1) := by decide +kernel
theorem dX5_ticksFor_1 : decode cX5_ticksFor 1 = .ok (.iconst (-1), 1) := by decide +kernel
theorem dX5_ticksFor_2 : decode cX5_ticksFor 2 = .ok (.if_icmp .ne 7, 3) := by decide +kernel
theorem dX5_ticksFor_5 : decode cX5_ticksFor 5 = .ok (.iconst 0, 1) := by decide +kernel
theorem dX5_ticksFor_6 : decode cX5_ticksFor 6 = .ok (.goto 13, 3) := by decide +kernel
theorem dX5_ticksFor_9 : decode cX5_ticksFor 9 = .ok (.aload_n 0, 1) := by decide +kernel
theorem dX5_ticksFor_10 : decode cX5_ticksFor 10 = .ok (.getfield 9, 3) := by decide +kernel
theorem dX5_ticksFor_13 : decode cX5_ticksFor 13 = .ok (.aload_n 0, 1) := by decide +kernel
theorem dX5_ticksFor_14 : decode cX5_ticksFor 14 = .ok (.iload_n 1, 1) := by decide +kernel
theorem dX5_ticksFor_15 : decode cX5_ticksFor 15 = .ok (.invokevirtual 42, 3) := by decide +kernel
theorem dX5_ticksFor_18 : decode cX5_ticksFor 18 = .ok (.iadd, 1) := by decide +kernel
theorem dX5_ticksFor_19 : decode cX5_ticksFor 19 = .ok (.ireturn, 1) := by decide +kernel
def f5_ticksFor (v0 : Nat) (v1 : Int32) (g : GS_) : Option (Int32 × GS_) :=
  if v1 = (-1 : Int32) then some ((0 : Int32), g) else bd_ (f5_bandsFor v0 v1 g) fun z2 g1 => some (((gfi g 160 v0) + z2), g1)
theorem t5_ticksFor (v0 : Nat) (v1 : Int32) (g : GS_) : Cn_ yX5_ticksFor cX5_ticksFor 2 (some .int) 2 44 EI_ [.inr (5, some v0), .inl v1] g (f5_ticksFor v0 v1 g) := by
  refine k_method (own := RX5) (ini := false) (L1 := [some (.inr (5, some v0)), some (.inl v1)]) (by decide +kernel) rfl (fun h => by cases h) (Nat.le_of_ble_eq_true rfl) rfl ?_
  unfold f5_ticksFor
  refine k_iloadn (j := 1) dX5_ticksFor_0 rfl rfl ?_
  refine k_iconst (v := (-1 : Int32)) dX5_ticksFor_1 rfl ?_
  refine k_icmpne (tgt := 9) dX5_ticksFor_2 (by decide) (fun _ => ?_) (fun _ => ?_)
  · refine k_iconst (v := (0 : Int32)) dX5_ticksFor_5 rfl ?_
    refine k_goto (tgt := 19) dX5_ticksFor_6 (by decide) ?_
    exact k_ireturn rfl dX5_ticksFor_19
  refine k_aloadn (j := 0) dX5_ticksFor_9 rfl rfl ?_
  refine k_geti fg_5_9 rfl rfl dX5_ticksFor_10 ?_
  refine k_aloadn (j := 0) dX5_ticksFor_13 rfl rfl ?_
  refine k_iloadn (j := 1) dX5_ticksFor_14 rfl rfl ?_
  refine k_callVi [.inl v1] (t5_bandsFor v0 v1 g) cw_cX5_bandsFor (Or.inl ml_5_42) rfl rfl (by decide) (by decide) (Nat.le_of_ble_eq_true rfl) dX5_ticksFor_15 (fun z2 g1 => ?_)
  refine k_iadd dX5_ticksFor_18 ?_
  exact k_ireturn rfl dX5_ticksFor_19
theorem dX5_copyFrom_0 : decode cX5_copyFrom 0 = .ok (.aload_n 0, 1) := by decide +kernel
theorem dX5_copyFrom_1 : decode cX5_copyFrom 1 = .ok (.aload_n 1, 1) := by decide +kernel
theorem dX5_copyFrom_2 : decode cX5_copyFrom 2 = .ok (.getfield 9, 3) := by decide +kernel
theorem dX5_copyFrom_5 : decode cX5_copyFrom 5 = .ok (.putfield 9, 3) := by decide +kernel
theorem dX5_copyFrom_8 : decode cX5_copyFrom 8 = .ok (.aload_n 0, 1) := by decide +kernel
theorem dX5_copyFrom_9 : decode cX5_copyFrom 9 = .ok (.aload_n 1, 1) := by decide +kernel
theorem dX5_copyFrom_10 : decode cX5_copyFrom 10 = .ok (.getfield 15, 3) := by decide +kernel
theorem dX5_copyFrom_13 : decode cX5_copyFrom 13 = .ok (.putfield 15, 3) := by decide +kernel
theorem dX5_copyFrom_16 : decode cX5_copyFrom 16 = .ok (.aload_n 0, 1) := by decide +kernel
theorem dX5_copyFrom_17 : decode cX5_copyFrom 17 = .ok (.aload_n 1, 1) := by decide +kernel
theorem dX5_copyFrom_18 : decode cX5_copyFrom 18 = .ok (.getfield 18, 3) := by decide +kernel
theorem dX5_copyFrom_21 : decode cX5_copyFrom 21 = .ok (.putfield 18, 3) := by decide +kernel
theorem dX5_copyFrom_24 : decode cX5_copyFrom 24 = .ok (.aload_n 1, 1) := by decide +kernel
theorem dX5_copyFrom_25 : decode cX5_copyFrom 25 = .ok (.getfield 22, 3) := by decide +kernel
theorem dX5_copyFrom_28 : decode cX5_copyFrom 28 = .ok (.iconst 0, 1) := by decide +kernel
theorem dX5_copyFrom_29 : decode cX5_copyFrom 29 = .ok (.aload_n 0, 1) := by decide +kernel
theorem dX5_copyFrom_30 : decode cX5_copyFrom 30 = .ok (.getfield 22, 3) := by decide +kernel
theorem dX5_copyFrom_33 : decode cX5_copyFrom 33 = .ok (.iconst 0, 1) := by decide +kernel
theorem dX5_copyFrom_34 : decode cX5_copyFrom 34 = .ok (.aload_n 0, 1) := by decide +kernel
theorem dX5_copyFrom_35 : decode cX5_copyFrom 35 = .ok (.getfield 22, 3) := by decide +kernel
theorem dX5_copyFrom_38 : decode cX5_copyFrom 38 = .ok (.arraylength, 1) := by decide +kernel
theorem dX5_copyFrom_39 : decode cX5_copyFrom 39 = .ok (.invokestatic 46, 3) := by decide +kernel
theorem dX5_copyFrom_42 : decode cX5_copyFrom 42 = .ok (.aload_n 0, 1) := by decide +kernel
theorem dX5_copyFrom_43 : decode cX5_copyFrom 43 = .ok (.aload_n 1, 1) := by decide +kernel
theorem dX5_copyFrom_44 : decode cX5_copyFrom 44 = .ok (.getfield 26, 3) := by decide +kernel
theorem dX5_copyFrom_47 : decode cX5_copyFrom 47 = .ok (.putfield 26, 3) := by decide +kernel
theorem dX5_copyFrom_50 : decode cX5_copyFrom 50 = .ok (.aload_n 0, 1) := by decide +kernel
theorem dX5_copyFrom_51 : decode cX5_copyFrom 51 = .ok (.aload_n 1, 1) := by decide +kernel
theorem dX5_copyFrom_52 : decode cX5_copyFrom 52 = .ok (.getfield 29, 3) := by decide +kernel
theorem dX5_copyFrom_55 : decode cX5_copyFrom 55 = .ok (.putfield 29, 3) := by decide +kernel
theorem dX5_copyFrom_58 : decode cX5_copyFrom 58 = .ok (.aload_n 0, 1) := by decide +kernel
theorem dX5_copyFrom_59 : decode cX5_copyFrom 59 = .ok (.aload_n 1, 1) := by decide +kernel
theorem dX5_copyFrom_60 : decode cX5_copyFrom 60 = .ok (.getfield 32, 3) := by decide +kernel
theorem dX5_copyFrom_63 : decode cX5_copyFrom 63 = .ok (.putfield 32, 3) := by decide +kernel
theorem dX5_copyFrom_66 : decode cX5_copyFrom 66 = .ok (.aload_n 0, 1) := by decide +kernel
theorem dX5_copyFrom_67 : decode cX5_copyFrom 67 = .ok (.aload_n 1, 1) := by decide +kernel
theorem dX5_copyFrom_68 : decode cX5_copyFrom 68 = .ok (.getfield 35, 3) := by decide +kernel
theorem dX5_copyFrom_71 : decode cX5_copyFrom 71 = .ok (.putfield 35, 3) := by decide +kernel
theorem dX5_copyFrom_74 : decode cX5_copyFrom 74 = .ok (.return_, 1) := by decide +kernel
def f5_copyFrom (v0 : Nat) (v1 : Option Nat) (g : GS_) : Option (Unit × GS_) :=
  oc_ v1 none fun a1 => lr_ (sfi g 160 v0 (gfi g 160 a1)) fun g2 => lr_ (sfi g2 161 v0 (gfi g2 161 a1)) fun g3 => if (gfi g3 162 a1) = 0 ∨ (gfi g3 162 a1) = 1 then lr_ (sfi g3 162 v0 (gfi g3 162 a1)) (fun g4 => lr_ (gfr g4 163 a1) fun x5 => lr_ (gfr g4 163 v0) fun x6 => lr_ (gfr g4 163 v0) fun x7 => oc_ x7 none fun a8 => oc_ x5 none fun a9 => oc_ x6 none fun a10 => cp_ g4 a9 a10 (0 : Int32) (0 : Int32) (Int32.ofNat (gln g4 20 a8)) fun g11 => lr_ (sfi g11 164 v0 (gfi g11 164 a1)) fun g12 => lr_ (sfi g12 165 v0 (gfi g12 165 a1)) fun g13 => lr_ (sfi g13 166 v0 (gfi g13 166 a1)) fun g14 => lr_ (sfi g14 167 v0 (gfi g14 167 a1)) fun g15 => some ((), g15)) else none
theorem t5_copyFrom (v0 : Nat) (v1 : Option Nat) (g : GS_) : Cn_ yX5_copyFrom cX5_copyFrom 2 none 1 40 EV_ [.inr (5, some v0), .inr (5, v1)] g (f5_copyFrom v0 v1 g) := by
  refine k_method (own := RX5) (ini := false) (L1 := [some (.inr (5, some v0)), some (.inr (5, v1))]) (by decide +kernel) rfl (fun h => by cases h) (Nat.le_of_ble_eq_true rfl) rfl ?_
  unfold f5_copyFrom
  refine k_aloadn (j := 0) dX5_copyFrom_0 rfl rfl ?_
  refine k_aloadn (j := 1) dX5_copyFrom_1 rfl rfl ?_
  rcases v1 with _ | a1
  · exact k_ocn
  refine k_ocs ?_
  refine k_geti fg_5_9 rfl rfl dX5_copyFrom_2 ?_
  refine k_puti fp_5_9 rfl rfl dX5_copyFrom_5 (fun g2 => ?_)
  refine k_aloadn (j := 0) dX5_copyFrom_8 rfl rfl ?_
  refine k_aloadn (j := 1) dX5_copyFrom_9 rfl rfl ?_
  refine k_geti fg_5_15 rfl rfl dX5_copyFrom_10 ?_
  refine k_puti fp_5_15 rfl rfl dX5_copyFrom_13 (fun g3 => ?_)
  refine k_aloadn (j := 0) dX5_copyFrom_16 rfl rfl ?_
  refine k_aloadn (j := 1) dX5_copyFrom_17 rfl rfl ?_
  refine k_geti fg_5_18 rfl rfl dX5_copyFrom_18 ?_
  refine k_putzc fp_5_18 rfl rfl dX5_copyFrom_21 (fun g4 => ?_)
  refine k_aloadn (j := 1) dX5_copyFrom_24 rfl rfl ?_
  refine k_getr fg_5_22 rfl rfl dX5_copyFrom_25 (fun x5 => ?_)
  refine k_iconst (v := (0 : Int32)) dX5_copyFrom_28 rfl ?_
  refine k_aloadn (j := 0) dX5_copyFrom_29 rfl rfl ?_
  refine k_getr fg_5_22 rfl rfl dX5_copyFrom_30 (fun x6 => ?_)
  refine k_iconst (v := (0 : Int32)) dX5_copyFrom_33 rfl ?_
  refine k_aloadn (j := 0) dX5_copyFrom_34 rfl rfl ?_
  refine k_getr fg_5_22 rfl rfl dX5_copyFrom_35 (fun x7 => ?_)
  rcases x7 with _ | a8
  · exact k_ocn
  refine k_ocs ?_
  refine k_alen dX5_copyFrom_38 (by decide) ?_
  rcases x5 with _ | a9
  · exact k_ocn
  refine k_ocs ?_
  rcases x6 with _ | a10
  · exact k_ocn
  refine k_ocs ?_
  refine k_copy yw_ ml_5_46 (by decide) (Nat.le_of_ble_eq_true rfl) dX5_copyFrom_39 (fun g11 => ?_)
  refine k_aloadn (j := 0) dX5_copyFrom_42 rfl rfl ?_
  refine k_aloadn (j := 1) dX5_copyFrom_43 rfl rfl ?_
  refine k_geti fg_5_26 rfl rfl dX5_copyFrom_44 ?_
  refine k_puti fp_5_26 rfl rfl dX5_copyFrom_47 (fun g12 => ?_)
  refine k_aloadn (j := 0) dX5_copyFrom_50 rfl rfl ?_
  refine k_aloadn (j := 1) dX5_copyFrom_51 rfl rfl ?_
  refine k_geti fg_5_29 rfl rfl dX5_copyFrom_52 ?_
  refine k_puti fp_5_29 rfl rfl dX5_copyFrom_55 (fun g13 => ?_)
  refine k_aloadn (j := 0) dX5_copyFrom_58 rfl rfl ?_
  refine k_aloadn (j := 1) dX5_copyFrom_59 rfl rfl ?_
  refine k_geti fg_5_32 rfl rfl dX5_copyFrom_60 ?_
  refine k_puti fp_5_32 rfl rfl dX5_copyFrom_63 (fun g14 => ?_)
  refine k_aloadn (j := 0) dX5_copyFrom_66 rfl rfl ?_
  refine k_aloadn (j := 1) dX5_copyFrom_67 rfl rfl ?_
  refine k_geti fg_5_35 rfl rfl dX5_copyFrom_68 ?_
  refine k_puti fp_5_35 rfl rfl dX5_copyFrom_71 (fun g15 => ?_)
  exact k_return rfl dX5_copyFrom_74
theorem dX6_isDigit_0 : decode cX6_isDigit 0 = .ok (.iload_n 0, 1) := by decide +kernel
theorem dX6_isDigit_1 : decode cX6_isDigit 1 = .ok (.bipush 48, 2) := by decide +kernel
theorem dX6_isDigit_3 : decode cX6_isDigit 3 = .ok (.if_icmp .lt 13, 3) := by decide +kernel
theorem dX6_isDigit_6 : decode cX6_isDigit 6 = .ok (.iload_n 0, 1) := by decide +kernel
theorem dX6_isDigit_7 : decode cX6_isDigit 7 = .ok (.bipush 57, 2) := by decide +kernel
theorem dX6_isDigit_9 : decode cX6_isDigit 9 = .ok (.if_icmp .gt 7, 3) := by decide +kernel
theorem dX6_isDigit_12 : decode cX6_isDigit 12 = .ok (.iconst 1, 1) := by decide +kernel
theorem dX6_isDigit_13 : decode cX6_isDigit 13 = .ok (.goto 4, 3) := by decide +kernel
theorem dX6_isDigit_16 : decode cX6_isDigit 16 = .ok (.iconst 0, 1) := by decide +kernel
theorem dX6_isDigit_17 : decode cX6_isDigit 17 = .ok (.ireturn, 1) := by decide +kernel
def f6_isDigit_b16 (g : GS_) : Option (Int32 × GS_) :=
  some ((0 : Int32), g)
theorem t6_isDigit_b16 (g : GS_) : K_ RX6 cX6_isDigit 1 (some .boolean) 0 0 false EI_ 16 [none] [] g (f6_isDigit_b16 g) := by
  unfold f6_isDigit_b16
  refine k_iconst (v := (0 : Int32)) dX6_isDigit_16 rfl ?_
  exact k_zreturn rfl (by decide) dX6_isDigit_17
def f6_isDigit (v0 : Int32) (g : GS_) : Option (Int32 × GS_) :=
  if v0 < (48 : Int32) then f6_isDigit_b16 g else if (57 : Int32) < v0 then f6_isDigit_b16 g else some ((1 : Int32), g)
theorem t6_isDigit (v0 : Int32) (g : GS_) : Cn_ yX6_isDigit cX6_isDigit 1 (some .boolean) 0 0 EI_ [.inl v0] g (f6_isDigit v0 g) := by
  refine k_method (own := RX6) (ini := false) (L1 := [some (.inl v0)]) (by decide +kernel) rfl (fun h => by cases h) (Nat.le_of_ble_eq_true rfl) rfl ?_
  unfold f6_isDigit
  refine k_iloadn (j := 0) dX6_isDigit_0 rfl rfl ?_
  refine k_bipush (v := (48 : Int32)) dX6_isDigit_1 rfl ?_
  refine k_icmplt (tgt := 16) dX6_isDigit_3 (by decide) (fun _ => ?_) (fun _ => ?_)
  · refine k_msk (L' := [none]) [false] rfl ?_
    exact t6_isDigit_b16 g
  refine k_iloadn (j := 0) dX6_isDigit_6 rfl rfl ?_
  refine k_bipush (v := (57 : Int32)) dX6_isDigit_7 rfl ?_
  refine k_icmpgt (tgt := 16) dX6_isDigit_9 (by decide) (fun _ => ?_) (fun _ => ?_)
  · refine k_msk (L' := [none]) [false] rfl ?_
    exact t6_isDigit_b16 g
  refine k_iconst (v := (1 : Int32)) dX6_isDigit_12 rfl ?_
  refine k_goto (tgt := 17) dX6_isDigit_13 (by decide) ?_
  exact k_zreturn rfl (by decide) dX6_isDigit_17
theorem dX6_spanBegins_0 : decode cX6_spanBegins 0 = .ok (.iload_n 0, 1) := by decide +kernel
theorem dX6_spanBegins_1 : decode cX6_spanBegins 1 = .ok (.bipush 42, 2) := by decide +kernel
theorem dX6_spanBegins_3 : decode cX6_spanBegins 3 = .ok (.if_icmp .ne 5, 3) := by decide +kernel
theorem dX6_spanBegins_6 : decode cX6_spanBegins 6 = .ok (.iconst 2, 1) := by decide +kernel
theorem dX6_spanBegins_7 : decode cX6_spanBegins 7 = .ok (.ireturn, 1) := by decide +kernel
theorem dX6_spanBegins_8 : decode cX6_spanBegins 8 = .ok (.iload_n 0, 1) := by decide +kernel
theorem dX6_spanBegins_9 : decode cX6_spanBegins 9 = .ok (.bipush 45, 2) := by decide +kernel
theorem dX6_spanBegins_11 : decode cX6_spanBegins 11 = .ok (.if_icmp .ne 5, 3) := by decide +kernel
theorem dX6_spanBegins_14 : decode cX6_spanBegins 14 = .ok (.iconst 4, 1) := by decide +kernel
theorem dX6_spanBegins_15 : decode cX6_spanBegins 15 = .ok (.ireturn, 1) := by decide +kernel
theorem dX6_spanBegins_16 : decode cX6_spanBegins 16 = .ok (.iload_n 0, 1) := by decide +kernel
theorem dX6_spanBegins_17 : decode cX6_spanBegins 17 = .ok (.invokestatic 59, 3) := by decide +kernel
theorem dX6_spanBegins_20 : decode cX6_spanBegins 20 = .ok (.ifCond .eq 14, 3) := by decide +kernel
theorem dX6_spanBegins_23 : decode cX6_spanBegins 23 = .ok (.iload_n 0, 1) := by decide +kernel
theorem dX6_spanBegins_24 : decode cX6_spanBegins 24 = .ok (.bipush 48, 2) := by decide +kernel
theorem dX6_spanBegins_26 : decode cX6_spanBegins 26 = .ok (.if_icmp .eq 8, 3) := by decide +kernel
theorem dX6_spanBegins_29 : decode cX6_spanBegins 29 = .ok (.bipush 6, 2) := by decide +kernel
theorem dX6_spanBegins_31 : decode cX6_spanBegins 31 = .ok (.goto 4, 3) := by decide +kernel
theorem dX6_spanBegins_34 : decode cX6_spanBegins 34 = .ok (.iconst (-1), 1) := by decide +kernel
theorem dX6_spanBegins_35 : decode cX6_spanBegins 35 = .ok (.ireturn, 1) := by decide +kernel
def f6_spanBegins_b34 (g : GS_) : Option (Int32 × GS_) :=
  some ((-1 : Int32), g)
theorem t6_spanBegins_b34 (g : GS_) : K_ RX6 cX6_spanBegins 1 (some .int) 1 20 false EI_ 34 [none] [] g (f6_spanBegins_b34 g) := by
  unfold f6_spanBegins_b34
  refine k_iconst (v := (-1 : Int32)) dX6_spanBegins_34 rfl ?_
  exact k_ireturn rfl dX6_spanBegins_35
def f6_spanBegins (v0 : Int32) (g : GS_) : Option (Int32 × GS_) :=
  if v0 = (42 : Int32) then some ((2 : Int32), g) else if v0 = (45 : Int32) then some ((4 : Int32), g) else bd_ (f6_isDigit v0 g) fun z2 g1 => if z2 = 0 then f6_spanBegins_b34 g1 else if v0 = (48 : Int32) then f6_spanBegins_b34 g1 else some ((6 : Int32), g1)
theorem t6_spanBegins (v0 : Int32) (g : GS_) : Cn_ yX6_spanBegins cX6_spanBegins 1 (some .int) 1 20 EI_ [.inl v0] g (f6_spanBegins v0 g) := by
  refine k_method (own := RX6) (ini := false) (L1 := [some (.inl v0)]) (by decide +kernel) rfl (fun h => by cases h) (Nat.le_of_ble_eq_true rfl) rfl ?_
  unfold f6_spanBegins
  refine k_iloadn (j := 0) dX6_spanBegins_0 rfl rfl ?_
  refine k_bipush (v := (42 : Int32)) dX6_spanBegins_1 rfl ?_
  refine k_icmpne (tgt := 8) dX6_spanBegins_3 (by decide) (fun _ => ?_) (fun _ => ?_)
  · refine k_iconst (v := (2 : Int32)) dX6_spanBegins_6 rfl ?_
    exact k_ireturn rfl dX6_spanBegins_7
  refine k_iloadn (j := 0) dX6_spanBegins_8 rfl rfl ?_
  refine k_bipush (v := (45 : Int32)) dX6_spanBegins_9 rfl ?_
  refine k_icmpne (tgt := 16) dX6_spanBegins_11 (by decide) (fun _ => ?_) (fun _ => ?_)
  · refine k_iconst (v := (4 : Int32)) dX6_spanBegins_14 rfl ?_
    exact k_ireturn rfl dX6_spanBegins_15
  refine k_iloadn (j := 0) dX6_spanBegins_16 rfl rfl ?_
  refine k_callSi [.inl v0] (t6_isDigit v0 g) cw_cX6_isDigit ml_6_59 rfl rfl (by decide) (by decide) (Nat.le_of_ble_eq_true rfl) dX6_spanBegins_17 (fun z2 g1 => ?_)
  refine k_ifeq (tgt := 34) dX6_spanBegins_20 (by decide) (fun _ => ?_) (fun _ => ?_)
  · refine k_msk (L' := [none]) [false] rfl ?_
    exact t6_spanBegins_b34 g1
  refine k_iloadn (j := 0) dX6_spanBegins_23 rfl rfl ?_
  refine k_bipush (v := (48 : Int32)) dX6_spanBegins_24 rfl ?_
  refine k_icmpeq (tgt := 34) dX6_spanBegins_26 (by decide) (fun _ => ?_) (fun _ => ?_)
  · refine k_msk (L' := [none]) [false] rfl ?_
    exact t6_spanBegins_b34 g1
  refine k_bipush (v := (6 : Int32)) dX6_spanBegins_29 rfl ?_
  refine k_goto (tgt := 35) dX6_spanBegins_31 (by decide) ?_
  exact k_ireturn rfl dX6_spanBegins_35
theorem dX6_spanEnds_0 : decode cX6_spanEnds 0 = .ok (.iload_n 0, 1) := by decide +kernel
theorem dX6_spanEnds_1 : decode cX6_spanEnds 1 = .ok (.bipush 111, 2) := by decide +kernel
theorem dX6_spanEnds_3 : decode cX6_spanEnds 3 = .ok (.if_icmp .eq 9, 3) := by decide +kernel
theorem dX6_spanEnds_6 : decode cX6_spanEnds 6 = .ok (.iload_n 0, 1) := by decide +kernel
theorem dX6_spanEnds_7 : decode cX6_spanEnds 7 = .ok (.bipush 101, 2) := by decide +kernel
theorem dX6_spanEnds_9 : decode cX6_spanEnds 9 = .ok (.if_icmp .ne 5, 3) := by decide +kernel
theorem dX6_spanEnds_12 : decode cX6_spanEnds 12 = .ok (.iconst 3, 1) := by decide +kernel
theorem dX6_spanEnds_13 : decode cX6_spanEnds 13 = .ok (.ireturn, 1) := by decide +kernel
theorem dX6_spanEnds_14 : decode cX6_spanEnds 14 = .ok (.iload_n 0, 1) := by decide +kernel
theorem dX6_spanEnds_15 : decode cX6_spanEnds 15 = .ok (.bipush 44, 2) := by decide +kernel
theorem dX6_spanEnds_17 : decode cX6_spanEnds 17 = .ok (.if_icmp .ne 7, 3) := by decide +kernel
theorem dX6_spanEnds_20 : decode cX6_spanEnds 20 = .ok (.iconst 0, 1) := by decide +kernel
theorem dX6_spanEnds_21 : decode cX6_spanEnds 21 = .ok (.goto 4, 3) := by decide +kernel
theorem dX6_spanEnds_24 : decode cX6_spanEnds 24 = .ok (.iconst (-1), 1) := by decide +kernel
theorem dX6_spanEnds_25 : decode cX6_spanEnds 25 = .ok (.ireturn, 1) := by decide +kernel
def f6_spanEnds (v0 : Int32) (g : GS_) : Option (Int32 × GS_) :=
  if v0 = (111 : Int32) then some ((3 : Int32), g) else if v0 = (101 : Int32) then some ((3 : Int32), g) else if v0 = (44 : Int32) then some ((0 : Int32), g) else some ((-1 : Int32), g)
theorem t6_spanEnds (v0 : Int32) (g : GS_) : Cn_ yX6_spanEnds cX6_spanEnds 1 (some .int) 0 0 EI_ [.inl v0] g (f6_spanEnds v0 g) := by
  refine k_method (own := RX6) (ini := false) (L1 := [some (.inl v0)]) (by decide +kernel) rfl (fun h => by cases h) (Nat.le_of_ble_eq_true rfl) rfl ?_
  unfold f6_spanEnds
  refine k_iloadn (j := 0) dX6_spanEnds_0 rfl rfl ?_
  refine k_bipush (v := (111 : Int32)) dX6_spanEnds_1 rfl ?_
  refine k_icmpeq (tgt := 12) dX6_spanEnds_3 (by decide) (fun _ => ?_) (fun _ => ?_)
  · refine k_iconst (v := (3 : Int32)) dX6_spanEnds_12 rfl ?_
    exact k_ireturn rfl dX6_spanEnds_13
  refine k_iloadn (j := 0) dX6_spanEnds_6 rfl rfl ?_
  refine k_bipush (v := (101 : Int32)) dX6_spanEnds_7 rfl ?_
  refine k_icmpne (tgt := 14) dX6_spanEnds_9 (by decide) (fun _ => ?_) (fun _ => ?_)
  · refine k_iconst (v := (3 : Int32)) dX6_spanEnds_12 rfl ?_
    exact k_ireturn rfl dX6_spanEnds_13
  refine k_iloadn (j := 0) dX6_spanEnds_14 rfl rfl ?_
  refine k_bipush (v := (44 : Int32)) dX6_spanEnds_15 rfl ?_
  refine k_icmpne (tgt := 24) dX6_spanEnds_17 (by decide) (fun _ => ?_) (fun _ => ?_)
  · refine k_iconst (v := (0 : Int32)) dX6_spanEnds_20 rfl ?_
    refine k_goto (tgt := 25) dX6_spanEnds_21 (by decide) ?_
    exact k_ireturn rfl dX6_spanEnds_25
  refine k_iconst (v := (-1 : Int32)) dX6_spanEnds_24 rfl ?_
  exact k_ireturn rfl dX6_spanEnds_25
theorem dX6_stateAfter_0 : decode cX6_stateAfter 0 = .ok (.iload_n 0, 1) := by decide +kernel
theorem dX6_stateAfter_1 : decode cX6_stateAfter 1 = .ok (.tableswitch 204 0 11 #[63, 78, 187, 192, 83, 103, 126, 126, 154, 169, 169, 187], 63) := by decide +kernel
theorem dX6_stateAfter_64 : decode cX6_stateAfter 64 = .ok (.iload_n 1, 1) := by decide +kernel
theorem dX6_stateAfter_65 : decode cX6_stateAfter 65 = .ok (.bipush 33, 2) := by decide +kernel
theorem dX6_stateAfter_67 : decode cX6_stateAfter 67 = .ok (.if_icmp .ne 7, 3) := by decide +kernel
theorem dX6_stateAfter_70 : decode cX6_stateAfter 70 = .ok (.iconst 1, 1) := by decide +kernel
theorem dX6_stateAfter_71 : decode cX6_stateAfter 71 = .ok (.goto 7, 3) := by decide +kernel
theorem dX6_stateAfter_74 : decode cX6_stateAfter 74 = .ok (.iload_n 1, 1) := by decide +kernel
theorem dX6_stateAfter_75 : decode cX6_stateAfter 75 = .ok (.invokestatic 62, 3) := by decide +kernel
theorem dX6_stateAfter_78 : decode cX6_stateAfter 78 = .ok (.ireturn, 1) := by decide +kernel
theorem dX6_stateAfter_79 : decode cX6_stateAfter 79 = .ok (.iload_n 1, 1) := by decide +kernel
theorem dX6_stateAfter_80 : decode cX6_stateAfter 80 = .ok (.invokestatic 62, 3) := by decide +kernel
theorem dX6_stateAfter_83 : decode cX6_stateAfter 83 = .ok (.ireturn, 1) := by decide +kernel
theorem dX6_stateAfter_84 : decode cX6_stateAfter 84 = .ok (.iload_n 1, 1) := by decide +kernel
theorem dX6_stateAfter_85 : decode cX6_stateAfter 85 = .ok (.invokestatic 59, 3) := by decide +kernel
theorem dX6_stateAfter_88 : decode cX6_stateAfter 88 = .ok (.ifCond .eq 14, 3) := by decide +kernel
theorem dX6_stateAfter_91 : decode cX6_stateAfter 91 = .ok (.iload_n 1, 1) := by decide +kernel
theorem dX6_stateAfter_92 : decode cX6_stateAfter 92 = .ok (.bipush 48, 2) := by decide +kernel
theorem dX6_stateAfter_94 : decode cX6_stateAfter 94 = .ok (.if_icmp .eq 8, 3) := by decide +kernel
theorem dX6_stateAfter_97 : decode cX6_stateAfter 97 = .ok (.bipush 9, 2) := by decide +kernel
theorem dX6_stateAfter_99 : decode cX6_stateAfter 99 = .ok (.goto 4, 3) := by decide +kernel
theorem dX6_stateAfter_102 : decode cX6_stateAfter 102 = .ok (.iconst (-1), 1) := by decide +kernel
theorem dX6_stateAfter_103 : decode cX6_stateAfter 103 = .ok (.ireturn, 1) := by decide +kernel
theorem dX6_stateAfter_104 : decode cX6_stateAfter 104 = .ok (.iload_n 1, 1) := by decide +kernel
theorem dX6_stateAfter_105 : decode cX6_stateAfter 105 = .ok (.invokestatic 59, 3) := by decide +kernel
theorem dX6_stateAfter_108 : decode cX6_stateAfter 108 = .ok (.ifCond .eq 14, 3) := by decide +kernel
theorem dX6_stateAfter_111 : decode cX6_stateAfter 111 = .ok (.iload_n 1, 1) := by decide +kernel
theorem dX6_stateAfter_112 : decode cX6_stateAfter 112 = .ok (.bipush 48, 2) := by decide +kernel
theorem dX6_stateAfter_114 : decode cX6_stateAfter 114 = .ok (.if_icmp .eq 8, 3) := by decide +kernel
theorem dX6_stateAfter_117 : decode cX6_stateAfter 117 = .ok (.bipush 9, 2) := by decide +kernel
theorem dX6_stateAfter_119 : decode cX6_stateAfter 119 = .ok (.goto 7, 3) := by decide +kernel
theorem dX6_stateAfter_122 : decode cX6_stateAfter 122 = .ok (.iload_n 1, 1) := by decide +kernel
theorem dX6_stateAfter_123 : decode cX6_stateAfter 123 = .ok (.invokestatic 65, 3) := by decide +kernel
theorem dX6_stateAfter_126 : decode cX6_stateAfter 126 = .ok (.ireturn, 1) := by decide +kernel
theorem dX6_stateAfter_127 : decode cX6_stateAfter 127 = .ok (.iload_n 1, 1) := by decide +kernel
theorem dX6_stateAfter_128 : decode cX6_stateAfter 128 = .ok (.invokestatic 59, 3) := by decide +kernel
theorem dX6_stateAfter_131 : decode cX6_stateAfter 131 = .ok (.ifCond .eq 9, 3) := by decide +kernel
theorem dX6_stateAfter_134 : decode cX6_stateAfter 134 = .ok (.iload_n 0, 1) := by decide +kernel
theorem dX6_stateAfter_135 : decode cX6_stateAfter 135 = .ok (.iconst 1, 1) := by decide +kernel
theorem dX6_stateAfter_136 : decode cX6_stateAfter 136 = .ok (.iadd, 1) := by decide +kernel
theorem dX6_stateAfter_137 : decode cX6_stateAfter 137 = .ok (.goto 17, 3) := by decide +kernel
theorem dX6_stateAfter_140 : decode cX6_stateAfter 140 = .ok (.iload_n 1, 1) := by decide +kernel
theorem dX6_stateAfter_141 : decode cX6_stateAfter 141 = .ok (.bipush 45, 2) := by decide +kernel
theorem dX6_stateAfter_143 : decode cX6_stateAfter 143 = .ok (.if_icmp .ne 7, 3) := by decide +kernel
theorem dX6_stateAfter_146 : decode cX6_stateAfter 146 = .ok (.iconst 5, 1) := by decide +kernel
theorem dX6_stateAfter_147 : decode cX6_stateAfter 147 = .ok (.goto 7, 3) := by decide +kernel
theorem dX6_stateAfter_150 : decode cX6_stateAfter 150 = .ok (.iload_n 1, 1) := by decide +kernel
theorem dX6_stateAfter_151 : decode cX6_stateAfter 151 = .ok (.invokestatic 65, 3) := by decide +kernel
theorem dX6_stateAfter_154 : decode cX6_stateAfter 154 = .ok (.ireturn, 1) := by decide +kernel
theorem dX6_stateAfter_155 : decode cX6_stateAfter 155 = .ok (.iload_n 1, 1) := by decide +kernel
theorem dX6_stateAfter_156 : decode cX6_stateAfter 156 = .ok (.bipush 45, 2) := by decide +kernel
theorem dX6_stateAfter_158 : decode cX6_stateAfter 158 = .ok (.if_icmp .ne 7, 3) := by decide +kernel
theorem dX6_stateAfter_161 : decode cX6_stateAfter 161 = .ok (.iconst 5, 1) := by decide +kernel
theorem dX6_stateAfter_162 : decode cX6_stateAfter 162 = .ok (.goto 7, 3) := by decide +kernel
theorem dX6_stateAfter_165 : decode cX6_stateAfter 165 = .ok (.iload_n 1, 1) := by decide +kernel
theorem dX6_stateAfter_166 : decode cX6_stateAfter 166 = .ok (.invokestatic 65, 3) := by decide +kernel
theorem dX6_stateAfter_169 : decode cX6_stateAfter 169 = .ok (.ireturn, 1) := by decide +kernel
theorem dX6_stateAfter_170 : decode cX6_stateAfter 170 = .ok (.iload_n 1, 1) := by decide +kernel
theorem dX6_stateAfter_171 : decode cX6_stateAfter 171 = .ok (.invokestatic 59, 3) := by decide +kernel
theorem dX6_stateAfter_174 : decode cX6_stateAfter 174 = .ok (.ifCond .eq 9, 3) := by decide +kernel
theorem dX6_stateAfter_177 : decode cX6_stateAfter 177 = .ok (.iload_n 0, 1) := by decide +kernel
theorem dX6_stateAfter_178 : decode cX6_stateAfter 178 = .ok (.iconst 1, 1) := by decide +kernel
theorem dX6_stateAfter_179 : decode cX6_stateAfter 179 = .ok (.iadd, 1) := by decide +kernel
theorem dX6_stateAfter_180 : decode cX6_stateAfter 180 = .ok (.goto 7, 3) := by decide +kernel
theorem dX6_stateAfter_183 : decode cX6_stateAfter 183 = .ok (.iload_n 1, 1) := by decide +kernel
theorem dX6_stateAfter_184 : decode cX6_stateAfter 184 = .ok (.invokestatic 65, 3) := by decide +kernel
theorem dX6_stateAfter_187 : decode cX6_stateAfter 187 = .ok (.ireturn, 1) := by decide +kernel
theorem dX6_stateAfter_188 : decode cX6_stateAfter 188 = .ok (.iload_n 1, 1) := by decide +kernel
theorem dX6_stateAfter_189 : decode cX6_stateAfter 189 = .ok (.invokestatic 65, 3) := by decide +kernel
theorem dX6_stateAfter_192 : decode cX6_stateAfter 192 = .ok (.ireturn, 1) := by decide +kernel
theorem dX6_stateAfter_193 : decode cX6_stateAfter 193 = .ok (.iload_n 1, 1) := by decide +kernel
theorem dX6_stateAfter_194 : decode cX6_stateAfter 194 = .ok (.bipush 44, 2) := by decide +kernel
theorem dX6_stateAfter_196 : decode cX6_stateAfter 196 = .ok (.if_icmp .ne 7, 3) := by decide +kernel
theorem dX6_stateAfter_199 : decode cX6_stateAfter 199 = .ok (.iconst 0, 1) := by decide +kernel
theorem dX6_stateAfter_200 : decode cX6_stateAfter 200 = .ok (.goto 4, 3) := by decide +kernel
theorem dX6_stateAfter_203 : decode cX6_stateAfter 203 = .ok (.iconst (-1), 1) := by decide +kernel
theorem dX6_stateAfter_204 : decode cX6_stateAfter 204 = .ok (.ireturn, 1) := by decide +kernel
theorem dX6_stateAfter_205 : decode cX6_stateAfter 205 = .ok (.iconst (-1), 1) := by decide +kernel
theorem dX6_stateAfter_206 : decode cX6_stateAfter 206 = .ok (.ireturn, 1) := by decide +kernel
def f6_stateAfter_b188 (v1 : Int32) (g : GS_) : Option (Int32 × GS_) :=
  bd_ (f6_spanEnds v1 g) fun z2 g1 => some (z2, g1)
theorem t6_stateAfter_b188 (v1 : Int32) (g : GS_) : K_ RX6 cX6_stateAfter 2 (some .int) 2 40 false EI_ 188 [none, some (.inl v1)] [] g (f6_stateAfter_b188 v1 g) := by
  unfold f6_stateAfter_b188
  refine k_iloadn (j := 1) dX6_stateAfter_188 rfl rfl ?_
  refine k_callSi [.inl v1] (t6_spanEnds v1 g) cw_cX6_spanEnds ml_6_65 rfl rfl (by decide) (by decide) (Nat.le_of_ble_eq_true rfl) dX6_stateAfter_189 (fun z2 g1 => ?_)
  exact k_ireturn rfl dX6_stateAfter_192
def f6_stateAfter_b102 (g : GS_) : Option (Int32 × GS_) :=
  some ((-1 : Int32), g)
theorem t6_stateAfter_b102 (g : GS_) : K_ RX6 cX6_stateAfter 2 (some .int) 2 40 false EI_ 102 [none, none] [] g (f6_stateAfter_b102 g) := by
  unfold f6_stateAfter_b102
  refine k_iconst (v := (-1 : Int32)) dX6_stateAfter_102 rfl ?_
  exact k_ireturn rfl dX6_stateAfter_103
def f6_stateAfter_b122 (v1 : Int32) (g : GS_) : Option (Int32 × GS_) :=
  bd_ (f6_spanEnds v1 g) fun z4 g3 => some (z4, g3)
theorem t6_stateAfter_b122 (v1 : Int32) (g : GS_) : K_ RX6 cX6_stateAfter 2 (some .int) 2 40 false EI_ 122 [none, some (.inl v1)] [] g (f6_stateAfter_b122 v1 g) := by
  unfold f6_stateAfter_b122
  refine k_iloadn (j := 1) dX6_stateAfter_122 rfl rfl ?_
  refine k_callSi [.inl v1] (t6_spanEnds v1 g) cw_cX6_spanEnds ml_6_65 rfl rfl (by decide) (by decide) (Nat.le_of_ble_eq_true rfl) dX6_stateAfter_123 (fun z4 g3 => ?_)
  exact k_ireturn rfl dX6_stateAfter_126
def f6_stateAfter_b127 (v0 : Int32) (v1 : Int32) (g : GS_) : Option (Int32 × GS_) :=
  bd_ (f6_isDigit v1 g) fun z6 g5 => if z6 = 0 then if v1 = (45 : Int32) then some ((5 : Int32), g5) else bd_ (f6_spanEnds v1 g5) fun z8 g7 => some (z8, g7) else some ((v0 + (1 : Int32)), g5)
theorem t6_stateAfter_b127 (v0 : Int32) (v1 : Int32) (g : GS_) : K_ RX6 cX6_stateAfter 2 (some .int) 2 40 false EI_ 127 [some (.inl v0), some (.inl v1)] [] g (f6_stateAfter_b127 v0 v1 g) := by
  unfold f6_stateAfter_b127
  refine k_iloadn (j := 1) dX6_stateAfter_127 rfl rfl ?_
  refine k_callSi [.inl v1] (t6_isDigit v1 g) cw_cX6_isDigit ml_6_59 rfl rfl (by decide) (by decide) (Nat.le_of_ble_eq_true rfl) dX6_stateAfter_128 (fun z6 g5 => ?_)
  refine k_ifeq (tgt := 140) dX6_stateAfter_131 (by decide) (fun _ => ?_) (fun _ => ?_)
  · refine k_iloadn (j := 1) dX6_stateAfter_140 rfl rfl ?_
    refine k_bipush (v := (45 : Int32)) dX6_stateAfter_141 rfl ?_
    refine k_icmpne (tgt := 150) dX6_stateAfter_143 (by decide) (fun _ => ?_) (fun _ => ?_)
    · refine k_iconst (v := (5 : Int32)) dX6_stateAfter_146 rfl ?_
      refine k_goto (tgt := 154) dX6_stateAfter_147 (by decide) ?_
      exact k_ireturn rfl dX6_stateAfter_154
    refine k_iloadn (j := 1) dX6_stateAfter_150 rfl rfl ?_
    refine k_callSi [.inl v1] (t6_spanEnds v1 g5) cw_cX6_spanEnds ml_6_65 rfl rfl (by decide) (by decide) (Nat.le_of_ble_eq_true rfl) dX6_stateAfter_151 (fun z8 g7 => ?_)
    exact k_ireturn rfl dX6_stateAfter_154
  refine k_iloadn (j := 0) dX6_stateAfter_134 rfl rfl ?_
  refine k_iconst (v := (1 : Int32)) dX6_stateAfter_135 rfl ?_
  refine k_iadd dX6_stateAfter_136 ?_
  refine k_goto (tgt := 154) dX6_stateAfter_137 (by decide) ?_
  exact k_ireturn rfl dX6_stateAfter_154
def f6_stateAfter_b170 (v0 : Int32) (v1 : Int32) (g : GS_) : Option (Int32 × GS_) :=
  bd_ (f6_isDigit v1 g) fun z10 g9 => if z10 = 0 then bd_ (f6_spanEnds v1 g9) fun z12 g11 => some (z12, g11) else some ((v0 + (1 : Int32)), g9)
theorem t6_stateAfter_b170 (v0 : Int32) (v1 : Int32) (g : GS_) : K_ RX6 cX6_stateAfter 2 (some .int) 2 40 false EI_ 170 [some (.inl v0), some (.inl v1)] [] g (f6_stateAfter_b170 v0 v1 g) := by
  unfold f6_stateAfter_b170
  refine k_iloadn (j := 1) dX6_stateAfter_170 rfl rfl ?_
  refine k_callSi [.inl v1] (t6_isDigit v1 g) cw_cX6_isDigit ml_6_59 rfl rfl (by decide) (by decide) (Nat.le_of_ble_eq_true rfl) dX6_stateAfter_171 (fun z10 g9 => ?_)
  refine k_ifeq (tgt := 183) dX6_stateAfter_174 (by decide) (fun _ => ?_) (fun _ => ?_)
  · refine k_iloadn (j := 1) dX6_stateAfter_183 rfl rfl ?_
    refine k_callSi [.inl v1] (t6_spanEnds v1 g9) cw_cX6_spanEnds ml_6_65 rfl rfl (by decide) (by decide) (Nat.le_of_ble_eq_true rfl) dX6_stateAfter_184 (fun z12 g11 => ?_)
    exact k_ireturn rfl dX6_stateAfter_187
  refine k_iloadn (j := 0) dX6_stateAfter_177 rfl rfl ?_
  refine k_iconst (v := (1 : Int32)) dX6_stateAfter_178 rfl ?_
  refine k_iadd dX6_stateAfter_179 ?_
  refine k_goto (tgt := 187) dX6_stateAfter_180 (by decide) ?_
  exact k_ireturn rfl dX6_stateAfter_187
def f6_stateAfter (v0 : Int32) (v1 : Int32) (g : GS_) : Option (Int32 × GS_) :=
  if v0 = (0 : Int32) then if v1 = (33 : Int32) then some ((1 : Int32), g) else bd_ (f6_spanBegins v1 g) fun z14 g13 => some (z14, g13) else if v0 = (1 : Int32) then bd_ (f6_spanBegins v1 g) fun z16 g15 => some (z16, g15) else if v0 = (2 : Int32) then f6_stateAfter_b188 v1 g else if v0 = (3 : Int32) then if v1 = (44 : Int32) then some ((0 : Int32), g) else some ((-1 : Int32), g) else if v0 = (4 : Int32) then bd_ (f6_isDigit v1 g) fun z18 g17 => if z18 = 0 then f6_stateAfter_b102 g17 else if v1 = (48 : Int32) then f6_stateAfter_b102 g17 else some ((9 : Int32), g17) else if v0 = (5 : Int32) then bd_ (f6_isDigit v1 g) fun z20 g19 => if z20 = 0 then f6_stateAfter_b122 v1 g19 else if v1 = (48 : Int32) then f6_stateAfter_b122 v1 g19 else some ((9 : Int32), g19) else if v0 = (6 : Int32) then f6_stateAfter_b127 v0 v1 g else if v0 = (7 : Int32) then f6_stateAfter_b127 v0 v1 g else if v0 = (8 : Int32) then if v1 = (45 : Int32) then some ((5 : Int32), g) else bd_ (f6_spanEnds v1 g) fun z22 g21 => some (z22, g21) else if v0 = (9 : Int32) then f6_stateAfter_b170 v0 v1 g else if v0 = (10 : Int32) then f6_stateAfter_b170 v0 v1 g else if v0 = (11 : Int32) then f6_stateAfter_b188 v1 g else some ((-1 : Int32), g)
theorem t6_stateAfter (v0 : Int32) (v1 : Int32) (g : GS_) : Cn_ yX6_stateAfter cX6_stateAfter 2 (some .int) 2 40 EI_ [.inl v0, .inl v1] g (f6_stateAfter v0 v1 g) := by
  refine k_method (own := RX6) (ini := false) (L1 := [some (.inl v0), some (.inl v1)]) (by decide +kernel) rfl (fun h => by cases h) (Nat.le_of_ble_eq_true rfl) rfl ?_
  unfold f6_stateAfter
  refine k_iloadn (j := 0) dX6_stateAfter_0 rfl rfl ?_
  refine k_case (fun h0_ => ?_) (fun h0_ => ?_)
  · refine k_tin (tgt := 64) dX6_stateAfter_1 h0_ (by decide) (by decide) rfl (by decide) ?_
    refine k_iloadn (j := 1) dX6_stateAfter_64 rfl rfl ?_
    refine k_bipush (v := (33 : Int32)) dX6_stateAfter_65 rfl ?_
    refine k_icmpne (tgt := 74) dX6_stateAfter_67 (by decide) (fun _ => ?_) (fun _ => ?_)
    · refine k_iconst (v := (1 : Int32)) dX6_stateAfter_70 rfl ?_
      refine k_goto (tgt := 78) dX6_stateAfter_71 (by decide) ?_
      exact k_ireturn rfl dX6_stateAfter_78
    refine k_iloadn (j := 1) dX6_stateAfter_74 rfl rfl ?_
    refine k_callSi [.inl v1] (t6_spanBegins v1 g) cw_cX6_spanBegins ml_6_62 rfl rfl (by decide) (by decide) (Nat.le_of_ble_eq_true rfl) dX6_stateAfter_75 (fun z14 g13 => ?_)
    exact k_ireturn rfl dX6_stateAfter_78
  refine k_case (fun h1_ => ?_) (fun h1_ => ?_)
  · refine k_tin (tgt := 79) dX6_stateAfter_1 h1_ (by decide) (by decide) rfl (by decide) ?_
    refine k_iloadn (j := 1) dX6_stateAfter_79 rfl rfl ?_
    refine k_callSi [.inl v1] (t6_spanBegins v1 g) cw_cX6_spanBegins ml_6_62 rfl rfl (by decide) (by decide) (Nat.le_of_ble_eq_true rfl) dX6_stateAfter_80 (fun z16 g15 => ?_)
    exact k_ireturn rfl dX6_stateAfter_83
  refine k_case (fun h2_ => ?_) (fun h2_ => ?_)
  · refine k_tin (tgt := 188) dX6_stateAfter_1 h2_ (by decide) (by decide) rfl (by decide) ?_
    refine k_msk (L' := [none, some (.inl v1)]) [false, true] rfl ?_
    exact t6_stateAfter_b188 v1 g
  refine k_case (fun h3_ => ?_) (fun h3_ => ?_)
  · refine k_tin (tgt := 193) dX6_stateAfter_1 h3_ (by decide) (by decide) rfl (by decide) ?_
    refine k_iloadn (j := 1) dX6_stateAfter_193 rfl rfl ?_
    refine k_bipush (v := (44 : Int32)) dX6_stateAfter_194 rfl ?_
    refine k_icmpne (tgt := 203) dX6_stateAfter_196 (by decide) (fun _ => ?_) (fun _ => ?_)
    · refine k_iconst (v := (0 : Int32)) dX6_stateAfter_199 rfl ?_
      refine k_goto (tgt := 204) dX6_stateAfter_200 (by decide) ?_
      exact k_ireturn rfl dX6_stateAfter_204
    refine k_iconst (v := (-1 : Int32)) dX6_stateAfter_203 rfl ?_
    exact k_ireturn rfl dX6_stateAfter_204
  refine k_case (fun h4_ => ?_) (fun h4_ => ?_)
  · refine k_tin (tgt := 84) dX6_stateAfter_1 h4_ (by decide) (by decide) rfl (by decide) ?_
    refine k_iloadn (j := 1) dX6_stateAfter_84 rfl rfl ?_
    refine k_callSi [.inl v1] (t6_isDigit v1 g) cw_cX6_isDigit ml_6_59 rfl rfl (by decide) (by decide) (Nat.le_of_ble_eq_true rfl) dX6_stateAfter_85 (fun z18 g17 => ?_)
    refine k_ifeq (tgt := 102) dX6_stateAfter_88 (by decide) (fun _ => ?_) (fun _ => ?_)
    · refine k_msk (L' := [none, none]) [false, false] rfl ?_
      exact t6_stateAfter_b102 g17
    refine k_iloadn (j := 1) dX6_stateAfter_91 rfl rfl ?_
    refine k_bipush (v := (48 : Int32)) dX6_stateAfter_92 rfl ?_
    refine k_icmpeq (tgt := 102) dX6_stateAfter_94 (by decide) (fun _ => ?_) (fun _ => ?_)
    · refine k_msk (L' := [none, none]) [false, false] rfl ?_
      exact t6_stateAfter_b102 g17
    refine k_bipush (v := (9 : Int32)) dX6_stateAfter_97 rfl ?_
    refine k_goto (tgt := 103) dX6_stateAfter_99 (by decide) ?_
    exact k_ireturn rfl dX6_stateAfter_103
  refine k_case (fun h5_ => ?_) (fun h5_ => ?_)
  · refine k_tin (tgt := 104) dX6_stateAfter_1 h5_ (by decide) (by decide) rfl (by decide) ?_
    refine k_iloadn (j := 1) dX6_stateAfter_104 rfl rfl ?_
    refine k_callSi [.inl v1] (t6_isDigit v1 g) cw_cX6_isDigit ml_6_59 rfl rfl (by decide) (by decide) (Nat.le_of_ble_eq_true rfl) dX6_stateAfter_105 (fun z20 g19 => ?_)
    refine k_ifeq (tgt := 122) dX6_stateAfter_108 (by decide) (fun _ => ?_) (fun _ => ?_)
    · refine k_msk (L' := [none, some (.inl v1)]) [false, true] rfl ?_
      exact t6_stateAfter_b122 v1 g19
    refine k_iloadn (j := 1) dX6_stateAfter_111 rfl rfl ?_
    refine k_bipush (v := (48 : Int32)) dX6_stateAfter_112 rfl ?_
    refine k_icmpeq (tgt := 122) dX6_stateAfter_114 (by decide) (fun _ => ?_) (fun _ => ?_)
    · refine k_msk (L' := [none, some (.inl v1)]) [false, true] rfl ?_
      exact t6_stateAfter_b122 v1 g19
    refine k_bipush (v := (9 : Int32)) dX6_stateAfter_117 rfl ?_
    refine k_goto (tgt := 126) dX6_stateAfter_119 (by decide) ?_
    exact k_ireturn rfl dX6_stateAfter_126
  refine k_case (fun h6_ => ?_) (fun h6_ => ?_)
  · refine k_tin (tgt := 127) dX6_stateAfter_1 h6_ (by decide) (by decide) rfl (by decide) ?_
    exact t6_stateAfter_b127 v0 v1 g
  refine k_case (fun h7_ => ?_) (fun h7_ => ?_)
  · refine k_tin (tgt := 127) dX6_stateAfter_1 h7_ (by decide) (by decide) rfl (by decide) ?_
    exact t6_stateAfter_b127 v0 v1 g
  refine k_case (fun h8_ => ?_) (fun h8_ => ?_)
  · refine k_tin (tgt := 155) dX6_stateAfter_1 h8_ (by decide) (by decide) rfl (by decide) ?_
    refine k_iloadn (j := 1) dX6_stateAfter_155 rfl rfl ?_
    refine k_bipush (v := (45 : Int32)) dX6_stateAfter_156 rfl ?_
    refine k_icmpne (tgt := 165) dX6_stateAfter_158 (by decide) (fun _ => ?_) (fun _ => ?_)
    · refine k_iconst (v := (5 : Int32)) dX6_stateAfter_161 rfl ?_
      refine k_goto (tgt := 169) dX6_stateAfter_162 (by decide) ?_
      exact k_ireturn rfl dX6_stateAfter_169
    refine k_iloadn (j := 1) dX6_stateAfter_165 rfl rfl ?_
    refine k_callSi [.inl v1] (t6_spanEnds v1 g) cw_cX6_spanEnds ml_6_65 rfl rfl (by decide) (by decide) (Nat.le_of_ble_eq_true rfl) dX6_stateAfter_166 (fun z22 g21 => ?_)
    exact k_ireturn rfl dX6_stateAfter_169
  refine k_case (fun h9_ => ?_) (fun h9_ => ?_)
  · refine k_tin (tgt := 170) dX6_stateAfter_1 h9_ (by decide) (by decide) rfl (by decide) ?_
    exact t6_stateAfter_b170 v0 v1 g
  refine k_case (fun h10_ => ?_) (fun h10_ => ?_)
  · refine k_tin (tgt := 170) dX6_stateAfter_1 h10_ (by decide) (by decide) rfl (by decide) ?_
    exact t6_stateAfter_b170 v0 v1 g
  refine k_case (fun h11_ => ?_) (fun h11_ => ?_)
  · refine k_tin (tgt := 188) dX6_stateAfter_1 h11_ (by decide) (by decide) rfl (by decide) ?_
    refine k_msk (L' := [none, some (.inl v1)]) [false, true] rfl ?_
    exact t6_stateAfter_b188 v1 g
  refine k_tout (tgt := 205) dX6_stateAfter_1 (by have q0 := lv_neT (a := 0) h0_ (by decide); have q1 := lv_neT (a := 1) h1_ (by decide); have q2 := lv_neT (a := 2) h2_ (by decide); have q3 := lv_neT (a := 3) h3_ (by decide); have q4 := lv_neT (a := 4) h4_ (by decide); have q5 := lv_neT (a := 5) h5_ (by decide); have q6 := lv_neT (a := 6) h6_ (by decide); have q7 := lv_neT (a := 7) h7_ (by decide); have q8 := lv_neT (a := 8) h8_ (by decide); have q9 := lv_neT (a := 9) h9_ (by decide); have q10 := lv_neT (a := 10) h10_ (by decide); have q11 := lv_neT (a := 11) h11_ (by decide); omega) (by decide) ?_
  refine k_iconst (v := (-1 : Int32)) dX6_stateAfter_205 rfl ?_
  exact k_ireturn rfl dX6_stateAfter_206
theorem dX6_copyFrom_0 : decode cX6_copyFrom 0 = .ok (.aload_n 0, 1) := by decide +kernel
theorem dX6_copyFrom_1 : decode cX6_copyFrom 1 = .ok (.aload_n 1, 1) := by decide +kernel
theorem dX6_copyFrom_2 : decode cX6_copyFrom 2 = .ok (.getfield 15, 3) := by decide +kernel
theorem dX6_copyFrom_5 : decode cX6_copyFrom 5 = .ok (.putfield 15, 3) := by decide +kernel
theorem dX6_copyFrom_8 : decode cX6_copyFrom 8 = .ok (.aload_n 1, 1) := by decide +kernel
theorem dX6_copyFrom_9 : decode cX6_copyFrom 9 = .ok (.getfield 9, 3) := by decide +kernel
theorem dX6_copyFrom_12 : decode cX6_copyFrom 12 = .ok (.iconst 0, 1) := by decide +kernel
theorem dX6_copyFrom_13 : decode cX6_copyFrom 13 = .ok (.aload_n 0, 1) := by decide +kernel
theorem dX6_copyFrom_14 : decode cX6_copyFrom 14 = .ok (.getfield 9, 3) := by decide +kernel
theorem dX6_copyFrom_17 : decode cX6_copyFrom 17 = .ok (.iconst 0, 1) := by decide +kernel
theorem dX6_copyFrom_18 : decode cX6_copyFrom 18 = .ok (.aload_n 0, 1) := by decide +kernel
theorem dX6_copyFrom_19 : decode cX6_copyFrom 19 = .ok (.getfield 9, 3) := by decide +kernel
theorem dX6_copyFrom_22 : decode cX6_copyFrom 22 = .ok (.arraylength, 1) := by decide +kernel
theorem dX6_copyFrom_23 : decode cX6_copyFrom 23 = .ok (.invokestatic 68, 3) := by decide +kernel
theorem dX6_copyFrom_26 : decode cX6_copyFrom 26 = .ok (.return_, 1) := by decide +kernel
def f6_copyFrom (v0 : Nat) (v1 : Option Nat) (g : GS_) : Option (Unit × GS_) :=
  oc_ v1 none fun a1 => lr_ (sfi g 193 v0 (gfi g 193 a1)) fun g2 => lr_ (gfr g2 192 a1) fun x3 => lr_ (gfr g2 192 v0) fun x4 => lr_ (gfr g2 192 v0) fun x5 => oc_ x5 none fun a6 => oc_ x3 none fun a7 => oc_ x4 none fun a8 => cp_ g2 a7 a8 (0 : Int32) (0 : Int32) (Int32.ofNat (gln g2 20 a6)) fun g9 => some ((), g9)
theorem t6_copyFrom (v0 : Nat) (v1 : Option Nat) (g : GS_) : Cn_ yX6_copyFrom cX6_copyFrom 2 none 1 40 EV_ [.inr (6, some v0), .inr (6, v1)] g (f6_copyFrom v0 v1 g) := by
  refine k_method (own := RX6) (ini := false) (L1 := [some (.inr (6, some v0)), some (.inr (6, v1))]) (by decide +kernel) rfl (fun h => by cases h) (Nat.le_of_ble_eq_true rfl) rfl ?_
  unfold f6_copyFrom
  refine k_aloadn (j := 0) dX6_copyFrom_0 rfl rfl ?_
  refine k_aloadn (j := 1) dX6_copyFrom_1 rfl rfl ?_
  rcases v1 with _ | a1
  · exact k_ocn
  refine k_ocs ?_
  refine k_geti fg_6_15 rfl rfl dX6_copyFrom_2 ?_
  refine k_puti fp_6_15 rfl rfl dX6_copyFrom_5 (fun g2 => ?_)
  refine k_aloadn (j := 1) dX6_copyFrom_8 rfl rfl ?_
  refine k_getr fg_6_9 rfl rfl dX6_copyFrom_9 (fun x3 => ?_)
  refine k_iconst (v := (0 : Int32)) dX6_copyFrom_12 rfl ?_
  refine k_aloadn (j := 0) dX6_copyFrom_13 rfl rfl ?_
  refine k_getr fg_6_9 rfl rfl dX6_copyFrom_14 (fun x4 => ?_)
  refine k_iconst (v := (0 : Int32)) dX6_copyFrom_17 rfl ?_
  refine k_aloadn (j := 0) dX6_copyFrom_18 rfl rfl ?_
  refine k_getr fg_6_9 rfl rfl dX6_copyFrom_19 (fun x5 => ?_)
  rcases x5 with _ | a6
  · exact k_ocn
  refine k_ocs ?_
  refine k_alen dX6_copyFrom_22 (by decide) ?_
  rcases x3 with _ | a7
  · exact k_ocn
  refine k_ocs ?_
  rcases x4 with _ | a8
  · exact k_ocn
  refine k_ocs ?_
  refine k_copy yw_ ml_6_68 (by decide) (Nat.le_of_ble_eq_true rfl) dX6_copyFrom_23 (fun g9 => ?_)
  exact k_return rfl dX6_copyFrom_26
theorem dX6_init_0 : decode cX6_init 0 = .ok (.aload_n 0, 1) := by decide +kernel
theorem dX6_init_1 : decode cX6_init 1 = .ok (.invokespecial 3, 3) := by decide +kernel
theorem dX6_init_4 : decode cX6_init 4 = .ok (.aload_n 0, 1) := by decide +kernel
theorem dX6_init_5 : decode cX6_init 5 = .ok (.bipush 40, 2) := by decide +kernel
theorem dX6_init_7 : decode cX6_init 7 = .ok (.newarray .int, 2) := by decide +kernel
theorem dX6_init_9 : decode cX6_init 9 = .ok (.putfield 9, 3) := by decide +kernel
theorem dX6_init_12 : decode cX6_init 12 = .ok (.aload_n 0, 1) := by decide +kernel
theorem dX6_init_13 : decode cX6_init 13 = .ok (.iconst 0, 1) := by decide +kernel
theorem dX6_init_14 : decode cX6_init 14 = .ok (.putfield 15, 3) := by decide +kernel
theorem dX6_init_17 : decode cX6_init 17 = .ok (.aload_n 0, 1) := by decide +kernel
theorem dX6_init_18 : decode cX6_init 18 = .ok (.iconst 0, 1) := by decide +kernel
theorem dX6_init_19 : decode cX6_init 19 = .ok (.putfield 19, 3) := by decide +kernel
theorem dX6_init_22 : decode cX6_init 22 = .ok (.return_, 1) := by decide +kernel
def f6_init (v0 : Nat) (g : GS_) : Option (Unit × GS_) :=
  na_ g 20 (40 : Int32) fun a1 g2 => lr_ (sfr g2 192 v0 (some a1)) fun g3 => lr_ (sfi g3 193 v0 (0 : Int32)) fun g4 => lr_ (sfi g4 194 v0 (0 : Int32)) fun g5 => some ((), g5)
theorem t6_init (v0 : Nat) (g : GS_) : Cn_ yX6_init cX6_init 1 none 1 12 EV_ [.inr (6, some v0)] g (f6_init v0 g) := by
  refine k_method (own := RX6) (ini := true) (L1 := [some (.inr (6, some v0))]) (by decide +kernel) rfl (fun _ => rfl) (Nat.le_of_ble_eq_true rfl) rfl ?_
  unfold f6_init
  refine k_aloadn (j := 0) dX6_init_0 rfl rfl ?_
  refine k_objInit ml_6_3 oi_.1 oi_.2 (by decide) (Nat.le_of_ble_eq_true rfl) dX6_init_1 ?_
  refine k_aloadn (j := 0) dX6_init_4 rfl rfl ?_
  refine k_bipush (v := (40 : Int32)) dX6_init_5 rfl ?_
  refine k_newa ac_20 dX6_init_7 (fun a1 g2 => ?_)
  refine k_putfr fp_6_9 ty_arr rfl rfl rfl dX6_init_9 (fun g3 => ?_)
  refine k_aloadn (j := 0) dX6_init_12 rfl rfl ?_
  refine k_iconst (v := (0 : Int32)) dX6_init_13 rfl ?_
  refine k_puti fp_6_15 rfl rfl dX6_init_14 (fun g4 => ?_)
  refine k_aloadn (j := 0) dX6_init_17 rfl rfl ?_
  refine k_iconst (v := (0 : Int32)) dX6_init_18 rfl ?_
  refine k_puti fp_6_19 rfl rfl dX6_init_19 (fun g5 => ?_)
  exact k_return rfl dX6_init_22
theorem dX6_append_0 : decode cX6_append 0 = .ok (.aload_n 0, 1) := by decide +kernel
theorem dX6_append_1 : decode cX6_append 1 = .ok (.getfield 15, 3) := by decide +kernel
theorem dX6_append_4 : decode cX6_append 4 = .ok (.ifCond .lt 15, 3) := by decide +kernel
theorem dX6_append_7 : decode cX6_append 7 = .ok (.aload_n 0, 1) := by decide +kernel
theorem dX6_append_8 : decode cX6_append 8 = .ok (.getfield 15, 3) := by decide +kernel
theorem dX6_append_11 : decode cX6_append 11 = .ok (.aload_n 0, 1) := by decide +kernel
theorem dX6_append_12 : decode cX6_append 12 = .ok (.getfield 9, 3) := by decide +kernel
theorem dX6_append_15 : decode cX6_append 15 = .ok (.arraylength, 1) := by decide +kernel
theorem dX6_append_16 : decode cX6_append 16 = .ok (.if_icmp .lt 5, 3) := by decide +kernel
theorem dX6_append_19 : decode cX6_append 19 = .ok (.iconst 0, 1) := by decide +kernel
theorem dX6_append_20 : decode cX6_append 20 = .ok (.ireturn, 1) := by decide +kernel
theorem dX6_append_21 : decode cX6_append 21 = .ok (.aload_n 0, 1) := by decide +kernel
theorem dX6_append_22 : decode cX6_append 22 = .ok (.getfield 9, 3) := by decide +kernel
theorem dX6_append_25 : decode cX6_append 25 = .ok (.aload_n 0, 1) := by decide +kernel
theorem dX6_append_26 : decode cX6_append 26 = .ok (.getfield 15, 3) := by decide +kernel
theorem dX6_append_29 : decode cX6_append 29 = .ok (.iload_n 1, 1) := by decide +kernel
theorem dX6_append_30 : decode cX6_append 30 = .ok (.iastore, 1) := by decide +kernel
theorem dX6_append_31 : decode cX6_append 31 = .ok (.aload_n 0, 1) := by decide +kernel
theorem dX6_append_32 : decode cX6_append 32 = .ok (.dup, 1) := by decide +kernel
theorem dX6_append_33 : decode cX6_append 33 = .ok (.getfield 15, 3) := by decide +kernel
theorem dX6_append_36 : decode cX6_append 36 = .ok (.iconst 1, 1) := by decide +kernel
theorem dX6_append_37 : decode cX6_append 37 = .ok (.iadd, 1) := by decide +kernel
theorem dX6_append_38 : decode cX6_append 38 = .ok (.putfield 15, 3) := by decide +kernel
theorem dX6_append_41 : decode cX6_append 41 = .ok (.iconst 1, 1) := by decide +kernel
theorem dX6_append_42 : decode cX6_append 42 = .ok (.ireturn, 1) := by decide +kernel
def f6_append (v0 : Nat) (v1 : Int32) (g : GS_) : Option (Int32 × GS_) :=
  if (gfi g 193 v0) < 0 then some ((0 : Int32), g) else lr_ (gfr g 192 v0) fun x1 => oc_ x1 none fun a2 => if (gfi g 193 v0) < (Int32.ofNat (gln g 20 a2)) then lr_ (gfr g 192 v0) fun x3 => oc_ x3 none fun a4 => if inb (gfi g 193 v0) (gln g 20 a4) then lr_ (sai g 20 a4 (gfi g 193 v0).toInt.toNat v1) (fun g5 => lr_ (sfi g5 193 v0 ((gfi g5 193 v0) + (1 : Int32))) fun g6 => some ((1 : Int32), g6)) else none else some ((0 : Int32), g)
theorem t6_append (v0 : Nat) (v1 : Int32) (g : GS_) : Cn_ yX6_append cX6_append 2 (some .boolean) 0 0 EI_ [.inr (6, some v0), .inl v1] g (f6_append v0 v1 g) := by
  refine k_method (own := RX6) (ini := false) (L1 := [some (.inr (6, some v0)), some (.inl v1)]) (by decide +kernel) rfl (fun h => by cases h) (Nat.le_of_ble_eq_true rfl) rfl ?_
  unfold f6_append
  refine k_aloadn (j := 0) dX6_append_0 rfl rfl ?_
  refine k_geti fg_6_15 rfl rfl dX6_append_1 ?_
  refine k_iflt (tgt := 19) dX6_append_4 (by decide) (fun _ => ?_) (fun _ => ?_)
  · refine k_iconst (v := (0 : Int32)) dX6_append_19 rfl ?_
    exact k_zreturn rfl (by decide) dX6_append_20
  refine k_aloadn (j := 0) dX6_append_7 rfl rfl ?_
  refine k_geti fg_6_15 rfl rfl dX6_append_8 ?_
  refine k_aloadn (j := 0) dX6_append_11 rfl rfl ?_
  refine k_getr fg_6_9 rfl rfl dX6_append_12 (fun x1 => ?_)
  rcases x1 with _ | a2
  · exact k_ocn
  refine k_ocs ?_
  refine k_alen dX6_append_15 (by decide) ?_
  refine k_icmplt (tgt := 21) dX6_append_16 (by decide) (fun _ => ?_) (fun _ => ?_)
  · refine k_aloadn (j := 0) dX6_append_21 rfl rfl ?_
    refine k_getr fg_6_9 rfl rfl dX6_append_22 (fun x3 => ?_)
    refine k_aloadn (j := 0) dX6_append_25 rfl rfl ?_
    refine k_geti fg_6_15 rfl rfl dX6_append_26 ?_
    refine k_iloadn (j := 1) dX6_append_29 rfl rfl ?_
    rcases x3 with _ | a4
    · exact k_ocn
    refine k_ocs ?_
    refine k_iast dX6_append_30 (fun g5 => ?_)
    refine k_aloadn (j := 0) dX6_append_31 rfl rfl ?_
    refine k_dup dX6_append_32 ?_
    refine k_geti fg_6_15 rfl rfl dX6_append_33 ?_
    refine k_iconst (v := (1 : Int32)) dX6_append_36 rfl ?_
    refine k_iadd dX6_append_37 ?_
    refine k_puti fp_6_15 rfl rfl dX6_append_38 (fun g6 => ?_)
    refine k_iconst (v := (1 : Int32)) dX6_append_41 rfl ?_
    exact k_zreturn rfl (by decide) dX6_append_42
  refine k_iconst (v := (0 : Int32)) dX6_append_19 rfl ?_
  exact k_zreturn rfl (by decide) dX6_append_20
theorem dX6_characterAt_0 : decode cX6_characterAt 0 = .ok (.iload_n 1, 1) := by decide +kernel
theorem dX6_characterAt_1 : decode cX6_characterAt 1 = .ok (.ifCond .lt 29, 3) := by decide +kernel
theorem dX6_characterAt_4 : decode cX6_characterAt 4 = .ok (.iload_n 1, 1) := by decide +kernel
theorem dX6_characterAt_5 : decode cX6_characterAt 5 = .ok (.aload_n 0, 1) := by decide +kernel
theorem dX6_characterAt_6 : decode cX6_characterAt 6 = .ok (.getfield 15, 3) := by decide +kernel
theorem dX6_characterAt_9 : decode cX6_characterAt 9 = .ok (.if_icmp .ge 21, 3) := by decide +kernel
theorem dX6_characterAt_12 : decode cX6_characterAt 12 = .ok (.iload_n 1, 1) := by decide +kernel
theorem dX6_characterAt_13 : decode cX6_characterAt 13 = .ok (.aload_n 0, 1) := by decide +kernel
theorem dX6_characterAt_14 : decode cX6_characterAt 14 = .ok (.getfield 9, 3) := by decide +kernel
theorem dX6_characterAt_17 : decode cX6_characterAt 17 = .ok (.arraylength, 1) := by decide +kernel
theorem dX6_characterAt_18 : decode cX6_characterAt 18 = .ok (.if_icmp .ge 12, 3) := by decide +kernel
theorem dX6_characterAt_21 : decode cX6_characterAt 21 = .ok (.aload_n 0, 1) := by decide +kernel
theorem dX6_characterAt_22 : decode cX6_characterAt 22 = .ok (.getfield 9, 3) := by decide +kernel
theorem dX6_characterAt_25 : decode cX6_characterAt 25 = .ok (.iload_n 1, 1) := by decide +kernel
theorem dX6_characterAt_26 : decode cX6_characterAt 26 = .ok (.iaload, 1) := by decide +kernel
theorem dX6_characterAt_27 : decode cX6_characterAt 27 = .ok (.goto 4, 3) := by decide +kernel
theorem dX6_characterAt_30 : decode cX6_characterAt 30 = .ok (.iconst 0, 1) := by decide +kernel
theorem dX6_characterAt_31 : decode cX6_characterAt 31 = .ok (.ireturn, 1) := by decide +kernel
def f6_characterAt_b30 (g : GS_) : Option (Int32 × GS_) :=
  some ((0 : Int32), g)
theorem t6_characterAt_b30 (g : GS_) : K_ RX6 cX6_characterAt 2 (some .int) 0 0 false EI_ 30 [none, none] [] g (f6_characterAt_b30 g) := by
  unfold f6_characterAt_b30
  refine k_iconst (v := (0 : Int32)) dX6_characterAt_30 rfl ?_
  exact k_ireturn rfl dX6_characterAt_31
def f6_characterAt (v0 : Nat) (v1 : Int32) (g : GS_) : Option (Int32 × GS_) :=
  if v1 < 0 then f6_characterAt_b30 g else if (gfi g 193 v0) ≤ v1 then f6_characterAt_b30 g else lr_ (gfr g 192 v0) fun x1 => oc_ x1 none fun a2 => if (Int32.ofNat (gln g 20 a2)) ≤ v1 then f6_characterAt_b30 g else lr_ (gfr g 192 v0) fun x3 => oc_ x3 none fun a4 => if inb v1 (gln g 20 a4) then some ((gai g 20 a4 v1.toInt.toNat), g) else none
theorem t6_characterAt (v0 : Nat) (v1 : Int32) (g : GS_) : Cn_ yX6_characterAt cX6_characterAt 2 (some .int) 0 0 EI_ [.inr (6, some v0), .inl v1] g (f6_characterAt v0 v1 g) := by
  refine k_method (own := RX6) (ini := false) (L1 := [some (.inr (6, some v0)), some (.inl v1)]) (by decide +kernel) rfl (fun h => by cases h) (Nat.le_of_ble_eq_true rfl) rfl ?_
  unfold f6_characterAt
  refine k_iloadn (j := 1) dX6_characterAt_0 rfl rfl ?_
  refine k_iflt (tgt := 30) dX6_characterAt_1 (by decide) (fun _ => ?_) (fun _ => ?_)
  · refine k_msk (L' := [none, none]) [false, false] rfl ?_
    exact t6_characterAt_b30 g
  refine k_iloadn (j := 1) dX6_characterAt_4 rfl rfl ?_
  refine k_aloadn (j := 0) dX6_characterAt_5 rfl rfl ?_
  refine k_geti fg_6_15 rfl rfl dX6_characterAt_6 ?_
  refine k_icmpge (tgt := 30) dX6_characterAt_9 (by decide) (fun _ => ?_) (fun _ => ?_)
  · refine k_msk (L' := [none, none]) [false, false] rfl ?_
    exact t6_characterAt_b30 g
  refine k_iloadn (j := 1) dX6_characterAt_12 rfl rfl ?_
  refine k_aloadn (j := 0) dX6_characterAt_13 rfl rfl ?_
  refine k_getr fg_6_9 rfl rfl dX6_characterAt_14 (fun x1 => ?_)
  rcases x1 with _ | a2
  · exact k_ocn
  refine k_ocs ?_
  refine k_alen dX6_characterAt_17 (by decide) ?_
  refine k_icmpge (tgt := 30) dX6_characterAt_18 (by decide) (fun _ => ?_) (fun _ => ?_)
  · refine k_msk (L' := [none, none]) [false, false] rfl ?_
    exact t6_characterAt_b30 g
  refine k_aloadn (j := 0) dX6_characterAt_21 rfl rfl ?_
  refine k_getr fg_6_9 rfl rfl dX6_characterAt_22 (fun x3 => ?_)
  refine k_iloadn (j := 1) dX6_characterAt_25 rfl rfl ?_
  rcases x3 with _ | a4
  · exact k_ocn
  refine k_ocs ?_
  refine k_iald dX6_characterAt_26 ?_
  refine k_goto (tgt := 31) dX6_characterAt_27 (by decide) ?_
  exact k_ireturn rfl dX6_characterAt_31
theorem dX6_firstFault_0 : decode cX6_firstFault 0 = .ok (.iconst 0, 1) := by decide +kernel
theorem dX6_firstFault_1 : decode cX6_firstFault 1 = .ok (.istore_n 1, 1) := by decide +kernel
theorem dX6_firstFault_2 : decode cX6_firstFault 2 = .ok (.iconst 0, 1) := by decide +kernel
theorem dX6_firstFault_3 : decode cX6_firstFault 3 = .ok (.istore_n 2, 1) := by decide +kernel
theorem dX6_firstFault_4 : decode cX6_firstFault 4 = .ok (.iload_n 2, 1) := by decide +kernel
theorem dX6_firstFault_5 : decode cX6_firstFault 5 = .ok (.aload_n 0, 1) := by decide +kernel
theorem dX6_firstFault_6 : decode cX6_firstFault 6 = .ok (.getfield 15, 3) := by decide +kernel
theorem dX6_firstFault_9 : decode cX6_firstFault 9 = .ok (.if_icmp .ge 26, 3) := by decide +kernel
theorem dX6_firstFault_12 : decode cX6_firstFault 12 = .ok (.iload_n 1, 1) := by decide +kernel
theorem dX6_firstFault_13 : decode cX6_firstFault 13 = .ok (.aload_n 0, 1) := by decide +kernel
theorem dX6_firstFault_14 : decode cX6_firstFault 14 = .ok (.iload_n 2, 1) := by decide +kernel
theorem dX6_firstFault_15 : decode cX6_firstFault 15 = .ok (.invokevirtual 22, 3) := by decide +kernel
theorem dX6_firstFault_18 : decode cX6_firstFault 18 = .ok (.invokestatic 26, 3) := by decide +kernel
theorem dX6_firstFault_21 : decode cX6_firstFault 21 = .ok (.istore_n 1, 1) := by decide +kernel
theorem dX6_firstFault_22 : decode cX6_firstFault 22 = .ok (.iload_n 1, 1) := by decide +kernel
theorem dX6_firstFault_23 : decode cX6_firstFault 23 = .ok (.iconst (-1), 1) := by decide +kernel
theorem dX6_firstFault_24 : decode cX6_firstFault 24 = .ok (.if_icmp .ne 5, 3) := by decide +kernel
theorem dX6_firstFault_27 : decode cX6_firstFault 27 = .ok (.iload_n 2, 1) := by decide +kernel
theorem dX6_firstFault_28 : decode cX6_firstFault 28 = .ok (.ireturn, 1) := by decide +kernel
theorem dX6_firstFault_29 : decode cX6_firstFault 29 = .ok (.iinc 2 1, 3) := by decide +kernel
theorem dX6_firstFault_32 : decode cX6_firstFault 32 = .ok (.goto (-28), 3) := by decide +kernel
theorem dX6_firstFault_35 : decode cX6_firstFault 35 = .ok (.iload_n 1, 1) := by decide +kernel
theorem dX6_firstFault_36 : decode cX6_firstFault 36 = .ok (.ifCond .eq 13, 3) := by decide +kernel
theorem dX6_firstFault_39 : decode cX6_firstFault 39 = .ok (.iload_n 1, 1) := by decide +kernel
theorem dX6_firstFault_40 : decode cX6_firstFault 40 = .ok (.iconst 1, 1) := by decide +kernel
theorem dX6_firstFault_41 : decode cX6_firstFault 41 = .ok (.if_icmp .eq 8, 3) := by decide +kernel
theorem dX6_firstFault_44 : decode cX6_firstFault 44 = .ok (.iload_n 1, 1) := by decide +kernel
theorem dX6_firstFault_45 : decode cX6_firstFault 45 = .ok (.iconst 4, 1) := by decide +kernel
theorem dX6_firstFault_46 : decode cX6_firstFault 46 = .ok (.if_icmp .ne 7, 3) := by decide +kernel
theorem dX6_firstFault_49 : decode cX6_firstFault 49 = .ok (.iconst 1, 1) := by decide +kernel
theorem dX6_firstFault_50 : decode cX6_firstFault 50 = .ok (.goto 4, 3) := by decide +kernel
theorem dX6_firstFault_53 : decode cX6_firstFault 53 = .ok (.iconst 0, 1) := by decide +kernel
theorem dX6_firstFault_54 : decode cX6_firstFault 54 = .ok (.istore_n 2, 1) := by decide +kernel
theorem dX6_firstFault_55 : decode cX6_firstFault 55 = .ok (.iload_n 2, 1) := by decide +kernel
theorem dX6_firstFault_56 : decode cX6_firstFault 56 = .ok (.ifCond .eq 10, 3) := by decide +kernel
theorem dX6_firstFault_59 : decode cX6_firstFault 59 = .ok (.aload_n 0, 1) := by decide +kernel
theorem dX6_firstFault_60 : decode cX6_firstFault 60 = .ok (.getfield 15, 3) := by decide +kernel
theorem dX6_firstFault_63 : decode cX6_firstFault 63 = .ok (.goto 5, 3) := by decide +kernel
theorem dX6_firstFault_66 : decode cX6_firstFault 66 = .ok (.bipush (-6), 2) := by decide +kernel
theorem dX6_firstFault_68 : decode cX6_firstFault 68 = .ok (.ireturn, 1) := by decide +kernel
def f6_firstFault_b54 (v0 : Nat) (s0 : Int32) (g : GS_) : Option (Int32 × GS_) :=
  if s0 = 0 then some ((-6 : Int32), g) else some ((gfi g 193 v0), g)
theorem t6_firstFault_b54 (v0 : Nat) (s0 : Int32) (g : GS_) : K_ RX6 cX6_firstFault 3 (some .int) 3 61 false EI_ 54 [some (.inr (6, some v0)), none, none] [.inl s0] g (f6_firstFault_b54 v0 s0 g) := by
  unfold f6_firstFault_b54
  refine k_istn (j := 2) (L' := [some (.inr (6, some v0)), none, some (.inl s0)]) dX6_firstFault_54 rfl (by decide) rfl ?_
  refine k_iloadn (j := 2) dX6_firstFault_55 rfl rfl ?_
  refine k_ifeq (tgt := 66) dX6_firstFault_56 (by decide) (fun _ => ?_) (fun _ => ?_)
  · refine k_bipush (v := (-6 : Int32)) dX6_firstFault_66 rfl ?_
    exact k_ireturn rfl dX6_firstFault_68
  refine k_aloadn (j := 0) dX6_firstFault_59 rfl rfl ?_
  refine k_geti fg_6_15 rfl rfl dX6_firstFault_60 ?_
  refine k_goto (tgt := 68) dX6_firstFault_63 (by decide) ?_
  exact k_ireturn rfl dX6_firstFault_68
def f6_firstFault_b49 (v0 : Nat) (g : GS_) : Option (Int32 × GS_) :=
  f6_firstFault_b54 v0 (1 : Int32) g
theorem t6_firstFault_b49 (v0 : Nat) (g : GS_) : K_ RX6 cX6_firstFault 3 (some .int) 3 61 false EI_ 49 [some (.inr (6, some v0)), none, none] [] g (f6_firstFault_b49 v0 g) := by
  unfold f6_firstFault_b49
  refine k_iconst (v := (1 : Int32)) dX6_firstFault_49 rfl ?_
  refine k_goto (tgt := 54) dX6_firstFault_50 (by decide) ?_
  exact t6_firstFault_b54 v0 (1 : Int32) g
def f6_firstFault_b4 : Nat → Nat → Int32 → Int32 → GS_ → Option (Int32 × GS_)
  | 0, _, _, _, _ => none
  | n + 1, v0, v1, v2, g =>
    if (gfi g 193 v0) ≤ v2 then if v1 = 0 then f6_firstFault_b49 v0 g else if v1 = (1 : Int32) then f6_firstFault_b49 v0 g else if v1 = (4 : Int32) then f6_firstFault_b49 v0 g else f6_firstFault_b54 v0 (0 : Int32) g else bd_ (f6_characterAt v0 v2 g) fun z2 g1 => bd_ (f6_stateAfter v1 z2 g1) fun z4 g3 => if z4 = (-1 : Int32) then some (v2, g3) else (f6_firstFault_b4 n) v0 z4 (v2 + (1 : Int32)) g3
theorem t6_firstFault_b4 : ∀ (n : Nat) (v0 : Nat) (v1 : Int32) (v2 : Int32) (g : GS_), K_ RX6 cX6_firstFault 3 (some .int) 3 61 false EI_ 4 [some (.inr (6, some v0)), some (.inl v1), some (.inl v2)] [] g (f6_firstFault_b4 n v0 v1 v2 g) := by
  intro n
  induction n with
  | zero =>
    intro v0 v1 v2 g
    exact k_fail
  | succ n ih =>
    intro v0 v1 v2 g
    show K_ RX6 cX6_firstFault 3 (some .int) 3 61 false EI_ 4 [some (.inr (6, some v0)), some (.inl v1), some (.inl v2)] [] g (if (gfi g 193 v0) ≤ v2 then if v1 = 0 then f6_firstFault_b49 v0 g else if v1 = (1 : Int32) then f6_firstFault_b49 v0 g else if v1 = (4 : Int32) then f6_firstFault_b49 v0 g else f6_firstFault_b54 v0 (0 : Int32) g else bd_ (f6_characterAt v0 v2 g) fun z2 g1 => bd_ (f6_stateAfter v1 z2 g1) fun z4 g3 => if z4 = (-1 : Int32) then some (v2, g3) else (f6_firstFault_b4 n) v0 z4 (v2 + (1 : Int32)) g3)
    refine k_iloadn (j := 2) dX6_firstFault_4 rfl rfl ?_
    refine k_aloadn (j := 0) dX6_firstFault_5 rfl rfl ?_
    refine k_geti fg_6_15 rfl rfl dX6_firstFault_6 ?_
    refine k_icmpge (tgt := 35) dX6_firstFault_9 (by decide) (fun _ => ?_) (fun _ => ?_)
    · refine k_iloadn (j := 1) dX6_firstFault_35 rfl rfl ?_
      refine k_ifeq (tgt := 49) dX6_firstFault_36 (by decide) (fun _ => ?_) (fun _ => ?_)
      · refine k_msk (L' := [some (.inr (6, some v0)), none, none]) [true, false, false] rfl ?_
        exact t6_firstFault_b49 v0 g
      refine k_iloadn (j := 1) dX6_firstFault_39 rfl rfl ?_
      refine k_iconst (v := (1 : Int32)) dX6_firstFault_40 rfl ?_
      refine k_icmpeq (tgt := 49) dX6_firstFault_41 (by decide) (fun _ => ?_) (fun _ => ?_)
      · refine k_msk (L' := [some (.inr (6, some v0)), none, none]) [true, false, false] rfl ?_
        exact t6_firstFault_b49 v0 g
      refine k_iloadn (j := 1) dX6_firstFault_44 rfl rfl ?_
      refine k_iconst (v := (4 : Int32)) dX6_firstFault_45 rfl ?_
      refine k_icmpne (tgt := 53) dX6_firstFault_46 (by decide) (fun _ => ?_) (fun _ => ?_)
      · refine k_msk (L' := [some (.inr (6, some v0)), none, none]) [true, false, false] rfl ?_
        exact t6_firstFault_b49 v0 g
      refine k_iconst (v := (0 : Int32)) dX6_firstFault_53 rfl ?_
      refine k_msk (L' := [some (.inr (6, some v0)), none, none]) [true, false, false] rfl ?_
      exact t6_firstFault_b54 v0 (0 : Int32) g
    refine k_iloadn (j := 1) dX6_firstFault_12 rfl rfl ?_
    refine k_aloadn (j := 0) dX6_firstFault_13 rfl rfl ?_
    refine k_iloadn (j := 2) dX6_firstFault_14 rfl rfl ?_
    refine k_callVi [.inl v2] (t6_characterAt v0 v2 g) cw_cX6_characterAt (Or.inl ml_6_22) rfl rfl (by decide) (by decide) (Nat.le_of_ble_eq_true rfl) dX6_firstFault_15 (fun z2 g1 => ?_)
    refine k_callSi [.inl v1, .inl z2] (t6_stateAfter v1 z2 g1) cw_cX6_stateAfter ml_6_26 rfl rfl (by decide) (by decide) (Nat.le_of_ble_eq_true rfl) dX6_firstFault_18 (fun z4 g3 => ?_)
    refine k_istn (j := 1) (L' := [some (.inr (6, some v0)), some (.inl z4), some (.inl v2)]) dX6_firstFault_21 rfl (by decide) rfl ?_
    refine k_iloadn (j := 1) dX6_firstFault_22 rfl rfl ?_
    refine k_iconst (v := (-1 : Int32)) dX6_firstFault_23 rfl ?_
    refine k_icmpne (tgt := 29) dX6_firstFault_24 (by decide) (fun _ => ?_) (fun _ => ?_)
    · refine k_iloadn (j := 2) dX6_firstFault_27 rfl rfl ?_
      exact k_ireturn rfl dX6_firstFault_28
    refine k_iinc (v := (v2 + (1 : Int32))) (L' := [some (.inr (6, some v0)), some (.inl z4), some (.inl (v2 + (1 : Int32)))]) dX6_firstFault_29 rfl rfl (by decide) rfl ?_
    refine k_goto (tgt := 4) dX6_firstFault_32 (by decide) ?_
    exact ih v0 z4 (v2 + (1 : Int32)) g3
def f6_firstFault (v0 : Nat) (g : GS_) : Option (Int32 × GS_) :=
  f6_firstFault_b4 FU_ v0 (0 : Int32) (0 : Int32) g
theorem t6_firstFault (v0 : Nat) (g : GS_) : Cn_ yX6_firstFault cX6_firstFault 3 (some .int) 3 61 EI_ [.inr (6, some v0)] g (f6_firstFault v0 g) := by
  refine k_method (own := RX6) (ini := false) (L1 := [some (.inr (6, some v0)), none, none]) (by decide +kernel) rfl (fun h => by cases h) (Nat.le_of_ble_eq_true rfl) rfl ?_
  unfold f6_firstFault
  refine k_iconst (v := (0 : Int32)) dX6_firstFault_0 rfl ?_
  refine k_istn (j := 1) (L' := [some (.inr (6, some v0)), some (.inl (0 : Int32)), none]) dX6_firstFault_1 rfl (by decide) rfl ?_
  refine k_iconst (v := (0 : Int32)) dX6_firstFault_2 rfl ?_
  refine k_istn (j := 2) (L' := [some (.inr (6, some v0)), some (.inl (0 : Int32)), some (.inl (0 : Int32))]) dX6_firstFault_3 rfl (by decide) rfl ?_
  exact t6_firstFault_b4 FU_ v0 (0 : Int32) (0 : Int32) g
theorem dX6_skip_0 : decode cX6_skip 0 = .ok (.aload_n 0, 1) := by decide +kernel
theorem dX6_skip_1 : decode cX6_skip 1 = .ok (.aload_n 0, 1) := by decide +kernel
theorem dX6_skip_2 : decode cX6_skip 2 = .ok (.getfield 19, 3) := by decide +kernel
theorem dX6_skip_5 : decode cX6_skip 5 = .ok (.invokevirtual 22, 3) := by decide +kernel
theorem dX6_skip_8 : decode cX6_skip 8 = .ok (.iload_n 1, 1) := by decide +kernel
theorem dX6_skip_9 : decode cX6_skip 9 = .ok (.if_icmp .ne 7, 3) := by decide +kernel
theorem dX6_skip_12 : decode cX6_skip 12 = .ok (.iconst 1, 1) := by decide +kernel
theorem dX6_skip_13 : decode cX6_skip 13 = .ok (.goto 4, 3) := by decide +kernel
theorem dX6_skip_16 : decode cX6_skip 16 = .ok (.iconst 0, 1) := by decide +kernel
theorem dX6_skip_17 : decode cX6_skip 17 = .ok (.istore_n 2, 1) := by decide +kernel
theorem dX6_skip_18 : decode cX6_skip 18 = .ok (.iload_n 2, 1) := by decide +kernel
theorem dX6_skip_19 : decode cX6_skip 19 = .ok (.ifCond .eq 13, 3) := by decide +kernel
theorem dX6_skip_22 : decode cX6_skip 22 = .ok (.aload_n 0, 1) := by decide +kernel
theorem dX6_skip_23 : decode cX6_skip 23 = .ok (.dup, 1) := by decide +kernel
theorem dX6_skip_24 : decode cX6_skip 24 = .ok (.getfield 19, 3) := by decide +kernel
theorem dX6_skip_27 : decode cX6_skip 27 = .ok (.iconst 1, 1) := by decide +kernel
theorem dX6_skip_28 : decode cX6_skip 28 = .ok (.iadd, 1) := by decide +kernel
theorem dX6_skip_29 : decode cX6_skip 29 = .ok (.putfield 19, 3) := by decide +kernel
theorem dX6_skip_32 : decode cX6_skip 32 = .ok (.iload_n 2, 1) := by decide +kernel
theorem dX6_skip_33 : decode cX6_skip 33 = .ok (.ireturn, 1) := by decide +kernel
def f6_skip_b17 (v0 : Nat) (s0 : Int32) (g : GS_) : Option (Int32 × GS_) :=
  if s0 = 0 then if s0 = 0 ∨ s0 = 1 then some (s0, g) else none else lr_ (sfi g 194 v0 ((gfi g 194 v0) + (1 : Int32))) fun g1 => if s0 = 0 ∨ s0 = 1 then some (s0, g1) else none
theorem t6_skip_b17 (v0 : Nat) (s0 : Int32) (g : GS_) : K_ RX6 cX6_skip 3 (some .boolean) 1 21 false EI_ 17 [some (.inr (6, some v0)), none, none] [.inl s0] g (f6_skip_b17 v0 s0 g) := by
  unfold f6_skip_b17
  refine k_istn (j := 2) (L' := [some (.inr (6, some v0)), none, some (.inl s0)]) dX6_skip_17 rfl (by decide) rfl ?_
  refine k_iloadn (j := 2) dX6_skip_18 rfl rfl ?_
  refine k_ifeq (tgt := 32) dX6_skip_19 (by decide) (fun _ => ?_) (fun _ => ?_)
  · refine k_iloadn (j := 2) dX6_skip_32 rfl rfl ?_
    exact k_zreturnc rfl dX6_skip_33
  refine k_aloadn (j := 0) dX6_skip_22 rfl rfl ?_
  refine k_dup dX6_skip_23 ?_
  refine k_geti fg_6_19 rfl rfl dX6_skip_24 ?_
  refine k_iconst (v := (1 : Int32)) dX6_skip_27 rfl ?_
  refine k_iadd dX6_skip_28 ?_
  refine k_puti fp_6_19 rfl rfl dX6_skip_29 (fun g1 => ?_)
  refine k_iloadn (j := 2) dX6_skip_32 rfl rfl ?_
  exact k_zreturnc rfl dX6_skip_33
def f6_skip (v0 : Nat) (v1 : Int32) (g : GS_) : Option (Int32 × GS_) :=
  bd_ (f6_characterAt v0 (gfi g 194 v0) g) fun z3 g2 => if z3 = v1 then f6_skip_b17 v0 (1 : Int32) g2 else f6_skip_b17 v0 (0 : Int32) g2
theorem t6_skip (v0 : Nat) (v1 : Int32) (g : GS_) : Cn_ yX6_skip cX6_skip 3 (some .boolean) 1 21 EI_ [.inr (6, some v0), .inl v1] g (f6_skip v0 v1 g) := by
  refine k_method (own := RX6) (ini := false) (L1 := [some (.inr (6, some v0)), some (.inl v1), none]) (by decide +kernel) rfl (fun h => by cases h) (Nat.le_of_ble_eq_true rfl) rfl ?_
  unfold f6_skip
  refine k_aloadn (j := 0) dX6_skip_0 rfl rfl ?_
  refine k_aloadn (j := 0) dX6_skip_1 rfl rfl ?_
  refine k_geti fg_6_19 rfl rfl dX6_skip_2 ?_
  refine k_callVi [.inl (gfi g 194 v0)] (t6_characterAt v0 (gfi g 194 v0) g) cw_cX6_characterAt (Or.inl ml_6_22) rfl rfl (by decide) (by decide) (Nat.le_of_ble_eq_true rfl) dX6_skip_5 (fun z3 g2 => ?_)
  refine k_iloadn (j := 1) dX6_skip_8 rfl rfl ?_
  refine k_icmpne (tgt := 16) dX6_skip_9 (by decide) (fun _ => ?_) (fun _ => ?_)
  · refine k_iconst (v := (1 : Int32)) dX6_skip_12 rfl ?_
    refine k_goto (tgt := 17) dX6_skip_13 (by decide) ?_
    refine k_msk (L' := [some (.inr (6, some v0)), none, none]) [true, false, true] rfl ?_
    exact t6_skip_b17 v0 (1 : Int32) g2
  refine k_iconst (v := (0 : Int32)) dX6_skip_16 rfl ?_
  refine k_msk (L' := [some (.inr (6, some v0)), none, none]) [true, false, true] rfl ?_
  exact t6_skip_b17 v0 (0 : Int32) g2
theorem dX6_readNumber_0 : decode cX6_readNumber 0 = .ok (.iconst 0, 1) := by decide +kernel
theorem dX6_readNumber_1 : decode cX6_readNumber 1 = .ok (.istore_n 1, 1) := by decide +kernel
theorem dX6_readNumber_2 : decode cX6_readNumber 2 = .ok (.iconst 0, 1) := by decide +kernel
theorem dX6_readNumber_3 : decode cX6_readNumber 3 = .ok (.istore_n 2, 1) := by decide +kernel
theorem dX6_readNumber_4 : decode cX6_readNumber 4 = .ok (.iload_n 2, 1) := by decide +kernel
theorem dX6_readNumber_5 : decode cX6_readNumber 5 = .ok (.iconst 3, 1) := by decide +kernel
theorem dX6_readNumber_6 : decode cX6_readNumber 6 = .ok (.if_icmp .ge 50, 3) := by decide +kernel
theorem dX6_readNumber_9 : decode cX6_readNumber 9 = .ok (.aload_n 0, 1) := by decide +kernel
theorem dX6_readNumber_10 : decode cX6_readNumber 10 = .ok (.aload_n 0, 1) := by decide +kernel
theorem dX6_readNumber_11 : decode cX6_readNumber 11 = .ok (.getfield 19, 3) := by decide +kernel
theorem dX6_readNumber_14 : decode cX6_readNumber 14 = .ok (.invokevirtual 22, 3) := by decide +kernel
theorem dX6_readNumber_17 : decode cX6_readNumber 17 = .ok (.invokestatic 59, 3) := by decide +kernel
theorem dX6_readNumber_20 : decode cX6_readNumber 20 = .ok (.ifCond .eq 36, 3) := by decide +kernel
theorem dX6_readNumber_23 : decode cX6_readNumber 23 = .ok (.bipush 10, 2) := by decide +kernel
theorem dX6_readNumber_25 : decode cX6_readNumber 25 = .ok (.iload_n 1, 1) := by decide +kernel
theorem dX6_readNumber_26 : decode cX6_readNumber 26 = .ok (.imul, 1) := by decide +kernel
theorem dX6_readNumber_27 : decode cX6_readNumber 27 = .ok (.aload_n 0, 1) := by decide +kernel
theorem dX6_readNumber_28 : decode cX6_readNumber 28 = .ok (.aload_n 0, 1) := by decide +kernel
theorem dX6_readNumber_29 : decode cX6_readNumber 29 = .ok (.getfield 19, 3) := by decide +kernel
theorem dX6_readNumber_32 : decode cX6_readNumber 32 = .ok (.invokevirtual 22, 3) := by decide +kernel
theorem dX6_readNumber_35 : decode cX6_readNumber 35 = .ok (.iadd, 1) := by decide +kernel
theorem dX6_readNumber_36 : decode cX6_readNumber 36 = .ok (.bipush 48, 2) := by decide +kernel
theorem dX6_readNumber_38 : decode cX6_readNumber 38 = .ok (.isub, 1) := by decide +kernel
theorem dX6_readNumber_39 : decode cX6_readNumber 39 = .ok (.istore_n 1, 1) := by decide +kernel
theorem dX6_readNumber_40 : decode cX6_readNumber 40 = .ok (.aload_n 0, 1) := by decide +kernel
theorem dX6_readNumber_41 : decode cX6_readNumber 41 = .ok (.dup, 1) := by decide +kernel
theorem dX6_readNumber_42 : decode cX6_readNumber 42 = .ok (.getfield 19, 3) := by decide +kernel
theorem dX6_readNumber_45 : decode cX6_readNumber 45 = .ok (.iconst 1, 1) := by decide +kernel
theorem dX6_readNumber_46 : decode cX6_readNumber 46 = .ok (.iadd, 1) := by decide +kernel
theorem dX6_readNumber_47 : decode cX6_readNumber 47 = .ok (.putfield 19, 3) := by decide +kernel
theorem dX6_readNumber_50 : decode cX6_readNumber 50 = .ok (.iinc 2 1, 3) := by decide +kernel
theorem dX6_readNumber_53 : decode cX6_readNumber 53 = .ok (.goto (-49), 3) := by decide +kernel
theorem dX6_readNumber_56 : decode cX6_readNumber 56 = .ok (.iload_n 1, 1) := by decide +kernel
theorem dX6_readNumber_57 : decode cX6_readNumber 57 = .ok (.ireturn, 1) := by decide +kernel
def f6_readNumber_b4 : Nat → Nat → Int32 → Int32 → GS_ → Option (Int32 × GS_)
  | 0, _, _, _, _ => none
  | n + 1, v0, v1, v2, g =>
    if (3 : Int32) ≤ v2 then some (v1, g) else bd_ (f6_characterAt v0 (gfi g 194 v0) g) fun z2 g1 => bd_ (f6_isDigit z2 g1) fun z4 g3 => if z4 = 0 then some (v1, g3) else bd_ (f6_characterAt v0 (gfi g3 194 v0) g3) fun z6 g5 => lr_ ((((10 : Int32) * v1) + z6) - (48 : Int32)) fun z7 => lr_ (sfi g5 194 v0 ((gfi g5 194 v0) + (1 : Int32))) fun g8 => (f6_readNumber_b4 n) v0 z7 (v2 + (1 : Int32)) g8
theorem t6_readNumber_b4 : ∀ (n : Nat) (v0 : Nat) (v1 : Int32) (v2 : Int32) (g : GS_), K_ RX6 cX6_readNumber 3 (some .int) 1 21 false EI_ 4 [some (.inr (6, some v0)), some (.inl v1), some (.inl v2)] [] g (f6_readNumber_b4 n v0 v1 v2 g) := by
  intro n
  induction n with
  | zero =>
    intro v0 v1 v2 g
    exact k_fail
  | succ n ih =>
    intro v0 v1 v2 g
    show K_ RX6 cX6_readNumber 3 (some .int) 1 21 false EI_ 4 [some (.inr (6, some v0)), some (.inl v1), some (.inl v2)] [] g (if (3 : Int32) ≤ v2 then some (v1, g) else bd_ (f6_characterAt v0 (gfi g 194 v0) g) fun z2 g1 => bd_ (f6_isDigit z2 g1) fun z4 g3 => if z4 = 0 then some (v1, g3) else bd_ (f6_characterAt v0 (gfi g3 194 v0) g3) fun z6 g5 => lr_ ((((10 : Int32) * v1) + z6) - (48 : Int32)) fun z7 => lr_ (sfi g5 194 v0 ((gfi g5 194 v0) + (1 : Int32))) fun g8 => (f6_readNumber_b4 n) v0 z7 (v2 + (1 : Int32)) g8)
    refine k_iloadn (j := 2) dX6_readNumber_4 rfl rfl ?_
    refine k_iconst (v := (3 : Int32)) dX6_readNumber_5 rfl ?_
    refine k_icmpge (tgt := 56) dX6_readNumber_6 (by decide) (fun _ => ?_) (fun _ => ?_)
    · refine k_iloadn (j := 1) dX6_readNumber_56 rfl rfl ?_
      exact k_ireturn rfl dX6_readNumber_57
    refine k_aloadn (j := 0) dX6_readNumber_9 rfl rfl ?_
    refine k_aloadn (j := 0) dX6_readNumber_10 rfl rfl ?_
    refine k_geti fg_6_19 rfl rfl dX6_readNumber_11 ?_
    refine k_callVi [.inl (gfi g 194 v0)] (t6_characterAt v0 (gfi g 194 v0) g) cw_cX6_characterAt (Or.inl ml_6_22) rfl rfl (by decide) (by decide) (Nat.le_of_ble_eq_true rfl) dX6_readNumber_14 (fun z2 g1 => ?_)
    refine k_callSi [.inl z2] (t6_isDigit z2 g1) cw_cX6_isDigit ml_6_59 rfl rfl (by decide) (by decide) (Nat.le_of_ble_eq_true rfl) dX6_readNumber_17 (fun z4 g3 => ?_)
    refine k_ifeq (tgt := 56) dX6_readNumber_20 (by decide) (fun _ => ?_) (fun _ => ?_)
    · refine k_iloadn (j := 1) dX6_readNumber_56 rfl rfl ?_
      exact k_ireturn rfl dX6_readNumber_57
    refine k_bipush (v := (10 : Int32)) dX6_readNumber_23 rfl ?_
    refine k_iloadn (j := 1) dX6_readNumber_25 rfl rfl ?_
    refine k_imul dX6_readNumber_26 ?_
    refine k_aloadn (j := 0) dX6_readNumber_27 rfl rfl ?_
    refine k_aloadn (j := 0) dX6_readNumber_28 rfl rfl ?_
    refine k_geti fg_6_19 rfl rfl dX6_readNumber_29 ?_
    refine k_callVi [.inl (gfi g3 194 v0)] (t6_characterAt v0 (gfi g3 194 v0) g3) cw_cX6_characterAt (Or.inl ml_6_22) rfl rfl (by decide) (by decide) (Nat.le_of_ble_eq_true rfl) dX6_readNumber_32 (fun z6 g5 => ?_)
    refine k_iadd dX6_readNumber_35 ?_
    refine k_bipush (v := (48 : Int32)) dX6_readNumber_36 rfl ?_
    refine k_isub dX6_readNumber_38 ?_
    refine k_istnl (j := 1) (L2 := fun z7 => [some (.inr (6, some v0)), some (.inl z7), some (.inl v2)]) dX6_readNumber_39 rfl (by decide) (fun _ => rfl) (fun z7 => ?_)
    refine k_aloadn (j := 0) dX6_readNumber_40 rfl rfl ?_
    refine k_dup dX6_readNumber_41 ?_
    refine k_geti fg_6_19 rfl rfl dX6_readNumber_42 ?_
    refine k_iconst (v := (1 : Int32)) dX6_readNumber_45 rfl ?_
    refine k_iadd dX6_readNumber_46 ?_
    refine k_puti fp_6_19 rfl rfl dX6_readNumber_47 (fun g8 => ?_)
    refine k_iinc (v := (v2 + (1 : Int32))) (L' := [some (.inr (6, some v0)), some (.inl z7), some (.inl (v2 + (1 : Int32)))]) dX6_readNumber_50 rfl rfl (by decide) rfl ?_
    refine k_goto (tgt := 4) dX6_readNumber_53 (by decide) ?_
    exact ih v0 z7 (v2 + (1 : Int32)) g8
def f6_readNumber (v0 : Nat) (g : GS_) : Option (Int32 × GS_) :=
  f6_readNumber_b4 FU_ v0 (0 : Int32) (0 : Int32) g
theorem t6_readNumber (v0 : Nat) (g : GS_) : Cn_ yX6_readNumber cX6_readNumber 3 (some .int) 1 21 EI_ [.inr (6, some v0)] g (f6_readNumber v0 g) := by
  refine k_method (own := RX6) (ini := false) (L1 := [some (.inr (6, some v0)), none, none]) (by decide +kernel) rfl (fun h => by cases h) (Nat.le_of_ble_eq_true rfl) rfl ?_
  unfold f6_readNumber
  refine k_iconst (v := (0 : Int32)) dX6_readNumber_0 rfl ?_
  refine k_istn (j := 1) (L' := [some (.inr (6, some v0)), some (.inl (0 : Int32)), none]) dX6_readNumber_1 rfl (by decide) rfl ?_
  refine k_iconst (v := (0 : Int32)) dX6_readNumber_2 rfl ?_
  refine k_istn (j := 2) (L' := [some (.inr (6, some v0)), some (.inl (0 : Int32)), some (.inl (0 : Int32))]) dX6_readNumber_3 rfl (by decide) rfl ?_
  exact t6_readNumber_b4 FU_ v0 (0 : Int32) (0 : Int32) g
theorem dX6_expandItem_0 : decode cX6_expandItem 0 = .ok (.aload_n 0, 1) := by decide +kernel
theorem dX6_expandItem_1 : decode cX6_expandItem 1 = .ok (.bipush 33, 2) := by decide +kernel
theorem dX6_expandItem_3 : decode cX6_expandItem 3 = .ok (.invokevirtual 43, 3) := by decide +kernel
theorem dX6_expandItem_6 : decode cX6_expandItem 6 = .ok (.istore_n 3, 1) := by decide +kernel
theorem dX6_expandItem_7 : decode cX6_expandItem 7 = .ok (.iconst 1, 1) := by decide +kernel
theorem dX6_expandItem_8 : decode cX6_expandItem 8 = .ok (.istore 4, 2) := by decide +kernel
theorem dX6_expandItem_10 : decode cX6_expandItem 10 = .ok (.sipush 999, 3) := by decide +kernel
theorem dX6_expandItem_13 : decode cX6_expandItem 13 = .ok (.istore 5, 2) := by decide +kernel
theorem dX6_expandItem_15 : decode cX6_expandItem 15 = .ok (.aload_n 0, 1) := by decide +kernel
theorem dX6_expandItem_16 : decode cX6_expandItem 16 = .ok (.bipush 42, 2) := by decide +kernel
theorem dX6_expandItem_18 : decode cX6_expandItem 18 = .ok (.invokevirtual 43, 3) := by decide +kernel
theorem dX6_expandItem_21 : decode cX6_expandItem 21 = .ok (.ifCond .ne 61, 3) := by decide +kernel
theorem dX6_expandItem_24 : decode cX6_expandItem 24 = .ok (.aload_n 0, 1) := by decide +kernel
theorem dX6_expandItem_25 : decode cX6_expandItem 25 = .ok (.invokevirtual 47, 3) := by decide +kernel
theorem dX6_expandItem_28 : decode cX6_expandItem 28 = .ok (.istore 6, 2) := by decide +kernel
theorem dX6_expandItem_30 : decode cX6_expandItem 30 = .ok (.aload_n 0, 1) := by decide +kernel
theorem dX6_expandItem_31 : decode cX6_expandItem 31 = .ok (.bipush 45, 2) := by decide +kernel
theorem dX6_expandItem_33 : decode cX6_expandItem 33 = .ok (.invokevirtual 43, 3) := by decide +kernel
theorem dX6_expandItem_36 : decode cX6_expandItem 36 = .ok (.istore 7, 2) := by decide +kernel
theorem dX6_expandItem_38 : decode cX6_expandItem 38 = .ok (.iload 7, 2) := by decide +kernel
theorem dX6_expandItem_40 : decode cX6_expandItem 40 = .ok (.ifCond .eq 10, 3) := by decide +kernel
theorem dX6_expandItem_43 : decode cX6_expandItem 43 = .ok (.aload_n 0, 1) := by decide +kernel
theorem dX6_expandItem_44 : decode cX6_expandItem 44 = .ok (.invokevirtual 47, 3) := by decide +kernel
theorem dX6_expandItem_47 : decode cX6_expandItem 47 = .ok (.goto 5, 3) := by decide +kernel
theorem dX6_expandItem_50 : decode cX6_expandItem 50 = .ok (.iload 6, 2) := by decide +kernel
theorem dX6_expandItem_52 : decode cX6_expandItem 52 = .ok (.istore 8, 2) := by decide +kernel
theorem dX6_expandItem_54 : decode cX6_expandItem 54 = .ok (.iload 6, 2) := by decide +kernel
theorem dX6_expandItem_56 : decode cX6_expandItem 56 = .ok (.ifCond .ne 7, 3) := by decide +kernel
theorem dX6_expandItem_59 : decode cX6_expandItem 59 = .ok (.iconst 1, 1) := by decide +kernel
theorem dX6_expandItem_60 : decode cX6_expandItem 60 = .ok (.goto 5, 3) := by decide +kernel
theorem dX6_expandItem_63 : decode cX6_expandItem 63 = .ok (.iload 6, 2) := by decide +kernel
theorem dX6_expandItem_65 : decode cX6_expandItem 65 = .ok (.istore 4, 2) := by decide +kernel
theorem dX6_expandItem_67 : decode cX6_expandItem 67 = .ok (.iload 8, 2) := by decide +kernel
theorem dX6_expandItem_69 : decode cX6_expandItem 69 = .ok (.ifCond .ne 9, 3) := by decide +kernel
theorem dX6_expandItem_72 : decode cX6_expandItem 72 = .ok (.sipush 999, 3) := by decide +kernel
theorem dX6_expandItem_75 : decode cX6_expandItem 75 = .ok (.goto 5, 3) := by decide +kernel
theorem dX6_expandItem_78 : decode cX6_expandItem 78 = .ok (.iload 8, 2) := by decide +kernel
theorem dX6_expandItem_80 : decode cX6_expandItem 80 = .ok (.istore 5, 2) := by decide +kernel
theorem dX6_expandItem_82 : decode cX6_expandItem 82 = .ok (.aload_n 0, 1) := by decide +kernel
theorem dX6_expandItem_83 : decode cX6_expandItem 83 = .ok (.bipush 111, 2) := by decide +kernel
theorem dX6_expandItem_85 : decode cX6_expandItem 85 = .ok (.invokevirtual 43, 3) := by decide +kernel
theorem dX6_expandItem_88 : decode cX6_expandItem 88 = .ok (.ifCond .eq 7, 3) := by decide +kernel
theorem dX6_expandItem_91 : decode cX6_expandItem 91 = .ok (.iconst 1, 1) := by decide +kernel
theorem dX6_expandItem_92 : decode cX6_expandItem 92 = .ok (.goto 17, 3) := by decide +kernel
theorem dX6_expandItem_95 : decode cX6_expandItem 95 = .ok (.aload_n 0, 1) := by decide +kernel
theorem dX6_expandItem_96 : decode cX6_expandItem 96 = .ok (.bipush 101, 2) := by decide +kernel
theorem dX6_expandItem_98 : decode cX6_expandItem 98 = .ok (.invokevirtual 43, 3) := by decide +kernel
theorem dX6_expandItem_101 : decode cX6_expandItem 101 = .ok (.ifCond .eq 7, 3) := by decide +kernel
theorem dX6_expandItem_104 : decode cX6_expandItem 104 = .ok (.iconst 0, 1) := by decide +kernel
theorem dX6_expandItem_105 : decode cX6_expandItem 105 = .ok (.goto 4, 3) := by decide +kernel
theorem dX6_expandItem_108 : decode cX6_expandItem 108 = .ok (.iconst (-1), 1) := by decide +kernel
theorem dX6_expandItem_109 : decode cX6_expandItem 109 = .ok (.istore 6, 2) := by decide +kernel
theorem dX6_expandItem_111 : decode cX6_expandItem 111 = .ok (.aload_n 0, 1) := by decide +kernel
theorem dX6_expandItem_112 : decode cX6_expandItem 112 = .ok (.bipush 44, 2) := by decide +kernel
theorem dX6_expandItem_114 : decode cX6_expandItem 114 = .ok (.invokevirtual 43, 3) := by decide +kernel
theorem dX6_expandItem_117 : decode cX6_expandItem 117 = .ok (.pop, 1) := by decide +kernel
theorem dX6_expandItem_118 : decode cX6_expandItem 118 = .ok (.iload_n 3, 1) := by decide +kernel
theorem dX6_expandItem_119 : decode cX6_expandItem 119 = .ok (.ifCond .eq 16, 3) := by decide +kernel
theorem dX6_expandItem_122 : decode cX6_expandItem 122 = .ok (.aload_n 1, 1) := by decide +kernel
theorem dX6_expandItem_123 : decode cX6_expandItem 123 = .ok (.iload 4, 2) := by decide +kernel
theorem dX6_expandItem_125 : decode cX6_expandItem 125 = .ok (.iload 5, 2) := by decide +kernel
theorem dX6_expandItem_127 : decode cX6_expandItem 127 = .ok (.iload 6, 2) := by decide +kernel
theorem dX6_expandItem_129 : decode cX6_expandItem 129 = .ok (.invokevirtual 51, 3) := by decide +kernel
theorem dX6_expandItem_132 : decode cX6_expandItem 132 = .ok (.goto 14, 3) := by decide +kernel
theorem dX6_expandItem_135 : decode cX6_expandItem 135 = .ok (.aload_n 1, 1) := by decide +kernel
theorem dX6_expandItem_136 : decode cX6_expandItem 136 = .ok (.iload 4, 2) := by decide +kernel
theorem dX6_expandItem_138 : decode cX6_expandItem 138 = .ok (.iload 5, 2) := by decide +kernel
theorem dX6_expandItem_140 : decode cX6_expandItem 140 = .ok (.iload 6, 2) := by decide +kernel
theorem dX6_expandItem_142 : decode cX6_expandItem 142 = .ok (.iload_n 2, 1) := by decide +kernel
theorem dX6_expandItem_143 : decode cX6_expandItem 143 = .ok (.invokevirtual 55, 3) := by decide +kernel
theorem dX6_expandItem_146 : decode cX6_expandItem 146 = .ok (.return_, 1) := by decide +kernel
def f6_expandItem_b109 (v0 : Nat) (v1 : Option Nat) (v2 : Int32) (v3 : Int32) (v4 : Int32) (v5 : Int32) (s0 : Int32) (g : GS_) : Option (Unit × GS_) :=
  bd_ (f6_skip v0 (44 : Int32) g) fun z2 g1 => if v3 = 0 then oc_ v1 none fun a3 => bd_ (f3_appendSpan a3 v4 v5 s0 v2 g1) fun _ g4 => some ((), g4) else oc_ v1 none fun a5 => bd_ (f3_removeSpan a5 v4 v5 s0 g1) fun _ g6 => some ((), g6)
theorem t6_expandItem_b109 (v0 : Nat) (v1 : Option Nat) (v2 : Int32) (v3 : Int32) (v4 : Int32) (v5 : Int32) (s0 : Int32) (g : GS_) : K_ RX6 cX6_expandItem 9 none 3 68 false EV_ 109 [some (.inr (6, some v0)), some (.inr (3, v1)), some (.inl v2), some (.inl v3), some (.inl v4), some (.inl v5), none, none, none] [.inl s0] g (f6_expandItem_b109 v0 v1 v2 v3 v4 v5 s0 g) := by
  unfold f6_expandItem_b109
  refine k_ist (L' := [some (.inr (6, some v0)), some (.inr (3, v1)), some (.inl v2), some (.inl v3), some (.inl v4), some (.inl v5), some (.inl s0), none, none]) dX6_expandItem_109 (by decide) rfl ?_
  refine k_aloadn (j := 0) dX6_expandItem_111 rfl rfl ?_
  refine k_bipush (v := (44 : Int32)) dX6_expandItem_112 rfl ?_
  refine k_callVi [.inl (44 : Int32)] (t6_skip v0 (44 : Int32) g) cw_cX6_skip (Or.inl ml_6_43) rfl rfl (by decide) (by decide) (Nat.le_of_ble_eq_true rfl) dX6_expandItem_114 (fun z2 g1 => ?_)
  refine k_pop dX6_expandItem_117 ?_
  refine k_iloadn (j := 3) dX6_expandItem_118 rfl rfl ?_
  refine k_ifeq (tgt := 135) dX6_expandItem_119 (by decide) (fun _ => ?_) (fun _ => ?_)
  · refine k_aloadn (j := 1) dX6_expandItem_135 rfl rfl ?_
    refine k_iload dX6_expandItem_136 rfl ?_
    refine k_iload dX6_expandItem_138 rfl ?_
    refine k_iload dX6_expandItem_140 rfl ?_
    refine k_iloadn (j := 2) dX6_expandItem_142 rfl rfl ?_
    rcases v1 with _ | a3
    · exact k_ocn
    refine k_ocs ?_
    refine k_callVv [.inl v4, .inl v5, .inl s0, .inl v2] (t3_appendSpan a3 v4 v5 s0 v2 g1) cw_cX3_appendSpan (Or.inl ml_6_55) rfl rfl (by decide) (by decide) (Nat.le_of_ble_eq_true rfl) dX6_expandItem_143 (fun _ g4 => ?_)
    exact k_return rfl dX6_expandItem_146
  refine k_aloadn (j := 1) dX6_expandItem_122 rfl rfl ?_
  refine k_iload dX6_expandItem_123 rfl ?_
  refine k_iload dX6_expandItem_125 rfl ?_
  refine k_iload dX6_expandItem_127 rfl ?_
  rcases v1 with _ | a5
  · exact k_ocn
  refine k_ocs ?_
  refine k_callVv [.inl v4, .inl v5, .inl s0] (t3_removeSpan a5 v4 v5 s0 g1) cw_cX3_removeSpan (Or.inl ml_6_51) rfl rfl (by decide) (by decide) (Nat.le_of_ble_eq_true rfl) dX6_expandItem_129 (fun _ g6 => ?_)
  refine k_goto (tgt := 146) dX6_expandItem_132 (by decide) ?_
  exact k_return rfl dX6_expandItem_146
def f6_expandItem_b82 (v0 : Nat) (v1 : Option Nat) (v2 : Int32) (v3 : Int32) (v4 : Int32) (v5 : Int32) (g : GS_) : Option (Unit × GS_) :=
  bd_ (f6_skip v0 (111 : Int32) g) fun z8 g7 => if z8 = 0 then bd_ (f6_skip v0 (101 : Int32) g7) fun z10 g9 => if z10 = 0 then f6_expandItem_b109 v0 v1 v2 v3 v4 v5 (-1 : Int32) g9 else f6_expandItem_b109 v0 v1 v2 v3 v4 v5 (0 : Int32) g9 else f6_expandItem_b109 v0 v1 v2 v3 v4 v5 (1 : Int32) g7
theorem t6_expandItem_b82 (v0 : Nat) (v1 : Option Nat) (v2 : Int32) (v3 : Int32) (v4 : Int32) (v5 : Int32) (g : GS_) : K_ RX6 cX6_expandItem 9 none 3 68 false EV_ 82 [some (.inr (6, some v0)), some (.inr (3, v1)), some (.inl v2), some (.inl v3), some (.inl v4), some (.inl v5), none, none, none] [] g (f6_expandItem_b82 v0 v1 v2 v3 v4 v5 g) := by
  unfold f6_expandItem_b82
  refine k_aloadn (j := 0) dX6_expandItem_82 rfl rfl ?_
  refine k_bipush (v := (111 : Int32)) dX6_expandItem_83 rfl ?_
  refine k_callVi [.inl (111 : Int32)] (t6_skip v0 (111 : Int32) g) cw_cX6_skip (Or.inl ml_6_43) rfl rfl (by decide) (by decide) (Nat.le_of_ble_eq_true rfl) dX6_expandItem_85 (fun z8 g7 => ?_)
  refine k_ifeq (tgt := 95) dX6_expandItem_88 (by decide) (fun _ => ?_) (fun _ => ?_)
  · refine k_aloadn (j := 0) dX6_expandItem_95 rfl rfl ?_
    refine k_bipush (v := (101 : Int32)) dX6_expandItem_96 rfl ?_
    refine k_callVi [.inl (101 : Int32)] (t6_skip v0 (101 : Int32) g7) cw_cX6_skip (Or.inl ml_6_43) rfl rfl (by decide) (by decide) (Nat.le_of_ble_eq_true rfl) dX6_expandItem_98 (fun z10 g9 => ?_)
    refine k_ifeq (tgt := 108) dX6_expandItem_101 (by decide) (fun _ => ?_) (fun _ => ?_)
    · refine k_iconst (v := (-1 : Int32)) dX6_expandItem_108 rfl ?_
      exact t6_expandItem_b109 v0 v1 v2 v3 v4 v5 (-1 : Int32) g9
    refine k_iconst (v := (0 : Int32)) dX6_expandItem_104 rfl ?_
    refine k_goto (tgt := 109) dX6_expandItem_105 (by decide) ?_
    exact t6_expandItem_b109 v0 v1 v2 v3 v4 v5 (0 : Int32) g9
  refine k_iconst (v := (1 : Int32)) dX6_expandItem_91 rfl ?_
  refine k_goto (tgt := 109) dX6_expandItem_92 (by decide) ?_
  exact t6_expandItem_b109 v0 v1 v2 v3 v4 v5 (1 : Int32) g7
def f6_expandItem_b80 (v0 : Nat) (v1 : Option Nat) (v2 : Int32) (v3 : Int32) (v4 : Int32) (s0 : Int32) (g : GS_) : Option (Unit × GS_) :=
  f6_expandItem_b82 v0 v1 v2 v3 v4 s0 g
theorem t6_expandItem_b80 (v0 : Nat) (v1 : Option Nat) (v2 : Int32) (v3 : Int32) (v4 : Int32) (s0 : Int32) (g : GS_) : K_ RX6 cX6_expandItem 9 none 3 68 false EV_ 80 [some (.inr (6, some v0)), some (.inr (3, v1)), some (.inl v2), some (.inl v3), some (.inl v4), none, none, none, none] [.inl s0] g (f6_expandItem_b80 v0 v1 v2 v3 v4 s0 g) := by
  unfold f6_expandItem_b80
  refine k_ist (L' := [some (.inr (6, some v0)), some (.inr (3, v1)), some (.inl v2), some (.inl v3), some (.inl v4), some (.inl s0), none, none, none]) dX6_expandItem_80 (by decide) rfl ?_
  exact t6_expandItem_b82 v0 v1 v2 v3 v4 s0 g
def f6_expandItem_b65 (v0 : Nat) (v1 : Option Nat) (v2 : Int32) (v3 : Int32) (v8 : Int32) (s0 : Int32) (g : GS_) : Option (Unit × GS_) :=
  if v8 = 0 then f6_expandItem_b80 v0 v1 v2 v3 s0 (999 : Int32) g else f6_expandItem_b80 v0 v1 v2 v3 s0 v8 g
theorem t6_expandItem_b65 (v0 : Nat) (v1 : Option Nat) (v2 : Int32) (v3 : Int32) (v8 : Int32) (s0 : Int32) (g : GS_) : K_ RX6 cX6_expandItem 9 none 3 68 false EV_ 65 [some (.inr (6, some v0)), some (.inr (3, v1)), some (.inl v2), some (.inl v3), none, none, none, none, some (.inl v8)] [.inl s0] g (f6_expandItem_b65 v0 v1 v2 v3 v8 s0 g) := by
  unfold f6_expandItem_b65
  refine k_ist (L' := [some (.inr (6, some v0)), some (.inr (3, v1)), some (.inl v2), some (.inl v3), some (.inl s0), none, none, none, some (.inl v8)]) dX6_expandItem_65 (by decide) rfl ?_
  refine k_iload dX6_expandItem_67 rfl ?_
  refine k_ifne (tgt := 78) dX6_expandItem_69 (by decide) (fun _ => ?_) (fun _ => ?_)
  · refine k_sipush (v := (999 : Int32)) dX6_expandItem_72 rfl ?_
    refine k_goto (tgt := 80) dX6_expandItem_75 (by decide) ?_
    refine k_msk (L' := [some (.inr (6, some v0)), some (.inr (3, v1)), some (.inl v2), some (.inl v3), some (.inl s0), none, none, none, none]) [true, true, true, true, true, true, true, true, false] rfl ?_
    exact t6_expandItem_b80 v0 v1 v2 v3 s0 (999 : Int32) g
  refine k_iload dX6_expandItem_78 rfl ?_
  refine k_msk (L' := [some (.inr (6, some v0)), some (.inr (3, v1)), some (.inl v2), some (.inl v3), some (.inl s0), none, none, none, none]) [true, true, true, true, true, true, true, true, false] rfl ?_
  exact t6_expandItem_b80 v0 v1 v2 v3 s0 v8 g
def f6_expandItem_b52 (v0 : Nat) (v1 : Option Nat) (v2 : Int32) (v3 : Int32) (v6 : Int32) (s0 : Int32) (g : GS_) : Option (Unit × GS_) :=
  if v6 = 0 then f6_expandItem_b65 v0 v1 v2 v3 s0 (1 : Int32) g else f6_expandItem_b65 v0 v1 v2 v3 s0 v6 g
theorem t6_expandItem_b52 (v0 : Nat) (v1 : Option Nat) (v2 : Int32) (v3 : Int32) (v6 : Int32) (s0 : Int32) (g : GS_) : K_ RX6 cX6_expandItem 9 none 3 68 false EV_ 52 [some (.inr (6, some v0)), some (.inr (3, v1)), some (.inl v2), some (.inl v3), none, none, some (.inl v6), none, none] [.inl s0] g (f6_expandItem_b52 v0 v1 v2 v3 v6 s0 g) := by
  unfold f6_expandItem_b52
  refine k_ist (L' := [some (.inr (6, some v0)), some (.inr (3, v1)), some (.inl v2), some (.inl v3), none, none, some (.inl v6), none, some (.inl s0)]) dX6_expandItem_52 (by decide) rfl ?_
  refine k_iload dX6_expandItem_54 rfl ?_
  refine k_ifne (tgt := 63) dX6_expandItem_56 (by decide) (fun _ => ?_) (fun _ => ?_)
  · refine k_iconst (v := (1 : Int32)) dX6_expandItem_59 rfl ?_
    refine k_goto (tgt := 65) dX6_expandItem_60 (by decide) ?_
    refine k_msk (L' := [some (.inr (6, some v0)), some (.inr (3, v1)), some (.inl v2), some (.inl v3), none, none, none, none, some (.inl s0)]) [true, true, true, true, true, true, false, true, true] rfl ?_
    exact t6_expandItem_b65 v0 v1 v2 v3 s0 (1 : Int32) g
  refine k_iload dX6_expandItem_63 rfl ?_
  refine k_msk (L' := [some (.inr (6, some v0)), some (.inr (3, v1)), some (.inl v2), some (.inl v3), none, none, none, none, some (.inl s0)]) [true, true, true, true, true, true, false, true, true] rfl ?_
  exact t6_expandItem_b65 v0 v1 v2 v3 s0 v6 g
def f6_expandItem (v0 : Nat) (v1 : Option Nat) (v2 : Int32) (g : GS_) : Option (Unit × GS_) :=
  bd_ (f6_skip v0 (33 : Int32) g) fun z12 g11 => bd_ (f6_skip v0 (42 : Int32) g11) fun z14 g13 => if z14 = 0 then bd_ (f6_readNumber v0 g13) fun z16 g15 => bd_ (f6_skip v0 (45 : Int32) g15) fun z18 g17 => if z18 = 0 then f6_expandItem_b52 v0 v1 v2 z12 z16 z16 g17 else bd_ (f6_readNumber v0 g17) fun z20 g19 => f6_expandItem_b52 v0 v1 v2 z12 z16 z20 g19 else f6_expandItem_b82 v0 v1 v2 z12 (1 : Int32) (999 : Int32) g13
theorem t6_expandItem (v0 : Nat) (v1 : Option Nat) (v2 : Int32) (g : GS_) : Cn_ yX6_expandItem cX6_expandItem 9 none 3 68 EV_ [.inr (6, some v0), .inr (3, v1), .inl v2] g (f6_expandItem v0 v1 v2 g) := by
  refine k_method (own := RX6) (ini := false) (L1 := [some (.inr (6, some v0)), some (.inr (3, v1)), some (.inl v2), none, none, none, none, none, none]) (by decide +kernel) rfl (fun h => by cases h) (Nat.le_of_ble_eq_true rfl) rfl ?_
  unfold f6_expandItem
  refine k_aloadn (j := 0) dX6_expandItem_0 rfl rfl ?_
  refine k_bipush (v := (33 : Int32)) dX6_expandItem_1 rfl ?_
  refine k_callVi [.inl (33 : Int32)] (t6_skip v0 (33 : Int32) g) cw_cX6_skip (Or.inl ml_6_43) rfl rfl (by decide) (by decide) (Nat.le_of_ble_eq_true rfl) dX6_expandItem_3 (fun z12 g11 => ?_)
  refine k_istn (j := 3) (L' := [some (.inr (6, some v0)), some (.inr (3, v1)), some (.inl v2), some (.inl z12), none, none, none, none, none]) dX6_expandItem_6 rfl (by decide) rfl ?_
  refine k_iconst (v := (1 : Int32)) dX6_expandItem_7 rfl ?_
  refine k_ist (L' := [some (.inr (6, some v0)), some (.inr (3, v1)), some (.inl v2), some (.inl z12), some (.inl (1 : Int32)), none, none, none, none]) dX6_expandItem_8 (by decide) rfl ?_
  refine k_sipush (v := (999 : Int32)) dX6_expandItem_10 rfl ?_
  refine k_ist (L' := [some (.inr (6, some v0)), some (.inr (3, v1)), some (.inl v2), some (.inl z12), some (.inl (1 : Int32)), some (.inl (999 : Int32)), none, none, none]) dX6_expandItem_13 (by decide) rfl ?_
  refine k_aloadn (j := 0) dX6_expandItem_15 rfl rfl ?_
  refine k_bipush (v := (42 : Int32)) dX6_expandItem_16 rfl ?_
  refine k_callVi [.inl (42 : Int32)] (t6_skip v0 (42 : Int32) g11) cw_cX6_skip (Or.inl ml_6_43) rfl rfl (by decide) (by decide) (Nat.le_of_ble_eq_true rfl) dX6_expandItem_18 (fun z14 g13 => ?_)
  refine k_ifne (tgt := 82) dX6_expandItem_21 (by decide) (fun _ => ?_) (fun _ => ?_)
  · refine k_aloadn (j := 0) dX6_expandItem_24 rfl rfl ?_
    refine k_callVi [] (t6_readNumber v0 g13) cw_cX6_readNumber (Or.inl ml_6_47) rfl rfl (by decide) (by decide) (Nat.le_of_ble_eq_true rfl) dX6_expandItem_25 (fun z16 g15 => ?_)
    refine k_ist (L' := [some (.inr (6, some v0)), some (.inr (3, v1)), some (.inl v2), some (.inl z12), some (.inl (1 : Int32)), some (.inl (999 : Int32)), some (.inl z16), none, none]) dX6_expandItem_28 (by decide) rfl ?_
    refine k_aloadn (j := 0) dX6_expandItem_30 rfl rfl ?_
    refine k_bipush (v := (45 : Int32)) dX6_expandItem_31 rfl ?_
    refine k_callVi [.inl (45 : Int32)] (t6_skip v0 (45 : Int32) g15) cw_cX6_skip (Or.inl ml_6_43) rfl rfl (by decide) (by decide) (Nat.le_of_ble_eq_true rfl) dX6_expandItem_33 (fun z18 g17 => ?_)
    refine k_ist (L' := [some (.inr (6, some v0)), some (.inr (3, v1)), some (.inl v2), some (.inl z12), some (.inl (1 : Int32)), some (.inl (999 : Int32)), some (.inl z16), some (.inl z18), none]) dX6_expandItem_36 (by decide) rfl ?_
    refine k_iload dX6_expandItem_38 rfl ?_
    refine k_ifeq (tgt := 50) dX6_expandItem_40 (by decide) (fun _ => ?_) (fun _ => ?_)
    · refine k_iload dX6_expandItem_50 rfl ?_
      refine k_msk (L' := [some (.inr (6, some v0)), some (.inr (3, v1)), some (.inl v2), some (.inl z12), none, none, some (.inl z16), none, none]) [true, true, true, true, false, false, true, false, true] rfl ?_
      exact t6_expandItem_b52 v0 v1 v2 z12 z16 z16 g17
    refine k_aloadn (j := 0) dX6_expandItem_43 rfl rfl ?_
    refine k_callVi [] (t6_readNumber v0 g17) cw_cX6_readNumber (Or.inl ml_6_47) rfl rfl (by decide) (by decide) (Nat.le_of_ble_eq_true rfl) dX6_expandItem_44 (fun z20 g19 => ?_)
    refine k_goto (tgt := 52) dX6_expandItem_47 (by decide) ?_
    refine k_msk (L' := [some (.inr (6, some v0)), some (.inr (3, v1)), some (.inl v2), some (.inl z12), none, none, some (.inl z16), none, none]) [true, true, true, true, false, false, true, false, true] rfl ?_
    exact t6_expandItem_b52 v0 v1 v2 z12 z16 z20 g19
  exact t6_expandItem_b82 v0 v1 v2 z12 (1 : Int32) (999 : Int32) g13
theorem dX6_expand_0 : decode cX6_expand 0 = .ok (.aload_n 1, 1) := by decide +kernel
theorem dX6_expand_1 : decode cX6_expand 1 = .ok (.invokevirtual 30, 3) := by decide +kernel
theorem dX6_expand_4 : decode cX6_expand 4 = .ok (.aload_n 0, 1) := by decide +kernel
theorem dX6_expand_5 : decode cX6_expand 5 = .ok (.iconst 0, 1) := by decide +kernel
theorem dX6_expand_6 : decode cX6_expand 6 = .ok (.putfield 19, 3) := by decide +kernel
theorem dX6_expand_9 : decode cX6_expand 9 = .ok (.aload_n 0, 1) := by decide +kernel
theorem dX6_expand_10 : decode cX6_expand 10 = .ok (.getfield 19, 3) := by decide +kernel
theorem dX6_expand_13 : decode cX6_expand 13 = .ok (.aload_n 0, 1) := by decide +kernel
theorem dX6_expand_14 : decode cX6_expand 14 = .ok (.getfield 15, 3) := by decide +kernel
theorem dX6_expand_17 : decode cX6_expand 17 = .ok (.if_icmp .ge 33, 3) := by decide +kernel
theorem dX6_expand_20 : decode cX6_expand 20 = .ok (.aload_n 1, 1) := by decide +kernel
theorem dX6_expand_21 : decode cX6_expand 21 = .ok (.getfield 35, 3) := by decide +kernel
theorem dX6_expand_24 : decode cX6_expand 24 = .ok (.ifCond .ne 26, 3) := by decide +kernel
theorem dX6_expand_27 : decode cX6_expand 27 = .ok (.aload_n 0, 1) := by decide +kernel
theorem dX6_expand_28 : decode cX6_expand 28 = .ok (.getfield 19, 3) := by decide +kernel
theorem dX6_expand_31 : decode cX6_expand 31 = .ok (.istore_n 3, 1) := by decide +kernel
theorem dX6_expand_32 : decode cX6_expand 32 = .ok (.aload_n 0, 1) := by decide +kernel
theorem dX6_expand_33 : decode cX6_expand 33 = .ok (.aload_n 1, 1) := by decide +kernel
theorem dX6_expand_34 : decode cX6_expand 34 = .ok (.iload_n 2, 1) := by decide +kernel
theorem dX6_expand_35 : decode cX6_expand 35 = .ok (.invokevirtual 39, 3) := by decide +kernel
theorem dX6_expand_38 : decode cX6_expand 38 = .ok (.aload_n 0, 1) := by decide +kernel
theorem dX6_expand_39 : decode cX6_expand 39 = .ok (.getfield 19, 3) := by decide +kernel
theorem dX6_expand_42 : decode cX6_expand 42 = .ok (.iload_n 3, 1) := by decide +kernel
theorem dX6_expand_43 : decode cX6_expand 43 = .ok (.if_icmp .gt 4, 3) := by decide +kernel
theorem dX6_expand_46 : decode cX6_expand 46 = .ok (.return_, 1) := by decide +kernel
theorem dX6_expand_47 : decode cX6_expand 47 = .ok (.goto (-38), 3) := by decide +kernel
theorem dX6_expand_50 : decode cX6_expand 50 = .ok (.return_, 1) := by decide +kernel
def f6_expand_b9 : Nat → Nat → (Option Nat) → Int32 → GS_ → Option (Unit × GS_)
  | 0, _, _, _, _ => none
  | n + 1, v0, v1, v2, g =>
    if (gfi g 193 v0) ≤ (gfi g 194 v0) then some ((), g) else oc_ v1 none fun a1 => if (gfi g 98 a1) = 0 then lr_ (gfi g 194 v0) fun z2 => bd_ (f6_expandItem v0 (some a1) v2 g) fun _ g3 => if z2 < (gfi g3 194 v0) then (f6_expand_b9 n) v0 (some a1) v2 g3 else some ((), g3) else some ((), g)
theorem t6_expand_b9 : ∀ (n : Nat) (v0 : Nat) (v1 : Option Nat) (v2 : Int32) (g : GS_), K_ RX6 cX6_expand 4 none 4 96 false EV_ 9 [some (.inr (6, some v0)), some (.inr (3, v1)), some (.inl v2), none] [] g (f6_expand_b9 n v0 v1 v2 g) := by
  intro n
  induction n with
  | zero =>
    intro v0 v1 v2 g
    exact k_fail
  | succ n ih =>
    intro v0 v1 v2 g
    show K_ RX6 cX6_expand 4 none 4 96 false EV_ 9 [some (.inr (6, some v0)), some (.inr (3, v1)), some (.inl v2), none] [] g (if (gfi g 193 v0) ≤ (gfi g 194 v0) then some ((), g) else oc_ v1 none fun a1 => if (gfi g 98 a1) = 0 then lr_ (gfi g 194 v0) fun z2 => bd_ (f6_expandItem v0 (some a1) v2 g) fun _ g3 => if z2 < (gfi g3 194 v0) then (f6_expand_b9 n) v0 (some a1) v2 g3 else some ((), g3) else some ((), g))
    refine k_aloadn (j := 0) dX6_expand_9 rfl rfl ?_
    refine k_geti fg_6_19 rfl rfl dX6_expand_10 ?_
    refine k_aloadn (j := 0) dX6_expand_13 rfl rfl ?_
    refine k_geti fg_6_15 rfl rfl dX6_expand_14 ?_
    refine k_icmpge (tgt := 50) dX6_expand_17 (by decide) (fun _ => ?_) (fun _ => ?_)
    · exact k_return rfl dX6_expand_50
    refine k_aloadn (j := 1) dX6_expand_20 rfl rfl ?_
    rcases v1 with _ | a1
    · exact k_ocn
    refine k_ocs ?_
    refine k_geti fg_6_35 rfl rfl dX6_expand_21 ?_
    refine k_ifne (tgt := 50) dX6_expand_24 (by decide) (fun _ => ?_) (fun _ => ?_)
    · refine k_aloadn (j := 0) dX6_expand_27 rfl rfl ?_
      refine k_geti fg_6_19 rfl rfl dX6_expand_28 ?_
      refine k_istnl (j := 3) (L2 := fun z2 => [some (.inr (6, some v0)), some (.inr (3, some a1)), some (.inl v2), some (.inl z2)]) dX6_expand_31 rfl (by decide) (fun _ => rfl) (fun z2 => ?_)
      refine k_aloadn (j := 0) dX6_expand_32 rfl rfl ?_
      refine k_aloadn (j := 1) dX6_expand_33 rfl rfl ?_
      refine k_iloadn (j := 2) dX6_expand_34 rfl rfl ?_
      refine k_callVv [.inr (3, some a1), .inl v2] (t6_expandItem v0 (some a1) v2 g) cw_cX6_expandItem (Or.inl ml_6_39) rfl rfl (by decide) (by decide) (Nat.le_of_ble_eq_true rfl) dX6_expand_35 (fun _ g3 => ?_)
      refine k_aloadn (j := 0) dX6_expand_38 rfl rfl ?_
      refine k_geti fg_6_19 rfl rfl dX6_expand_39 ?_
      refine k_iloadn (j := 3) dX6_expand_42 rfl rfl ?_
      refine k_icmpgt (tgt := 47) dX6_expand_43 (by decide) (fun _ => ?_) (fun _ => ?_)
      · refine k_goto (tgt := 9) dX6_expand_47 (by decide) ?_
        refine k_msk (L' := [some (.inr (6, some v0)), some (.inr (3, some a1)), some (.inl v2), none]) [true, true, true, false] rfl ?_
        exact ih v0 (some a1) v2 g3
      exact k_return rfl dX6_expand_46
    exact k_return rfl dX6_expand_50
def f6_expand (v0 : Nat) (v1 : Option Nat) (v2 : Int32) (g : GS_) : Option (Unit × GS_) :=
  oc_ v1 none fun a4 => bd_ (f3_empty a4 g) fun _ g5 => lr_ (sfi g5 194 v0 (0 : Int32)) fun g6 => f6_expand_b9 FU_ v0 (some a4) v2 g6
theorem t6_expand (v0 : Nat) (v1 : Option Nat) (v2 : Int32) (g : GS_) : Cn_ yX6_expand cX6_expand 4 none 4 96 EV_ [.inr (6, some v0), .inr (3, v1), .inl v2] g (f6_expand v0 v1 v2 g) := by
  refine k_method (own := RX6) (ini := false) (L1 := [some (.inr (6, some v0)), some (.inr (3, v1)), some (.inl v2), none]) (by decide +kernel) rfl (fun h => by cases h) (Nat.le_of_ble_eq_true rfl) rfl ?_
  unfold f6_expand
  refine k_aloadn (j := 1) dX6_expand_0 rfl rfl ?_
  rcases v1 with _ | a4
  · exact k_ocn
  refine k_ocs ?_
  refine k_callVv [] (t3_empty a4 g) cw_cX3_empty (Or.inl ml_6_30) rfl rfl (by decide) (by decide) (Nat.le_of_ble_eq_true rfl) dX6_expand_1 (fun _ g5 => ?_)
  refine k_aloadn (j := 0) dX6_expand_4 rfl rfl ?_
  refine k_iconst (v := (0 : Int32)) dX6_expand_5 rfl ?_
  refine k_puti fp_6_19 rfl rfl dX6_expand_6 (fun g6 => ?_)
  exact t6_expand_b9 FU_ v0 (some a4) v2 g6
theorem dX7_digits_0 : decode cX7_digits 0 = .ok (.iload_n 0, 1) := by decide +kernel
theorem dX7_digits_1 : decode cX7_digits 1 = .ok (.bipush 100, 2) := by decide +kernel
theorem dX7_digits_3 : decode cX7_digits 3 = .ok (.if_icmp .lt 7, 3) := by decide +kernel
theorem dX7_digits_6 : decode cX7_digits 6 = .ok (.iconst 3, 1) := by decide +kernel
theorem dX7_digits_7 : decode cX7_digits 7 = .ok (.goto 14, 3) := by decide +kernel
theorem dX7_digits_10 : decode cX7_digits 10 = .ok (.iload_n 0, 1) := by decide +kernel
theorem dX7_digits_11 : decode cX7_digits 11 = .ok (.bipush 10, 2) := by decide +kernel
theorem dX7_digits_13 : decode cX7_digits 13 = .ok (.if_icmp .lt 7, 3) := by decide +kernel
theorem dX7_digits_16 : decode cX7_digits 16 = .ok (.iconst 2, 1) := by decide +kernel
theorem dX7_digits_17 : decode cX7_digits 17 = .ok (.goto 4, 3) := by decide +kernel
theorem dX7_digits_20 : decode cX7_digits 20 = .ok (.iconst 1, 1) := by decide +kernel
theorem dX7_digits_21 : decode cX7_digits 21 = .ok (.ireturn, 1) := by decide +kernel
def f7_digits (v0 : Int32) (g : GS_) : Option (Int32 × GS_) :=
  if v0 < (100 : Int32) then if v0 < (10 : Int32) then some ((1 : Int32), g) else some ((2 : Int32), g) else some ((3 : Int32), g)
theorem t7_digits (v0 : Int32) (g : GS_) : Cn_ yX7_digits cX7_digits 1 (some .int) 0 0 EI_ [.inl v0] g (f7_digits v0 g) := by
  refine k_method (own := RX7) (ini := false) (L1 := [some (.inl v0)]) (by decide +kernel) rfl (fun h => by cases h) (Nat.le_of_ble_eq_true rfl) rfl ?_
  unfold f7_digits
  refine k_iloadn (j := 0) dX7_digits_0 rfl rfl ?_
  refine k_bipush (v := (100 : Int32)) dX7_digits_1 rfl ?_
  refine k_icmplt (tgt := 10) dX7_digits_3 (by decide) (fun _ => ?_) (fun _ => ?_)
  · refine k_iloadn (j := 0) dX7_digits_10 rfl rfl ?_
    refine k_bipush (v := (10 : Int32)) dX7_digits_11 rfl ?_
    refine k_icmplt (tgt := 20) dX7_digits_13 (by decide) (fun _ => ?_) (fun _ => ?_)
    · refine k_iconst (v := (1 : Int32)) dX7_digits_20 rfl ?_
      exact k_ireturn rfl dX7_digits_21
    refine k_iconst (v := (2 : Int32)) dX7_digits_16 rfl ?_
    refine k_goto (tgt := 21) dX7_digits_17 (by decide) ?_
    exact k_ireturn rfl dX7_digits_21
  refine k_iconst (v := (3 : Int32)) dX7_digits_6 rfl ?_
  refine k_goto (tgt := 21) dX7_digits_7 (by decide) ?_
  exact k_ireturn rfl dX7_digits_21
theorem dX7_put_0 : decode cX7_put 0 = .ok (.aload_n 0, 1) := by decide +kernel
theorem dX7_put_1 : decode cX7_put 1 = .ok (.getfield 24, 3) := by decide +kernel
theorem dX7_put_4 : decode cX7_put 4 = .ok (.ifCond .lt 35, 3) := by decide +kernel
theorem dX7_put_7 : decode cX7_put 7 = .ok (.aload_n 0, 1) := by decide +kernel
theorem dX7_put_8 : decode cX7_put 8 = .ok (.getfield 24, 3) := by decide +kernel
theorem dX7_put_11 : decode cX7_put 11 = .ok (.aload_n 0, 1) := by decide +kernel
theorem dX7_put_12 : decode cX7_put 12 = .ok (.getfield 21, 3) := by decide +kernel
theorem dX7_put_15 : decode cX7_put 15 = .ok (.arraylength, 1) := by decide +kernel
theorem dX7_put_16 : decode cX7_put 16 = .ok (.if_icmp .ge 23, 3) := by decide +kernel
theorem dX7_put_19 : decode cX7_put 19 = .ok (.aload_n 0, 1) := by decide +kernel
theorem dX7_put_20 : decode cX7_put 20 = .ok (.getfield 21, 3) := by decide +kernel
theorem dX7_put_23 : decode cX7_put 23 = .ok (.aload_n 0, 1) := by decide +kernel
theorem dX7_put_24 : decode cX7_put 24 = .ok (.getfield 24, 3) := by decide +kernel
theorem dX7_put_27 : decode cX7_put 27 = .ok (.iload_n 1, 1) := by decide +kernel
theorem dX7_put_28 : decode cX7_put 28 = .ok (.iastore, 1) := by decide +kernel
theorem dX7_put_29 : decode cX7_put 29 = .ok (.aload_n 0, 1) := by decide +kernel
theorem dX7_put_30 : decode cX7_put 30 = .ok (.dup, 1) := by decide +kernel
theorem dX7_put_31 : decode cX7_put 31 = .ok (.getfield 24, 3) := by decide +kernel
theorem dX7_put_34 : decode cX7_put 34 = .ok (.iconst 1, 1) := by decide +kernel
theorem dX7_put_35 : decode cX7_put 35 = .ok (.iadd, 1) := by decide +kernel
theorem dX7_put_36 : decode cX7_put 36 = .ok (.putfield 24, 3) := by decide +kernel
theorem dX7_put_39 : decode cX7_put 39 = .ok (.return_, 1) := by decide +kernel
def f7_put (v0 : Nat) (v1 : Int32) (g : GS_) : Option (Unit × GS_) :=
  if (gfi g 228 v0) < 0 then some ((), g) else lr_ (gfr g 227 v0) fun x1 => oc_ x1 none fun a2 => if (Int32.ofNat (gln g 20 a2)) ≤ (gfi g 228 v0) then some ((), g) else lr_ (gfr g 227 v0) fun x3 => oc_ x3 none fun a4 => if inb (gfi g 228 v0) (gln g 20 a4) then lr_ (sai g 20 a4 (gfi g 228 v0).toInt.toNat v1) (fun g5 => lr_ (sfi g5 228 v0 ((gfi g5 228 v0) + (1 : Int32))) fun g6 => some ((), g6)) else none
theorem t7_put (v0 : Nat) (v1 : Int32) (g : GS_) : Cn_ yX7_put cX7_put 2 none 0 0 EV_ [.inr (7, some v0), .inl v1] g (f7_put v0 v1 g) := by
  refine k_method (own := RX7) (ini := false) (L1 := [some (.inr (7, some v0)), some (.inl v1)]) (by decide +kernel) rfl (fun h => by cases h) (Nat.le_of_ble_eq_true rfl) rfl ?_
  unfold f7_put
  refine k_aloadn (j := 0) dX7_put_0 rfl rfl ?_
  refine k_geti fg_7_24 rfl rfl dX7_put_1 ?_
  refine k_iflt (tgt := 39) dX7_put_4 (by decide) (fun _ => ?_) (fun _ => ?_)
  · exact k_return rfl dX7_put_39
  refine k_aloadn (j := 0) dX7_put_7 rfl rfl ?_
  refine k_geti fg_7_24 rfl rfl dX7_put_8 ?_
  refine k_aloadn (j := 0) dX7_put_11 rfl rfl ?_
  refine k_getr fg_7_21 rfl rfl dX7_put_12 (fun x1 => ?_)
  rcases x1 with _ | a2
  · exact k_ocn
  refine k_ocs ?_
  refine k_alen dX7_put_15 (by decide) ?_
  refine k_icmpge (tgt := 39) dX7_put_16 (by decide) (fun _ => ?_) (fun _ => ?_)
  · exact k_return rfl dX7_put_39
  refine k_aloadn (j := 0) dX7_put_19 rfl rfl ?_
  refine k_getr fg_7_21 rfl rfl dX7_put_20 (fun x3 => ?_)
  refine k_aloadn (j := 0) dX7_put_23 rfl rfl ?_
  refine k_geti fg_7_24 rfl rfl dX7_put_24 ?_
  refine k_iloadn (j := 1) dX7_put_27 rfl rfl ?_
  rcases x3 with _ | a4
  · exact k_ocn
  refine k_ocs ?_
  refine k_iast dX7_put_28 (fun g5 => ?_)
  refine k_aloadn (j := 0) dX7_put_29 rfl rfl ?_
  refine k_dup dX7_put_30 ?_
  refine k_geti fg_7_24 rfl rfl dX7_put_31 ?_
  refine k_iconst (v := (1 : Int32)) dX7_put_34 rfl ?_
  refine k_iadd dX7_put_35 ?_
  refine k_puti fp_7_24 rfl rfl dX7_put_36 (fun g6 => ?_)
  exact k_return rfl dX7_put_39
theorem dX7_putNumber_0 : decode cX7_putNumber 0 = .ok (.iload_n 1, 1) := by decide +kernel
theorem dX7_putNumber_1 : decode cX7_putNumber 1 = .ok (.bipush 100, 2) := by decide +kernel
theorem dX7_putNumber_3 : decode cX7_putNumber 3 = .ok (.if_icmp .lt 17, 3) := by decide +kernel
theorem dX7_putNumber_6 : decode cX7_putNumber 6 = .ok (.aload_n 0, 1) := by decide +kernel
theorem dX7_putNumber_7 : decode cX7_putNumber 7 = .ok (.bipush 48, 2) := by decide +kernel
theorem dX7_putNumber_9 : decode cX7_putNumber 9 = .ok (.iload_n 1, 1) := by decide +kernel
theorem dX7_putNumber_10 : decode cX7_putNumber 10 = .ok (.bipush 100, 2) := by decide +kernel
theorem dX7_putNumber_12 : decode cX7_putNumber 12 = .ok (.idiv, 1) := by decide +kernel
theorem dX7_putNumber_13 : decode cX7_putNumber 13 = .ok (.bipush 10, 2) := by decide +kernel
theorem dX7_putNumber_15 : decode cX7_putNumber 15 = .ok (.irem, 1) := by decide +kernel
theorem dX7_putNumber_16 : decode cX7_putNumber 16 = .ok (.iadd, 1) := by decide +kernel
theorem dX7_putNumber_17 : decode cX7_putNumber 17 = .ok (.invokevirtual 67, 3) := by decide +kernel
theorem dX7_putNumber_20 : decode cX7_putNumber 20 = .ok (.iload_n 1, 1) := by decide +kernel
theorem dX7_putNumber_21 : decode cX7_putNumber 21 = .ok (.bipush 10, 2) := by decide +kernel
theorem dX7_putNumber_23 : decode cX7_putNumber 23 = .ok (.if_icmp .lt 17, 3) := by decide +kernel
theorem dX7_putNumber_26 : decode cX7_putNumber 26 = .ok (.aload_n 0, 1) := by decide +kernel
theorem dX7_putNumber_27 : decode cX7_putNumber 27 = .ok (.bipush 48, 2) := by decide +kernel
theorem dX7_putNumber_29 : decode cX7_putNumber 29 = .ok (.iload_n 1, 1) := by decide +kernel
theorem dX7_putNumber_30 : decode cX7_putNumber 30 = .ok (.bipush 10, 2) := by decide +kernel
theorem dX7_putNumber_32 : decode cX7_putNumber 32 = .ok (.idiv, 1) := by decide +kernel
theorem dX7_putNumber_33 : decode cX7_putNumber 33 = .ok (.bipush 10, 2) := by decide +kernel
theorem dX7_putNumber_35 : decode cX7_putNumber 35 = .ok (.irem, 1) := by decide +kernel
theorem dX7_putNumber_36 : decode cX7_putNumber 36 = .ok (.iadd, 1) := by decide +kernel
theorem dX7_putNumber_37 : decode cX7_putNumber 37 = .ok (.invokevirtual 67, 3) := by decide +kernel
theorem dX7_putNumber_40 : decode cX7_putNumber 40 = .ok (.aload_n 0, 1) := by decide +kernel
theorem dX7_putNumber_41 : decode cX7_putNumber 41 = .ok (.bipush 48, 2) := by decide +kernel
theorem dX7_putNumber_43 : decode cX7_putNumber 43 = .ok (.iload_n 1, 1) := by decide +kernel
theorem dX7_putNumber_44 : decode cX7_putNumber 44 = .ok (.bipush 10, 2) := by decide +kernel
theorem dX7_putNumber_46 : decode cX7_putNumber 46 = .ok (.irem, 1) := by decide +kernel
theorem dX7_putNumber_47 : decode cX7_putNumber 47 = .ok (.iadd, 1) := by decide +kernel
theorem dX7_putNumber_48 : decode cX7_putNumber 48 = .ok (.invokevirtual 67, 3) := by decide +kernel
theorem dX7_putNumber_51 : decode cX7_putNumber 51 = .ok (.return_, 1) := by decide +kernel
def f7_putNumber_b40 (v0 : Nat) (v1 : Int32) (g : GS_) : Option (Unit × GS_) :=
  bd_ (f7_put v0 ((48 : Int32) + (jrem v1 (10 : Int32))) g) fun _ g1 => some ((), g1)
theorem t7_putNumber_b40 (v0 : Nat) (v1 : Int32) (g : GS_) : K_ RX7 cX7_putNumber 2 none 1 21 false EV_ 40 [some (.inr (7, some v0)), some (.inl v1)] [] g (f7_putNumber_b40 v0 v1 g) := by
  unfold f7_putNumber_b40
  refine k_aloadn (j := 0) dX7_putNumber_40 rfl rfl ?_
  refine k_bipush (v := (48 : Int32)) dX7_putNumber_41 rfl ?_
  refine k_iloadn (j := 1) dX7_putNumber_43 rfl rfl ?_
  refine k_bipush (v := (10 : Int32)) dX7_putNumber_44 rfl ?_
  refine k_iremc (by decide) dX7_putNumber_46 ?_
  refine k_iadd dX7_putNumber_47 ?_
  refine k_callVv [.inl ((48 : Int32) + (jrem v1 (10 : Int32)))] (t7_put v0 ((48 : Int32) + (jrem v1 (10 : Int32))) g) cw_cX7_put (Or.inl ml_7_67) rfl rfl (by decide) (by decide) (Nat.le_of_ble_eq_true rfl) dX7_putNumber_48 (fun _ g1 => ?_)
  exact k_return rfl dX7_putNumber_51
def f7_putNumber_b20 (v0 : Nat) (v1 : Int32) (g : GS_) : Option (Unit × GS_) :=
  if v1 < (10 : Int32) then f7_putNumber_b40 v0 v1 g else bd_ (f7_put v0 ((48 : Int32) + (jrem (v1 / (10 : Int32)) (10 : Int32))) g) fun _ g2 => f7_putNumber_b40 v0 v1 g2
theorem t7_putNumber_b20 (v0 : Nat) (v1 : Int32) (g : GS_) : K_ RX7 cX7_putNumber 2 none 1 21 false EV_ 20 [some (.inr (7, some v0)), some (.inl v1)] [] g (f7_putNumber_b20 v0 v1 g) := by
  unfold f7_putNumber_b20
  refine k_iloadn (j := 1) dX7_putNumber_20 rfl rfl ?_
  refine k_bipush (v := (10 : Int32)) dX7_putNumber_21 rfl ?_
  refine k_icmplt (tgt := 40) dX7_putNumber_23 (by decide) (fun _ => ?_) (fun _ => ?_)
  · exact t7_putNumber_b40 v0 v1 g
  refine k_aloadn (j := 0) dX7_putNumber_26 rfl rfl ?_
  refine k_bipush (v := (48 : Int32)) dX7_putNumber_27 rfl ?_
  refine k_iloadn (j := 1) dX7_putNumber_29 rfl rfl ?_
  refine k_bipush (v := (10 : Int32)) dX7_putNumber_30 rfl ?_
  refine k_idivc (by decide) dX7_putNumber_32 ?_
  refine k_bipush (v := (10 : Int32)) dX7_putNumber_33 rfl ?_
  refine k_iremc (by decide) dX7_putNumber_35 ?_
  refine k_iadd dX7_putNumber_36 ?_
  refine k_callVv [.inl ((48 : Int32) + (jrem (v1 / (10 : Int32)) (10 : Int32)))] (t7_put v0 ((48 : Int32) + (jrem (v1 / (10 : Int32)) (10 : Int32))) g) cw_cX7_put (Or.inl ml_7_67) rfl rfl (by decide) (by decide) (Nat.le_of_ble_eq_true rfl) dX7_putNumber_37 (fun _ g2 => ?_)
  exact t7_putNumber_b40 v0 v1 g2
def f7_putNumber (v0 : Nat) (v1 : Int32) (g : GS_) : Option (Unit × GS_) :=
  if v1 < (100 : Int32) then f7_putNumber_b20 v0 v1 g else bd_ (f7_put v0 ((48 : Int32) + (jrem (v1 / (100 : Int32)) (10 : Int32))) g) fun _ g3 => f7_putNumber_b20 v0 v1 g3
theorem t7_putNumber (v0 : Nat) (v1 : Int32) (g : GS_) : Cn_ yX7_putNumber cX7_putNumber 2 none 1 21 EV_ [.inr (7, some v0), .inl v1] g (f7_putNumber v0 v1 g) := by
  refine k_method (own := RX7) (ini := false) (L1 := [some (.inr (7, some v0)), some (.inl v1)]) (by decide +kernel) rfl (fun h => by cases h) (Nat.le_of_ble_eq_true rfl) rfl ?_
  unfold f7_putNumber
  refine k_iloadn (j := 1) dX7_putNumber_0 rfl rfl ?_
  refine k_bipush (v := (100 : Int32)) dX7_putNumber_1 rfl ?_
  refine k_icmplt (tgt := 20) dX7_putNumber_3 (by decide) (fun _ => ?_) (fun _ => ?_)
  · exact t7_putNumber_b20 v0 v1 g
  refine k_aloadn (j := 0) dX7_putNumber_6 rfl rfl ?_
  refine k_bipush (v := (48 : Int32)) dX7_putNumber_7 rfl ?_
  refine k_iloadn (j := 1) dX7_putNumber_9 rfl rfl ?_
  refine k_bipush (v := (100 : Int32)) dX7_putNumber_10 rfl ?_
  refine k_idivc (by decide) dX7_putNumber_12 ?_
  refine k_bipush (v := (10 : Int32)) dX7_putNumber_13 rfl ?_
  refine k_iremc (by decide) dX7_putNumber_15 ?_
  refine k_iadd dX7_putNumber_16 ?_
  refine k_callVv [.inl ((48 : Int32) + (jrem (v1 / (100 : Int32)) (10 : Int32)))] (t7_put v0 ((48 : Int32) + (jrem (v1 / (100 : Int32)) (10 : Int32))) g) cw_cX7_put (Or.inl ml_7_67) rfl rfl (by decide) (by decide) (Nat.le_of_ble_eq_true rfl) dX7_putNumber_17 (fun _ g3 => ?_)
  exact t7_putNumber_b20 v0 v1 g3
theorem dX7_isSpaced_0 : decode cX7_isSpaced 0 = .ok (.iload_n 1, 1) := by decide +kernel
theorem dX7_isSpaced_1 : decode cX7_isSpaced 1 = .ok (.iload_n 0, 1) := by decide +kernel
theorem dX7_isSpaced_2 : decode cX7_isSpaced 2 = .ok (.isub, 1) := by decide +kernel
theorem dX7_isSpaced_3 : decode cX7_isSpaced 3 = .ok (.invokestatic 61, 3) := by decide +kernel
theorem dX7_isSpaced_6 : decode cX7_isSpaced 6 = .ok (.iload_n 2, 1) := by decide +kernel
theorem dX7_isSpaced_7 : decode cX7_isSpaced 7 = .ok (.iconst 1, 1) := by decide +kernel
theorem dX7_isSpaced_8 : decode cX7_isSpaced 8 = .ok (.isub, 1) := by decide +kernel
theorem dX7_isSpaced_9 : decode cX7_isSpaced 9 = .ok (.if_icmp .eq 7, 3) := by decide +kernel
theorem dX7_isSpaced_12 : decode cX7_isSpaced 12 = .ok (.iconst 1, 1) := by decide +kernel
theorem dX7_isSpaced_13 : decode cX7_isSpaced 13 = .ok (.goto 4, 3) := by decide +kernel
theorem dX7_isSpaced_16 : decode cX7_isSpaced 16 = .ok (.iconst 0, 1) := by decide +kernel
theorem dX7_isSpaced_17 : decode cX7_isSpaced 17 = .ok (.ireturn, 1) := by decide +kernel
def f7_isSpaced (v0 : Int32) (v1 : Int32) (v2 : Int32) (g : GS_) : Option (Int32 × GS_) :=
  if (jabs (v1 - v0)) = (v2 - (1 : Int32)) then some ((0 : Int32), g) else some ((1 : Int32), g)
theorem t7_isSpaced (v0 : Int32) (v1 : Int32) (v2 : Int32) (g : GS_) : Cn_ yX7_isSpaced cX7_isSpaced 3 (some .boolean) 1 13 EI_ [.inl v0, .inl v1, .inl v2] g (f7_isSpaced v0 v1 v2 g) := by
  refine k_method (own := RX7) (ini := false) (L1 := [some (.inl v0), some (.inl v1), some (.inl v2)]) (by decide +kernel) rfl (fun h => by cases h) (Nat.le_of_ble_eq_true rfl) rfl ?_
  unfold f7_isSpaced
  refine k_iloadn (j := 1) dX7_isSpaced_0 rfl rfl ?_
  refine k_iloadn (j := 0) dX7_isSpaced_1 rfl rfl ?_
  refine k_isub dX7_isSpaced_2 ?_
  refine k_abs mw_abs ml_7_61 (by decide) (Nat.le_of_ble_eq_true rfl) dX7_isSpaced_3 ?_
  refine k_iloadn (j := 2) dX7_isSpaced_6 rfl rfl ?_
  refine k_iconst (v := (1 : Int32)) dX7_isSpaced_7 rfl ?_
  refine k_isub dX7_isSpaced_8 ?_
  refine k_icmpeq (tgt := 16) dX7_isSpaced_9 (by decide) (fun _ => ?_) (fun _ => ?_)
  · refine k_iconst (v := (0 : Int32)) dX7_isSpaced_16 rfl ?_
    exact k_zreturn rfl (by decide) dX7_isSpaced_17
  refine k_iconst (v := (1 : Int32)) dX7_isSpaced_12 rfl ?_
  refine k_goto (tgt := 17) dX7_isSpaced_13 (by decide) ?_
  exact k_zreturn rfl (by decide) dX7_isSpaced_17
theorem dX7_writeItem_0 : decode cX7_writeItem 0 = .ok (.aload_n 0, 1) := by decide +kernel
theorem dX7_writeItem_1 : decode cX7_writeItem 1 = .ok (.iload_n 1, 1) := by decide +kernel
theorem dX7_writeItem_2 : decode cX7_writeItem 2 = .ok (.invokevirtual 75, 3) := by decide +kernel
theorem dX7_writeItem_5 : decode cX7_writeItem 5 = .ok (.iload_n 3, 1) := by decide +kernel
theorem dX7_writeItem_6 : decode cX7_writeItem 6 = .ok (.iconst 1, 1) := by decide +kernel
theorem dX7_writeItem_7 : decode cX7_writeItem 7 = .ok (.if_icmp .ne 4, 3) := by decide +kernel
theorem dX7_writeItem_10 : decode cX7_writeItem 10 = .ok (.return_, 1) := by decide +kernel
theorem dX7_writeItem_11 : decode cX7_writeItem 11 = .ok (.aload_n 0, 1) := by decide +kernel
theorem dX7_writeItem_12 : decode cX7_writeItem 12 = .ok (.bipush 45, 2) := by decide +kernel
theorem dX7_writeItem_14 : decode cX7_writeItem 14 = .ok (.invokevirtual 67, 3) := by decide +kernel
theorem dX7_writeItem_17 : decode cX7_writeItem 17 = .ok (.aload_n 0, 1) := by decide +kernel
theorem dX7_writeItem_18 : decode cX7_writeItem 18 = .ok (.iload_n 2, 1) := by decide +kernel
theorem dX7_writeItem_19 : decode cX7_writeItem 19 = .ok (.invokevirtual 75, 3) := by decide +kernel
theorem dX7_writeItem_22 : decode cX7_writeItem 22 = .ok (.iload_n 1, 1) := by decide +kernel
theorem dX7_writeItem_23 : decode cX7_writeItem 23 = .ok (.iload_n 2, 1) := by decide +kernel
theorem dX7_writeItem_24 : decode cX7_writeItem 24 = .ok (.iload_n 3, 1) := by decide +kernel
theorem dX7_writeItem_25 : decode cX7_writeItem 25 = .ok (.invokestatic 57, 3) := by decide +kernel
theorem dX7_writeItem_28 : decode cX7_writeItem 28 = .ok (.ifCond .eq 21, 3) := by decide +kernel
theorem dX7_writeItem_31 : decode cX7_writeItem 31 = .ok (.aload_n 0, 1) := by decide +kernel
theorem dX7_writeItem_32 : decode cX7_writeItem 32 = .ok (.iload_n 1, 1) := by decide +kernel
theorem dX7_writeItem_33 : decode cX7_writeItem 33 = .ok (.iconst 2, 1) := by decide +kernel
theorem dX7_writeItem_34 : decode cX7_writeItem 34 = .ok (.irem, 1) := by decide +kernel
theorem dX7_writeItem_35 : decode cX7_writeItem 35 = .ok (.iconst 1, 1) := by decide +kernel
theorem dX7_writeItem_36 : decode cX7_writeItem 36 = .ok (.if_icmp .ne 8, 3) := by decide +kernel
theorem dX7_writeItem_39 : decode cX7_writeItem 39 = .ok (.bipush 111, 2) := by decide +kernel
theorem dX7_writeItem_41 : decode cX7_writeItem 41 = .ok (.goto 5, 3) := by decide +kernel
theorem dX7_writeItem_44 : decode cX7_writeItem 44 = .ok (.bipush 101, 2) := by decide +kernel
theorem dX7_writeItem_46 : decode cX7_writeItem 46 = .ok (.invokevirtual 67, 3) := by decide +kernel
theorem dX7_writeItem_49 : decode cX7_writeItem 49 = .ok (.return_, 1) := by decide +kernel
def f7_writeItem_b46 (s0 : Nat) (s1 : Int32) (g : GS_) : Option (Unit × GS_) :=
  bd_ (f7_put s0 s1 g) fun _ g1 => some ((), g1)
theorem t7_writeItem_b46 (s0 : Nat) (s1 : Int32) (g : GS_) : K_ RX7 cX7_writeItem 4 none 2 42 false EV_ 46 [none, none, none, none] [.inl s1, .inr (7, some s0)] g (f7_writeItem_b46 s0 s1 g) := by
  unfold f7_writeItem_b46
  refine k_callVv [.inl s1] (t7_put s0 s1 g) cw_cX7_put (Or.inl ml_7_67) rfl rfl (by decide) (by decide) (Nat.le_of_ble_eq_true rfl) dX7_writeItem_46 (fun _ g1 => ?_)
  exact k_return rfl dX7_writeItem_49
def f7_writeItem (v0 : Nat) (v1 : Int32) (v2 : Int32) (v3 : Int32) (g : GS_) : Option (Unit × GS_) :=
  bd_ (f7_putNumber v0 v1 g) fun _ g2 => if v3 = (1 : Int32) then some ((), g2) else bd_ (f7_put v0 (45 : Int32) g2) fun _ g3 => bd_ (f7_putNumber v0 v2 g3) fun _ g4 => bd_ (f7_isSpaced v1 v2 v3 g4) fun z6 g5 => if z6 = 0 then some ((), g5) else if (jrem v1 (2 : Int32)) = (1 : Int32) then f7_writeItem_b46 v0 (111 : Int32) g5 else f7_writeItem_b46 v0 (101 : Int32) g5
theorem t7_writeItem (v0 : Nat) (v1 : Int32) (v2 : Int32) (v3 : Int32) (g : GS_) : Cn_ yX7_writeItem cX7_writeItem 4 none 2 42 EV_ [.inr (7, some v0), .inl v1, .inl v2, .inl v3] g (f7_writeItem v0 v1 v2 v3 g) := by
  refine k_method (own := RX7) (ini := false) (L1 := [some (.inr (7, some v0)), some (.inl v1), some (.inl v2), some (.inl v3)]) (by decide +kernel) rfl (fun h => by cases h) (Nat.le_of_ble_eq_true rfl) rfl ?_
  unfold f7_writeItem
  refine k_aloadn (j := 0) dX7_writeItem_0 rfl rfl ?_
  refine k_iloadn (j := 1) dX7_writeItem_1 rfl rfl ?_
  refine k_callVv [.inl v1] (t7_putNumber v0 v1 g) cw_cX7_putNumber (Or.inl ml_7_75) rfl rfl (by decide) (by decide) (Nat.le_of_ble_eq_true rfl) dX7_writeItem_2 (fun _ g2 => ?_)
  refine k_iloadn (j := 3) dX7_writeItem_5 rfl rfl ?_
  refine k_iconst (v := (1 : Int32)) dX7_writeItem_6 rfl ?_
  refine k_icmpne (tgt := 11) dX7_writeItem_7 (by decide) (fun _ => ?_) (fun _ => ?_)
  · exact k_return rfl dX7_writeItem_10
  refine k_aloadn (j := 0) dX7_writeItem_11 rfl rfl ?_
  refine k_bipush (v := (45 : Int32)) dX7_writeItem_12 rfl ?_
  refine k_callVv [.inl (45 : Int32)] (t7_put v0 (45 : Int32) g2) cw_cX7_put (Or.inl ml_7_67) rfl rfl (by decide) (by decide) (Nat.le_of_ble_eq_true rfl) dX7_writeItem_14 (fun _ g3 => ?_)
  refine k_aloadn (j := 0) dX7_writeItem_17 rfl rfl ?_
  refine k_iloadn (j := 2) dX7_writeItem_18 rfl rfl ?_
  refine k_callVv [.inl v2] (t7_putNumber v0 v2 g3) cw_cX7_putNumber (Or.inl ml_7_75) rfl rfl (by decide) (by decide) (Nat.le_of_ble_eq_true rfl) dX7_writeItem_19 (fun _ g4 => ?_)
  refine k_iloadn (j := 1) dX7_writeItem_22 rfl rfl ?_
  refine k_iloadn (j := 2) dX7_writeItem_23 rfl rfl ?_
  refine k_iloadn (j := 3) dX7_writeItem_24 rfl rfl ?_
  refine k_callSi [.inl v1, .inl v2, .inl v3] (t7_isSpaced v1 v2 v3 g4) cw_cX7_isSpaced ml_7_57 rfl rfl (by decide) (by decide) (Nat.le_of_ble_eq_true rfl) dX7_writeItem_25 (fun z6 g5 => ?_)
  refine k_ifeq (tgt := 49) dX7_writeItem_28 (by decide) (fun _ => ?_) (fun _ => ?_)
  · exact k_return rfl dX7_writeItem_49
  refine k_aloadn (j := 0) dX7_writeItem_31 rfl rfl ?_
  refine k_iloadn (j := 1) dX7_writeItem_32 rfl rfl ?_
  refine k_iconst (v := (2 : Int32)) dX7_writeItem_33 rfl ?_
  refine k_iremc (by decide) dX7_writeItem_34 ?_
  refine k_iconst (v := (1 : Int32)) dX7_writeItem_35 rfl ?_
  refine k_icmpne (tgt := 44) dX7_writeItem_36 (by decide) (fun _ => ?_) (fun _ => ?_)
  · refine k_bipush (v := (111 : Int32)) dX7_writeItem_39 rfl ?_
    refine k_goto (tgt := 46) dX7_writeItem_41 (by decide) ?_
    refine k_msk (L' := [none, none, none, none]) [false, false, false, false] rfl ?_
    exact t7_writeItem_b46 v0 (111 : Int32) g5
  refine k_bipush (v := (101 : Int32)) dX7_writeItem_44 rfl ?_
  refine k_msk (L' := [none, none, none, none]) [false, false, false, false] rfl ?_
  exact t7_writeItem_b46 v0 (101 : Int32) g5
theorem dX7_write_0 : decode cX7_write 0 = .ok (.aload_n 0, 1) := by decide +kernel
theorem dX7_write_1 : decode cX7_write 1 = .ok (.iconst 0, 1) := by decide +kernel
theorem dX7_write_2 : decode cX7_write 2 = .ok (.putfield 24, 3) := by decide +kernel
theorem dX7_write_5 : decode cX7_write 5 = .ok (.iconst 0, 1) := by decide +kernel
theorem dX7_write_6 : decode cX7_write 6 = .ok (.istore_n 3, 1) := by decide +kernel
theorem dX7_write_7 : decode cX7_write 7 = .ok (.iload_n 3, 1) := by decide +kernel
theorem dX7_write_8 : decode cX7_write 8 = .ok (.iload_n 2, 1) := by decide +kernel
theorem dX7_write_9 : decode cX7_write 9 = .ok (.if_icmp .ge 77, 3) := by decide +kernel
theorem dX7_write_12 : decode cX7_write 12 = .ok (.iload_n 3, 1) := by decide +kernel
theorem dX7_write_13 : decode cX7_write 13 = .ok (.aload_n 1, 1) := by decide +kernel
theorem dX7_write_14 : decode cX7_write 14 = .ok (.arraylength, 1) := by decide +kernel
theorem dX7_write_15 : decode cX7_write 15 = .ok (.if_icmp .ge 71, 3) := by decide +kernel
theorem dX7_write_18 : decode cX7_write 18 = .ok (.iload_n 3, 1) := by decide +kernel
theorem dX7_write_19 : decode cX7_write 19 = .ok (.aload_n 0, 1) := by decide +kernel
theorem dX7_write_20 : decode cX7_write 20 = .ok (.getfield 18, 3) := by decide +kernel
theorem dX7_write_23 : decode cX7_write 23 = .ok (.arraylength, 1) := by decide +kernel
theorem dX7_write_24 : decode cX7_write 24 = .ok (.if_icmp .ge 62, 3) := by decide +kernel
theorem dX7_write_27 : decode cX7_write 27 = .ok (.iconst 1, 1) := by decide +kernel
theorem dX7_write_28 : decode cX7_write 28 = .ok (.aload_n 0, 1) := by decide +kernel
theorem dX7_write_29 : decode cX7_write 29 = .ok (.getfield 18, 3) := by decide +kernel
theorem dX7_write_32 : decode cX7_write 32 = .ok (.iload_n 3, 1) := by decide +kernel
theorem dX7_write_33 : decode cX7_write 33 = .ok (.iaload, 1) := by decide +kernel
theorem dX7_write_34 : decode cX7_write 34 = .ok (.invokestatic 64, 3) := by decide +kernel
theorem dX7_write_37 : decode cX7_write 37 = .ok (.istore 4, 2) := by decide +kernel
theorem dX7_write_39 : decode cX7_write 39 = .ok (.iload_n 3, 1) := by decide +kernel
theorem dX7_write_40 : decode cX7_write 40 = .ok (.iload 4, 2) := by decide +kernel
theorem dX7_write_42 : decode cX7_write 42 = .ok (.iadd, 1) := by decide +kernel
theorem dX7_write_43 : decode cX7_write 43 = .ok (.iconst 1, 1) := by decide +kernel
theorem dX7_write_44 : decode cX7_write 44 = .ok (.isub, 1) := by decide +kernel
theorem dX7_write_45 : decode cX7_write 45 = .ok (.istore 5, 2) := by decide +kernel
theorem dX7_write_47 : decode cX7_write 47 = .ok (.iload 5, 2) := by decide +kernel
theorem dX7_write_49 : decode cX7_write 49 = .ok (.aload_n 1, 1) := by decide +kernel
theorem dX7_write_50 : decode cX7_write 50 = .ok (.arraylength, 1) := by decide +kernel
theorem dX7_write_51 : decode cX7_write 51 = .ok (.if_icmp .lt 4, 3) := by decide +kernel
theorem dX7_write_54 : decode cX7_write 54 = .ok (.return_, 1) := by decide +kernel
theorem dX7_write_55 : decode cX7_write 55 = .ok (.iload_n 3, 1) := by decide +kernel
theorem dX7_write_56 : decode cX7_write 56 = .ok (.ifCond .le 9, 3) := by decide +kernel
theorem dX7_write_59 : decode cX7_write 59 = .ok (.aload_n 0, 1) := by decide +kernel
theorem dX7_write_60 : decode cX7_write 60 = .ok (.bipush 44, 2) := by decide +kernel
theorem dX7_write_62 : decode cX7_write 62 = .ok (.invokevirtual 67, 3) := by decide +kernel
theorem dX7_write_65 : decode cX7_write 65 = .ok (.aload_n 0, 1) := by decide +kernel
theorem dX7_write_66 : decode cX7_write 66 = .ok (.aload_n 1, 1) := by decide +kernel
theorem dX7_write_67 : decode cX7_write 67 = .ok (.iload_n 3, 1) := by decide +kernel
theorem dX7_write_68 : decode cX7_write 68 = .ok (.iaload, 1) := by decide +kernel
theorem dX7_write_69 : decode cX7_write 69 = .ok (.aload_n 1, 1) := by decide +kernel
theorem dX7_write_70 : decode cX7_write 70 = .ok (.iload 5, 2) := by decide +kernel
theorem dX7_write_72 : decode cX7_write 72 = .ok (.iaload, 1) := by decide +kernel
theorem dX7_write_73 : decode cX7_write 73 = .ok (.iload 4, 2) := by decide +kernel
theorem dX7_write_75 : decode cX7_write 75 = .ok (.invokevirtual 71, 3) := by decide +kernel
theorem dX7_write_78 : decode cX7_write 78 = .ok (.iload_n 3, 1) := by decide +kernel
theorem dX7_write_79 : decode cX7_write 79 = .ok (.iload 4, 2) := by decide +kernel
theorem dX7_write_81 : decode cX7_write 81 = .ok (.iadd, 1) := by decide +kernel
theorem dX7_write_82 : decode cX7_write 82 = .ok (.istore_n 3, 1) := by decide +kernel
theorem dX7_write_83 : decode cX7_write 83 = .ok (.goto (-76), 3) := by decide +kernel
theorem dX7_write_86 : decode cX7_write 86 = .ok (.return_, 1) := by decide +kernel
def f7_write_b65 (c7 : Nat → (Option Nat) → Int32 → Int32 → GS_ → Option (Unit × GS_)) (v0 : Nat) (v1 : Option Nat) (v2 : Int32) (v3 : Int32) (v4 : Int32) (v5 : Int32) (g : GS_) : Option (Unit × GS_) :=
  oc_ v1 none fun a1 => if inb v3 (gln g 20 a1) then if inb v5 (gln g 20 a1) then bd_ (f7_writeItem v0 (gai g 20 a1 v3.toInt.toNat) (gai g 20 a1 v5.toInt.toNat) v4 g) fun _ g2 => lr_ (v3 + v4) fun z3 => c7 v0 (some a1) v2 z3 g2 else none else none
theorem t7_write_b65 (c7 : Nat → (Option Nat) → Int32 → Int32 → GS_ → Option (Unit × GS_)) (h7 : ∀ (v0 : Nat) (v1 : Option Nat) (v2 : Int32) (v3 : Int32) (g : GS_), K_ RX7 cX7_write 6 none 3 65 false EV_ 7 [some (.inr (7, some v0)), some (.inr (20, v1)), some (.inl v2), some (.inl v3), none, none] [] g (c7 v0 v1 v2 v3 g)) (v0 : Nat) (v1 : Option Nat) (v2 : Int32) (v3 : Int32) (v4 : Int32) (v5 : Int32) (g : GS_) : K_ RX7 cX7_write 6 none 3 65 false EV_ 65 [some (.inr (7, some v0)), some (.inr (20, v1)), some (.inl v2), some (.inl v3), some (.inl v4), some (.inl v5)] [] g (f7_write_b65 c7 v0 v1 v2 v3 v4 v5 g) := by
  unfold f7_write_b65
  refine k_aloadn (j := 0) dX7_write_65 rfl rfl ?_
  refine k_aloadn (j := 1) dX7_write_66 rfl rfl ?_
  refine k_iloadn (j := 3) dX7_write_67 rfl rfl ?_
  rcases v1 with _ | a1
  · exact k_ocn
  refine k_ocs ?_
  refine k_iald dX7_write_68 ?_
  refine k_aloadn (j := 1) dX7_write_69 rfl rfl ?_
  refine k_iload dX7_write_70 rfl ?_
  refine k_iald dX7_write_72 ?_
  refine k_iload dX7_write_73 rfl ?_
  refine k_callVv [.inl (gai g 20 a1 v3.toInt.toNat), .inl (gai g 20 a1 v5.toInt.toNat), .inl v4] (t7_writeItem v0 (gai g 20 a1 v3.toInt.toNat) (gai g 20 a1 v5.toInt.toNat) v4 g) cw_cX7_writeItem (Or.inl ml_7_71) rfl rfl (by decide) (by decide) (Nat.le_of_ble_eq_true rfl) dX7_write_75 (fun _ g2 => ?_)
  refine k_iloadn (j := 3) dX7_write_78 rfl rfl ?_
  refine k_iload dX7_write_79 rfl ?_
  refine k_iadd dX7_write_81 ?_
  refine k_istnl (j := 3) (L2 := fun z3 => [some (.inr (7, some v0)), some (.inr (20, some a1)), some (.inl v2), some (.inl z3), some (.inl v4), some (.inl v5)]) dX7_write_82 rfl (by decide) (fun _ => rfl) (fun z3 => ?_)
  refine k_goto (tgt := 7) dX7_write_83 (by decide) ?_
  refine k_msk (L' := [some (.inr (7, some v0)), some (.inr (20, some a1)), some (.inl v2), some (.inl z3), none, none]) [true, true, true, true, false, false] rfl ?_
  exact h7 v0 (some a1) v2 z3 g2
def f7_write_b7 : Nat → Nat → (Option Nat) → Int32 → Int32 → GS_ → Option (Unit × GS_)
  | 0, _, _, _, _, _ => none
  | n + 1, v0, v1, v2, v3, g =>
    if v2 ≤ v3 then some ((), g) else oc_ v1 none fun a4 => if (Int32.ofNat (gln g 20 a4)) ≤ v3 then some ((), g) else lr_ (gfr g 226 v0) fun x5 => oc_ x5 none fun a6 => if (Int32.ofNat (gln g 20 a6)) ≤ v3 then some ((), g) else lr_ (gfr g 226 v0) fun x7 => oc_ x7 none fun a8 => if inb v3 (gln g 20 a8) then lr_ (jmax (1 : Int32) (gai g 20 a8 v3.toInt.toNat)) fun z9 => lr_ ((v3 + z9) - (1 : Int32)) fun z10 => if z10 < (Int32.ofNat (gln g 20 a4)) then if v3 ≤ 0 then f7_write_b65 (f7_write_b7 n) v0 (some a4) v2 v3 z9 z10 g else bd_ (f7_put v0 (44 : Int32) g) fun _ g11 => f7_write_b65 (f7_write_b7 n) v0 (some a4) v2 v3 z9 z10 g11 else some ((), g) else none
theorem t7_write_b7 : ∀ (n : Nat) (v0 : Nat) (v1 : Option Nat) (v2 : Int32) (v3 : Int32) (g : GS_), K_ RX7 cX7_write 6 none 3 65 false EV_ 7 [some (.inr (7, some v0)), some (.inr (20, v1)), some (.inl v2), some (.inl v3), none, none] [] g (f7_write_b7 n v0 v1 v2 v3 g) := by
  intro n
  induction n with
  | zero =>
    intro v0 v1 v2 v3 g
    exact k_fail
  | succ n ih =>
    intro v0 v1 v2 v3 g
    show K_ RX7 cX7_write 6 none 3 65 false EV_ 7 [some (.inr (7, some v0)), some (.inr (20, v1)), some (.inl v2), some (.inl v3), none, none] [] g (if v2 ≤ v3 then some ((), g) else oc_ v1 none fun a4 => if (Int32.ofNat (gln g 20 a4)) ≤ v3 then some ((), g) else lr_ (gfr g 226 v0) fun x5 => oc_ x5 none fun a6 => if (Int32.ofNat (gln g 20 a6)) ≤ v3 then some ((), g) else lr_ (gfr g 226 v0) fun x7 => oc_ x7 none fun a8 => if inb v3 (gln g 20 a8) then lr_ (jmax (1 : Int32) (gai g 20 a8 v3.toInt.toNat)) fun z9 => lr_ ((v3 + z9) - (1 : Int32)) fun z10 => if z10 < (Int32.ofNat (gln g 20 a4)) then if v3 ≤ 0 then f7_write_b65 (f7_write_b7 n) v0 (some a4) v2 v3 z9 z10 g else bd_ (f7_put v0 (44 : Int32) g) fun _ g11 => f7_write_b65 (f7_write_b7 n) v0 (some a4) v2 v3 z9 z10 g11 else some ((), g) else none)
    refine k_iloadn (j := 3) dX7_write_7 rfl rfl ?_
    refine k_iloadn (j := 2) dX7_write_8 rfl rfl ?_
    refine k_icmpge (tgt := 86) dX7_write_9 (by decide) (fun _ => ?_) (fun _ => ?_)
    · exact k_return rfl dX7_write_86
    refine k_iloadn (j := 3) dX7_write_12 rfl rfl ?_
    refine k_aloadn (j := 1) dX7_write_13 rfl rfl ?_
    rcases v1 with _ | a4
    · exact k_ocn
    refine k_ocs ?_
    refine k_alen dX7_write_14 (by decide) ?_
    refine k_icmpge (tgt := 86) dX7_write_15 (by decide) (fun _ => ?_) (fun _ => ?_)
    · exact k_return rfl dX7_write_86
    refine k_iloadn (j := 3) dX7_write_18 rfl rfl ?_
    refine k_aloadn (j := 0) dX7_write_19 rfl rfl ?_
    refine k_getr fg_7_18 rfl rfl dX7_write_20 (fun x5 => ?_)
    rcases x5 with _ | a6
    · exact k_ocn
    refine k_ocs ?_
    refine k_alen dX7_write_23 (by decide) ?_
    refine k_icmpge (tgt := 86) dX7_write_24 (by decide) (fun _ => ?_) (fun _ => ?_)
    · exact k_return rfl dX7_write_86
    refine k_iconst (v := (1 : Int32)) dX7_write_27 rfl ?_
    refine k_aloadn (j := 0) dX7_write_28 rfl rfl ?_
    refine k_getr fg_7_18 rfl rfl dX7_write_29 (fun x7 => ?_)
    refine k_iloadn (j := 3) dX7_write_32 rfl rfl ?_
    rcases x7 with _ | a8
    · exact k_ocn
    refine k_ocs ?_
    refine k_iald dX7_write_33 ?_
    refine k_max mw_max ml_7_64 (by decide) (Nat.le_of_ble_eq_true rfl) dX7_write_34 ?_
    refine k_istl (L2 := fun z9 => [some (.inr (7, some v0)), some (.inr (20, some a4)), some (.inl v2), some (.inl v3), some (.inl z9), none]) dX7_write_37 (by decide) (fun _ => rfl) (fun z9 => ?_)
    refine k_iloadn (j := 3) dX7_write_39 rfl rfl ?_
    refine k_iload dX7_write_40 rfl ?_
    refine k_iadd dX7_write_42 ?_
    refine k_iconst (v := (1 : Int32)) dX7_write_43 rfl ?_
    refine k_isub dX7_write_44 ?_
    refine k_istl (L2 := fun z10 => [some (.inr (7, some v0)), some (.inr (20, some a4)), some (.inl v2), some (.inl v3), some (.inl z9), some (.inl z10)]) dX7_write_45 (by decide) (fun _ => rfl) (fun z10 => ?_)
    refine k_iload dX7_write_47 rfl ?_
    refine k_aloadn (j := 1) dX7_write_49 rfl rfl ?_
    refine k_alen dX7_write_50 (by decide) ?_
    refine k_icmplt (tgt := 55) dX7_write_51 (by decide) (fun _ => ?_) (fun _ => ?_)
    · refine k_iloadn (j := 3) dX7_write_55 rfl rfl ?_
      refine k_ifle (tgt := 65) dX7_write_56 (by decide) (fun _ => ?_) (fun _ => ?_)
      · exact t7_write_b65 (f7_write_b7 n) ih v0 (some a4) v2 v3 z9 z10 g
      refine k_aloadn (j := 0) dX7_write_59 rfl rfl ?_
      refine k_bipush (v := (44 : Int32)) dX7_write_60 rfl ?_
      refine k_callVv [.inl (44 : Int32)] (t7_put v0 (44 : Int32) g) cw_cX7_put (Or.inl ml_7_67) rfl rfl (by decide) (by decide) (Nat.le_of_ble_eq_true rfl) dX7_write_62 (fun _ g11 => ?_)
      exact t7_write_b65 (f7_write_b7 n) ih v0 (some a4) v2 v3 z9 z10 g11
    exact k_return rfl dX7_write_54
def f7_write (v0 : Nat) (v1 : Option Nat) (v2 : Int32) (g : GS_) : Option (Unit × GS_) :=
  lr_ (sfi g 228 v0 (0 : Int32)) fun g12 => f7_write_b7 FU_ v0 v1 v2 (0 : Int32) g12
theorem t7_write (v0 : Nat) (v1 : Option Nat) (v2 : Int32) (g : GS_) : Cn_ yX7_write cX7_write 6 none 3 65 EV_ [.inr (7, some v0), .inr (20, v1), .inl v2] g (f7_write v0 v1 v2 g) := by
  refine k_method (own := RX7) (ini := false) (L1 := [some (.inr (7, some v0)), some (.inr (20, v1)), some (.inl v2), none, none, none]) (by decide +kernel) rfl (fun h => by cases h) (Nat.le_of_ble_eq_true rfl) rfl ?_
  unfold f7_write
  refine k_aloadn (j := 0) dX7_write_0 rfl rfl ?_
  refine k_iconst (v := (0 : Int32)) dX7_write_1 rfl ?_
  refine k_puti fp_7_24 rfl rfl dX7_write_2 (fun g12 => ?_)
  refine k_iconst (v := (0 : Int32)) dX7_write_5 rfl ?_
  refine k_istn (j := 3) (L' := [some (.inr (7, some v0)), some (.inr (20, v1)), some (.inl v2), some (.inl (0 : Int32)), none, none]) dX7_write_6 rfl (by decide) rfl ?_
  exact t7_write_b7 FU_ v0 v1 v2 (0 : Int32) g12
theorem dX7_init_0 : decode cX7_init 0 = .ok (.aload_n 0, 1) := by decide +kernel
theorem dX7_init_1 : decode cX7_init 1 = .ok (.invokespecial 3, 3) := by decide +kernel
theorem dX7_init_4 : decode cX7_init 4 = .ok (.aload_n 0, 1) := by decide +kernel
theorem dX7_init_5 : decode cX7_init 5 = .ok (.sipush 401, 3) := by decide +kernel
theorem dX7_init_8 : decode cX7_init 8 = .ok (.newarray .int, 2) := by decide +kernel
theorem dX7_init_10 : decode cX7_init 10 = .ok (.putfield 9, 3) := by decide +kernel
theorem dX7_init_13 : decode cX7_init 13 = .ok (.aload_n 0, 1) := by decide +kernel
theorem dX7_init_14 : decode cX7_init 14 = .ok (.sipush 401, 3) := by decide +kernel
theorem dX7_init_17 : decode cX7_init 17 = .ok (.newarray .int, 2) := by decide +kernel
theorem dX7_init_19 : decode cX7_init 19 = .ok (.putfield 15, 3) := by decide +kernel
theorem dX7_init_22 : decode cX7_init 22 = .ok (.aload_n 0, 1) := by decide +kernel
theorem dX7_init_23 : decode cX7_init 23 = .ok (.sipush 401, 3) := by decide +kernel
theorem dX7_init_26 : decode cX7_init 26 = .ok (.newarray .int, 2) := by decide +kernel
theorem dX7_init_28 : decode cX7_init 28 = .ok (.putfield 18, 3) := by decide +kernel
theorem dX7_init_31 : decode cX7_init 31 = .ok (.aload_n 0, 1) := by decide +kernel
theorem dX7_init_32 : decode cX7_init 32 = .ok (.sipush 1600, 3) := by decide +kernel
theorem dX7_init_35 : decode cX7_init 35 = .ok (.newarray .int, 2) := by decide +kernel
theorem dX7_init_37 : decode cX7_init 37 = .ok (.putfield 21, 3) := by decide +kernel
theorem dX7_init_40 : decode cX7_init 40 = .ok (.aload_n 0, 1) := by decide +kernel
theorem dX7_init_41 : decode cX7_init 41 = .ok (.iconst 0, 1) := by decide +kernel
theorem dX7_init_42 : decode cX7_init 42 = .ok (.putfield 24, 3) := by decide +kernel
theorem dX7_init_45 : decode cX7_init 45 = .ok (.return_, 1) := by decide +kernel
def f7_init (v0 : Nat) (g : GS_) : Option (Unit × GS_) :=
  na_ g 20 (401 : Int32) fun a1 g2 => lr_ (sfr g2 224 v0 (some a1)) fun g3 => na_ g3 20 (401 : Int32) fun a4 g5 => lr_ (sfr g5 225 v0 (some a4)) fun g6 => na_ g6 20 (401 : Int32) fun a7 g8 => lr_ (sfr g8 226 v0 (some a7)) fun g9 => na_ g9 20 (1600 : Int32) fun a10 g11 => lr_ (sfr g11 227 v0 (some a10)) fun g12 => lr_ (sfi g12 228 v0 (0 : Int32)) fun g13 => some ((), g13)
theorem t7_init (v0 : Nat) (g : GS_) : Cn_ yX7_init cX7_init 1 none 1 12 EV_ [.inr (7, some v0)] g (f7_init v0 g) := by
  refine k_method (own := RX7) (ini := true) (L1 := [some (.inr (7, some v0))]) (by decide +kernel) rfl (fun _ => rfl) (Nat.le_of_ble_eq_true rfl) rfl ?_
  unfold f7_init
  refine k_aloadn (j := 0) dX7_init_0 rfl rfl ?_
  refine k_objInit ml_7_3 oi_.1 oi_.2 (by decide) (Nat.le_of_ble_eq_true rfl) dX7_init_1 ?_
  refine k_aloadn (j := 0) dX7_init_4 rfl rfl ?_
  refine k_sipush (v := (401 : Int32)) dX7_init_5 rfl ?_
  refine k_newa ac_20 dX7_init_8 (fun a1 g2 => ?_)
  refine k_putfr fp_7_9 ty_arr rfl rfl rfl dX7_init_10 (fun g3 => ?_)
  refine k_aloadn (j := 0) dX7_init_13 rfl rfl ?_
  refine k_sipush (v := (401 : Int32)) dX7_init_14 rfl ?_
  refine k_newa ac_20 dX7_init_17 (fun a4 g5 => ?_)
  refine k_putfr fp_7_15 ty_arr rfl rfl rfl dX7_init_19 (fun g6 => ?_)
  refine k_aloadn (j := 0) dX7_init_22 rfl rfl ?_
  refine k_sipush (v := (401 : Int32)) dX7_init_23 rfl ?_
  refine k_newa ac_20 dX7_init_26 (fun a7 g8 => ?_)
  refine k_putfr fp_7_18 ty_arr rfl rfl rfl dX7_init_28 (fun g9 => ?_)
  refine k_aloadn (j := 0) dX7_init_31 rfl rfl ?_
  refine k_sipush (v := (1600 : Int32)) dX7_init_32 rfl ?_
  refine k_newa ac_20 dX7_init_35 (fun a10 g11 => ?_)
  refine k_putfr fp_7_21 ty_arr rfl rfl rfl dX7_init_37 (fun g12 => ?_)
  refine k_aloadn (j := 0) dX7_init_40 rfl rfl ?_
  refine k_iconst (v := (0 : Int32)) dX7_init_41 rfl ?_
  refine k_puti fp_7_24 rfl rfl dX7_init_42 (fun g13 => ?_)
  exact k_return rfl dX7_init_45
