/-! methods as functions over numbers, and that the machine does them: written by wip/whole/gen/mkparts.py (decode rows: printed names) -/
theorem dX8_init_0 : decode cX8_init 0 = .ok (.aload_n 0, 1) := by decide +kernel
theorem dX8_init_1 : decode cX8_init 1 = .ok (.invokespecial 3, 3) := by decide +kernel
theorem dX8_init_4 : decode cX8_init 4 = .ok (.aload_n 0, 1) := by decide +kernel
theorem dX8_init_5 : decode cX8_init 5 = .ok (.bipush 10, 2) := by decide +kernel
theorem dX8_init_7 : decode cX8_init 7 = .ok (.anewarray 9, 3) := by decide +kernel
theorem dX8_init_10 : decode cX8_init 10 = .ok (.putfield 11, 3) := by decide +kernel
theorem dX8_init_13 : decode cX8_init 13 = .ok (.aload_n 0, 1) := by decide +kernel
theorem dX8_init_14 : decode cX8_init 14 = .ok (.iconst 0, 1) := by decide +kernel
theorem dX8_init_15 : decode cX8_init 15 = .ok (.putfield 17, 3) := by decide +kernel
theorem dX8_init_18 : decode cX8_init 18 = .ok (.aload_n 0, 1) := by decide +kernel
theorem dX8_init_19 : decode cX8_init 19 = .ok (.bipush 24, 2) := by decide +kernel
theorem dX8_init_21 : decode cX8_init 21 = .ok (.anewarray 21, 3) := by decide +kernel
theorem dX8_init_24 : decode cX8_init 24 = .ok (.putfield 23, 3) := by decide +kernel
theorem dX8_init_27 : decode cX8_init 27 = .ok (.aload_n 0, 1) := by decide +kernel
theorem dX8_init_28 : decode cX8_init 28 = .ok (.iconst 0, 1) := by decide +kernel
theorem dX8_init_29 : decode cX8_init 29 = .ok (.putfield 27, 3) := by decide +kernel
theorem dX8_init_32 : decode cX8_init 32 = .ok (.aload_n 0, 1) := by decide +kernel
theorem dX8_init_33 : decode cX8_init 33 = .ok (.iconst 3, 1) := by decide +kernel
theorem dX8_init_34 : decode cX8_init 34 = .ok (.anewarray 30, 3) := by decide +kernel
theorem dX8_init_37 : decode cX8_init 37 = .ok (.putfield 32, 3) := by decide +kernel
theorem dX8_init_40 : decode cX8_init 40 = .ok (.aload_n 0, 1) := by decide +kernel
theorem dX8_init_41 : decode cX8_init 41 = .ok (.iconst 0, 1) := by decide +kernel
theorem dX8_init_42 : decode cX8_init 42 = .ok (.putfield 36, 3) := by decide +kernel
theorem dX8_init_45 : decode cX8_init 45 = .ok (.aload_n 0, 1) := by decide +kernel
theorem dX8_init_46 : decode cX8_init 46 = .ok (.new 39, 3) := by decide +kernel
theorem dX8_init_49 : decode cX8_init 49 = .ok (.dup, 1) := by decide +kernel
theorem dX8_init_50 : decode cX8_init 50 = .ok (.invokespecial 41, 3) := by decide +kernel
theorem dX8_init_53 : decode cX8_init 53 = .ok (.putfield 42, 3) := by decide +kernel
theorem dX8_init_56 : decode cX8_init 56 = .ok (.aload_n 0, 1) := by decide +kernel
theorem dX8_init_57 : decode cX8_init 57 = .ok (.bipush 6, 2) := by decide +kernel
theorem dX8_init_59 : decode cX8_init 59 = .ok (.newarray .int, 2) := by decide +kernel
theorem dX8_init_61 : decode cX8_init 61 = .ok (.dup, 1) := by decide +kernel
theorem dX8_init_62 : decode cX8_init 62 = .ok (.iconst 0, 1) := by decide +kernel
theorem dX8_init_63 : decode cX8_init 63 = .ok (.iconst 1, 1) := by decide +kernel
theorem dX8_init_64 : decode cX8_init 64 = .ok (.iastore, 1) := by decide +kernel
theorem dX8_init_65 : decode cX8_init 65 = .ok (.dup, 1) := by decide +kernel
theorem dX8_init_66 : decode cX8_init 66 = .ok (.iconst 1, 1) := by decide +kernel
theorem dX8_init_67 : decode cX8_init 67 = .ok (.iconst 1, 1) := by decide +kernel
theorem dX8_init_68 : decode cX8_init 68 = .ok (.iastore, 1) := by decide +kernel
theorem dX8_init_69 : decode cX8_init 69 = .ok (.dup, 1) := by decide +kernel
theorem dX8_init_70 : decode cX8_init 70 = .ok (.iconst 2, 1) := by decide +kernel
theorem dX8_init_71 : decode cX8_init 71 = .ok (.iconst 0, 1) := by decide +kernel
theorem dX8_init_72 : decode cX8_init 72 = .ok (.iastore, 1) := by decide +kernel
theorem dX8_init_73 : decode cX8_init 73 = .ok (.dup, 1) := by decide +kernel
theorem dX8_init_74 : decode cX8_init 74 = .ok (.iconst 3, 1) := by decide +kernel
theorem dX8_init_75 : decode cX8_init 75 = .ok (.iconst 1, 1) := by decide +kernel
theorem dX8_init_76 : decode cX8_init 76 = .ok (.iastore, 1) := by decide +kernel
theorem dX8_init_77 : decode cX8_init 77 = .ok (.dup, 1) := by decide +kernel
theorem dX8_init_78 : decode cX8_init 78 = .ok (.iconst 4, 1) := by decide +kernel
theorem dX8_init_79 : decode cX8_init 79 = .ok (.iconst 5, 1) := by decide +kernel
theorem dX8_init_80 : decode cX8_init 80 = .ok (.iastore, 1) := by decide +kernel
theorem dX8_init_81 : decode cX8_init 81 = .ok (.dup, 1) := by decide +kernel
theorem dX8_init_82 : decode cX8_init 82 = .ok (.iconst 5, 1) := by decide +kernel
theorem dX8_init_83 : decode cX8_init 83 = .ok (.iconst 0, 1) := by decide +kernel
theorem dX8_init_84 : decode cX8_init 84 = .ok (.iastore, 1) := by decide +kernel
theorem dX8_init_85 : decode cX8_init 85 = .ok (.putfield 46, 3) := by decide +kernel
theorem dX8_init_88 : decode cX8_init 88 = .ok (.aload_n 0, 1) := by decide +kernel
theorem dX8_init_89 : decode cX8_init 89 = .ok (.bipush 6, 2) := by decide +kernel
theorem dX8_init_91 : decode cX8_init 91 = .ok (.newarray .int, 2) := by decide +kernel
theorem dX8_init_93 : decode cX8_init 93 = .ok (.putfield 50, 3) := by decide +kernel
theorem dX8_init_96 : decode cX8_init 96 = .ok (.aload_n 0, 1) := by decide +kernel
theorem dX8_init_97 : decode cX8_init 97 = .ok (.bipush 6, 2) := by decide +kernel
theorem dX8_init_99 : decode cX8_init 99 = .ok (.newarray .int, 2) := by decide +kernel
theorem dX8_init_101 : decode cX8_init 101 = .ok (.putfield 53, 3) := by decide +kernel
theorem dX8_init_104 : decode cX8_init 104 = .ok (.aload_n 0, 1) := by decide +kernel
theorem dX8_init_105 : decode cX8_init 105 = .ok (.new 56, 3) := by decide +kernel
theorem dX8_init_108 : decode cX8_init 108 = .ok (.dup, 1) := by decide +kernel
theorem dX8_init_109 : decode cX8_init 109 = .ok (.invokespecial 58, 3) := by decide +kernel
theorem dX8_init_112 : decode cX8_init 112 = .ok (.putfield 59, 3) := by decide +kernel
theorem dX8_init_115 : decode cX8_init 115 = .ok (.aload_n 0, 1) := by decide +kernel
theorem dX8_init_116 : decode cX8_init 116 = .ok (.bipush 24, 2) := by decide +kernel
theorem dX8_init_118 : decode cX8_init 118 = .ok (.newarray .int, 2) := by decide +kernel
theorem dX8_init_120 : decode cX8_init 120 = .ok (.putfield 63, 3) := by decide +kernel
theorem dX8_init_123 : decode cX8_init 123 = .ok (.aload_n 0, 1) := by decide +kernel
theorem dX8_init_124 : decode cX8_init 124 = .ok (.iconst 0, 1) := by decide +kernel
theorem dX8_init_125 : decode cX8_init 125 = .ok (.putfield 66, 3) := by decide +kernel
theorem dX8_init_128 : decode cX8_init 128 = .ok (.aload_n 0, 1) := by decide +kernel
theorem dX8_init_129 : decode cX8_init 129 = .ok (.bipush 20, 2) := by decide +kernel
theorem dX8_init_131 : decode cX8_init 131 = .ok (.putfield 69, 3) := by decide +kernel
theorem dX8_init_134 : decode cX8_init 134 = .ok (.aload_n 0, 1) := by decide +kernel
theorem dX8_init_135 : decode cX8_init 135 = .ok (.sipush 1000, 3) := by decide +kernel
theorem dX8_init_138 : decode cX8_init 138 = .ok (.putfield 72, 3) := by decide +kernel
theorem dX8_init_141 : decode cX8_init 141 = .ok (.aload_n 0, 1) := by decide +kernel
theorem dX8_init_142 : decode cX8_init 142 = .ok (.iconst 0, 1) := by decide +kernel
theorem dX8_init_143 : decode cX8_init 143 = .ok (.putfield 75, 3) := by decide +kernel
theorem dX8_init_146 : decode cX8_init 146 = .ok (.aload_n 0, 1) := by decide +kernel
theorem dX8_init_147 : decode cX8_init 147 = .ok (.iconst 0, 1) := by decide +kernel
theorem dX8_init_148 : decode cX8_init 148 = .ok (.putfield 78, 3) := by decide +kernel
theorem dX8_init_151 : decode cX8_init 151 = .ok (.iconst 0, 1) := by decide +kernel
theorem dX8_init_152 : decode cX8_init 152 = .ok (.istore_n 1, 1) := by decide +kernel
theorem dX8_init_153 : decode cX8_init 153 = .ok (.iload_n 1, 1) := by decide +kernel
theorem dX8_init_154 : decode cX8_init 154 = .ok (.aload_n 0, 1) := by decide +kernel
theorem dX8_init_155 : decode cX8_init 155 = .ok (.getfield 32, 3) := by decide +kernel
theorem dX8_init_158 : decode cX8_init 158 = .ok (.arraylength, 1) := by decide +kernel
theorem dX8_init_159 : decode cX8_init 159 = .ok (.if_icmp .ge 22, 3) := by decide +kernel
theorem dX8_init_162 : decode cX8_init 162 = .ok (.aload_n 0, 1) := by decide +kernel
theorem dX8_init_163 : decode cX8_init 163 = .ok (.getfield 32, 3) := by decide +kernel
theorem dX8_init_166 : decode cX8_init 166 = .ok (.iload_n 1, 1) := by decide +kernel
theorem dX8_init_167 : decode cX8_init 167 = .ok (.new 30, 3) := by decide +kernel
theorem dX8_init_170 : decode cX8_init 170 = .ok (.dup, 1) := by decide +kernel
theorem dX8_init_171 : decode cX8_init 171 = .ok (.invokespecial 82, 3) := by decide +kernel
theorem dX8_init_174 : decode cX8_init 174 = .ok (.aastore, 1) := by decide +kernel
theorem dX8_init_175 : decode cX8_init 175 = .ok (.iinc 1 1, 3) := by decide +kernel
theorem dX8_init_178 : decode cX8_init 178 = .ok (.goto (-25), 3) := by decide +kernel
theorem dX8_init_181 : decode cX8_init 181 = .ok (.iconst 0, 1) := by decide +kernel
theorem dX8_init_182 : decode cX8_init 182 = .ok (.istore_n 1, 1) := by decide +kernel
theorem dX8_init_183 : decode cX8_init 183 = .ok (.iload_n 1, 1) := by decide +kernel
theorem dX8_init_184 : decode cX8_init 184 = .ok (.aload_n 0, 1) := by decide +kernel
theorem dX8_init_185 : decode cX8_init 185 = .ok (.getfield 50, 3) := by decide +kernel
theorem dX8_init_188 : decode cX8_init 188 = .ok (.arraylength, 1) := by decide +kernel
theorem dX8_init_189 : decode cX8_init 189 = .ok (.if_icmp .ge 18, 3) := by decide +kernel
theorem dX8_init_192 : decode cX8_init 192 = .ok (.aload_n 0, 1) := by decide +kernel
theorem dX8_init_193 : decode cX8_init 193 = .ok (.getfield 50, 3) := by decide +kernel
theorem dX8_init_196 : decode cX8_init 196 = .ok (.iload_n 1, 1) := by decide +kernel
theorem dX8_init_197 : decode cX8_init 197 = .ok (.sipush 10000, 3) := by decide +kernel
theorem dX8_init_200 : decode cX8_init 200 = .ok (.iastore, 1) := by decide +kernel
theorem dX8_init_201 : decode cX8_init 201 = .ok (.iinc 1 1, 3) := by decide +kernel
theorem dX8_init_204 : decode cX8_init 204 = .ok (.goto (-21), 3) := by decide +kernel
theorem dX8_init_207 : decode cX8_init 207 = .ok (.return_, 1) := by decide +kernel
def f8_init_b183 : Nat → Nat → Int32 → GS_ → Option (Unit × GS_)
  | 0, _, _, _ => none
  | n + 1, v0, v1, g =>
    lr_ (gfr g 264 v0) fun x1 => oc_ x1 none fun a2 => if (Int32.ofNat (gln g 20 a2)) ≤ v1 then some ((), g) else lr_ (gfr g 264 v0) fun x3 => oc_ x3 none fun a4 => if inb v1 (gln g 20 a4) then lr_ (sai g 20 a4 v1.toInt.toNat (10000 : Int32)) (fun g5 => (f8_init_b183 n) v0 (v1 + (1 : Int32)) g5) else none
theorem t8_init_b183 : ∀ (n : Nat) (v0 : Nat) (v1 : Int32) (g : GS_), K_ RX8 cX8_init 2 none 2 32 true EV_ 183 [some (.inr (8, some v0)), some (.inl v1)] [] g (f8_init_b183 n v0 v1 g) := by
  intro n
  induction n with
  | zero =>
    intro v0 v1 g
    exact k_fail
  | succ n ih =>
    intro v0 v1 g
    show K_ RX8 cX8_init 2 none 2 32 true EV_ 183 [some (.inr (8, some v0)), some (.inl v1)] [] g (lr_ (gfr g 264 v0) fun x1 => oc_ x1 none fun a2 => if (Int32.ofNat (gln g 20 a2)) ≤ v1 then some ((), g) else lr_ (gfr g 264 v0) fun x3 => oc_ x3 none fun a4 => if inb v1 (gln g 20 a4) then lr_ (sai g 20 a4 v1.toInt.toNat (10000 : Int32)) (fun g5 => (f8_init_b183 n) v0 (v1 + (1 : Int32)) g5) else none)
    refine k_iloadn (j := 1) dX8_init_183 rfl rfl ?_
    refine k_aloadn (j := 0) dX8_init_184 rfl rfl ?_
    refine k_getr fg_8_50 rfl rfl dX8_init_185 (fun x1 => ?_)
    rcases x1 with _ | a2
    · exact k_ocn
    refine k_ocs ?_
    refine k_alen dX8_init_188 (by decide) ?_
    refine k_icmpge (tgt := 207) dX8_init_189 (by decide) (fun _ => ?_) (fun _ => ?_)
    · exact k_return rfl dX8_init_207
    refine k_aloadn (j := 0) dX8_init_192 rfl rfl ?_
    refine k_getr fg_8_50 rfl rfl dX8_init_193 (fun x3 => ?_)
    refine k_iloadn (j := 1) dX8_init_196 rfl rfl ?_
    refine k_sipush (v := (10000 : Int32)) dX8_init_197 rfl ?_
    rcases x3 with _ | a4
    · exact k_ocn
    refine k_ocs ?_
    refine k_iast dX8_init_200 (fun g5 => ?_)
    refine k_iinc (v := (v1 + (1 : Int32))) (L' := [some (.inr (8, some v0)), some (.inl (v1 + (1 : Int32)))]) dX8_init_201 rfl rfl (by decide) rfl ?_
    refine k_goto (tgt := 183) dX8_init_204 (by decide) ?_
    exact ih v0 (v1 + (1 : Int32)) g5
def f8_init_b153 : Nat → Nat → Int32 → GS_ → Option (Unit × GS_)
  | 0, _, _, _ => none
  | n + 1, v0, v1, g =>
    lr_ (gfr g 260 v0) fun x6 => oc_ x6 none fun a7 => if (Int32.ofNat (gln g 24 a7)) ≤ v1 then f8_init_b183 FU_ v0 (0 : Int32) g else lr_ (gfr g 260 v0) fun x8 => no_ g 5 8 fun a9 g10 => bd_ (f5_init a9 g10) fun _ g11 => oc_ x8 none fun a12 => if inb v1 (gln g11 24 a12) then lr_ (sar g11 24 a12 v1.toInt.toNat (some a9)) (fun g13 => (f8_init_b153 n) v0 (v1 + (1 : Int32)) g13) else none
theorem t8_init_b153 : ∀ (n : Nat) (v0 : Nat) (v1 : Int32) (g : GS_), K_ RX8 cX8_init 2 none 2 32 true EV_ 153 [some (.inr (8, some v0)), some (.inl v1)] [] g (f8_init_b153 n v0 v1 g) := by
  intro n
  induction n with
  | zero =>
    intro v0 v1 g
    exact k_fail
  | succ n ih =>
    intro v0 v1 g
    show K_ RX8 cX8_init 2 none 2 32 true EV_ 153 [some (.inr (8, some v0)), some (.inl v1)] [] g (lr_ (gfr g 260 v0) fun x6 => oc_ x6 none fun a7 => if (Int32.ofNat (gln g 24 a7)) ≤ v1 then f8_init_b183 FU_ v0 (0 : Int32) g else lr_ (gfr g 260 v0) fun x8 => no_ g 5 8 fun a9 g10 => bd_ (f5_init a9 g10) fun _ g11 => oc_ x8 none fun a12 => if inb v1 (gln g11 24 a12) then lr_ (sar g11 24 a12 v1.toInt.toNat (some a9)) (fun g13 => (f8_init_b153 n) v0 (v1 + (1 : Int32)) g13) else none)
    refine k_iloadn (j := 1) dX8_init_153 rfl rfl ?_
    refine k_aloadn (j := 0) dX8_init_154 rfl rfl ?_
    refine k_getr fg_8_32 rfl rfl dX8_init_155 (fun x6 => ?_)
    rcases x6 with _ | a7
    · exact k_ocn
    refine k_ocs ?_
    refine k_alen dX8_init_158 (by decide) ?_
    refine k_icmpge (tgt := 181) dX8_init_159 (by decide) (fun _ => ?_) (fun _ => ?_)
    · refine k_iconst (v := (0 : Int32)) dX8_init_181 rfl ?_
      refine k_istn (j := 1) (L' := [some (.inr (8, some v0)), some (.inl (0 : Int32))]) dX8_init_182 rfl (by decide) rfl ?_
      exact t8_init_b183 FU_ v0 (0 : Int32) g
    refine k_aloadn (j := 0) dX8_init_162 rfl rfl ?_
    refine k_getr fg_8_32 rfl rfl dX8_init_163 (fun x8 => ?_)
    refine k_iloadn (j := 1) dX8_init_166 rfl rfl ?_
    refine k_new cf_5 cl_8_30 (in_5).1 (in_5).2 dX8_init_167 (fun a9 g10 => ?_)
    refine k_dup dX8_init_170 ?_
    refine k_callIv [] (t5_init a9 g10) cw_cX5_init (Or.inr ml_8_82) rfl rfl (by decide) (by decide) (Nat.le_of_ble_eq_true rfl) dX8_init_171 (fun _ g11 => ?_)
    rcases x8 with _ | a12
    · exact k_ocn
    refine k_ocs ?_
    refine k_aast rfl dX8_init_174 (fun g13 => ?_)
    refine k_iinc (v := (v1 + (1 : Int32))) (L' := [some (.inr (8, some v0)), some (.inl (v1 + (1 : Int32)))]) dX8_init_175 rfl rfl (by decide) rfl ?_
    refine k_goto (tgt := 153) dX8_init_178 (by decide) ?_
    exact ih v0 (v1 + (1 : Int32)) g13
def f8_init (v0 : Nat) (g : GS_) : Option (Unit × GS_) :=
  na_ g 22 (10 : Int32) fun a14 g15 => lr_ (sfr g15 256 v0 (some a14)) fun g16 => lr_ (sfi g16 257 v0 (0 : Int32)) fun g17 => na_ g17 23 (24 : Int32) fun a18 g19 => lr_ (sfr g19 258 v0 (some a18)) fun g20 => lr_ (sfi g20 259 v0 (0 : Int32)) fun g21 => na_ g21 24 (3 : Int32) fun a22 g23 => lr_ (sfr g23 260 v0 (some a22)) fun g24 => lr_ (sfi g24 261 v0 (0 : Int32)) fun g25 => no_ g25 6 3 fun a26 g27 => bd_ (f6_init a26 g27) fun _ g28 => lr_ (sfr g28 262 v0 (some a26)) fun g29 => na_ g29 20 (6 : Int32) fun a30 g31 => if inb (0 : Int32) (gln g31 20 a30) then lr_ (sai g31 20 a30 (0 : Int32).toInt.toNat (1 : Int32)) (fun g32 => if inb (1 : Int32) (gln g32 20 a30) then lr_ (sai g32 20 a30 (1 : Int32).toInt.toNat (1 : Int32)) (fun g33 => if inb (2 : Int32) (gln g33 20 a30) then lr_ (sai g33 20 a30 (2 : Int32).toInt.toNat (0 : Int32)) (fun g34 => if inb (3 : Int32) (gln g34 20 a30) then lr_ (sai g34 20 a30 (3 : Int32).toInt.toNat (1 : Int32)) (fun g35 => if inb (4 : Int32) (gln g35 20 a30) then lr_ (sai g35 20 a30 (4 : Int32).toInt.toNat (5 : Int32)) (fun g36 => if inb (5 : Int32) (gln g36 20 a30) then lr_ (sai g36 20 a30 (5 : Int32).toInt.toNat (0 : Int32)) (fun g37 => lr_ (sfr g37 263 v0 (some a30)) fun g38 => na_ g38 20 (6 : Int32) fun a39 g40 => lr_ (sfr g40 264 v0 (some a39)) fun g41 => na_ g41 20 (6 : Int32) fun a42 g43 => lr_ (sfr g43 265 v0 (some a42)) fun g44 => no_ g44 2 2 fun a45 g46 => bd_ (f2_init a45 g46) fun _ g47 => lr_ (sfr g47 266 v0 (some a45)) fun g48 => na_ g48 20 (24 : Int32) fun a49 g50 => lr_ (sfr g50 267 v0 (some a49)) fun g51 => lr_ (sfi g51 268 v0 (0 : Int32)) fun g52 => lr_ (sfi g52 269 v0 (20 : Int32)) fun g53 => lr_ (sfi g53 270 v0 (1000 : Int32)) fun g54 => lr_ (sfi g54 271 v0 (0 : Int32)) fun g55 => lr_ (sfi g55 272 v0 (0 : Int32)) fun g56 => f8_init_b153 FU_ v0 (0 : Int32) g56) else none) else none) else none) else none) else none) else none
theorem t8_init (v0 : Nat) (g : GS_) : Cn_ yX8_init cX8_init 2 none 2 32 EV_ [.inr (8, some v0)] g (f8_init v0 g) := by
  refine k_method (own := RX8) (ini := true) (L1 := [some (.inr (8, some v0)), none]) (by decide +kernel) rfl (fun _ => rfl) (Nat.le_of_ble_eq_true rfl) rfl ?_
  unfold f8_init
  refine k_aloadn (j := 0) dX8_init_0 rfl rfl ?_
  refine k_objInit ml_8_3 oi_.1 oi_.2 (by decide) (Nat.le_of_ble_eq_true rfl) dX8_init_1 ?_
  refine k_aloadn (j := 0) dX8_init_4 rfl rfl ?_
  refine k_bipush (v := (10 : Int32)) dX8_init_5 rfl ?_
  refine k_anew rfl (fun C T N h => by have h : some _ = some (C, T, N) := h; cases h; exact cl_8_9) dX8_init_7 (fun a14 g15 => ?_)
  refine k_putfr fp_8_11 ty_arr rfl rfl rfl dX8_init_10 (fun g16 => ?_)
  refine k_aloadn (j := 0) dX8_init_13 rfl rfl ?_
  refine k_iconst (v := (0 : Int32)) dX8_init_14 rfl ?_
  refine k_puti fp_8_17 rfl rfl dX8_init_15 (fun g17 => ?_)
  refine k_aloadn (j := 0) dX8_init_18 rfl rfl ?_
  refine k_bipush (v := (24 : Int32)) dX8_init_19 rfl ?_
  refine k_anew rfl (fun C T N h => by have h : some _ = some (C, T, N) := h; cases h; exact cl_8_21) dX8_init_21 (fun a18 g19 => ?_)
  refine k_putfr fp_8_23 ty_arr rfl rfl rfl dX8_init_24 (fun g20 => ?_)
  refine k_aloadn (j := 0) dX8_init_27 rfl rfl ?_
  refine k_iconst (v := (0 : Int32)) dX8_init_28 rfl ?_
  refine k_puti fp_8_27 rfl rfl dX8_init_29 (fun g21 => ?_)
  refine k_aloadn (j := 0) dX8_init_32 rfl rfl ?_
  refine k_iconst (v := (3 : Int32)) dX8_init_33 rfl ?_
  refine k_anew rfl (fun C T N h => by have h : some _ = some (C, T, N) := h; cases h; exact cl_8_30) dX8_init_34 (fun a22 g23 => ?_)
  refine k_putfr fp_8_32 ty_arr rfl rfl rfl dX8_init_37 (fun g24 => ?_)
  refine k_aloadn (j := 0) dX8_init_40 rfl rfl ?_
  refine k_iconst (v := (0 : Int32)) dX8_init_41 rfl ?_
  refine k_puti fp_8_36 rfl rfl dX8_init_42 (fun g25 => ?_)
  refine k_aloadn (j := 0) dX8_init_45 rfl rfl ?_
  refine k_new cf_6 cl_8_39 (in_6).1 (in_6).2 dX8_init_46 (fun a26 g27 => ?_)
  refine k_dup dX8_init_49 ?_
  refine k_callIv [] (t6_init a26 g27) cw_cX6_init (Or.inr ml_8_41) rfl rfl (by decide) (by decide) (Nat.le_of_ble_eq_true rfl) dX8_init_50 (fun _ g28 => ?_)
  refine k_putfr fp_8_42 ty_obj rfl rfl rfl dX8_init_53 (fun g29 => ?_)
  refine k_aloadn (j := 0) dX8_init_56 rfl rfl ?_
  refine k_bipush (v := (6 : Int32)) dX8_init_57 rfl ?_
  refine k_newa ac_20 dX8_init_59 (fun a30 g31 => ?_)
  refine k_dup dX8_init_61 ?_
  refine k_iconst (v := (0 : Int32)) dX8_init_62 rfl ?_
  refine k_iconst (v := (1 : Int32)) dX8_init_63 rfl ?_
  refine k_iast dX8_init_64 (fun g32 => ?_)
  refine k_dup dX8_init_65 ?_
  refine k_iconst (v := (1 : Int32)) dX8_init_66 rfl ?_
  refine k_iconst (v := (1 : Int32)) dX8_init_67 rfl ?_
  refine k_iast dX8_init_68 (fun g33 => ?_)
  refine k_dup dX8_init_69 ?_
  refine k_iconst (v := (2 : Int32)) dX8_init_70 rfl ?_
  refine k_iconst (v := (0 : Int32)) dX8_init_71 rfl ?_
  refine k_iast dX8_init_72 (fun g34 => ?_)
  refine k_dup dX8_init_73 ?_
  refine k_iconst (v := (3 : Int32)) dX8_init_74 rfl ?_
  refine k_iconst (v := (1 : Int32)) dX8_init_75 rfl ?_
  refine k_iast dX8_init_76 (fun g35 => ?_)
  refine k_dup dX8_init_77 ?_
  refine k_iconst (v := (4 : Int32)) dX8_init_78 rfl ?_
  refine k_iconst (v := (5 : Int32)) dX8_init_79 rfl ?_
  refine k_iast dX8_init_80 (fun g36 => ?_)
  refine k_dup dX8_init_81 ?_
  refine k_iconst (v := (5 : Int32)) dX8_init_82 rfl ?_
  refine k_iconst (v := (0 : Int32)) dX8_init_83 rfl ?_
  refine k_iast dX8_init_84 (fun g37 => ?_)
  refine k_putfr fp_8_46 ty_arr rfl rfl rfl dX8_init_85 (fun g38 => ?_)
  refine k_aloadn (j := 0) dX8_init_88 rfl rfl ?_
  refine k_bipush (v := (6 : Int32)) dX8_init_89 rfl ?_
  refine k_newa ac_20 dX8_init_91 (fun a39 g40 => ?_)
  refine k_putfr fp_8_50 ty_arr rfl rfl rfl dX8_init_93 (fun g41 => ?_)
  refine k_aloadn (j := 0) dX8_init_96 rfl rfl ?_
  refine k_bipush (v := (6 : Int32)) dX8_init_97 rfl ?_
  refine k_newa ac_20 dX8_init_99 (fun a42 g43 => ?_)
  refine k_putfr fp_8_53 ty_arr rfl rfl rfl dX8_init_101 (fun g44 => ?_)
  refine k_aloadn (j := 0) dX8_init_104 rfl rfl ?_
  refine k_new cf_2 cl_8_56 (in_2).1 (in_2).2 dX8_init_105 (fun a45 g46 => ?_)
  refine k_dup dX8_init_108 ?_
  refine k_callIv [] (t2_init a45 g46) cw_cX2_init (Or.inr ml_8_58) rfl rfl (by decide) (by decide) (Nat.le_of_ble_eq_true rfl) dX8_init_109 (fun _ g47 => ?_)
  refine k_putfr fp_8_59 ty_obj rfl rfl rfl dX8_init_112 (fun g48 => ?_)
  refine k_aloadn (j := 0) dX8_init_115 rfl rfl ?_
  refine k_bipush (v := (24 : Int32)) dX8_init_116 rfl ?_
  refine k_newa ac_20 dX8_init_118 (fun a49 g50 => ?_)
  refine k_putfr fp_8_63 ty_arr rfl rfl rfl dX8_init_120 (fun g51 => ?_)
  refine k_aloadn (j := 0) dX8_init_123 rfl rfl ?_
  refine k_iconst (v := (0 : Int32)) dX8_init_124 rfl ?_
  refine k_puti fp_8_66 rfl rfl dX8_init_125 (fun g52 => ?_)
  refine k_aloadn (j := 0) dX8_init_128 rfl rfl ?_
  refine k_bipush (v := (20 : Int32)) dX8_init_129 rfl ?_
  refine k_puti fp_8_69 rfl rfl dX8_init_131 (fun g53 => ?_)
  refine k_aloadn (j := 0) dX8_init_134 rfl rfl ?_
  refine k_sipush (v := (1000 : Int32)) dX8_init_135 rfl ?_
  refine k_puti fp_8_72 rfl rfl dX8_init_138 (fun g54 => ?_)
  refine k_aloadn (j := 0) dX8_init_141 rfl rfl ?_
  refine k_iconst (v := (0 : Int32)) dX8_init_142 rfl ?_
  refine k_puti fp_8_75 rfl rfl dX8_init_143 (fun g55 => ?_)
  refine k_aloadn (j := 0) dX8_init_146 rfl rfl ?_
  refine k_iconst (v := (0 : Int32)) dX8_init_147 rfl ?_
  refine k_putz fp_8_78 rfl rfl (by decide) dX8_init_148 (fun g56 => ?_)
  refine k_iconst (v := (0 : Int32)) dX8_init_151 rfl ?_
  refine k_istn (j := 1) (L' := [some (.inr (8, some v0)), some (.inl (0 : Int32))]) dX8_init_152 rfl (by decide) rfl ?_
  exact t8_init_b153 FU_ v0 (0 : Int32) g56
theorem dX8_documentAt_0 : decode cX8_documentAt 0 = .ok (.iload_n 1, 1) := by decide +kernel
theorem dX8_documentAt_1 : decode cX8_documentAt 1 = .ok (.ifCond .lt 24, 3) := by decide +kernel
theorem dX8_documentAt_4 : decode cX8_documentAt 4 = .ok (.iload_n 1, 1) := by decide +kernel
theorem dX8_documentAt_5 : decode cX8_documentAt 5 = .ok (.aload_n 0, 1) := by decide +kernel
theorem dX8_documentAt_6 : decode cX8_documentAt 6 = .ok (.getfield 17, 3) := by decide +kernel
theorem dX8_documentAt_9 : decode cX8_documentAt 9 = .ok (.if_icmp .ge 16, 3) := by decide +kernel
theorem dX8_documentAt_12 : decode cX8_documentAt 12 = .ok (.iload_n 1, 1) := by decide +kernel
theorem dX8_documentAt_13 : decode cX8_documentAt 13 = .ok (.aload_n 0, 1) := by decide +kernel
theorem dX8_documentAt_14 : decode cX8_documentAt 14 = .ok (.getfield 11, 3) := by decide +kernel
theorem dX8_documentAt_17 : decode cX8_documentAt 17 = .ok (.arraylength, 1) := by decide +kernel
theorem dX8_documentAt_18 : decode cX8_documentAt 18 = .ok (.if_icmp .ge 7, 3) := by decide +kernel
theorem dX8_documentAt_21 : decode cX8_documentAt 21 = .ok (.iconst 1, 1) := by decide +kernel
theorem dX8_documentAt_22 : decode cX8_documentAt 22 = .ok (.goto 4, 3) := by decide +kernel
theorem dX8_documentAt_25 : decode cX8_documentAt 25 = .ok (.iconst 0, 1) := by decide +kernel
theorem dX8_documentAt_26 : decode cX8_documentAt 26 = .ok (.istore_n 2, 1) := by decide +kernel
theorem dX8_documentAt_27 : decode cX8_documentAt 27 = .ok (.iload_n 2, 1) := by decide +kernel
theorem dX8_documentAt_28 : decode cX8_documentAt 28 = .ok (.ifCond .eq 12, 3) := by decide +kernel
theorem dX8_documentAt_31 : decode cX8_documentAt 31 = .ok (.aload_n 0, 1) := by decide +kernel
theorem dX8_documentAt_32 : decode cX8_documentAt 32 = .ok (.getfield 11, 3) := by decide +kernel
theorem dX8_documentAt_35 : decode cX8_documentAt 35 = .ok (.iload_n 1, 1) := by decide +kernel
theorem dX8_documentAt_36 : decode cX8_documentAt 36 = .ok (.aaload, 1) := by decide +kernel
theorem dX8_documentAt_37 : decode cX8_documentAt 37 = .ok (.goto 4, 3) := by decide +kernel
theorem dX8_documentAt_40 : decode cX8_documentAt 40 = .ok (.aconst_null, 1) := by decide +kernel
theorem dX8_documentAt_41 : decode cX8_documentAt 41 = .ok (.areturn, 1) := by decide +kernel
def f8_documentAt_b26 (v0 : Nat) (v1 : Int32) (s0 : Int32) (g : GS_) : Option (Option Nat × GS_) :=
  if s0 = 0 then some (none, g) else lr_ (gfr g 256 v0) fun x1 => oc_ x1 none fun a2 => if inb v1 (gln g 22 a2) then lr_ (gar g 22 a2 v1.toInt.toNat) (fun x3 => some (x3, g)) else none
theorem t8_documentAt_b26 (v0 : Nat) (v1 : Int32) (s0 : Int32) (g : GS_) : K_ RX8 cX8_documentAt 3 (some (.object RX0)) 0 0 false (ER_ 0) 26 [some (.inr (8, some v0)), some (.inl v1), none] [.inl s0] g (f8_documentAt_b26 v0 v1 s0 g) := by
  unfold f8_documentAt_b26
  refine k_istn (j := 2) (L' := [some (.inr (8, some v0)), some (.inl v1), some (.inl s0)]) dX8_documentAt_26 rfl (by decide) rfl ?_
  refine k_iloadn (j := 2) dX8_documentAt_27 rfl rfl ?_
  refine k_ifeq (tgt := 40) dX8_documentAt_28 (by decide) (fun _ => ?_) (fun _ => ?_)
  · refine k_null (t := 0) dX8_documentAt_40 ?_
    exact k_areturn rfl (Or.inl ⟨_, rfl⟩) dX8_documentAt_41
  refine k_aloadn (j := 0) dX8_documentAt_31 rfl rfl ?_
  refine k_getr fg_8_11 rfl rfl dX8_documentAt_32 (fun x1 => ?_)
  refine k_iloadn (j := 1) dX8_documentAt_35 rfl rfl ?_
  rcases x1 with _ | a2
  · exact k_ocn
  refine k_ocs ?_
  refine k_aald rfl dX8_documentAt_36 (fun x3 => ?_)
  refine k_goto (tgt := 41) dX8_documentAt_37 (by decide) ?_
  exact k_areturn rfl (Or.inl ⟨_, rfl⟩) dX8_documentAt_41
def f8_documentAt_b25 (v0 : Nat) (v1 : Int32) (g : GS_) : Option (Option Nat × GS_) :=
  f8_documentAt_b26 v0 v1 (0 : Int32) g
theorem t8_documentAt_b25 (v0 : Nat) (v1 : Int32) (g : GS_) : K_ RX8 cX8_documentAt 3 (some (.object RX0)) 0 0 false (ER_ 0) 25 [some (.inr (8, some v0)), some (.inl v1), none] [] g (f8_documentAt_b25 v0 v1 g) := by
  unfold f8_documentAt_b25
  refine k_iconst (v := (0 : Int32)) dX8_documentAt_25 rfl ?_
  exact t8_documentAt_b26 v0 v1 (0 : Int32) g
def f8_documentAt (v0 : Nat) (v1 : Int32) (g : GS_) : Option (Option Nat × GS_) :=
  if v1 < 0 then f8_documentAt_b25 v0 v1 g else if (gfi g 257 v0) ≤ v1 then f8_documentAt_b25 v0 v1 g else lr_ (gfr g 256 v0) fun x4 => oc_ x4 none fun a5 => if (Int32.ofNat (gln g 22 a5)) ≤ v1 then f8_documentAt_b25 v0 v1 g else f8_documentAt_b26 v0 v1 (1 : Int32) g
theorem t8_documentAt (v0 : Nat) (v1 : Int32) (g : GS_) : Cn_ yX8_documentAt cX8_documentAt 3 (some (.object RX0)) 0 0 (ER_ 0) [.inr (8, some v0), .inl v1] g (f8_documentAt v0 v1 g) := by
  refine k_method (own := RX8) (ini := false) (L1 := [some (.inr (8, some v0)), some (.inl v1), none]) (by decide +kernel) rfl (fun h => by cases h) (Nat.le_of_ble_eq_true rfl) rfl ?_
  unfold f8_documentAt
  refine k_iloadn (j := 1) dX8_documentAt_0 rfl rfl ?_
  refine k_iflt (tgt := 25) dX8_documentAt_1 (by decide) (fun _ => ?_) (fun _ => ?_)
  · exact t8_documentAt_b25 v0 v1 g
  refine k_iloadn (j := 1) dX8_documentAt_4 rfl rfl ?_
  refine k_aloadn (j := 0) dX8_documentAt_5 rfl rfl ?_
  refine k_geti fg_8_17 rfl rfl dX8_documentAt_6 ?_
  refine k_icmpge (tgt := 25) dX8_documentAt_9 (by decide) (fun _ => ?_) (fun _ => ?_)
  · exact t8_documentAt_b25 v0 v1 g
  refine k_iloadn (j := 1) dX8_documentAt_12 rfl rfl ?_
  refine k_aloadn (j := 0) dX8_documentAt_13 rfl rfl ?_
  refine k_getr fg_8_11 rfl rfl dX8_documentAt_14 (fun x4 => ?_)
  rcases x4 with _ | a5
  · exact k_ocn
  refine k_ocs ?_
  refine k_alen dX8_documentAt_17 (by decide) ?_
  refine k_icmpge (tgt := 25) dX8_documentAt_18 (by decide) (fun _ => ?_) (fun _ => ?_)
  · exact t8_documentAt_b25 v0 v1 g
  refine k_iconst (v := (1 : Int32)) dX8_documentAt_21 rfl ?_
  refine k_goto (tgt := 26) dX8_documentAt_22 (by decide) ?_
  exact t8_documentAt_b26 v0 v1 (1 : Int32) g
theorem dX8_copyJobs_0 : decode cX8_copyJobs 0 = .ok (.aload_n 0, 1) := by decide +kernel
theorem dX8_copyJobs_1 : decode cX8_copyJobs 1 = .ok (.aload_n 1, 1) := by decide +kernel
theorem dX8_copyJobs_2 : decode cX8_copyJobs 2 = .ok (.getfield 27, 3) := by decide +kernel
theorem dX8_copyJobs_5 : decode cX8_copyJobs 5 = .ok (.putfield 27, 3) := by decide +kernel
theorem dX8_copyJobs_8 : decode cX8_copyJobs 8 = .ok (.iconst 0, 1) := by decide +kernel
theorem dX8_copyJobs_9 : decode cX8_copyJobs 9 = .ok (.istore_n 2, 1) := by decide +kernel
theorem dX8_copyJobs_10 : decode cX8_copyJobs 10 = .ok (.iload_n 2, 1) := by decide +kernel
theorem dX8_copyJobs_11 : decode cX8_copyJobs 11 = .ok (.aload_n 0, 1) := by decide +kernel
theorem dX8_copyJobs_12 : decode cX8_copyJobs 12 = .ok (.getfield 27, 3) := by decide +kernel
theorem dX8_copyJobs_15 : decode cX8_copyJobs 15 = .ok (.if_icmp .ge 65, 3) := by decide +kernel
theorem dX8_copyJobs_18 : decode cX8_copyJobs 18 = .ok (.iload_n 2, 1) := by decide +kernel
theorem dX8_copyJobs_19 : decode cX8_copyJobs 19 = .ok (.aload_n 0, 1) := by decide +kernel
theorem dX8_copyJobs_20 : decode cX8_copyJobs 20 = .ok (.getfield 23, 3) := by decide +kernel
theorem dX8_copyJobs_23 : decode cX8_copyJobs 23 = .ok (.arraylength, 1) := by decide +kernel
theorem dX8_copyJobs_24 : decode cX8_copyJobs 24 = .ok (.if_icmp .ge 56, 3) := by decide +kernel
theorem dX8_copyJobs_27 : decode cX8_copyJobs 27 = .ok (.aload_n 1, 1) := by decide +kernel
theorem dX8_copyJobs_28 : decode cX8_copyJobs 28 = .ok (.iload_n 2, 1) := by decide +kernel
theorem dX8_copyJobs_29 : decode cX8_copyJobs 29 = .ok (.invokevirtual 97, 3) := by decide +kernel
theorem dX8_copyJobs_32 : decode cX8_copyJobs 32 = .ok (.astore_n 3, 1) := by decide +kernel
theorem dX8_copyJobs_33 : decode cX8_copyJobs 33 = .ok (.aload_n 3, 1) := by decide +kernel
theorem dX8_copyJobs_34 : decode cX8_copyJobs 34 = .ok (.ifnull 40, 3) := by decide +kernel
theorem dX8_copyJobs_37 : decode cX8_copyJobs 37 = .ok (.aload_n 0, 1) := by decide +kernel
theorem dX8_copyJobs_38 : decode cX8_copyJobs 38 = .ok (.getfield 23, 3) := by decide +kernel
theorem dX8_copyJobs_41 : decode cX8_copyJobs 41 = .ok (.iload_n 2, 1) := by decide +kernel
theorem dX8_copyJobs_42 : decode cX8_copyJobs 42 = .ok (.aaload, 1) := by decide +kernel
theorem dX8_copyJobs_43 : decode cX8_copyJobs 43 = .ok (.ifnonnull 21, 3) := by decide +kernel
theorem dX8_copyJobs_46 : decode cX8_copyJobs 46 = .ok (.aload_n 0, 1) := by decide +kernel
theorem dX8_copyJobs_47 : decode cX8_copyJobs 47 = .ok (.getfield 23, 3) := by decide +kernel
theorem dX8_copyJobs_50 : decode cX8_copyJobs 50 = .ok (.iload_n 2, 1) := by decide +kernel
theorem dX8_copyJobs_51 : decode cX8_copyJobs 51 = .ok (.new 21, 3) := by decide +kernel
theorem dX8_copyJobs_54 : decode cX8_copyJobs 54 = .ok (.dup, 1) := by decide +kernel
theorem dX8_copyJobs_55 : decode cX8_copyJobs 55 = .ok (.iload_n 2, 1) := by decide +kernel
theorem dX8_copyJobs_56 : decode cX8_copyJobs 56 = .ok (.aload_n 3, 1) := by decide +kernel
theorem dX8_copyJobs_57 : decode cX8_copyJobs 57 = .ok (.getfield 156, 3) := by decide +kernel
theorem dX8_copyJobs_60 : decode cX8_copyJobs 60 = .ok (.invokespecial 83, 3) := by decide +kernel
theorem dX8_copyJobs_63 : decode cX8_copyJobs 63 = .ok (.aastore, 1) := by decide +kernel
theorem dX8_copyJobs_64 : decode cX8_copyJobs 64 = .ok (.aload_n 0, 1) := by decide +kernel
theorem dX8_copyJobs_65 : decode cX8_copyJobs 65 = .ok (.getfield 23, 3) := by decide +kernel
theorem dX8_copyJobs_68 : decode cX8_copyJobs 68 = .ok (.iload_n 2, 1) := by decide +kernel
theorem dX8_copyJobs_69 : decode cX8_copyJobs 69 = .ok (.aaload, 1) := by decide +kernel
theorem dX8_copyJobs_70 : decode cX8_copyJobs 70 = .ok (.aload_n 3, 1) := by decide +kernel
theorem dX8_copyJobs_71 : decode cX8_copyJobs 71 = .ok (.invokevirtual 256, 3) := by decide +kernel
theorem dX8_copyJobs_74 : decode cX8_copyJobs 74 = .ok (.iinc 2 1, 3) := by decide +kernel
theorem dX8_copyJobs_77 : decode cX8_copyJobs 77 = .ok (.goto (-67), 3) := by decide +kernel
theorem dX8_copyJobs_80 : decode cX8_copyJobs 80 = .ok (.return_, 1) := by decide +kernel
def f8_copyJobs_b74 (c10 : Nat → (Option Nat) → Int32 → GS_ → Option (Unit × GS_)) (v0 : Nat) (v1 : Option Nat) (v2 : Int32) (g : GS_) : Option (Unit × GS_) :=
  c10 v0 v1 (v2 + (1 : Int32)) g
theorem t8_copyJobs_b74 (c10 : Nat → (Option Nat) → Int32 → GS_ → Option (Unit × GS_)) (h10 : ∀ (v0 : Nat) (v1 : Option Nat) (v2 : Int32) (g : GS_), K_ RX8 cX8_copyJobs 4 none 2 34 false EV_ 10 [some (.inr (8, some v0)), some (.inr (8, v1)), some (.inl v2), none] [] g (c10 v0 v1 v2 g)) (v0 : Nat) (v1 : Option Nat) (v2 : Int32) (g : GS_) : K_ RX8 cX8_copyJobs 4 none 2 34 false EV_ 74 [some (.inr (8, some v0)), some (.inr (8, v1)), some (.inl v2), none] [] g (f8_copyJobs_b74 c10 v0 v1 v2 g) := by
  unfold f8_copyJobs_b74
  refine k_iinc (v := (v2 + (1 : Int32))) (L' := [some (.inr (8, some v0)), some (.inr (8, v1)), some (.inl (v2 + (1 : Int32))), none]) dX8_copyJobs_74 rfl rfl (by decide) rfl ?_
  refine k_goto (tgt := 10) dX8_copyJobs_77 (by decide) ?_
  exact h10 v0 v1 (v2 + (1 : Int32)) g
def f8_copyJobs_b64 (c10 : Nat → (Option Nat) → Int32 → GS_ → Option (Unit × GS_)) (v0 : Nat) (v1 : Option Nat) (v2 : Int32) (v3 : Option Nat) (g : GS_) : Option (Unit × GS_) :=
  lr_ (gfr g 258 v0) fun x1 => oc_ x1 none fun a2 => if inb v2 (gln g 23 a2) then lr_ (gar g 23 a2 v2.toInt.toNat) (fun x3 => oc_ x3 none fun a4 => bd_ (f1_copyFrom a4 v3 g) fun _ g5 => f8_copyJobs_b74 c10 v0 v1 v2 g5) else none
theorem t8_copyJobs_b64 (c10 : Nat → (Option Nat) → Int32 → GS_ → Option (Unit × GS_)) (h10 : ∀ (v0 : Nat) (v1 : Option Nat) (v2 : Int32) (g : GS_), K_ RX8 cX8_copyJobs 4 none 2 34 false EV_ 10 [some (.inr (8, some v0)), some (.inr (8, v1)), some (.inl v2), none] [] g (c10 v0 v1 v2 g)) (v0 : Nat) (v1 : Option Nat) (v2 : Int32) (v3 : Option Nat) (g : GS_) : K_ RX8 cX8_copyJobs 4 none 2 34 false EV_ 64 [some (.inr (8, some v0)), some (.inr (8, v1)), some (.inl v2), some (.inr (1, v3))] [] g (f8_copyJobs_b64 c10 v0 v1 v2 v3 g) := by
  unfold f8_copyJobs_b64
  refine k_aloadn (j := 0) dX8_copyJobs_64 rfl rfl ?_
  refine k_getr fg_8_23 rfl rfl dX8_copyJobs_65 (fun x1 => ?_)
  refine k_iloadn (j := 2) dX8_copyJobs_68 rfl rfl ?_
  rcases x1 with _ | a2
  · exact k_ocn
  refine k_ocs ?_
  refine k_aald rfl dX8_copyJobs_69 (fun x3 => ?_)
  refine k_aloadn (j := 3) dX8_copyJobs_70 rfl rfl ?_
  rcases x3 with _ | a4
  · exact k_ocn
  refine k_ocs ?_
  refine k_callVv [.inr (1, v3)] (t1_copyFrom a4 v3 g) cw_cX1_copyFrom (Or.inl ml_8_256) rfl rfl (by decide) (by decide) (Nat.le_of_ble_eq_true rfl) dX8_copyJobs_71 (fun _ g5 => ?_)
  refine k_msk (L' := [some (.inr (8, some v0)), some (.inr (8, v1)), some (.inl v2), none]) [true, true, true, false] rfl ?_
  exact t8_copyJobs_b74 c10 h10 v0 v1 v2 g5
def f8_copyJobs_b10 : Nat → Nat → (Option Nat) → Int32 → GS_ → Option (Unit × GS_)
  | 0, _, _, _, _ => none
  | n + 1, v0, v1, v2, g =>
    if (gfi g 259 v0) ≤ v2 then some ((), g) else lr_ (gfr g 258 v0) fun x6 => oc_ x6 none fun a7 => if (Int32.ofNat (gln g 23 a7)) ≤ v2 then some ((), g) else oc_ v1 none fun a8 => bd_ (f8_jobAt a8 v2 g) fun x10 g9 => oc_ x10 (f8_copyJobs_b74 (f8_copyJobs_b10 n) v0 (some a8) v2 g9) fun a11 => lr_ (gfr g9 258 v0) fun x12 => oc_ x12 none fun a13 => if inb v2 (gln g9 23 a13) then lr_ (gar g9 23 a13 v2.toInt.toNat) (fun x14 => oc_ x14 (lr_ (gfr g9 258 v0) fun x16 => no_ g9 1 7 fun a17 g18 => lr_ (gfr g18 33 a11) fun x19 => bd_ (f1_init a17 v2 x19 g18) fun _ g20 => oc_ x16 none fun a21 => if inb v2 (gln g20 23 a21) then lr_ (sar g20 23 a21 v2.toInt.toNat (some a17)) (fun g22 => f8_copyJobs_b64 (f8_copyJobs_b10 n) v0 (some a8) v2 (some a11) g22) else none) fun a15 => f8_copyJobs_b64 (f8_copyJobs_b10 n) v0 (some a8) v2 (some a11) g9) else none
theorem t8_copyJobs_b10 : ∀ (n : Nat) (v0 : Nat) (v1 : Option Nat) (v2 : Int32) (g : GS_), K_ RX8 cX8_copyJobs 4 none 2 34 false EV_ 10 [some (.inr (8, some v0)), some (.inr (8, v1)), some (.inl v2), none] [] g (f8_copyJobs_b10 n v0 v1 v2 g) := by
  intro n
  induction n with
  | zero =>
    intro v0 v1 v2 g
    exact k_fail
  | succ n ih =>
    intro v0 v1 v2 g
    show K_ RX8 cX8_copyJobs 4 none 2 34 false EV_ 10 [some (.inr (8, some v0)), some (.inr (8, v1)), some (.inl v2), none] [] g (if (gfi g 259 v0) ≤ v2 then some ((), g) else lr_ (gfr g 258 v0) fun x6 => oc_ x6 none fun a7 => if (Int32.ofNat (gln g 23 a7)) ≤ v2 then some ((), g) else oc_ v1 none fun a8 => bd_ (f8_jobAt a8 v2 g) fun x10 g9 => oc_ x10 (f8_copyJobs_b74 (f8_copyJobs_b10 n) v0 (some a8) v2 g9) fun a11 => lr_ (gfr g9 258 v0) fun x12 => oc_ x12 none fun a13 => if inb v2 (gln g9 23 a13) then lr_ (gar g9 23 a13 v2.toInt.toNat) (fun x14 => oc_ x14 (lr_ (gfr g9 258 v0) fun x16 => no_ g9 1 7 fun a17 g18 => lr_ (gfr g18 33 a11) fun x19 => bd_ (f1_init a17 v2 x19 g18) fun _ g20 => oc_ x16 none fun a21 => if inb v2 (gln g20 23 a21) then lr_ (sar g20 23 a21 v2.toInt.toNat (some a17)) (fun g22 => f8_copyJobs_b64 (f8_copyJobs_b10 n) v0 (some a8) v2 (some a11) g22) else none) fun a15 => f8_copyJobs_b64 (f8_copyJobs_b10 n) v0 (some a8) v2 (some a11) g9) else none)
    refine k_iloadn (j := 2) dX8_copyJobs_10 rfl rfl ?_
    refine k_aloadn (j := 0) dX8_copyJobs_11 rfl rfl ?_
    refine k_geti fg_8_27 rfl rfl dX8_copyJobs_12 ?_
    refine k_icmpge (tgt := 80) dX8_copyJobs_15 (by decide) (fun _ => ?_) (fun _ => ?_)
    · exact k_return rfl dX8_copyJobs_80
    refine k_iloadn (j := 2) dX8_copyJobs_18 rfl rfl ?_
    refine k_aloadn (j := 0) dX8_copyJobs_19 rfl rfl ?_
    refine k_getr fg_8_23 rfl rfl dX8_copyJobs_20 (fun x6 => ?_)
    rcases x6 with _ | a7
    · exact k_ocn
    refine k_ocs ?_
    refine k_alen dX8_copyJobs_23 (by decide) ?_
    refine k_icmpge (tgt := 80) dX8_copyJobs_24 (by decide) (fun _ => ?_) (fun _ => ?_)
    · exact k_return rfl dX8_copyJobs_80
    refine k_aloadn (j := 1) dX8_copyJobs_27 rfl rfl ?_
    refine k_iloadn (j := 2) dX8_copyJobs_28 rfl rfl ?_
    rcases v1 with _ | a8
    · exact k_ocn
    refine k_ocs ?_
    refine k_callVr [.inl v2] (t8_jobAt a8 v2 g) cw_cX8_jobAt (Or.inl ml_8_97) rfl rfl (by decide) (by decide) (Nat.le_of_ble_eq_true rfl) dX8_copyJobs_29 (fun x10 g9 => ?_)
    refine k_astn (j := 3) (L' := [some (.inr (8, some v0)), some (.inr (8, some a8)), some (.inl v2), some (.inr (1, x10))]) dX8_copyJobs_32 rfl (by decide) rfl ?_
    refine k_aloadn (j := 3) dX8_copyJobs_33 rfl rfl ?_
    rcases x10 with _ | a11
    · refine k_ifnulln (tgt := 74) dX8_copyJobs_34 (by decide) ?_
      refine k_msk (L' := [some (.inr (8, some v0)), some (.inr (8, some a8)), some (.inl v2), none]) [true, true, true, false] rfl ?_
      exact t8_copyJobs_b74 (f8_copyJobs_b10 n) ih v0 (some a8) v2 g9
    refine k_ifnulls dX8_copyJobs_34 ?_
    refine k_aloadn (j := 0) dX8_copyJobs_37 rfl rfl ?_
    refine k_getr fg_8_23 rfl rfl dX8_copyJobs_38 (fun x12 => ?_)
    refine k_iloadn (j := 2) dX8_copyJobs_41 rfl rfl ?_
    rcases x12 with _ | a13
    · exact k_ocn
    refine k_ocs ?_
    refine k_aald rfl dX8_copyJobs_42 (fun x14 => ?_)
    rcases x14 with _ | a15
    · refine k_ifnonnulln dX8_copyJobs_43 ?_
      refine k_aloadn (j := 0) dX8_copyJobs_46 rfl rfl ?_
      refine k_getr fg_8_23 rfl rfl dX8_copyJobs_47 (fun x16 => ?_)
      refine k_iloadn (j := 2) dX8_copyJobs_50 rfl rfl ?_
      refine k_new cf_1 cl_8_21 (in_1).1 (in_1).2 dX8_copyJobs_51 (fun a17 g18 => ?_)
      refine k_dup dX8_copyJobs_54 ?_
      refine k_iloadn (j := 2) dX8_copyJobs_55 rfl rfl ?_
      refine k_aloadn (j := 3) dX8_copyJobs_56 rfl rfl ?_
      refine k_getr fg_8_156 rfl rfl dX8_copyJobs_57 (fun x19 => ?_)
      refine k_callIv [.inl v2, .inr (4, x19)] (t1_init a17 v2 x19 g18) cw_cX1_init (Or.inl ml_8_83) rfl rfl (by decide) (by decide) (Nat.le_of_ble_eq_true rfl) dX8_copyJobs_60 (fun _ g20 => ?_)
      rcases x16 with _ | a21
      · exact k_ocn
      refine k_ocs ?_
      refine k_aast rfl dX8_copyJobs_63 (fun g22 => ?_)
      exact t8_copyJobs_b64 (f8_copyJobs_b10 n) ih v0 (some a8) v2 (some a11) g22
    refine k_ifnonnulls (tgt := 64) dX8_copyJobs_43 (by decide) ?_
    exact t8_copyJobs_b64 (f8_copyJobs_b10 n) ih v0 (some a8) v2 (some a11) g9
def f8_copyJobs (v0 : Nat) (v1 : Option Nat) (g : GS_) : Option (Unit × GS_) :=
  oc_ v1 none fun a23 => lr_ (sfi g 259 v0 (gfi g 259 a23)) fun g24 => f8_copyJobs_b10 FU_ v0 (some a23) (0 : Int32) g24
theorem t8_copyJobs (v0 : Nat) (v1 : Option Nat) (g : GS_) : Cn_ yX8_copyJobs cX8_copyJobs 4 none 2 34 EV_ [.inr (8, some v0), .inr (8, v1)] g (f8_copyJobs v0 v1 g) := by
  refine k_method (own := RX8) (ini := false) (L1 := [some (.inr (8, some v0)), some (.inr (8, v1)), none, none]) (by decide +kernel) rfl (fun h => by cases h) (Nat.le_of_ble_eq_true rfl) rfl ?_
  unfold f8_copyJobs
  refine k_aloadn (j := 0) dX8_copyJobs_0 rfl rfl ?_
  refine k_aloadn (j := 1) dX8_copyJobs_1 rfl rfl ?_
  rcases v1 with _ | a23
  · exact k_ocn
  refine k_ocs ?_
  refine k_geti fg_8_27 rfl rfl dX8_copyJobs_2 ?_
  refine k_puti fp_8_27 rfl rfl dX8_copyJobs_5 (fun g24 => ?_)
  refine k_iconst (v := (0 : Int32)) dX8_copyJobs_8 rfl ?_
  refine k_istn (j := 2) (L' := [some (.inr (8, some v0)), some (.inr (8, some a23)), some (.inl (0 : Int32)), none]) dX8_copyJobs_9 rfl (by decide) rfl ?_
  exact t8_copyJobs_b10 FU_ v0 (some a23) (0 : Int32) g24
theorem dX8_copyPrinters_0 : decode cX8_copyPrinters 0 = .ok (.aload_n 0, 1) := by decide +kernel
theorem dX8_copyPrinters_1 : decode cX8_copyPrinters 1 = .ok (.aload_n 1, 1) := by decide +kernel
theorem dX8_copyPrinters_2 : decode cX8_copyPrinters 2 = .ok (.getfield 36, 3) := by decide +kernel
theorem dX8_copyPrinters_5 : decode cX8_copyPrinters 5 = .ok (.putfield 36, 3) := by decide +kernel
theorem dX8_copyPrinters_8 : decode cX8_copyPrinters 8 = .ok (.iconst 0, 1) := by decide +kernel
theorem dX8_copyPrinters_9 : decode cX8_copyPrinters 9 = .ok (.istore_n 2, 1) := by decide +kernel
theorem dX8_copyPrinters_10 : decode cX8_copyPrinters 10 = .ok (.iload_n 2, 1) := by decide +kernel
theorem dX8_copyPrinters_11 : decode cX8_copyPrinters 11 = .ok (.aload_n 0, 1) := by decide +kernel
theorem dX8_copyPrinters_12 : decode cX8_copyPrinters 12 = .ok (.getfield 36, 3) := by decide +kernel
theorem dX8_copyPrinters_15 : decode cX8_copyPrinters 15 = .ok (.if_icmp .ge 37, 3) := by decide +kernel
theorem dX8_copyPrinters_18 : decode cX8_copyPrinters 18 = .ok (.aload_n 1, 1) := by decide +kernel
theorem dX8_copyPrinters_19 : decode cX8_copyPrinters 19 = .ok (.iload_n 2, 1) := by decide +kernel
theorem dX8_copyPrinters_20 : decode cX8_copyPrinters 20 = .ok (.invokevirtual 120, 3) := by decide +kernel
theorem dX8_copyPrinters_23 : decode cX8_copyPrinters 23 = .ok (.astore_n 3, 1) := by decide +kernel
theorem dX8_copyPrinters_24 : decode cX8_copyPrinters 24 = .ok (.aload_n 0, 1) := by decide +kernel
theorem dX8_copyPrinters_25 : decode cX8_copyPrinters 25 = .ok (.iload_n 2, 1) := by decide +kernel
theorem dX8_copyPrinters_26 : decode cX8_copyPrinters 26 = .ok (.invokevirtual 120, 3) := by decide +kernel
theorem dX8_copyPrinters_29 : decode cX8_copyPrinters 29 = .ok (.astore 4, 2) := by decide +kernel
theorem dX8_copyPrinters_31 : decode cX8_copyPrinters 31 = .ok (.aload_n 3, 1) := by decide +kernel
theorem dX8_copyPrinters_32 : decode cX8_copyPrinters 32 = .ok (.ifnull 14, 3) := by decide +kernel
theorem dX8_copyPrinters_35 : decode cX8_copyPrinters 35 = .ok (.aload 4, 2) := by decide +kernel
theorem dX8_copyPrinters_37 : decode cX8_copyPrinters 37 = .ok (.ifnull 9, 3) := by decide +kernel
theorem dX8_copyPrinters_40 : decode cX8_copyPrinters 40 = .ok (.aload 4, 2) := by decide +kernel
theorem dX8_copyPrinters_42 : decode cX8_copyPrinters 42 = .ok (.aload_n 3, 1) := by decide +kernel
theorem dX8_copyPrinters_43 : decode cX8_copyPrinters 43 = .ok (.invokevirtual 258, 3) := by decide +kernel
theorem dX8_copyPrinters_46 : decode cX8_copyPrinters 46 = .ok (.iinc 2 1, 3) := by decide +kernel
theorem dX8_copyPrinters_49 : decode cX8_copyPrinters 49 = .ok (.goto (-39), 3) := by decide +kernel
theorem dX8_copyPrinters_52 : decode cX8_copyPrinters 52 = .ok (.return_, 1) := by decide +kernel
def f8_copyPrinters_b46 (c10 : Nat → (Option Nat) → Int32 → GS_ → Option (Unit × GS_)) (v0 : Nat) (v1 : Option Nat) (v2 : Int32) (g : GS_) : Option (Unit × GS_) :=
  c10 v0 v1 (v2 + (1 : Int32)) g
theorem t8_copyPrinters_b46 (c10 : Nat → (Option Nat) → Int32 → GS_ → Option (Unit × GS_)) (h10 : ∀ (v0 : Nat) (v1 : Option Nat) (v2 : Int32) (g : GS_), K_ RX8 cX8_copyPrinters 5 none 2 61 false EV_ 10 [some (.inr (8, some v0)), some (.inr (8, v1)), some (.inl v2), none, none] [] g (c10 v0 v1 v2 g)) (v0 : Nat) (v1 : Option Nat) (v2 : Int32) (g : GS_) : K_ RX8 cX8_copyPrinters 5 none 2 61 false EV_ 46 [some (.inr (8, some v0)), some (.inr (8, v1)), some (.inl v2), none, none] [] g (f8_copyPrinters_b46 c10 v0 v1 v2 g) := by
  unfold f8_copyPrinters_b46
  refine k_iinc (v := (v2 + (1 : Int32))) (L' := [some (.inr (8, some v0)), some (.inr (8, v1)), some (.inl (v2 + (1 : Int32))), none, none]) dX8_copyPrinters_46 rfl rfl (by decide) rfl ?_
  refine k_goto (tgt := 10) dX8_copyPrinters_49 (by decide) ?_
  exact h10 v0 v1 (v2 + (1 : Int32)) g
def f8_copyPrinters_b10 : Nat → Nat → (Option Nat) → Int32 → GS_ → Option (Unit × GS_)
  | 0, _, _, _, _ => none
  | n + 1, v0, v1, v2, g =>
    if (gfi g 261 v0) ≤ v2 then some ((), g) else oc_ v1 none fun a1 => bd_ (f8_printerAt a1 v2 g) fun x3 g2 => bd_ (f8_printerAt v0 v2 g2) fun x5 g4 => oc_ x3 (f8_copyPrinters_b46 (f8_copyPrinters_b10 n) v0 (some a1) v2 g4) fun a6 => oc_ x5 (f8_copyPrinters_b46 (f8_copyPrinters_b10 n) v0 (some a1) v2 g4) fun a7 => bd_ (f5_copyFrom a7 (some a6) g4) fun _ g8 => f8_copyPrinters_b46 (f8_copyPrinters_b10 n) v0 (some a1) v2 g8
theorem t8_copyPrinters_b10 : ∀ (n : Nat) (v0 : Nat) (v1 : Option Nat) (v2 : Int32) (g : GS_), K_ RX8 cX8_copyPrinters 5 none 2 61 false EV_ 10 [some (.inr (8, some v0)), some (.inr (8, v1)), some (.inl v2), none, none] [] g (f8_copyPrinters_b10 n v0 v1 v2 g) := by
  intro n
  induction n with
  | zero =>
    intro v0 v1 v2 g
    exact k_fail
  | succ n ih =>
    intro v0 v1 v2 g
    show K_ RX8 cX8_copyPrinters 5 none 2 61 false EV_ 10 [some (.inr (8, some v0)), some (.inr (8, v1)), some (.inl v2), none, none] [] g (if (gfi g 261 v0) ≤ v2 then some ((), g) else oc_ v1 none fun a1 => bd_ (f8_printerAt a1 v2 g) fun x3 g2 => bd_ (f8_printerAt v0 v2 g2) fun x5 g4 => oc_ x3 (f8_copyPrinters_b46 (f8_copyPrinters_b10 n) v0 (some a1) v2 g4) fun a6 => oc_ x5 (f8_copyPrinters_b46 (f8_copyPrinters_b10 n) v0 (some a1) v2 g4) fun a7 => bd_ (f5_copyFrom a7 (some a6) g4) fun _ g8 => f8_copyPrinters_b46 (f8_copyPrinters_b10 n) v0 (some a1) v2 g8)
    refine k_iloadn (j := 2) dX8_copyPrinters_10 rfl rfl ?_
    refine k_aloadn (j := 0) dX8_copyPrinters_11 rfl rfl ?_
    refine k_geti fg_8_36 rfl rfl dX8_copyPrinters_12 ?_
    refine k_icmpge (tgt := 52) dX8_copyPrinters_15 (by decide) (fun _ => ?_) (fun _ => ?_)
    · exact k_return rfl dX8_copyPrinters_52
    refine k_aloadn (j := 1) dX8_copyPrinters_18 rfl rfl ?_
    refine k_iloadn (j := 2) dX8_copyPrinters_19 rfl rfl ?_
    rcases v1 with _ | a1
    · exact k_ocn
    refine k_ocs ?_
    refine k_callVr [.inl v2] (t8_printerAt a1 v2 g) cw_cX8_printerAt (Or.inl ml_8_120) rfl rfl (by decide) (by decide) (Nat.le_of_ble_eq_true rfl) dX8_copyPrinters_20 (fun x3 g2 => ?_)
    refine k_astn (j := 3) (L' := [some (.inr (8, some v0)), some (.inr (8, some a1)), some (.inl v2), some (.inr (5, x3)), none]) dX8_copyPrinters_23 rfl (by decide) rfl ?_
    refine k_aloadn (j := 0) dX8_copyPrinters_24 rfl rfl ?_
    refine k_iloadn (j := 2) dX8_copyPrinters_25 rfl rfl ?_
    refine k_callVr [.inl v2] (t8_printerAt v0 v2 g2) cw_cX8_printerAt (Or.inl ml_8_120) rfl rfl (by decide) (by decide) (Nat.le_of_ble_eq_true rfl) dX8_copyPrinters_26 (fun x5 g4 => ?_)
    refine k_ast (L' := [some (.inr (8, some v0)), some (.inr (8, some a1)), some (.inl v2), some (.inr (5, x3)), some (.inr (5, x5))]) dX8_copyPrinters_29 (by decide) rfl ?_
    refine k_aloadn (j := 3) dX8_copyPrinters_31 rfl rfl ?_
    rcases x3 with _ | a6
    · refine k_ifnulln (tgt := 46) dX8_copyPrinters_32 (by decide) ?_
      refine k_msk (L' := [some (.inr (8, some v0)), some (.inr (8, some a1)), some (.inl v2), none, none]) [true, true, true, false, false] rfl ?_
      exact t8_copyPrinters_b46 (f8_copyPrinters_b10 n) ih v0 (some a1) v2 g4
    refine k_ifnulls dX8_copyPrinters_32 ?_
    refine k_aload dX8_copyPrinters_35 rfl ?_
    rcases x5 with _ | a7
    · refine k_ifnulln (tgt := 46) dX8_copyPrinters_37 (by decide) ?_
      refine k_msk (L' := [some (.inr (8, some v0)), some (.inr (8, some a1)), some (.inl v2), none, none]) [true, true, true, false, false] rfl ?_
      exact t8_copyPrinters_b46 (f8_copyPrinters_b10 n) ih v0 (some a1) v2 g4
    refine k_ifnulls dX8_copyPrinters_37 ?_
    refine k_aload dX8_copyPrinters_40 rfl ?_
    refine k_aloadn (j := 3) dX8_copyPrinters_42 rfl rfl ?_
    refine k_callVv [.inr (5, some a6)] (t5_copyFrom a7 (some a6) g4) cw_cX5_copyFrom (Or.inl ml_8_258) rfl rfl (by decide) (by decide) (Nat.le_of_ble_eq_true rfl) dX8_copyPrinters_43 (fun _ g8 => ?_)
    refine k_msk (L' := [some (.inr (8, some v0)), some (.inr (8, some a1)), some (.inl v2), none, none]) [true, true, true, false, false] rfl ?_
    exact t8_copyPrinters_b46 (f8_copyPrinters_b10 n) ih v0 (some a1) v2 g8
def f8_copyPrinters (v0 : Nat) (v1 : Option Nat) (g : GS_) : Option (Unit × GS_) :=
  oc_ v1 none fun a9 => lr_ (sfi g 261 v0 (gfi g 261 a9)) fun g10 => f8_copyPrinters_b10 FU_ v0 (some a9) (0 : Int32) g10
theorem t8_copyPrinters (v0 : Nat) (v1 : Option Nat) (g : GS_) : Cn_ yX8_copyPrinters cX8_copyPrinters 5 none 2 61 EV_ [.inr (8, some v0), .inr (8, v1)] g (f8_copyPrinters v0 v1 g) := by
  refine k_method (own := RX8) (ini := false) (L1 := [some (.inr (8, some v0)), some (.inr (8, v1)), none, none, none]) (by decide +kernel) rfl (fun h => by cases h) (Nat.le_of_ble_eq_true rfl) rfl ?_
  unfold f8_copyPrinters
  refine k_aloadn (j := 0) dX8_copyPrinters_0 rfl rfl ?_
  refine k_aloadn (j := 1) dX8_copyPrinters_1 rfl rfl ?_
  rcases v1 with _ | a9
  · exact k_ocn
  refine k_ocs ?_
  refine k_geti fg_8_36 rfl rfl dX8_copyPrinters_2 ?_
  refine k_puti fp_8_36 rfl rfl dX8_copyPrinters_5 (fun g10 => ?_)
  refine k_iconst (v := (0 : Int32)) dX8_copyPrinters_8 rfl ?_
  refine k_istn (j := 2) (L' := [some (.inr (8, some v0)), some (.inr (8, some a9)), some (.inl (0 : Int32)), none, none]) dX8_copyPrinters_9 rfl (by decide) rfl ?_
  exact t8_copyPrinters_b10 FU_ v0 (some a9) (0 : Int32) g10
theorem dX8_copyFrom_0 : decode cX8_copyFrom 0 = .ok (.aload_n 0, 1) := by decide +kernel
theorem dX8_copyFrom_1 : decode cX8_copyFrom 1 = .ok (.aload_n 1, 1) := by decide +kernel
theorem dX8_copyFrom_2 : decode cX8_copyFrom 2 = .ok (.getfield 17, 3) := by decide +kernel
theorem dX8_copyFrom_5 : decode cX8_copyFrom 5 = .ok (.putfield 17, 3) := by decide +kernel
theorem dX8_copyFrom_8 : decode cX8_copyFrom 8 = .ok (.iconst 0, 1) := by decide +kernel
theorem dX8_copyFrom_9 : decode cX8_copyFrom 9 = .ok (.istore_n 2, 1) := by decide +kernel
theorem dX8_copyFrom_10 : decode cX8_copyFrom 10 = .ok (.iload_n 2, 1) := by decide +kernel
theorem dX8_copyFrom_11 : decode cX8_copyFrom 11 = .ok (.aload_n 0, 1) := by decide +kernel
theorem dX8_copyFrom_12 : decode cX8_copyFrom 12 = .ok (.getfield 11, 3) := by decide +kernel
theorem dX8_copyFrom_15 : decode cX8_copyFrom 15 = .ok (.arraylength, 1) := by decide +kernel
theorem dX8_copyFrom_16 : decode cX8_copyFrom 16 = .ok (.if_icmp .ge 20, 3) := by decide +kernel
theorem dX8_copyFrom_19 : decode cX8_copyFrom 19 = .ok (.aload_n 0, 1) := by decide +kernel
theorem dX8_copyFrom_20 : decode cX8_copyFrom 20 = .ok (.getfield 11, 3) := by decide +kernel
theorem dX8_copyFrom_23 : decode cX8_copyFrom 23 = .ok (.iload_n 2, 1) := by decide +kernel
theorem dX8_copyFrom_24 : decode cX8_copyFrom 24 = .ok (.aload_n 1, 1) := by decide +kernel
theorem dX8_copyFrom_25 : decode cX8_copyFrom 25 = .ok (.iload_n 2, 1) := by decide +kernel
theorem dX8_copyFrom_26 : decode cX8_copyFrom 26 = .ok (.invokevirtual 232, 3) := by decide +kernel
theorem dX8_copyFrom_29 : decode cX8_copyFrom 29 = .ok (.aastore, 1) := by decide +kernel
theorem dX8_copyFrom_30 : decode cX8_copyFrom 30 = .ok (.iinc 2 1, 3) := by decide +kernel
theorem dX8_copyFrom_33 : decode cX8_copyFrom 33 = .ok (.goto (-23), 3) := by decide +kernel
theorem dX8_copyFrom_36 : decode cX8_copyFrom 36 = .ok (.aload_n 0, 1) := by decide +kernel
theorem dX8_copyFrom_37 : decode cX8_copyFrom 37 = .ok (.aload_n 1, 1) := by decide +kernel
theorem dX8_copyFrom_38 : decode cX8_copyFrom 38 = .ok (.invokevirtual 236, 3) := by decide +kernel
theorem dX8_copyFrom_41 : decode cX8_copyFrom 41 = .ok (.aload_n 0, 1) := by decide +kernel
theorem dX8_copyFrom_42 : decode cX8_copyFrom 42 = .ok (.aload_n 1, 1) := by decide +kernel
theorem dX8_copyFrom_43 : decode cX8_copyFrom 43 = .ok (.invokevirtual 240, 3) := by decide +kernel
theorem dX8_copyFrom_46 : decode cX8_copyFrom 46 = .ok (.aload_n 0, 1) := by decide +kernel
theorem dX8_copyFrom_47 : decode cX8_copyFrom 47 = .ok (.getfield 42, 3) := by decide +kernel
theorem dX8_copyFrom_50 : decode cX8_copyFrom 50 = .ok (.aload_n 1, 1) := by decide +kernel
theorem dX8_copyFrom_51 : decode cX8_copyFrom 51 = .ok (.getfield 42, 3) := by decide +kernel
theorem dX8_copyFrom_54 : decode cX8_copyFrom 54 = .ok (.invokevirtual 243, 3) := by decide +kernel
theorem dX8_copyFrom_57 : decode cX8_copyFrom 57 = .ok (.aload_n 1, 1) := by decide +kernel
theorem dX8_copyFrom_58 : decode cX8_copyFrom 58 = .ok (.getfield 46, 3) := by decide +kernel
theorem dX8_copyFrom_61 : decode cX8_copyFrom 61 = .ok (.iconst 0, 1) := by decide +kernel
theorem dX8_copyFrom_62 : decode cX8_copyFrom 62 = .ok (.aload_n 0, 1) := by decide +kernel
theorem dX8_copyFrom_63 : decode cX8_copyFrom 63 = .ok (.getfield 46, 3) := by decide +kernel
theorem dX8_copyFrom_66 : decode cX8_copyFrom 66 = .ok (.iconst 0, 1) := by decide +kernel
theorem dX8_copyFrom_67 : decode cX8_copyFrom 67 = .ok (.aload_n 0, 1) := by decide +kernel
theorem dX8_copyFrom_68 : decode cX8_copyFrom 68 = .ok (.getfield 46, 3) := by decide +kernel
theorem dX8_copyFrom_71 : decode cX8_copyFrom 71 = .ok (.arraylength, 1) := by decide +kernel
theorem dX8_copyFrom_72 : decode cX8_copyFrom 72 = .ok (.invokestatic 247, 3) := by decide +kernel
theorem dX8_copyFrom_75 : decode cX8_copyFrom 75 = .ok (.aload_n 1, 1) := by decide +kernel
theorem dX8_copyFrom_76 : decode cX8_copyFrom 76 = .ok (.getfield 50, 3) := by decide +kernel
theorem dX8_copyFrom_79 : decode cX8_copyFrom 79 = .ok (.iconst 0, 1) := by decide +kernel
theorem dX8_copyFrom_80 : decode cX8_copyFrom 80 = .ok (.aload_n 0, 1) := by decide +kernel
theorem dX8_copyFrom_81 : decode cX8_copyFrom 81 = .ok (.getfield 50, 3) := by decide +kernel
theorem dX8_copyFrom_84 : decode cX8_copyFrom 84 = .ok (.iconst 0, 1) := by decide +kernel
theorem dX8_copyFrom_85 : decode cX8_copyFrom 85 = .ok (.aload_n 0, 1) := by decide +kernel
theorem dX8_copyFrom_86 : decode cX8_copyFrom 86 = .ok (.getfield 50, 3) := by decide +kernel
theorem dX8_copyFrom_89 : decode cX8_copyFrom 89 = .ok (.arraylength, 1) := by decide +kernel
theorem dX8_copyFrom_90 : decode cX8_copyFrom 90 = .ok (.invokestatic 247, 3) := by decide +kernel
theorem dX8_copyFrom_93 : decode cX8_copyFrom 93 = .ok (.aload_n 1, 1) := by decide +kernel
theorem dX8_copyFrom_94 : decode cX8_copyFrom 94 = .ok (.getfield 53, 3) := by decide +kernel
theorem dX8_copyFrom_97 : decode cX8_copyFrom 97 = .ok (.iconst 0, 1) := by decide +kernel
theorem dX8_copyFrom_98 : decode cX8_copyFrom 98 = .ok (.aload_n 0, 1) := by decide +kernel
theorem dX8_copyFrom_99 : decode cX8_copyFrom 99 = .ok (.getfield 53, 3) := by decide +kernel
theorem dX8_copyFrom_102 : decode cX8_copyFrom 102 = .ok (.iconst 0, 1) := by decide +kernel
theorem dX8_copyFrom_103 : decode cX8_copyFrom 103 = .ok (.aload_n 0, 1) := by decide +kernel
theorem dX8_copyFrom_104 : decode cX8_copyFrom 104 = .ok (.getfield 53, 3) := by decide +kernel
theorem dX8_copyFrom_107 : decode cX8_copyFrom 107 = .ok (.arraylength, 1) := by decide +kernel
theorem dX8_copyFrom_108 : decode cX8_copyFrom 108 = .ok (.invokestatic 247, 3) := by decide +kernel
theorem dX8_copyFrom_111 : decode cX8_copyFrom 111 = .ok (.aload_n 0, 1) := by decide +kernel
theorem dX8_copyFrom_112 : decode cX8_copyFrom 112 = .ok (.getfield 59, 3) := by decide +kernel
theorem dX8_copyFrom_115 : decode cX8_copyFrom 115 = .ok (.aload_n 1, 1) := by decide +kernel
theorem dX8_copyFrom_116 : decode cX8_copyFrom 116 = .ok (.getfield 59, 3) := by decide +kernel
theorem dX8_copyFrom_119 : decode cX8_copyFrom 119 = .ok (.invokevirtual 253, 3) := by decide +kernel
theorem dX8_copyFrom_122 : decode cX8_copyFrom 122 = .ok (.aload_n 1, 1) := by decide +kernel
theorem dX8_copyFrom_123 : decode cX8_copyFrom 123 = .ok (.getfield 63, 3) := by decide +kernel
theorem dX8_copyFrom_126 : decode cX8_copyFrom 126 = .ok (.iconst 0, 1) := by decide +kernel
theorem dX8_copyFrom_127 : decode cX8_copyFrom 127 = .ok (.aload_n 0, 1) := by decide +kernel
theorem dX8_copyFrom_128 : decode cX8_copyFrom 128 = .ok (.getfield 63, 3) := by decide +kernel
theorem dX8_copyFrom_131 : decode cX8_copyFrom 131 = .ok (.iconst 0, 1) := by decide +kernel
theorem dX8_copyFrom_132 : decode cX8_copyFrom 132 = .ok (.aload_n 0, 1) := by decide +kernel
theorem dX8_copyFrom_133 : decode cX8_copyFrom 133 = .ok (.getfield 63, 3) := by decide +kernel
theorem dX8_copyFrom_136 : decode cX8_copyFrom 136 = .ok (.arraylength, 1) := by decide +kernel
theorem dX8_copyFrom_137 : decode cX8_copyFrom 137 = .ok (.invokestatic 247, 3) := by decide +kernel
theorem dX8_copyFrom_140 : decode cX8_copyFrom 140 = .ok (.aload_n 0, 1) := by decide +kernel
theorem dX8_copyFrom_141 : decode cX8_copyFrom 141 = .ok (.aload_n 1, 1) := by decide +kernel
theorem dX8_copyFrom_142 : decode cX8_copyFrom 142 = .ok (.getfield 66, 3) := by decide +kernel
theorem dX8_copyFrom_145 : decode cX8_copyFrom 145 = .ok (.putfield 66, 3) := by decide +kernel
theorem dX8_copyFrom_148 : decode cX8_copyFrom 148 = .ok (.aload_n 0, 1) := by decide +kernel
theorem dX8_copyFrom_149 : decode cX8_copyFrom 149 = .ok (.aload_n 1, 1) := by decide +kernel
theorem dX8_copyFrom_150 : decode cX8_copyFrom 150 = .ok (.getfield 69, 3) := by decide +kernel
theorem dX8_copyFrom_153 : decode cX8_copyFrom 153 = .ok (.putfield 69, 3) := by decide +kernel
theorem dX8_copyFrom_156 : decode cX8_copyFrom 156 = .ok (.aload_n 0, 1) := by decide +kernel
theorem dX8_copyFrom_157 : decode cX8_copyFrom 157 = .ok (.aload_n 1, 1) := by decide +kernel
theorem dX8_copyFrom_158 : decode cX8_copyFrom 158 = .ok (.getfield 72, 3) := by decide +kernel
theorem dX8_copyFrom_161 : decode cX8_copyFrom 161 = .ok (.putfield 72, 3) := by decide +kernel
theorem dX8_copyFrom_164 : decode cX8_copyFrom 164 = .ok (.aload_n 0, 1) := by decide +kernel
theorem dX8_copyFrom_165 : decode cX8_copyFrom 165 = .ok (.aload_n 1, 1) := by decide +kernel
theorem dX8_copyFrom_166 : decode cX8_copyFrom 166 = .ok (.getfield 75, 3) := by decide +kernel
theorem dX8_copyFrom_169 : decode cX8_copyFrom 169 = .ok (.putfield 75, 3) := by decide +kernel
theorem dX8_copyFrom_172 : decode cX8_copyFrom 172 = .ok (.return_, 1) := by decide +kernel
def f8_copyFrom_b10 : Nat → Nat → (Option Nat) → Int32 → GS_ → Option (Unit × GS_)
  | 0, _, _, _, _ => none
  | n + 1, v0, v1, v2, g =>
    lr_ (gfr g 256 v0) fun x1 => oc_ x1 none fun a2 => if (Int32.ofNat (gln g 22 a2)) ≤ v2 then bd_ (f8_copyJobs v0 v1 g) fun _ g3 => bd_ (f8_copyPrinters v0 v1 g3) fun _ g4 => lr_ (gfr g4 262 v0) fun x5 => oc_ v1 none fun a6 => lr_ (gfr g4 262 a6) fun x7 => oc_ x5 none fun a8 => bd_ (f6_copyFrom a8 x7 g4) fun _ g9 => lr_ (gfr g9 263 a6) fun x10 => lr_ (gfr g9 263 v0) fun x11 => lr_ (gfr g9 263 v0) fun x12 => oc_ x12 none fun a13 => oc_ x10 none fun a14 => oc_ x11 none fun a15 => cp_ g9 a14 a15 (0 : Int32) (0 : Int32) (Int32.ofNat (gln g9 20 a13)) fun g16 => lr_ (gfr g16 264 a6) fun x17 => lr_ (gfr g16 264 v0) fun x18 => lr_ (gfr g16 264 v0) fun x19 => oc_ x19 none fun a20 => oc_ x17 none fun a21 => oc_ x18 none fun a22 => cp_ g16 a21 a22 (0 : Int32) (0 : Int32) (Int32.ofNat (gln g16 20 a20)) fun g23 => lr_ (gfr g23 265 a6) fun x24 => lr_ (gfr g23 265 v0) fun x25 => lr_ (gfr g23 265 v0) fun x26 => oc_ x26 none fun a27 => oc_ x24 none fun a28 => oc_ x25 none fun a29 => cp_ g23 a28 a29 (0 : Int32) (0 : Int32) (Int32.ofNat (gln g23 20 a27)) fun g30 => lr_ (gfr g30 266 v0) fun x31 => lr_ (gfr g30 266 a6) fun x32 => oc_ x31 none fun a33 => bd_ (f2_copyFrom a33 x32 g30) fun _ g34 => lr_ (gfr g34 267 a6) fun x35 => lr_ (gfr g34 267 v0) fun x36 => lr_ (gfr g34 267 v0) fun x37 => oc_ x37 none fun a38 => oc_ x35 none fun a39 => oc_ x36 none fun a40 => cp_ g34 a39 a40 (0 : Int32) (0 : Int32) (Int32.ofNat (gln g34 20 a38)) fun g41 => lr_ (sfi g41 268 v0 (gfi g41 268 a6)) fun g42 => lr_ (sfi g42 269 v0 (gfi g42 269 a6)) fun g43 => lr_ (sfi g43 270 v0 (gfi g43 270 a6)) fun g44 => lr_ (sfi g44 271 v0 (gfi g44 271 a6)) fun g45 => some ((), g45) else lr_ (gfr g 256 v0) fun x46 => oc_ v1 none fun a47 => bd_ (f8_documentAt a47 v2 g) fun x49 g48 => oc_ x46 none fun a50 => if inb v2 (gln g48 22 a50) then lr_ (sar g48 22 a50 v2.toInt.toNat x49) (fun g51 => (f8_copyFrom_b10 n) v0 (some a47) (v2 + (1 : Int32)) g51) else none
theorem t8_copyFrom_b10 : ∀ (n : Nat) (v0 : Nat) (v1 : Option Nat) (v2 : Int32) (g : GS_), K_ RX8 cX8_copyFrom 3 none 3 85 false EV_ 10 [some (.inr (8, some v0)), some (.inr (8, v1)), some (.inl v2)] [] g (f8_copyFrom_b10 n v0 v1 v2 g) := by
  intro n
  induction n with
  | zero =>
    intro v0 v1 v2 g
    exact k_fail
  | succ n ih =>
    intro v0 v1 v2 g
    show K_ RX8 cX8_copyFrom 3 none 3 85 false EV_ 10 [some (.inr (8, some v0)), some (.inr (8, v1)), some (.inl v2)] [] g (lr_ (gfr g 256 v0) fun x1 => oc_ x1 none fun a2 => if (Int32.ofNat (gln g 22 a2)) ≤ v2 then bd_ (f8_copyJobs v0 v1 g) fun _ g3 => bd_ (f8_copyPrinters v0 v1 g3) fun _ g4 => lr_ (gfr g4 262 v0) fun x5 => oc_ v1 none fun a6 => lr_ (gfr g4 262 a6) fun x7 => oc_ x5 none fun a8 => bd_ (f6_copyFrom a8 x7 g4) fun _ g9 => lr_ (gfr g9 263 a6) fun x10 => lr_ (gfr g9 263 v0) fun x11 => lr_ (gfr g9 263 v0) fun x12 => oc_ x12 none fun a13 => oc_ x10 none fun a14 => oc_ x11 none fun a15 => cp_ g9 a14 a15 (0 : Int32) (0 : Int32) (Int32.ofNat (gln g9 20 a13)) fun g16 => lr_ (gfr g16 264 a6) fun x17 => lr_ (gfr g16 264 v0) fun x18 => lr_ (gfr g16 264 v0) fun x19 => oc_ x19 none fun a20 => oc_ x17 none fun a21 => oc_ x18 none fun a22 => cp_ g16 a21 a22 (0 : Int32) (0 : Int32) (Int32.ofNat (gln g16 20 a20)) fun g23 => lr_ (gfr g23 265 a6) fun x24 => lr_ (gfr g23 265 v0) fun x25 => lr_ (gfr g23 265 v0) fun x26 => oc_ x26 none fun a27 => oc_ x24 none fun a28 => oc_ x25 none fun a29 => cp_ g23 a28 a29 (0 : Int32) (0 : Int32) (Int32.ofNat (gln g23 20 a27)) fun g30 => lr_ (gfr g30 266 v0) fun x31 => lr_ (gfr g30 266 a6) fun x32 => oc_ x31 none fun a33 => bd_ (f2_copyFrom a33 x32 g30) fun _ g34 => lr_ (gfr g34 267 a6) fun x35 => lr_ (gfr g34 267 v0) fun x36 => lr_ (gfr g34 267 v0) fun x37 => oc_ x37 none fun a38 => oc_ x35 none fun a39 => oc_ x36 none fun a40 => cp_ g34 a39 a40 (0 : Int32) (0 : Int32) (Int32.ofNat (gln g34 20 a38)) fun g41 => lr_ (sfi g41 268 v0 (gfi g41 268 a6)) fun g42 => lr_ (sfi g42 269 v0 (gfi g42 269 a6)) fun g43 => lr_ (sfi g43 270 v0 (gfi g43 270 a6)) fun g44 => lr_ (sfi g44 271 v0 (gfi g44 271 a6)) fun g45 => some ((), g45) else lr_ (gfr g 256 v0) fun x46 => oc_ v1 none fun a47 => bd_ (f8_documentAt a47 v2 g) fun x49 g48 => oc_ x46 none fun a50 => if inb v2 (gln g48 22 a50) then lr_ (sar g48 22 a50 v2.toInt.toNat x49) (fun g51 => (f8_copyFrom_b10 n) v0 (some a47) (v2 + (1 : Int32)) g51) else none)
    refine k_iloadn (j := 2) dX8_copyFrom_10 rfl rfl ?_
    refine k_aloadn (j := 0) dX8_copyFrom_11 rfl rfl ?_
    refine k_getr fg_8_11 rfl rfl dX8_copyFrom_12 (fun x1 => ?_)
    rcases x1 with _ | a2
    · exact k_ocn
    refine k_ocs ?_
    refine k_alen dX8_copyFrom_15 (by decide) ?_
    refine k_icmpge (tgt := 36) dX8_copyFrom_16 (by decide) (fun _ => ?_) (fun _ => ?_)
    · refine k_aloadn (j := 0) dX8_copyFrom_36 rfl rfl ?_
      refine k_aloadn (j := 1) dX8_copyFrom_37 rfl rfl ?_
      refine k_callVv [.inr (8, v1)] (t8_copyJobs v0 v1 g) cw_cX8_copyJobs (Or.inl ml_8_236) rfl rfl (by decide) (by decide) (Nat.le_of_ble_eq_true rfl) dX8_copyFrom_38 (fun _ g3 => ?_)
      refine k_aloadn (j := 0) dX8_copyFrom_41 rfl rfl ?_
      refine k_aloadn (j := 1) dX8_copyFrom_42 rfl rfl ?_
      refine k_callVv [.inr (8, v1)] (t8_copyPrinters v0 v1 g3) cw_cX8_copyPrinters (Or.inl ml_8_240) rfl rfl (by decide) (by decide) (Nat.le_of_ble_eq_true rfl) dX8_copyFrom_43 (fun _ g4 => ?_)
      refine k_aloadn (j := 0) dX8_copyFrom_46 rfl rfl ?_
      refine k_getr fg_8_42 rfl rfl dX8_copyFrom_47 (fun x5 => ?_)
      refine k_aloadn (j := 1) dX8_copyFrom_50 rfl rfl ?_
      rcases v1 with _ | a6
      · exact k_ocn
      refine k_ocs ?_
      refine k_getr fg_8_42 rfl rfl dX8_copyFrom_51 (fun x7 => ?_)
      rcases x5 with _ | a8
      · exact k_ocn
      refine k_ocs ?_
      refine k_callVv [.inr (6, x7)] (t6_copyFrom a8 x7 g4) cw_cX6_copyFrom (Or.inl ml_8_243) rfl rfl (by decide) (by decide) (Nat.le_of_ble_eq_true rfl) dX8_copyFrom_54 (fun _ g9 => ?_)
      refine k_aloadn (j := 1) dX8_copyFrom_57 rfl rfl ?_
      refine k_getr fg_8_46 rfl rfl dX8_copyFrom_58 (fun x10 => ?_)
      refine k_iconst (v := (0 : Int32)) dX8_copyFrom_61 rfl ?_
      refine k_aloadn (j := 0) dX8_copyFrom_62 rfl rfl ?_
      refine k_getr fg_8_46 rfl rfl dX8_copyFrom_63 (fun x11 => ?_)
      refine k_iconst (v := (0 : Int32)) dX8_copyFrom_66 rfl ?_
      refine k_aloadn (j := 0) dX8_copyFrom_67 rfl rfl ?_
      refine k_getr fg_8_46 rfl rfl dX8_copyFrom_68 (fun x12 => ?_)
      rcases x12 with _ | a13
      · exact k_ocn
      refine k_ocs ?_
      refine k_alen dX8_copyFrom_71 (by decide) ?_
      rcases x10 with _ | a14
      · exact k_ocn
      refine k_ocs ?_
      rcases x11 with _ | a15
      · exact k_ocn
      refine k_ocs ?_
      refine k_copy yw_ ml_8_247 (by decide) (Nat.le_of_ble_eq_true rfl) dX8_copyFrom_72 (fun g16 => ?_)
      refine k_aloadn (j := 1) dX8_copyFrom_75 rfl rfl ?_
      refine k_getr fg_8_50 rfl rfl dX8_copyFrom_76 (fun x17 => ?_)
      refine k_iconst (v := (0 : Int32)) dX8_copyFrom_79 rfl ?_
      refine k_aloadn (j := 0) dX8_copyFrom_80 rfl rfl ?_
      refine k_getr fg_8_50 rfl rfl dX8_copyFrom_81 (fun x18 => ?_)
      refine k_iconst (v := (0 : Int32)) dX8_copyFrom_84 rfl ?_
      refine k_aloadn (j := 0) dX8_copyFrom_85 rfl rfl ?_
      refine k_getr fg_8_50 rfl rfl dX8_copyFrom_86 (fun x19 => ?_)
      rcases x19 with _ | a20
      · exact k_ocn
      refine k_ocs ?_
      refine k_alen dX8_copyFrom_89 (by decide) ?_
      rcases x17 with _ | a21
      · exact k_ocn
      refine k_ocs ?_
      rcases x18 with _ | a22
      · exact k_ocn
      refine k_ocs ?_
      refine k_copy yw_ ml_8_247 (by decide) (Nat.le_of_ble_eq_true rfl) dX8_copyFrom_90 (fun g23 => ?_)
      refine k_aloadn (j := 1) dX8_copyFrom_93 rfl rfl ?_
      refine k_getr fg_8_53 rfl rfl dX8_copyFrom_94 (fun x24 => ?_)
      refine k_iconst (v := (0 : Int32)) dX8_copyFrom_97 rfl ?_
      refine k_aloadn (j := 0) dX8_copyFrom_98 rfl rfl ?_
      refine k_getr fg_8_53 rfl rfl dX8_copyFrom_99 (fun x25 => ?_)
      refine k_iconst (v := (0 : Int32)) dX8_copyFrom_102 rfl ?_
      refine k_aloadn (j := 0) dX8_copyFrom_103 rfl rfl ?_
      refine k_getr fg_8_53 rfl rfl dX8_copyFrom_104 (fun x26 => ?_)
      rcases x26 with _ | a27
      · exact k_ocn
      refine k_ocs ?_
      refine k_alen dX8_copyFrom_107 (by decide) ?_
      rcases x24 with _ | a28
      · exact k_ocn
      refine k_ocs ?_
      rcases x25 with _ | a29
      · exact k_ocn
      refine k_ocs ?_
      refine k_copy yw_ ml_8_247 (by decide) (Nat.le_of_ble_eq_true rfl) dX8_copyFrom_108 (fun g30 => ?_)
      refine k_aloadn (j := 0) dX8_copyFrom_111 rfl rfl ?_
      refine k_getr fg_8_59 rfl rfl dX8_copyFrom_112 (fun x31 => ?_)
      refine k_aloadn (j := 1) dX8_copyFrom_115 rfl rfl ?_
      refine k_getr fg_8_59 rfl rfl dX8_copyFrom_116 (fun x32 => ?_)
      rcases x31 with _ | a33
      · exact k_ocn
      refine k_ocs ?_
      refine k_callVv [.inr (2, x32)] (t2_copyFrom a33 x32 g30) cw_cX2_copyFrom (Or.inl ml_8_253) rfl rfl (by decide) (by decide) (Nat.le_of_ble_eq_true rfl) dX8_copyFrom_119 (fun _ g34 => ?_)
      refine k_aloadn (j := 1) dX8_copyFrom_122 rfl rfl ?_
      refine k_getr fg_8_63 rfl rfl dX8_copyFrom_123 (fun x35 => ?_)
      refine k_iconst (v := (0 : Int32)) dX8_copyFrom_126 rfl ?_
      refine k_aloadn (j := 0) dX8_copyFrom_127 rfl rfl ?_
      refine k_getr fg_8_63 rfl rfl dX8_copyFrom_128 (fun x36 => ?_)
      refine k_iconst (v := (0 : Int32)) dX8_copyFrom_131 rfl ?_
      refine k_aloadn (j := 0) dX8_copyFrom_132 rfl rfl ?_
      refine k_getr fg_8_63 rfl rfl dX8_copyFrom_133 (fun x37 => ?_)
      rcases x37 with _ | a38
      · exact k_ocn
      refine k_ocs ?_
      refine k_alen dX8_copyFrom_136 (by decide) ?_
      rcases x35 with _ | a39
      · exact k_ocn
      refine k_ocs ?_
      rcases x36 with _ | a40
      · exact k_ocn
      refine k_ocs ?_
      refine k_copy yw_ ml_8_247 (by decide) (Nat.le_of_ble_eq_true rfl) dX8_copyFrom_137 (fun g41 => ?_)
      refine k_aloadn (j := 0) dX8_copyFrom_140 rfl rfl ?_
      refine k_aloadn (j := 1) dX8_copyFrom_141 rfl rfl ?_
      refine k_geti fg_8_66 rfl rfl dX8_copyFrom_142 ?_
      refine k_puti fp_8_66 rfl rfl dX8_copyFrom_145 (fun g42 => ?_)
      refine k_aloadn (j := 0) dX8_copyFrom_148 rfl rfl ?_
      refine k_aloadn (j := 1) dX8_copyFrom_149 rfl rfl ?_
      refine k_geti fg_8_69 rfl rfl dX8_copyFrom_150 ?_
      refine k_puti fp_8_69 rfl rfl dX8_copyFrom_153 (fun g43 => ?_)
      refine k_aloadn (j := 0) dX8_copyFrom_156 rfl rfl ?_
      refine k_aloadn (j := 1) dX8_copyFrom_157 rfl rfl ?_
      refine k_geti fg_8_72 rfl rfl dX8_copyFrom_158 ?_
      refine k_puti fp_8_72 rfl rfl dX8_copyFrom_161 (fun g44 => ?_)
      refine k_aloadn (j := 0) dX8_copyFrom_164 rfl rfl ?_
      refine k_aloadn (j := 1) dX8_copyFrom_165 rfl rfl ?_
      refine k_geti fg_8_75 rfl rfl dX8_copyFrom_166 ?_
      refine k_puti fp_8_75 rfl rfl dX8_copyFrom_169 (fun g45 => ?_)
      exact k_return rfl dX8_copyFrom_172
    refine k_aloadn (j := 0) dX8_copyFrom_19 rfl rfl ?_
    refine k_getr fg_8_11 rfl rfl dX8_copyFrom_20 (fun x46 => ?_)
    refine k_iloadn (j := 2) dX8_copyFrom_23 rfl rfl ?_
    refine k_aloadn (j := 1) dX8_copyFrom_24 rfl rfl ?_
    refine k_iloadn (j := 2) dX8_copyFrom_25 rfl rfl ?_
    rcases v1 with _ | a47
    · exact k_ocn
    refine k_ocs ?_
    refine k_callVr [.inl v2] (t8_documentAt a47 v2 g) cw_cX8_documentAt (Or.inl ml_8_232) rfl rfl (by decide) (by decide) (Nat.le_of_ble_eq_true rfl) dX8_copyFrom_26 (fun x49 g48 => ?_)
    rcases x46 with _ | a50
    · exact k_ocn
    refine k_ocs ?_
    refine k_aastq rfl dX8_copyFrom_29 (fun g51 => ?_)
    refine k_iinc (v := (v2 + (1 : Int32))) (L' := [some (.inr (8, some v0)), some (.inr (8, some a47)), some (.inl (v2 + (1 : Int32)))]) dX8_copyFrom_30 rfl rfl (by decide) rfl ?_
    refine k_goto (tgt := 10) dX8_copyFrom_33 (by decide) ?_
    exact ih v0 (some a47) (v2 + (1 : Int32)) g51
def f8_copyFrom (v0 : Nat) (v1 : Option Nat) (g : GS_) : Option (Unit × GS_) :=
  oc_ v1 none fun a52 => lr_ (sfi g 257 v0 (gfi g 257 a52)) fun g53 => f8_copyFrom_b10 FU_ v0 (some a52) (0 : Int32) g53
theorem t8_copyFrom (v0 : Nat) (v1 : Option Nat) (g : GS_) : Cn_ yX8_copyFrom cX8_copyFrom 3 none 3 85 EV_ [.inr (8, some v0), .inr (8, v1)] g (f8_copyFrom v0 v1 g) := by
  refine k_method (own := RX8) (ini := false) (L1 := [some (.inr (8, some v0)), some (.inr (8, v1)), none]) (by decide +kernel) rfl (fun h => by cases h) (Nat.le_of_ble_eq_true rfl) rfl ?_
  unfold f8_copyFrom
  refine k_aloadn (j := 0) dX8_copyFrom_0 rfl rfl ?_
  refine k_aloadn (j := 1) dX8_copyFrom_1 rfl rfl ?_
  rcases v1 with _ | a52
  · exact k_ocn
  refine k_ocs ?_
  refine k_geti fg_8_17 rfl rfl dX8_copyFrom_2 ?_
  refine k_puti fp_8_17 rfl rfl dX8_copyFrom_5 (fun g53 => ?_)
  refine k_iconst (v := (0 : Int32)) dX8_copyFrom_8 rfl ?_
  refine k_istn (j := 2) (L' := [some (.inr (8, some v0)), some (.inr (8, some a52)), some (.inl (0 : Int32))]) dX8_copyFrom_9 rfl (by decide) rfl ?_
  exact t8_copyFrom_b10 FU_ v0 (some a52) (0 : Int32) g53
theorem dX8_keepDocument_0 : decode cX8_keepDocument 0 = .ok (.aload_n 0, 1) := by decide +kernel
theorem dX8_keepDocument_1 : decode cX8_keepDocument 1 = .ok (.getfield 17, 3) := by decide +kernel
theorem dX8_keepDocument_4 : decode cX8_keepDocument 4 = .ok (.ifCond .lt 15, 3) := by decide +kernel
theorem dX8_keepDocument_7 : decode cX8_keepDocument 7 = .ok (.aload_n 0, 1) := by decide +kernel
theorem dX8_keepDocument_8 : decode cX8_keepDocument 8 = .ok (.getfield 17, 3) := by decide +kernel
theorem dX8_keepDocument_11 : decode cX8_keepDocument 11 = .ok (.aload_n 0, 1) := by decide +kernel
theorem dX8_keepDocument_12 : decode cX8_keepDocument 12 = .ok (.getfield 11, 3) := by decide +kernel
theorem dX8_keepDocument_15 : decode cX8_keepDocument 15 = .ok (.arraylength, 1) := by decide +kernel
theorem dX8_keepDocument_16 : decode cX8_keepDocument 16 = .ok (.if_icmp .lt 6, 3) := by decide +kernel
theorem dX8_keepDocument_19 : decode cX8_keepDocument 19 = .ok (.bipush (-4), 2) := by decide +kernel
theorem dX8_keepDocument_21 : decode cX8_keepDocument 21 = .ok (.ireturn, 1) := by decide +kernel
theorem dX8_keepDocument_22 : decode cX8_keepDocument 22 = .ok (.aload_n 0, 1) := by decide +kernel
theorem dX8_keepDocument_23 : decode cX8_keepDocument 23 = .ok (.getfield 11, 3) := by decide +kernel
theorem dX8_keepDocument_26 : decode cX8_keepDocument 26 = .ok (.aload_n 0, 1) := by decide +kernel
theorem dX8_keepDocument_27 : decode cX8_keepDocument 27 = .ok (.getfield 17, 3) := by decide +kernel
theorem dX8_keepDocument_30 : decode cX8_keepDocument 30 = .ok (.aload_n 1, 1) := by decide +kernel
theorem dX8_keepDocument_31 : decode cX8_keepDocument 31 = .ok (.aastore, 1) := by decide +kernel
theorem dX8_keepDocument_32 : decode cX8_keepDocument 32 = .ok (.aload_n 0, 1) := by decide +kernel
theorem dX8_keepDocument_33 : decode cX8_keepDocument 33 = .ok (.dup, 1) := by decide +kernel
theorem dX8_keepDocument_34 : decode cX8_keepDocument 34 = .ok (.getfield 17, 3) := by decide +kernel
theorem dX8_keepDocument_37 : decode cX8_keepDocument 37 = .ok (.iconst 1, 1) := by decide +kernel
theorem dX8_keepDocument_38 : decode cX8_keepDocument 38 = .ok (.iadd, 1) := by decide +kernel
theorem dX8_keepDocument_39 : decode cX8_keepDocument 39 = .ok (.putfield 17, 3) := by decide +kernel
theorem dX8_keepDocument_42 : decode cX8_keepDocument 42 = .ok (.aload_n 0, 1) := by decide +kernel
theorem dX8_keepDocument_43 : decode cX8_keepDocument 43 = .ok (.getfield 17, 3) := by decide +kernel
theorem dX8_keepDocument_46 : decode cX8_keepDocument 46 = .ok (.iconst 1, 1) := by decide +kernel
theorem dX8_keepDocument_47 : decode cX8_keepDocument 47 = .ok (.isub, 1) := by decide +kernel
theorem dX8_keepDocument_48 : decode cX8_keepDocument 48 = .ok (.ireturn, 1) := by decide +kernel
def f8_keepDocument (v0 : Nat) (v1 : Option Nat) (g : GS_) : Option (Int32 × GS_) :=
  if (gfi g 257 v0) < 0 then some ((-4 : Int32), g) else lr_ (gfr g 256 v0) fun x1 => oc_ x1 none fun a2 => if (gfi g 257 v0) < (Int32.ofNat (gln g 22 a2)) then lr_ (gfr g 256 v0) fun x3 => oc_ x3 none fun a4 => if inb (gfi g 257 v0) (gln g 22 a4) then lr_ (sar g 22 a4 (gfi g 257 v0).toInt.toNat v1) (fun g5 => lr_ (sfi g5 257 v0 ((gfi g5 257 v0) + (1 : Int32))) fun g6 => some (((gfi g6 257 v0) - (1 : Int32)), g6)) else none else some ((-4 : Int32), g)
theorem t8_keepDocument (v0 : Nat) (v1 : Option Nat) (g : GS_) : Cn_ yX8_keepDocument cX8_keepDocument 2 (some .int) 0 0 EI_ [.inr (8, some v0), .inr (0, v1)] g (f8_keepDocument v0 v1 g) := by
  refine k_method (own := RX8) (ini := false) (L1 := [some (.inr (8, some v0)), some (.inr (0, v1))]) (by decide +kernel) rfl (fun h => by cases h) (Nat.le_of_ble_eq_true rfl) rfl ?_
  unfold f8_keepDocument
  refine k_aloadn (j := 0) dX8_keepDocument_0 rfl rfl ?_
  refine k_geti fg_8_17 rfl rfl dX8_keepDocument_1 ?_
  refine k_iflt (tgt := 19) dX8_keepDocument_4 (by decide) (fun _ => ?_) (fun _ => ?_)
  · refine k_bipush (v := (-4 : Int32)) dX8_keepDocument_19 rfl ?_
    exact k_ireturn rfl dX8_keepDocument_21
  refine k_aloadn (j := 0) dX8_keepDocument_7 rfl rfl ?_
  refine k_geti fg_8_17 rfl rfl dX8_keepDocument_8 ?_
  refine k_aloadn (j := 0) dX8_keepDocument_11 rfl rfl ?_
  refine k_getr fg_8_11 rfl rfl dX8_keepDocument_12 (fun x1 => ?_)
  rcases x1 with _ | a2
  · exact k_ocn
  refine k_ocs ?_
  refine k_alen dX8_keepDocument_15 (by decide) ?_
  refine k_icmplt (tgt := 22) dX8_keepDocument_16 (by decide) (fun _ => ?_) (fun _ => ?_)
  · refine k_aloadn (j := 0) dX8_keepDocument_22 rfl rfl ?_
    refine k_getr fg_8_11 rfl rfl dX8_keepDocument_23 (fun x3 => ?_)
    refine k_aloadn (j := 0) dX8_keepDocument_26 rfl rfl ?_
    refine k_geti fg_8_17 rfl rfl dX8_keepDocument_27 ?_
    refine k_aloadn (j := 1) dX8_keepDocument_30 rfl rfl ?_
    rcases x3 with _ | a4
    · exact k_ocn
    refine k_ocs ?_
    refine k_aastq rfl dX8_keepDocument_31 (fun g5 => ?_)
    refine k_aloadn (j := 0) dX8_keepDocument_32 rfl rfl ?_
    refine k_dup dX8_keepDocument_33 ?_
    refine k_geti fg_8_17 rfl rfl dX8_keepDocument_34 ?_
    refine k_iconst (v := (1 : Int32)) dX8_keepDocument_37 rfl ?_
    refine k_iadd dX8_keepDocument_38 ?_
    refine k_puti fp_8_17 rfl rfl dX8_keepDocument_39 (fun g6 => ?_)
    refine k_aloadn (j := 0) dX8_keepDocument_42 rfl rfl ?_
    refine k_geti fg_8_17 rfl rfl dX8_keepDocument_43 ?_
    refine k_iconst (v := (1 : Int32)) dX8_keepDocument_46 rfl ?_
    refine k_isub dX8_keepDocument_47 ?_
    exact k_ireturn rfl dX8_keepDocument_48
  refine k_bipush (v := (-4 : Int32)) dX8_keepDocument_19 rfl ?_
  exact k_ireturn rfl dX8_keepDocument_21
theorem dX8_keepJob_0 : decode cX8_keepJob 0 = .ok (.aload_n 0, 1) := by decide +kernel
theorem dX8_keepJob_1 : decode cX8_keepJob 1 = .ok (.getfield 27, 3) := by decide +kernel
theorem dX8_keepJob_4 : decode cX8_keepJob 4 = .ok (.ifCond .lt 15, 3) := by decide +kernel
theorem dX8_keepJob_7 : decode cX8_keepJob 7 = .ok (.aload_n 0, 1) := by decide +kernel
theorem dX8_keepJob_8 : decode cX8_keepJob 8 = .ok (.getfield 27, 3) := by decide +kernel
theorem dX8_keepJob_11 : decode cX8_keepJob 11 = .ok (.aload_n 0, 1) := by decide +kernel
theorem dX8_keepJob_12 : decode cX8_keepJob 12 = .ok (.getfield 23, 3) := by decide +kernel
theorem dX8_keepJob_15 : decode cX8_keepJob 15 = .ok (.arraylength, 1) := by decide +kernel
theorem dX8_keepJob_16 : decode cX8_keepJob 16 = .ok (.if_icmp .lt 6, 3) := by decide +kernel
theorem dX8_keepJob_19 : decode cX8_keepJob 19 = .ok (.bipush (-4), 2) := by decide +kernel
theorem dX8_keepJob_21 : decode cX8_keepJob 21 = .ok (.ireturn, 1) := by decide +kernel
theorem dX8_keepJob_22 : decode cX8_keepJob 22 = .ok (.aload_n 0, 1) := by decide +kernel
theorem dX8_keepJob_23 : decode cX8_keepJob 23 = .ok (.getfield 23, 3) := by decide +kernel
theorem dX8_keepJob_26 : decode cX8_keepJob 26 = .ok (.aload_n 0, 1) := by decide +kernel
theorem dX8_keepJob_27 : decode cX8_keepJob 27 = .ok (.getfield 27, 3) := by decide +kernel
theorem dX8_keepJob_30 : decode cX8_keepJob 30 = .ok (.aaload, 1) := by decide +kernel
theorem dX8_keepJob_31 : decode cX8_keepJob 31 = .ok (.astore_n 2, 1) := by decide +kernel
theorem dX8_keepJob_32 : decode cX8_keepJob 32 = .ok (.aload_n 2, 1) := by decide +kernel
theorem dX8_keepJob_33 : decode cX8_keepJob 33 = .ok (.ifnonnull 26, 3) := by decide +kernel
theorem dX8_keepJob_36 : decode cX8_keepJob 36 = .ok (.new 21, 3) := by decide +kernel
theorem dX8_keepJob_39 : decode cX8_keepJob 39 = .ok (.dup, 1) := by decide +kernel
theorem dX8_keepJob_40 : decode cX8_keepJob 40 = .ok (.aload_n 0, 1) := by decide +kernel
theorem dX8_keepJob_41 : decode cX8_keepJob 41 = .ok (.getfield 27, 3) := by decide +kernel
theorem dX8_keepJob_44 : decode cX8_keepJob 44 = .ok (.aload_n 1, 1) := by decide +kernel
theorem dX8_keepJob_45 : decode cX8_keepJob 45 = .ok (.invokespecial 83, 3) := by decide +kernel
theorem dX8_keepJob_48 : decode cX8_keepJob 48 = .ok (.astore_n 2, 1) := by decide +kernel
theorem dX8_keepJob_49 : decode cX8_keepJob 49 = .ok (.aload_n 0, 1) := by decide +kernel
theorem dX8_keepJob_50 : decode cX8_keepJob 50 = .ok (.getfield 23, 3) := by decide +kernel
theorem dX8_keepJob_53 : decode cX8_keepJob 53 = .ok (.aload_n 0, 1) := by decide +kernel
theorem dX8_keepJob_54 : decode cX8_keepJob 54 = .ok (.getfield 27, 3) := by decide +kernel
theorem dX8_keepJob_57 : decode cX8_keepJob 57 = .ok (.aload_n 2, 1) := by decide +kernel
theorem dX8_keepJob_58 : decode cX8_keepJob 58 = .ok (.aastore, 1) := by decide +kernel
theorem dX8_keepJob_59 : decode cX8_keepJob 59 = .ok (.aload_n 2, 1) := by decide +kernel
theorem dX8_keepJob_60 : decode cX8_keepJob 60 = .ok (.aload_n 1, 1) := by decide +kernel
theorem dX8_keepJob_61 : decode cX8_keepJob 61 = .ok (.aload_n 0, 1) := by decide +kernel
theorem dX8_keepJob_62 : decode cX8_keepJob 62 = .ok (.iconst 4, 1) := by decide +kernel
theorem dX8_keepJob_63 : decode cX8_keepJob 63 = .ok (.invokevirtual 86, 3) := by decide +kernel
theorem dX8_keepJob_66 : decode cX8_keepJob 66 = .ok (.aload_n 0, 1) := by decide +kernel
theorem dX8_keepJob_67 : decode cX8_keepJob 67 = .ok (.getfield 75, 3) := by decide +kernel
theorem dX8_keepJob_70 : decode cX8_keepJob 70 = .ok (.invokevirtual 90, 3) := by decide +kernel
theorem dX8_keepJob_73 : decode cX8_keepJob 73 = .ok (.aload_n 0, 1) := by decide +kernel
theorem dX8_keepJob_74 : decode cX8_keepJob 74 = .ok (.dup, 1) := by decide +kernel
theorem dX8_keepJob_75 : decode cX8_keepJob 75 = .ok (.getfield 27, 3) := by decide +kernel
theorem dX8_keepJob_78 : decode cX8_keepJob 78 = .ok (.iconst 1, 1) := by decide +kernel
theorem dX8_keepJob_79 : decode cX8_keepJob 79 = .ok (.iadd, 1) := by decide +kernel
theorem dX8_keepJob_80 : decode cX8_keepJob 80 = .ok (.putfield 27, 3) := by decide +kernel
theorem dX8_keepJob_83 : decode cX8_keepJob 83 = .ok (.aload_n 0, 1) := by decide +kernel
theorem dX8_keepJob_84 : decode cX8_keepJob 84 = .ok (.getfield 27, 3) := by decide +kernel
theorem dX8_keepJob_87 : decode cX8_keepJob 87 = .ok (.iconst 1, 1) := by decide +kernel
theorem dX8_keepJob_88 : decode cX8_keepJob 88 = .ok (.isub, 1) := by decide +kernel
theorem dX8_keepJob_89 : decode cX8_keepJob 89 = .ok (.ireturn, 1) := by decide +kernel
def f8_keepJob_b59 (v0 : Nat) (v1 : Option Nat) (v2 : Option Nat) (g : GS_) : Option (Int32 × GS_) :=
  bd_ (f8_settingAt v0 (4 : Int32) g) fun z2 g1 => oc_ v2 none fun a3 => bd_ (f1_beginLife a3 v1 z2 (gfi g1 271 v0) g1) fun _ g4 => lr_ (sfi g4 259 v0 ((gfi g4 259 v0) + (1 : Int32))) fun g5 => some (((gfi g5 259 v0) - (1 : Int32)), g5)
theorem t8_keepJob_b59 (v0 : Nat) (v1 : Option Nat) (v2 : Option Nat) (g : GS_) : K_ RX8 cX8_keepJob 3 (some .int) 2 44 false EI_ 59 [some (.inr (8, some v0)), some (.inr (4, v1)), some (.inr (1, v2))] [] g (f8_keepJob_b59 v0 v1 v2 g) := by
  unfold f8_keepJob_b59
  refine k_aloadn (j := 2) dX8_keepJob_59 rfl rfl ?_
  refine k_aloadn (j := 1) dX8_keepJob_60 rfl rfl ?_
  refine k_aloadn (j := 0) dX8_keepJob_61 rfl rfl ?_
  refine k_iconst (v := (4 : Int32)) dX8_keepJob_62 rfl ?_
  refine k_callVi [.inl (4 : Int32)] (t8_settingAt v0 (4 : Int32) g) cw_cX8_settingAt (Or.inl ml_8_86) rfl rfl (by decide) (by decide) (Nat.le_of_ble_eq_true rfl) dX8_keepJob_63 (fun z2 g1 => ?_)
  refine k_aloadn (j := 0) dX8_keepJob_66 rfl rfl ?_
  refine k_geti fg_8_75 rfl rfl dX8_keepJob_67 ?_
  rcases v2 with _ | a3
  · exact k_ocn
  refine k_ocs ?_
  refine k_callVv [.inr (4, v1), .inl z2, .inl (gfi g1 271 v0)] (t1_beginLife a3 v1 z2 (gfi g1 271 v0) g1) cw_cX1_beginLife (Or.inl ml_8_90) rfl rfl (by decide) (by decide) (Nat.le_of_ble_eq_true rfl) dX8_keepJob_70 (fun _ g4 => ?_)
  refine k_aloadn (j := 0) dX8_keepJob_73 rfl rfl ?_
  refine k_dup dX8_keepJob_74 ?_
  refine k_geti fg_8_27 rfl rfl dX8_keepJob_75 ?_
  refine k_iconst (v := (1 : Int32)) dX8_keepJob_78 rfl ?_
  refine k_iadd dX8_keepJob_79 ?_
  refine k_puti fp_8_27 rfl rfl dX8_keepJob_80 (fun g5 => ?_)
  refine k_aloadn (j := 0) dX8_keepJob_83 rfl rfl ?_
  refine k_geti fg_8_27 rfl rfl dX8_keepJob_84 ?_
  refine k_iconst (v := (1 : Int32)) dX8_keepJob_87 rfl ?_
  refine k_isub dX8_keepJob_88 ?_
  exact k_ireturn rfl dX8_keepJob_89
def f8_keepJob (v0 : Nat) (v1 : Option Nat) (g : GS_) : Option (Int32 × GS_) :=
  if (gfi g 259 v0) < 0 then some ((-4 : Int32), g) else lr_ (gfr g 258 v0) fun x6 => oc_ x6 none fun a7 => if (gfi g 259 v0) < (Int32.ofNat (gln g 23 a7)) then lr_ (gfr g 258 v0) fun x8 => oc_ x8 none fun a9 => if inb (gfi g 259 v0) (gln g 23 a9) then lr_ (gar g 23 a9 (gfi g 259 v0).toInt.toNat) (fun x10 => oc_ x10 (no_ g 1 7 fun a12 g13 => bd_ (f1_init a12 (gfi g13 259 v0) v1 g13) fun _ g14 => lr_ (gfr g14 258 v0) fun x15 => oc_ x15 none fun a16 => if inb (gfi g14 259 v0) (gln g14 23 a16) then lr_ (sar g14 23 a16 (gfi g14 259 v0).toInt.toNat (some a12)) (fun g17 => f8_keepJob_b59 v0 v1 (some a12) g17) else none) fun a11 => f8_keepJob_b59 v0 v1 (some a11) g) else none else some ((-4 : Int32), g)
theorem t8_keepJob (v0 : Nat) (v1 : Option Nat) (g : GS_) : Cn_ yX8_keepJob cX8_keepJob 3 (some .int) 2 44 EI_ [.inr (8, some v0), .inr (4, v1)] g (f8_keepJob v0 v1 g) := by
  refine k_method (own := RX8) (ini := false) (L1 := [some (.inr (8, some v0)), some (.inr (4, v1)), none]) (by decide +kernel) rfl (fun h => by cases h) (Nat.le_of_ble_eq_true rfl) rfl ?_
  unfold f8_keepJob
  refine k_aloadn (j := 0) dX8_keepJob_0 rfl rfl ?_
  refine k_geti fg_8_27 rfl rfl dX8_keepJob_1 ?_
  refine k_iflt (tgt := 19) dX8_keepJob_4 (by decide) (fun _ => ?_) (fun _ => ?_)
  · refine k_bipush (v := (-4 : Int32)) dX8_keepJob_19 rfl ?_
    exact k_ireturn rfl dX8_keepJob_21
  refine k_aloadn (j := 0) dX8_keepJob_7 rfl rfl ?_
  refine k_geti fg_8_27 rfl rfl dX8_keepJob_8 ?_
  refine k_aloadn (j := 0) dX8_keepJob_11 rfl rfl ?_
  refine k_getr fg_8_23 rfl rfl dX8_keepJob_12 (fun x6 => ?_)
  rcases x6 with _ | a7
  · exact k_ocn
  refine k_ocs ?_
  refine k_alen dX8_keepJob_15 (by decide) ?_
  refine k_icmplt (tgt := 22) dX8_keepJob_16 (by decide) (fun _ => ?_) (fun _ => ?_)
  · refine k_aloadn (j := 0) dX8_keepJob_22 rfl rfl ?_
    refine k_getr fg_8_23 rfl rfl dX8_keepJob_23 (fun x8 => ?_)
    refine k_aloadn (j := 0) dX8_keepJob_26 rfl rfl ?_
    refine k_geti fg_8_27 rfl rfl dX8_keepJob_27 ?_
    rcases x8 with _ | a9
    · exact k_ocn
    refine k_ocs ?_
    refine k_aald rfl dX8_keepJob_30 (fun x10 => ?_)
    refine k_astn (j := 2) (L' := [some (.inr (8, some v0)), some (.inr (4, v1)), some (.inr (1, x10))]) dX8_keepJob_31 rfl (by decide) rfl ?_
    refine k_aloadn (j := 2) dX8_keepJob_32 rfl rfl ?_
    rcases x10 with _ | a11
    · refine k_ifnonnulln dX8_keepJob_33 ?_
      refine k_new cf_1 cl_8_21 (in_1).1 (in_1).2 dX8_keepJob_36 (fun a12 g13 => ?_)
      refine k_dup dX8_keepJob_39 ?_
      refine k_aloadn (j := 0) dX8_keepJob_40 rfl rfl ?_
      refine k_geti fg_8_27 rfl rfl dX8_keepJob_41 ?_
      refine k_aloadn (j := 1) dX8_keepJob_44 rfl rfl ?_
      refine k_callIv [.inl (gfi g13 259 v0), .inr (4, v1)] (t1_init a12 (gfi g13 259 v0) v1 g13) cw_cX1_init (Or.inl ml_8_83) rfl rfl (by decide) (by decide) (Nat.le_of_ble_eq_true rfl) dX8_keepJob_45 (fun _ g14 => ?_)
      refine k_astn (j := 2) (L' := [some (.inr (8, some v0)), some (.inr (4, v1)), some (.inr (1, some a12))]) dX8_keepJob_48 rfl (by decide) rfl ?_
      refine k_aloadn (j := 0) dX8_keepJob_49 rfl rfl ?_
      refine k_getr fg_8_23 rfl rfl dX8_keepJob_50 (fun x15 => ?_)
      refine k_aloadn (j := 0) dX8_keepJob_53 rfl rfl ?_
      refine k_geti fg_8_27 rfl rfl dX8_keepJob_54 ?_
      refine k_aloadn (j := 2) dX8_keepJob_57 rfl rfl ?_
      rcases x15 with _ | a16
      · exact k_ocn
      refine k_ocs ?_
      refine k_aast rfl dX8_keepJob_58 (fun g17 => ?_)
      exact t8_keepJob_b59 v0 v1 (some a12) g17
    refine k_ifnonnulls (tgt := 59) dX8_keepJob_33 (by decide) ?_
    exact t8_keepJob_b59 v0 v1 (some a11) g
  refine k_bipush (v := (-4 : Int32)) dX8_keepJob_19 rfl ?_
  exact k_ireturn rfl dX8_keepJob_21
theorem dX8_keepPrinter_0 : decode cX8_keepPrinter 0 = .ok (.aload_n 0, 1) := by decide +kernel
theorem dX8_keepPrinter_1 : decode cX8_keepPrinter 1 = .ok (.getfield 36, 3) := by decide +kernel
theorem dX8_keepPrinter_4 : decode cX8_keepPrinter 4 = .ok (.ifCond .lt 15, 3) := by decide +kernel
theorem dX8_keepPrinter_7 : decode cX8_keepPrinter 7 = .ok (.aload_n 0, 1) := by decide +kernel
theorem dX8_keepPrinter_8 : decode cX8_keepPrinter 8 = .ok (.getfield 36, 3) := by decide +kernel
theorem dX8_keepPrinter_11 : decode cX8_keepPrinter 11 = .ok (.aload_n 0, 1) := by decide +kernel
theorem dX8_keepPrinter_12 : decode cX8_keepPrinter 12 = .ok (.getfield 32, 3) := by decide +kernel
theorem dX8_keepPrinter_15 : decode cX8_keepPrinter 15 = .ok (.arraylength, 1) := by decide +kernel
theorem dX8_keepPrinter_16 : decode cX8_keepPrinter 16 = .ok (.if_icmp .lt 6, 3) := by decide +kernel
theorem dX8_keepPrinter_19 : decode cX8_keepPrinter 19 = .ok (.bipush (-4), 2) := by decide +kernel
theorem dX8_keepPrinter_21 : decode cX8_keepPrinter 21 = .ok (.ireturn, 1) := by decide +kernel
theorem dX8_keepPrinter_22 : decode cX8_keepPrinter 22 = .ok (.aload_n 0, 1) := by decide +kernel
theorem dX8_keepPrinter_23 : decode cX8_keepPrinter 23 = .ok (.getfield 32, 3) := by decide +kernel
theorem dX8_keepPrinter_26 : decode cX8_keepPrinter 26 = .ok (.aload_n 0, 1) := by decide +kernel
theorem dX8_keepPrinter_27 : decode cX8_keepPrinter 27 = .ok (.getfield 36, 3) := by decide +kernel
theorem dX8_keepPrinter_30 : decode cX8_keepPrinter 30 = .ok (.aaload, 1) := by decide +kernel
theorem dX8_keepPrinter_31 : decode cX8_keepPrinter 31 = .ok (.astore 4, 2) := by decide +kernel
theorem dX8_keepPrinter_33 : decode cX8_keepPrinter 33 = .ok (.aload 4, 2) := by decide +kernel
theorem dX8_keepPrinter_35 : decode cX8_keepPrinter 35 = .ok (.ifnonnull 6, 3) := by decide +kernel
theorem dX8_keepPrinter_38 : decode cX8_keepPrinter 38 = .ok (.bipush (-4), 2) := by decide +kernel
theorem dX8_keepPrinter_40 : decode cX8_keepPrinter 40 = .ok (.ireturn, 1) := by decide +kernel
theorem dX8_keepPrinter_41 : decode cX8_keepPrinter 41 = .ok (.aload 4, 2) := by decide +kernel
theorem dX8_keepPrinter_43 : decode cX8_keepPrinter 43 = .ok (.iload_n 1, 1) := by decide +kernel
theorem dX8_keepPrinter_44 : decode cX8_keepPrinter 44 = .ok (.iload_n 2, 1) := by decide +kernel
theorem dX8_keepPrinter_45 : decode cX8_keepPrinter 45 = .ok (.iload_n 3, 1) := by decide +kernel
theorem dX8_keepPrinter_46 : decode cX8_keepPrinter 46 = .ok (.invokevirtual 94, 3) := by decide +kernel
theorem dX8_keepPrinter_49 : decode cX8_keepPrinter 49 = .ok (.aload_n 0, 1) := by decide +kernel
theorem dX8_keepPrinter_50 : decode cX8_keepPrinter 50 = .ok (.dup, 1) := by decide +kernel
theorem dX8_keepPrinter_51 : decode cX8_keepPrinter 51 = .ok (.getfield 36, 3) := by decide +kernel
theorem dX8_keepPrinter_54 : decode cX8_keepPrinter 54 = .ok (.iconst 1, 1) := by decide +kernel
theorem dX8_keepPrinter_55 : decode cX8_keepPrinter 55 = .ok (.iadd, 1) := by decide +kernel
theorem dX8_keepPrinter_56 : decode cX8_keepPrinter 56 = .ok (.putfield 36, 3) := by decide +kernel
theorem dX8_keepPrinter_59 : decode cX8_keepPrinter 59 = .ok (.aload_n 0, 1) := by decide +kernel
theorem dX8_keepPrinter_60 : decode cX8_keepPrinter 60 = .ok (.getfield 36, 3) := by decide +kernel
theorem dX8_keepPrinter_63 : decode cX8_keepPrinter 63 = .ok (.iconst 1, 1) := by decide +kernel
theorem dX8_keepPrinter_64 : decode cX8_keepPrinter 64 = .ok (.isub, 1) := by decide +kernel
theorem dX8_keepPrinter_65 : decode cX8_keepPrinter 65 = .ok (.ireturn, 1) := by decide +kernel
def f8_keepPrinter (v0 : Nat) (v1 : Int32) (v2 : Int32) (v3 : Int32) (g : GS_) : Option (Int32 × GS_) :=
  if (gfi g 261 v0) < 0 then some ((-4 : Int32), g) else lr_ (gfr g 260 v0) fun x1 => oc_ x1 none fun a2 => if (gfi g 261 v0) < (Int32.ofNat (gln g 24 a2)) then lr_ (gfr g 260 v0) fun x3 => oc_ x3 none fun a4 => if inb (gfi g 261 v0) (gln g 24 a4) then lr_ (gar g 24 a4 (gfi g 261 v0).toInt.toNat) (fun x5 => oc_ x5 (some ((-4 : Int32), g)) fun a6 => bd_ (f5_beginLife a6 v1 v2 v3 g) fun _ g7 => lr_ (sfi g7 261 v0 ((gfi g7 261 v0) + (1 : Int32))) fun g8 => some (((gfi g8 261 v0) - (1 : Int32)), g8)) else none else some ((-4 : Int32), g)
theorem t8_keepPrinter (v0 : Nat) (v1 : Int32) (v2 : Int32) (v3 : Int32) (g : GS_) : Cn_ yX8_keepPrinter cX8_keepPrinter 5 (some .int) 1 24 EI_ [.inr (8, some v0), .inl v1, .inl v2, .inl v3] g (f8_keepPrinter v0 v1 v2 v3 g) := by
  refine k_method (own := RX8) (ini := false) (L1 := [some (.inr (8, some v0)), some (.inl v1), some (.inl v2), some (.inl v3), none]) (by decide +kernel) rfl (fun h => by cases h) (Nat.le_of_ble_eq_true rfl) rfl ?_
  unfold f8_keepPrinter
  refine k_aloadn (j := 0) dX8_keepPrinter_0 rfl rfl ?_
  refine k_geti fg_8_36 rfl rfl dX8_keepPrinter_1 ?_
  refine k_iflt (tgt := 19) dX8_keepPrinter_4 (by decide) (fun _ => ?_) (fun _ => ?_)
  · refine k_bipush (v := (-4 : Int32)) dX8_keepPrinter_19 rfl ?_
    exact k_ireturn rfl dX8_keepPrinter_21
  refine k_aloadn (j := 0) dX8_keepPrinter_7 rfl rfl ?_
  refine k_geti fg_8_36 rfl rfl dX8_keepPrinter_8 ?_
  refine k_aloadn (j := 0) dX8_keepPrinter_11 rfl rfl ?_
  refine k_getr fg_8_32 rfl rfl dX8_keepPrinter_12 (fun x1 => ?_)
  rcases x1 with _ | a2
  · exact k_ocn
  refine k_ocs ?_
  refine k_alen dX8_keepPrinter_15 (by decide) ?_
  refine k_icmplt (tgt := 22) dX8_keepPrinter_16 (by decide) (fun _ => ?_) (fun _ => ?_)
  · refine k_aloadn (j := 0) dX8_keepPrinter_22 rfl rfl ?_
    refine k_getr fg_8_32 rfl rfl dX8_keepPrinter_23 (fun x3 => ?_)
    refine k_aloadn (j := 0) dX8_keepPrinter_26 rfl rfl ?_
    refine k_geti fg_8_36 rfl rfl dX8_keepPrinter_27 ?_
    rcases x3 with _ | a4
    · exact k_ocn
    refine k_ocs ?_
    refine k_aald rfl dX8_keepPrinter_30 (fun x5 => ?_)
    refine k_ast (L' := [some (.inr (8, some v0)), some (.inl v1), some (.inl v2), some (.inl v3), some (.inr (5, x5))]) dX8_keepPrinter_31 (by decide) rfl ?_
    refine k_aload dX8_keepPrinter_33 rfl ?_
    rcases x5 with _ | a6
    · refine k_ifnonnulln dX8_keepPrinter_35 ?_
      refine k_bipush (v := (-4 : Int32)) dX8_keepPrinter_38 rfl ?_
      exact k_ireturn rfl dX8_keepPrinter_40
    refine k_ifnonnulls (tgt := 41) dX8_keepPrinter_35 (by decide) ?_
    refine k_aload dX8_keepPrinter_41 rfl ?_
    refine k_iloadn (j := 1) dX8_keepPrinter_43 rfl rfl ?_
    refine k_iloadn (j := 2) dX8_keepPrinter_44 rfl rfl ?_
    refine k_iloadn (j := 3) dX8_keepPrinter_45 rfl rfl ?_
    refine k_callVv [.inl v1, .inl v2, .inl v3] (t5_beginLife a6 v1 v2 v3 g) cw_cX5_beginLife (Or.inl ml_8_94) rfl rfl (by decide) (by decide) (Nat.le_of_ble_eq_true rfl) dX8_keepPrinter_46 (fun _ g7 => ?_)
    refine k_aloadn (j := 0) dX8_keepPrinter_49 rfl rfl ?_
    refine k_dup dX8_keepPrinter_50 ?_
    refine k_geti fg_8_36 rfl rfl dX8_keepPrinter_51 ?_
    refine k_iconst (v := (1 : Int32)) dX8_keepPrinter_54 rfl ?_
    refine k_iadd dX8_keepPrinter_55 ?_
    refine k_puti fp_8_36 rfl rfl dX8_keepPrinter_56 (fun g8 => ?_)
    refine k_aloadn (j := 0) dX8_keepPrinter_59 rfl rfl ?_
    refine k_geti fg_8_36 rfl rfl dX8_keepPrinter_60 ?_
    refine k_iconst (v := (1 : Int32)) dX8_keepPrinter_63 rfl ?_
    refine k_isub dX8_keepPrinter_64 ?_
    exact k_ireturn rfl dX8_keepPrinter_65
  refine k_bipush (v := (-4 : Int32)) dX8_keepPrinter_19 rfl ?_
  exact k_ireturn rfl dX8_keepPrinter_21
theorem dX8_changeSetting_0 : decode cX8_changeSetting 0 = .ok (.iload_n 1, 1) := by decide +kernel
theorem dX8_changeSetting_1 : decode cX8_changeSetting 1 = .ok (.ifCond .lt 19, 3) := by decide +kernel
theorem dX8_changeSetting_4 : decode cX8_changeSetting 4 = .ok (.iload_n 1, 1) := by decide +kernel
theorem dX8_changeSetting_5 : decode cX8_changeSetting 5 = .ok (.aload_n 0, 1) := by decide +kernel
theorem dX8_changeSetting_6 : decode cX8_changeSetting 6 = .ok (.getfield 46, 3) := by decide +kernel
theorem dX8_changeSetting_9 : decode cX8_changeSetting 9 = .ok (.arraylength, 1) := by decide +kernel
theorem dX8_changeSetting_10 : decode cX8_changeSetting 10 = .ok (.if_icmp .ge 10, 3) := by decide +kernel
theorem dX8_changeSetting_13 : decode cX8_changeSetting 13 = .ok (.aload_n 0, 1) := by decide +kernel
theorem dX8_changeSetting_14 : decode cX8_changeSetting 14 = .ok (.getfield 46, 3) := by decide +kernel
theorem dX8_changeSetting_17 : decode cX8_changeSetting 17 = .ok (.iload_n 1, 1) := by decide +kernel
theorem dX8_changeSetting_18 : decode cX8_changeSetting 18 = .ok (.iload_n 2, 1) := by decide +kernel
theorem dX8_changeSetting_19 : decode cX8_changeSetting 19 = .ok (.iastore, 1) := by decide +kernel
theorem dX8_changeSetting_20 : decode cX8_changeSetting 20 = .ok (.return_, 1) := by decide +kernel
def f8_changeSetting (v0 : Nat) (v1 : Int32) (v2 : Int32) (g : GS_) : Option (Unit × GS_) :=
  if v1 < 0 then some ((), g) else lr_ (gfr g 263 v0) fun x1 => oc_ x1 none fun a2 => if (Int32.ofNat (gln g 20 a2)) ≤ v1 then some ((), g) else lr_ (gfr g 263 v0) fun x3 => oc_ x3 none fun a4 => if inb v1 (gln g 20 a4) then lr_ (sai g 20 a4 v1.toInt.toNat v2) (fun g5 => some ((), g5)) else none
theorem t8_changeSetting (v0 : Nat) (v1 : Int32) (v2 : Int32) (g : GS_) : Cn_ yX8_changeSetting cX8_changeSetting 3 none 0 0 EV_ [.inr (8, some v0), .inl v1, .inl v2] g (f8_changeSetting v0 v1 v2 g) := by
  refine k_method (own := RX8) (ini := false) (L1 := [some (.inr (8, some v0)), some (.inl v1), some (.inl v2)]) (by decide +kernel) rfl (fun h => by cases h) (Nat.le_of_ble_eq_true rfl) rfl ?_
  unfold f8_changeSetting
  refine k_iloadn (j := 1) dX8_changeSetting_0 rfl rfl ?_
  refine k_iflt (tgt := 20) dX8_changeSetting_1 (by decide) (fun _ => ?_) (fun _ => ?_)
  · exact k_return rfl dX8_changeSetting_20
  refine k_iloadn (j := 1) dX8_changeSetting_4 rfl rfl ?_
  refine k_aloadn (j := 0) dX8_changeSetting_5 rfl rfl ?_
  refine k_getr fg_8_46 rfl rfl dX8_changeSetting_6 (fun x1 => ?_)
  rcases x1 with _ | a2
  · exact k_ocn
  refine k_ocs ?_
  refine k_alen dX8_changeSetting_9 (by decide) ?_
  refine k_icmpge (tgt := 20) dX8_changeSetting_10 (by decide) (fun _ => ?_) (fun _ => ?_)
  · exact k_return rfl dX8_changeSetting_20
  refine k_aloadn (j := 0) dX8_changeSetting_13 rfl rfl ?_
  refine k_getr fg_8_46 rfl rfl dX8_changeSetting_14 (fun x3 => ?_)
  refine k_iloadn (j := 1) dX8_changeSetting_17 rfl rfl ?_
  refine k_iloadn (j := 2) dX8_changeSetting_18 rfl rfl ?_
  rcases x3 with _ | a4
  · exact k_ocn
  refine k_ocs ?_
  refine k_iast dX8_changeSetting_19 (fun g5 => ?_)
  exact k_return rfl dX8_changeSetting_20
theorem dX9_about_0 : decode cX9_about 0 = .ok (.aload_n 0, 1) := by decide +kernel
theorem dX9_about_1 : decode cX9_about 1 = .ok (.getfield 10, 3) := by decide +kernel
theorem dX9_about_4 : decode cX9_about 4 = .ok (.iload_n 1, 1) := by decide +kernel
theorem dX9_about_5 : decode cX9_about 5 = .ok (.invokevirtual 122, 3) := by decide +kernel
theorem dX9_about_8 : decode cX9_about 8 = .ok (.astore_n 3, 1) := by decide +kernel
theorem dX9_about_9 : decode cX9_about 9 = .ok (.aload_n 3, 1) := by decide +kernel
theorem dX9_about_10 : decode cX9_about 10 = .ok (.ifnonnull 5, 3) := by decide +kernel
theorem dX9_about_13 : decode cX9_about 13 = .ok (.iconst (-1), 1) := by decide +kernel
theorem dX9_about_14 : decode cX9_about 14 = .ok (.ireturn, 1) := by decide +kernel
theorem dX9_about_15 : decode cX9_about 15 = .ok (.aload_n 3, 1) := by decide +kernel
theorem dX9_about_16 : decode cX9_about 16 = .ok (.getfield 126, 3) := by decide +kernel
theorem dX9_about_19 : decode cX9_about 19 = .ok (.astore 4, 2) := by decide +kernel
theorem dX9_about_21 : decode cX9_about 21 = .ok (.iload_n 2, 1) := by decide +kernel
theorem dX9_about_22 : decode cX9_about 22 = .ok (.tableswitch 157 0 11 #[62, 68, 74, 80, 86, 91, 97, 103, 110, 116, 121, 126], 62) := by decide +kernel
theorem dX9_about_84 : decode cX9_about 84 = .ok (.aload 4, 2) := by decide +kernel
theorem dX9_about_86 : decode cX9_about 86 = .ok (.getfield 132, 3) := by decide +kernel
theorem dX9_about_89 : decode cX9_about 89 = .ok (.ireturn, 1) := by decide +kernel
theorem dX9_about_90 : decode cX9_about 90 = .ok (.aload 4, 2) := by decide +kernel
theorem dX9_about_92 : decode cX9_about 92 = .ok (.getfield 135, 3) := by decide +kernel
theorem dX9_about_95 : decode cX9_about 95 = .ok (.ireturn, 1) := by decide +kernel
theorem dX9_about_96 : decode cX9_about 96 = .ok (.aload 4, 2) := by decide +kernel
theorem dX9_about_98 : decode cX9_about 98 = .ok (.getfield 138, 3) := by decide +kernel
theorem dX9_about_101 : decode cX9_about 101 = .ok (.ireturn, 1) := by decide +kernel
theorem dX9_about_102 : decode cX9_about 102 = .ok (.aload 4, 2) := by decide +kernel
theorem dX9_about_104 : decode cX9_about 104 = .ok (.getfield 141, 3) := by decide +kernel
theorem dX9_about_107 : decode cX9_about 107 = .ok (.ireturn, 1) := by decide +kernel
theorem dX9_about_108 : decode cX9_about 108 = .ok (.aload_n 3, 1) := by decide +kernel
theorem dX9_about_109 : decode cX9_about 109 = .ok (.getfield 144, 3) := by decide +kernel
theorem dX9_about_112 : decode cX9_about 112 = .ok (.ireturn, 1) := by decide +kernel
theorem dX9_about_113 : decode cX9_about 113 = .ok (.aload 4, 2) := by decide +kernel
theorem dX9_about_115 : decode cX9_about 115 = .ok (.getfield 147, 3) := by decide +kernel
theorem dX9_about_118 : decode cX9_about 118 = .ok (.ireturn, 1) := by decide +kernel
theorem dX9_about_119 : decode cX9_about 119 = .ok (.aload 4, 2) := by decide +kernel
theorem dX9_about_121 : decode cX9_about 121 = .ok (.getfield 150, 3) := by decide +kernel
theorem dX9_about_124 : decode cX9_about 124 = .ok (.ireturn, 1) := by decide +kernel
theorem dX9_about_125 : decode cX9_about 125 = .ok (.aload 4, 2) := by decide +kernel
theorem dX9_about_127 : decode cX9_about 127 = .ok (.getfield 153, 3) := by decide +kernel
theorem dX9_about_130 : decode cX9_about 130 = .ok (.arraylength, 1) := by decide +kernel
theorem dX9_about_131 : decode cX9_about 131 = .ok (.ireturn, 1) := by decide +kernel
theorem dX9_about_132 : decode cX9_about 132 = .ok (.aload 4, 2) := by decide +kernel
theorem dX9_about_134 : decode cX9_about 134 = .ok (.invokevirtual 156, 3) := by decide +kernel
theorem dX9_about_137 : decode cX9_about 137 = .ok (.ireturn, 1) := by decide +kernel
theorem dX9_about_138 : decode cX9_about 138 = .ok (.aload_n 3, 1) := by decide +kernel
theorem dX9_about_139 : decode cX9_about 139 = .ok (.getfield 159, 3) := by decide +kernel
theorem dX9_about_142 : decode cX9_about 142 = .ok (.ireturn, 1) := by decide +kernel
theorem dX9_about_143 : decode cX9_about 143 = .ok (.aload_n 3, 1) := by decide +kernel
theorem dX9_about_144 : decode cX9_about 144 = .ok (.getfield 162, 3) := by decide +kernel
theorem dX9_about_147 : decode cX9_about 147 = .ok (.ireturn, 1) := by decide +kernel
theorem dX9_about_148 : decode cX9_about 148 = .ok (.aload_n 3, 1) := by decide +kernel
theorem dX9_about_149 : decode cX9_about 149 = .ok (.getfield 159, 3) := by decide +kernel
theorem dX9_about_152 : decode cX9_about 152 = .ok (.ifCond .ne 24, 3) := by decide +kernel
theorem dX9_about_155 : decode cX9_about 155 = .ok (.aload_n 3, 1) := by decide +kernel
theorem dX9_about_156 : decode cX9_about 156 = .ok (.aload_n 0, 1) := by decide +kernel
theorem dX9_about_157 : decode cX9_about 157 = .ok (.getfield 10, 3) := by decide +kernel
theorem dX9_about_160 : decode cX9_about 160 = .ok (.getfield 165, 3) := by decide +kernel
theorem dX9_about_163 : decode cX9_about 163 = .ok (.aload_n 0, 1) := by decide +kernel
theorem dX9_about_164 : decode cX9_about 164 = .ok (.getfield 10, 3) := by decide +kernel
theorem dX9_about_167 : decode cX9_about 167 = .ok (.getfield 168, 3) := by decide +kernel
theorem dX9_about_170 : decode cX9_about 170 = .ok (.invokevirtual 171, 3) := by decide +kernel
theorem dX9_about_173 : decode cX9_about 173 = .ok (.goto 5, 3) := by decide +kernel
theorem dX9_about_176 : decode cX9_about 176 = .ok (.bipush (-6), 2) := by decide +kernel
theorem dX9_about_178 : decode cX9_about 178 = .ok (.ireturn, 1) := by decide +kernel
theorem dX9_about_179 : decode cX9_about 179 = .ok (.bipush (-2), 2) := by decide +kernel
theorem dX9_about_181 : decode cX9_about 181 = .ok (.ireturn, 1) := by decide +kernel
def f9_about (v0 : Nat) (v1 : Int32) (v2 : Int32) (g : GS_) : Option (Int32 × GS_) :=
  lr_ (gfr g 288 v0) fun x1 => oc_ x1 none fun a2 => bd_ (f8_jobAt a2 v1 g) fun x4 g3 => oc_ x4 (some ((-1 : Int32), g3)) fun a5 => lr_ (gfr g3 33 a5) fun x6 => if v2 = (0 : Int32) then oc_ x6 none fun a7 => some ((gfi g3 131 a7), g3) else if v2 = (1 : Int32) then oc_ x6 none fun a8 => some ((gfi g3 132 a8), g3) else if v2 = (2 : Int32) then oc_ x6 none fun a9 => some ((gfi g3 133 a9), g3) else if v2 = (3 : Int32) then oc_ x6 none fun a10 => some ((gfi g3 134 a10), g3) else if v2 = (4 : Int32) then some ((gfi g3 34 a5), g3) else if v2 = (5 : Int32) then oc_ x6 none fun a11 => some ((gfi g3 135 a11), g3) else if v2 = (6 : Int32) then oc_ x6 none fun a12 => some ((gfi g3 129 a12), g3) else if v2 = (7 : Int32) then oc_ x6 none fun a13 => lr_ (gfr g3 130 a13) fun x14 => oc_ x14 none fun a15 => some ((Int32.ofNat (gln g3 20 a15)), g3) else if v2 = (8 : Int32) then oc_ x6 none fun a16 => bd_ (f4_sheets a16 g3) fun z18 g17 => some (z18, g17) else if v2 = (9 : Int32) then some ((gfi g3 35 a5), g3) else if v2 = (10 : Int32) then some ((gfi g3 36 a5), g3) else if v2 = (11 : Int32) then if (gfi g3 35 a5) = 0 then lr_ (gfr g3 288 v0) fun x19 => oc_ x19 none fun a20 => lr_ (gfr g3 288 v0) fun x21 => oc_ x21 none fun a22 => bd_ (f1_rankAt a5 (gfi g3 271 a20) (gfi g3 269 a22) g3) fun z24 g23 => some (z24, g23) else some ((-6 : Int32), g3) else some ((-2 : Int32), g3)
theorem t9_about (v0 : Nat) (v1 : Int32) (v2 : Int32) (g : GS_) : Cn_ yX9_about cX9_about 5 (some .int) 1 23 EI_ [.inr (9, some v0), .inl v1, .inl v2] g (f9_about v0 v1 v2 g) := by
  refine k_method (own := RX9) (ini := false) (L1 := [some (.inr (9, some v0)), some (.inl v1), some (.inl v2), none, none]) (by decide +kernel) rfl (fun h => by cases h) (Nat.le_of_ble_eq_true rfl) rfl ?_
  unfold f9_about
  refine k_aloadn (j := 0) dX9_about_0 rfl rfl ?_
  refine k_getr fg_9_10 rfl rfl dX9_about_1 (fun x1 => ?_)
  refine k_iloadn (j := 1) dX9_about_4 rfl rfl ?_
  rcases x1 with _ | a2
  · exact k_ocn
  refine k_ocs ?_
  refine k_callVr [.inl v1] (t8_jobAt a2 v1 g) cw_cX8_jobAt (Or.inl ml_9_122) rfl rfl (by decide) (by decide) (Nat.le_of_ble_eq_true rfl) dX9_about_5 (fun x4 g3 => ?_)
  refine k_astn (j := 3) (L' := [some (.inr (9, some v0)), some (.inl v1), some (.inl v2), some (.inr (1, x4)), none]) dX9_about_8 rfl (by decide) rfl ?_
  refine k_aloadn (j := 3) dX9_about_9 rfl rfl ?_
  rcases x4 with _ | a5
  · refine k_ifnonnulln dX9_about_10 ?_
    refine k_iconst (v := (-1 : Int32)) dX9_about_13 rfl ?_
    exact k_ireturn rfl dX9_about_14
  refine k_ifnonnulls (tgt := 15) dX9_about_10 (by decide) ?_
  refine k_aloadn (j := 3) dX9_about_15 rfl rfl ?_
  refine k_getr fg_9_126 rfl rfl dX9_about_16 (fun x6 => ?_)
  refine k_ast (L' := [some (.inr (9, some v0)), some (.inl v1), some (.inl v2), some (.inr (1, some a5)), some (.inr (4, x6))]) dX9_about_19 (by decide) rfl ?_
  refine k_iloadn (j := 2) dX9_about_21 rfl rfl ?_
  refine k_case (fun h0_ => ?_) (fun h0_ => ?_)
  · refine k_tin (tgt := 84) dX9_about_22 h0_ (by decide) (by decide) rfl (by decide) ?_
    refine k_aload dX9_about_84 rfl ?_
    rcases x6 with _ | a7
    · exact k_ocn
    refine k_ocs ?_
    refine k_geti fg_9_132 rfl rfl dX9_about_86 ?_
    exact k_ireturn rfl dX9_about_89
  refine k_case (fun h1_ => ?_) (fun h1_ => ?_)
  · refine k_tin (tgt := 90) dX9_about_22 h1_ (by decide) (by decide) rfl (by decide) ?_
    refine k_aload dX9_about_90 rfl ?_
    rcases x6 with _ | a8
    · exact k_ocn
    refine k_ocs ?_
    refine k_geti fg_9_135 rfl rfl dX9_about_92 ?_
    exact k_ireturn rfl dX9_about_95
  refine k_case (fun h2_ => ?_) (fun h2_ => ?_)
  · refine k_tin (tgt := 96) dX9_about_22 h2_ (by decide) (by decide) rfl (by decide) ?_
    refine k_aload dX9_about_96 rfl ?_
    rcases x6 with _ | a9
    · exact k_ocn
    refine k_ocs ?_
    refine k_geti fg_9_138 rfl rfl dX9_about_98 ?_
    exact k_ireturn rfl dX9_about_101
  refine k_case (fun h3_ => ?_) (fun h3_ => ?_)
  · refine k_tin (tgt := 102) dX9_about_22 h3_ (by decide) (by decide) rfl (by decide) ?_
    refine k_aload dX9_about_102 rfl ?_
    rcases x6 with _ | a10
    · exact k_ocn
    refine k_ocs ?_
    refine k_geti fg_9_141 rfl rfl dX9_about_104 ?_
    exact k_ireturn rfl dX9_about_107
  refine k_case (fun h4_ => ?_) (fun h4_ => ?_)
  · refine k_tin (tgt := 108) dX9_about_22 h4_ (by decide) (by decide) rfl (by decide) ?_
    refine k_aloadn (j := 3) dX9_about_108 rfl rfl ?_
    refine k_geti fg_9_144 rfl rfl dX9_about_109 ?_
    exact k_ireturn rfl dX9_about_112
  refine k_case (fun h5_ => ?_) (fun h5_ => ?_)
  · refine k_tin (tgt := 113) dX9_about_22 h5_ (by decide) (by decide) rfl (by decide) ?_
    refine k_aload dX9_about_113 rfl ?_
    rcases x6 with _ | a11
    · exact k_ocn
    refine k_ocs ?_
    refine k_geti fg_9_147 rfl rfl dX9_about_115 ?_
    exact k_ireturn rfl dX9_about_118
  refine k_case (fun h6_ => ?_) (fun h6_ => ?_)
  · refine k_tin (tgt := 119) dX9_about_22 h6_ (by decide) (by decide) rfl (by decide) ?_
    refine k_aload dX9_about_119 rfl ?_
    rcases x6 with _ | a12
    · exact k_ocn
    refine k_ocs ?_
    refine k_geti fg_9_150 rfl rfl dX9_about_121 ?_
    exact k_ireturn rfl dX9_about_124
  refine k_case (fun h7_ => ?_) (fun h7_ => ?_)
  · refine k_tin (tgt := 125) dX9_about_22 h7_ (by decide) (by decide) rfl (by decide) ?_
    refine k_aload dX9_about_125 rfl ?_
    rcases x6 with _ | a13
    · exact k_ocn
    refine k_ocs ?_
    refine k_getr fg_9_153 rfl rfl dX9_about_127 (fun x14 => ?_)
    rcases x14 with _ | a15
    · exact k_ocn
    refine k_ocs ?_
    refine k_alen dX9_about_130 (by decide) ?_
    exact k_ireturn rfl dX9_about_131
  refine k_case (fun h8_ => ?_) (fun h8_ => ?_)
  · refine k_tin (tgt := 132) dX9_about_22 h8_ (by decide) (by decide) rfl (by decide) ?_
    refine k_aload dX9_about_132 rfl ?_
    rcases x6 with _ | a16
    · exact k_ocn
    refine k_ocs ?_
    refine k_callVi [] (t4_sheets a16 g3) cw_cX4_sheets (Or.inl ml_9_156) rfl rfl (by decide) (by decide) (Nat.le_of_ble_eq_true rfl) dX9_about_134 (fun z18 g17 => ?_)
    exact k_ireturn rfl dX9_about_137
  refine k_case (fun h9_ => ?_) (fun h9_ => ?_)
  · refine k_tin (tgt := 138) dX9_about_22 h9_ (by decide) (by decide) rfl (by decide) ?_
    refine k_aloadn (j := 3) dX9_about_138 rfl rfl ?_
    refine k_geti fg_9_159 rfl rfl dX9_about_139 ?_
    exact k_ireturn rfl dX9_about_142
  refine k_case (fun h10_ => ?_) (fun h10_ => ?_)
  · refine k_tin (tgt := 143) dX9_about_22 h10_ (by decide) (by decide) rfl (by decide) ?_
    refine k_aloadn (j := 3) dX9_about_143 rfl rfl ?_
    refine k_geti fg_9_162 rfl rfl dX9_about_144 ?_
    exact k_ireturn rfl dX9_about_147
  refine k_case (fun h11_ => ?_) (fun h11_ => ?_)
  · refine k_tin (tgt := 148) dX9_about_22 h11_ (by decide) (by decide) rfl (by decide) ?_
    refine k_aloadn (j := 3) dX9_about_148 rfl rfl ?_
    refine k_geti fg_9_159 rfl rfl dX9_about_149 ?_
    refine k_ifne (tgt := 176) dX9_about_152 (by decide) (fun _ => ?_) (fun _ => ?_)
    · refine k_aloadn (j := 3) dX9_about_155 rfl rfl ?_
      refine k_aloadn (j := 0) dX9_about_156 rfl rfl ?_
      refine k_getr fg_9_10 rfl rfl dX9_about_157 (fun x19 => ?_)
      rcases x19 with _ | a20
      · exact k_ocn
      refine k_ocs ?_
      refine k_geti fg_9_165 rfl rfl dX9_about_160 ?_
      refine k_aloadn (j := 0) dX9_about_163 rfl rfl ?_
      refine k_getr fg_9_10 rfl rfl dX9_about_164 (fun x21 => ?_)
      rcases x21 with _ | a22
      · exact k_ocn
      refine k_ocs ?_
      refine k_geti fg_9_168 rfl rfl dX9_about_167 ?_
      refine k_callVi [.inl (gfi g3 271 a20), .inl (gfi g3 269 a22)] (t1_rankAt a5 (gfi g3 271 a20) (gfi g3 269 a22) g3) cw_cX1_rankAt (Or.inl ml_9_171) rfl rfl (by decide) (by decide) (Nat.le_of_ble_eq_true rfl) dX9_about_170 (fun z24 g23 => ?_)
      refine k_goto (tgt := 178) dX9_about_173 (by decide) ?_
      exact k_ireturn rfl dX9_about_178
    refine k_bipush (v := (-6 : Int32)) dX9_about_176 rfl ?_
    exact k_ireturn rfl dX9_about_178
  refine k_tout (tgt := 179) dX9_about_22 (by have q0 := lv_neT (a := 0) h0_ (by decide); have q1 := lv_neT (a := 1) h1_ (by decide); have q2 := lv_neT (a := 2) h2_ (by decide); have q3 := lv_neT (a := 3) h3_ (by decide); have q4 := lv_neT (a := 4) h4_ (by decide); have q5 := lv_neT (a := 5) h5_ (by decide); have q6 := lv_neT (a := 6) h6_ (by decide); have q7 := lv_neT (a := 7) h7_ (by decide); have q8 := lv_neT (a := 8) h8_ (by decide); have q9 := lv_neT (a := 9) h9_ (by decide); have q10 := lv_neT (a := 10) h10_ (by decide); have q11 := lv_neT (a := 11) h11_ (by decide); omega) (by decide) ?_
  refine k_bipush (v := (-2 : Int32)) dX9_about_179 rfl ?_
  exact k_ireturn rfl dX9_about_181
theorem dX9_within_0 : decode cX9_within 0 = .ok (.iload_n 0, 1) := by decide +kernel
theorem dX9_within_1 : decode cX9_within 1 = .ok (.iload_n 1, 1) := by decide +kernel
theorem dX9_within_2 : decode cX9_within 2 = .ok (.if_icmp .lt 12, 3) := by decide +kernel
theorem dX9_within_5 : decode cX9_within 5 = .ok (.iload_n 0, 1) := by decide +kernel
theorem dX9_within_6 : decode cX9_within 6 = .ok (.iload_n 2, 1) := by decide +kernel
theorem dX9_within_7 : decode cX9_within 7 = .ok (.if_icmp .gt 7, 3) := by decide +kernel
theorem dX9_within_10 : decode cX9_within 10 = .ok (.iconst 1, 1) := by decide +kernel
theorem dX9_within_11 : decode cX9_within 11 = .ok (.goto 4, 3) := by decide +kernel
theorem dX9_within_14 : decode cX9_within 14 = .ok (.iconst 0, 1) := by decide +kernel
theorem dX9_within_15 : decode cX9_within 15 = .ok (.ireturn, 1) := by decide +kernel
def f9_within_b14 (g : GS_) : Option (Int32 × GS_) :=
  some ((0 : Int32), g)
theorem t9_within_b14 (g : GS_) : K_ RX9 cX9_within 3 (some .boolean) 0 0 false EI_ 14 [none, none, none] [] g (f9_within_b14 g) := by
  unfold f9_within_b14
  refine k_iconst (v := (0 : Int32)) dX9_within_14 rfl ?_
  exact k_zreturn rfl (by decide) dX9_within_15
def f9_within (v0 : Int32) (v1 : Int32) (v2 : Int32) (g : GS_) : Option (Int32 × GS_) :=
  if v0 < v1 then f9_within_b14 g else if v2 < v0 then f9_within_b14 g else some ((1 : Int32), g)
theorem t9_within (v0 : Int32) (v1 : Int32) (v2 : Int32) (g : GS_) : Cn_ yX9_within cX9_within 3 (some .boolean) 0 0 EI_ [.inl v0, .inl v1, .inl v2] g (f9_within v0 v1 v2 g) := by
  refine k_method (own := RX9) (ini := false) (L1 := [some (.inl v0), some (.inl v1), some (.inl v2)]) (by decide +kernel) rfl (fun h => by cases h) (Nat.le_of_ble_eq_true rfl) rfl ?_
  unfold f9_within
  refine k_iloadn (j := 0) dX9_within_0 rfl rfl ?_
  refine k_iloadn (j := 1) dX9_within_1 rfl rfl ?_
  refine k_icmplt (tgt := 14) dX9_within_2 (by decide) (fun _ => ?_) (fun _ => ?_)
  · refine k_msk (L' := [none, none, none]) [false, false, false] rfl ?_
    exact t9_within_b14 g
  refine k_iloadn (j := 0) dX9_within_5 rfl rfl ?_
  refine k_iloadn (j := 2) dX9_within_6 rfl rfl ?_
  refine k_icmpgt (tgt := 14) dX9_within_7 (by decide) (fun _ => ?_) (fun _ => ?_)
  · refine k_msk (L' := [none, none, none]) [false, false, false] rfl ?_
    exact t9_within_b14 g
  refine k_iconst (v := (1 : Int32)) dX9_within_10 rfl ?_
  refine k_goto (tgt := 15) dX9_within_11 (by decide) ?_
  exact k_zreturn rfl (by decide) dX9_within_15
theorem dX9_page_0 : decode cX9_page 0 = .ok (.aload_n 0, 1) := by decide +kernel
theorem dX9_page_1 : decode cX9_page 1 = .ok (.getfield 10, 3) := by decide +kernel
theorem dX9_page_4 : decode cX9_page 4 = .ok (.iload_n 1, 1) := by decide +kernel
theorem dX9_page_5 : decode cX9_page 5 = .ok (.invokevirtual 122, 3) := by decide +kernel
theorem dX9_page_8 : decode cX9_page 8 = .ok (.astore 5, 2) := by decide +kernel
theorem dX9_page_10 : decode cX9_page 10 = .ok (.aload 5, 2) := by decide +kernel
theorem dX9_page_12 : decode cX9_page 12 = .ok (.ifnull 15, 3) := by decide +kernel
theorem dX9_page_15 : decode cX9_page 15 = .ok (.aload 5, 2) := by decide +kernel
theorem dX9_page_17 : decode cX9_page 17 = .ok (.getfield 126, 3) := by decide +kernel
theorem dX9_page_20 : decode cX9_page 20 = .ok (.iload_n 2, 1) := by decide +kernel
theorem dX9_page_21 : decode cX9_page 21 = .ok (.invokevirtual 175, 3) := by decide +kernel
theorem dX9_page_24 : decode cX9_page 24 = .ok (.ifCond .ne 5, 3) := by decide +kernel
theorem dX9_page_27 : decode cX9_page 27 = .ok (.iconst (-1), 1) := by decide +kernel
theorem dX9_page_28 : decode cX9_page 28 = .ok (.ireturn, 1) := by decide +kernel
theorem dX9_page_29 : decode cX9_page 29 = .ok (.aload 5, 2) := by decide +kernel
theorem dX9_page_31 : decode cX9_page 31 = .ok (.getfield 126, 3) := by decide +kernel
theorem dX9_page_34 : decode cX9_page 34 = .ok (.astore 6, 2) := by decide +kernel
theorem dX9_page_36 : decode cX9_page 36 = .ok (.aload 6, 2) := by decide +kernel
theorem dX9_page_38 : decode cX9_page 38 = .ok (.iload_n 3, 1) := by decide +kernel
theorem dX9_page_39 : decode cX9_page 39 = .ok (.invokevirtual 178, 3) := by decide +kernel
theorem dX9_page_42 : decode cX9_page 42 = .ok (.ifCond .eq 19, 3) := by decide +kernel
theorem dX9_page_45 : decode cX9_page 45 = .ok (.iload 4, 2) := by decide +kernel
theorem dX9_page_47 : decode cX9_page 47 = .ok (.iconst 0, 1) := by decide +kernel
theorem dX9_page_48 : decode cX9_page 48 = .ok (.aload 6, 2) := by decide +kernel
theorem dX9_page_50 : decode cX9_page 50 = .ok (.getfield 181, 3) := by decide +kernel
theorem dX9_page_53 : decode cX9_page 53 = .ok (.iconst 1, 1) := by decide +kernel
theorem dX9_page_54 : decode cX9_page 54 = .ok (.isub, 1) := by decide +kernel
theorem dX9_page_55 : decode cX9_page 55 = .ok (.invokestatic 37, 3) := by decide +kernel
theorem dX9_page_58 : decode cX9_page 58 = .ok (.ifCond .ne 6, 3) := by decide +kernel
theorem dX9_page_61 : decode cX9_page 61 = .ok (.bipush (-2), 2) := by decide +kernel
theorem dX9_page_63 : decode cX9_page 63 = .ok (.ireturn, 1) := by decide +kernel
theorem dX9_page_64 : decode cX9_page 64 = .ok (.aload 6, 2) := by decide +kernel
theorem dX9_page_66 : decode cX9_page 66 = .ok (.aload 6, 2) := by decide +kernel
theorem dX9_page_68 : decode cX9_page 68 = .ok (.iload_n 2, 1) := by decide +kernel
theorem dX9_page_69 : decode cX9_page 69 = .ok (.invokevirtual 184, 3) := by decide +kernel
theorem dX9_page_72 : decode cX9_page 72 = .ok (.iload_n 3, 1) := by decide +kernel
theorem dX9_page_73 : decode cX9_page 73 = .ok (.iload 4, 2) := by decide +kernel
theorem dX9_page_75 : decode cX9_page 75 = .ok (.invokevirtual 187, 3) := by decide +kernel
theorem dX9_page_78 : decode cX9_page 78 = .ok (.ireturn, 1) := by decide +kernel
def f9_page (v0 : Nat) (v1 : Int32) (v2 : Int32) (v3 : Int32) (v4 : Int32) (g : GS_) : Option (Int32 × GS_) :=
  lr_ (gfr g 288 v0) fun x1 => oc_ x1 none fun a2 => bd_ (f8_jobAt a2 v1 g) fun x4 g3 => oc_ x4 (some ((-1 : Int32), g3)) fun a5 => lr_ (gfr g3 33 a5) fun x6 => oc_ x6 none fun a7 => bd_ (f4_hasSheet a7 v2 g3) fun z9 g8 => if z9 = 0 then some ((-1 : Int32), g8) else lr_ (gfr g8 33 a5) fun x10 => oc_ x10 none fun a11 => bd_ (f4_hasSide a11 v3 g8) fun z13 g12 => if z13 = 0 then some ((-2 : Int32), g12) else bd_ (f9_within v4 (0 : Int32) ((gfi g12 138 a11) - (1 : Int32)) g12) fun z15 g14 => if z15 = 0 then some ((-2 : Int32), g14) else bd_ (f4_sheetOfCopy a11 v2 g14) fun z17 g16 => bd_ (f4_pageOn a11 z17 v3 v4 g16) fun z19 g18 => some (z19, g18)
theorem t9_page (v0 : Nat) (v1 : Int32) (v2 : Int32) (v3 : Int32) (v4 : Int32) (g : GS_) : Cn_ yX9_page cX9_page 7 (some .int) 2 49 EI_ [.inr (9, some v0), .inl v1, .inl v2, .inl v3, .inl v4] g (f9_page v0 v1 v2 v3 v4 g) := by
  refine k_method (own := RX9) (ini := false) (L1 := [some (.inr (9, some v0)), some (.inl v1), some (.inl v2), some (.inl v3), some (.inl v4), none, none]) (by decide +kernel) rfl (fun h => by cases h) (Nat.le_of_ble_eq_true rfl) rfl ?_
  unfold f9_page
  refine k_aloadn (j := 0) dX9_page_0 rfl rfl ?_
  refine k_getr fg_9_10 rfl rfl dX9_page_1 (fun x1 => ?_)
  refine k_iloadn (j := 1) dX9_page_4 rfl rfl ?_
  rcases x1 with _ | a2
  · exact k_ocn
  refine k_ocs ?_
  refine k_callVr [.inl v1] (t8_jobAt a2 v1 g) cw_cX8_jobAt (Or.inl ml_9_122) rfl rfl (by decide) (by decide) (Nat.le_of_ble_eq_true rfl) dX9_page_5 (fun x4 g3 => ?_)
  refine k_ast (L' := [some (.inr (9, some v0)), some (.inl v1), some (.inl v2), some (.inl v3), some (.inl v4), some (.inr (1, x4)), none]) dX9_page_8 (by decide) rfl ?_
  refine k_aload dX9_page_10 rfl ?_
  rcases x4 with _ | a5
  · refine k_ifnulln (tgt := 27) dX9_page_12 (by decide) ?_
    refine k_iconst (v := (-1 : Int32)) dX9_page_27 rfl ?_
    exact k_ireturn rfl dX9_page_28
  refine k_ifnulls dX9_page_12 ?_
  refine k_aload dX9_page_15 rfl ?_
  refine k_getr fg_9_126 rfl rfl dX9_page_17 (fun x6 => ?_)
  refine k_iloadn (j := 2) dX9_page_20 rfl rfl ?_
  rcases x6 with _ | a7
  · exact k_ocn
  refine k_ocs ?_
  refine k_callVi [.inl v2] (t4_hasSheet a7 v2 g3) cw_cX4_hasSheet (Or.inl ml_9_175) rfl rfl (by decide) (by decide) (Nat.le_of_ble_eq_true rfl) dX9_page_21 (fun z9 g8 => ?_)
  refine k_ifne (tgt := 29) dX9_page_24 (by decide) (fun _ => ?_) (fun _ => ?_)
  · refine k_iconst (v := (-1 : Int32)) dX9_page_27 rfl ?_
    exact k_ireturn rfl dX9_page_28
  refine k_aload dX9_page_29 rfl ?_
  refine k_getr fg_9_126 rfl rfl dX9_page_31 (fun x10 => ?_)
  refine k_ast (L' := [some (.inr (9, some v0)), some (.inl v1), some (.inl v2), some (.inl v3), some (.inl v4), some (.inr (1, some a5)), some (.inr (4, x10))]) dX9_page_34 (by decide) rfl ?_
  refine k_aload dX9_page_36 rfl ?_
  refine k_iloadn (j := 3) dX9_page_38 rfl rfl ?_
  rcases x10 with _ | a11
  · exact k_ocn
  refine k_ocs ?_
  refine k_callVi [.inl v3] (t4_hasSide a11 v3 g8) cw_cX4_hasSide (Or.inl ml_9_178) rfl rfl (by decide) (by decide) (Nat.le_of_ble_eq_true rfl) dX9_page_39 (fun z13 g12 => ?_)
  refine k_ifeq (tgt := 61) dX9_page_42 (by decide) (fun _ => ?_) (fun _ => ?_)
  · refine k_bipush (v := (-2 : Int32)) dX9_page_61 rfl ?_
    exact k_ireturn rfl dX9_page_63
  refine k_iload dX9_page_45 rfl ?_
  refine k_iconst (v := (0 : Int32)) dX9_page_47 rfl ?_
  refine k_aload dX9_page_48 rfl ?_
  refine k_geti fg_9_181 rfl rfl dX9_page_50 ?_
  refine k_iconst (v := (1 : Int32)) dX9_page_53 rfl ?_
  refine k_isub dX9_page_54 ?_
  refine k_callSi [.inl v4, .inl (0 : Int32), .inl ((gfi g12 138 a11) - (1 : Int32))] (t9_within v4 (0 : Int32) ((gfi g12 138 a11) - (1 : Int32)) g12) cw_cX9_within ml_9_37 rfl rfl (by decide) (by decide) (Nat.le_of_ble_eq_true rfl) dX9_page_55 (fun z15 g14 => ?_)
  refine k_ifne (tgt := 64) dX9_page_58 (by decide) (fun _ => ?_) (fun _ => ?_)
  · refine k_bipush (v := (-2 : Int32)) dX9_page_61 rfl ?_
    exact k_ireturn rfl dX9_page_63
  refine k_aload dX9_page_64 rfl ?_
  refine k_aload dX9_page_66 rfl ?_
  refine k_iloadn (j := 2) dX9_page_68 rfl rfl ?_
  refine k_callVi [.inl v2] (t4_sheetOfCopy a11 v2 g14) cw_cX4_sheetOfCopy (Or.inl ml_9_184) rfl rfl (by decide) (by decide) (Nat.le_of_ble_eq_true rfl) dX9_page_69 (fun z17 g16 => ?_)
  refine k_iloadn (j := 3) dX9_page_72 rfl rfl ?_
  refine k_iload dX9_page_73 rfl ?_
  refine k_callVi [.inl z17, .inl v3, .inl v4] (t4_pageOn a11 z17 v3 v4 g16) cw_cX4_pageOn (Or.inl ml_9_187) rfl rfl (by decide) (by decide) (Nat.le_of_ble_eq_true rfl) dX9_page_75 (fun z19 g18 => ?_)
  exact k_ireturn rfl dX9_page_78
theorem dX9_turned_0 : decode cX9_turned 0 = .ok (.aload_n 0, 1) := by decide +kernel
theorem dX9_turned_1 : decode cX9_turned 1 = .ok (.getfield 10, 3) := by decide +kernel
theorem dX9_turned_4 : decode cX9_turned 4 = .ok (.iload_n 1, 1) := by decide +kernel
theorem dX9_turned_5 : decode cX9_turned 5 = .ok (.invokevirtual 122, 3) := by decide +kernel
theorem dX9_turned_8 : decode cX9_turned 8 = .ok (.astore_n 3, 1) := by decide +kernel
theorem dX9_turned_9 : decode cX9_turned 9 = .ok (.aload_n 3, 1) := by decide +kernel
theorem dX9_turned_10 : decode cX9_turned 10 = .ok (.ifnonnull 5, 3) := by decide +kernel
theorem dX9_turned_13 : decode cX9_turned 13 = .ok (.iconst (-1), 1) := by decide +kernel
theorem dX9_turned_14 : decode cX9_turned 14 = .ok (.ireturn, 1) := by decide +kernel
theorem dX9_turned_15 : decode cX9_turned 15 = .ok (.aload_n 3, 1) := by decide +kernel
theorem dX9_turned_16 : decode cX9_turned 16 = .ok (.getfield 126, 3) := by decide +kernel
theorem dX9_turned_19 : decode cX9_turned 19 = .ok (.iload_n 2, 1) := by decide +kernel
theorem dX9_turned_20 : decode cX9_turned 20 = .ok (.invokevirtual 178, 3) := by decide +kernel
theorem dX9_turned_23 : decode cX9_turned 23 = .ok (.ifCond .ne 6, 3) := by decide +kernel
theorem dX9_turned_26 : decode cX9_turned 26 = .ok (.bipush (-2), 2) := by decide +kernel
theorem dX9_turned_28 : decode cX9_turned 28 = .ok (.ireturn, 1) := by decide +kernel
theorem dX9_turned_29 : decode cX9_turned 29 = .ok (.iload_n 2, 1) := by decide +kernel
theorem dX9_turned_30 : decode cX9_turned 30 = .ok (.iconst 1, 1) := by decide +kernel
theorem dX9_turned_31 : decode cX9_turned 31 = .ok (.if_icmp .ne 19, 3) := by decide +kernel
theorem dX9_turned_34 : decode cX9_turned 34 = .ok (.aload_n 3, 1) := by decide +kernel
theorem dX9_turned_35 : decode cX9_turned 35 = .ok (.getfield 126, 3) := by decide +kernel
theorem dX9_turned_38 : decode cX9_turned 38 = .ok (.invokevirtual 191, 3) := by decide +kernel
theorem dX9_turned_41 : decode cX9_turned 41 = .ok (.ifCond .eq 9, 3) := by decide +kernel
theorem dX9_turned_44 : decode cX9_turned 44 = .ok (.sipush 180, 3) := by decide +kernel
theorem dX9_turned_47 : decode cX9_turned 47 = .ok (.goto 4, 3) := by decide +kernel
theorem dX9_turned_50 : decode cX9_turned 50 = .ok (.iconst 0, 1) := by decide +kernel
theorem dX9_turned_51 : decode cX9_turned 51 = .ok (.ireturn, 1) := by decide +kernel
def f9_turned_b50 (g : GS_) : Option (Int32 × GS_) :=
  some ((0 : Int32), g)
theorem t9_turned_b50 (g : GS_) : K_ RX9 cX9_turned 4 (some .int) 1 21 false EI_ 50 [none, none, none, none] [] g (f9_turned_b50 g) := by
  unfold f9_turned_b50
  refine k_iconst (v := (0 : Int32)) dX9_turned_50 rfl ?_
  exact k_ireturn rfl dX9_turned_51
def f9_turned (v0 : Nat) (v1 : Int32) (v2 : Int32) (g : GS_) : Option (Int32 × GS_) :=
  lr_ (gfr g 288 v0) fun x1 => oc_ x1 none fun a2 => bd_ (f8_jobAt a2 v1 g) fun x4 g3 => oc_ x4 (some ((-1 : Int32), g3)) fun a5 => lr_ (gfr g3 33 a5) fun x6 => oc_ x6 none fun a7 => bd_ (f4_hasSide a7 v2 g3) fun z9 g8 => if z9 = 0 then some ((-2 : Int32), g8) else if v2 = (1 : Int32) then lr_ (gfr g8 33 a5) fun x10 => oc_ x10 none fun a11 => bd_ (f4_turnsBacks a11 g8) fun z13 g12 => if z13 = 0 then f9_turned_b50 g12 else some ((180 : Int32), g12) else f9_turned_b50 g8
theorem t9_turned (v0 : Nat) (v1 : Int32) (v2 : Int32) (g : GS_) : Cn_ yX9_turned cX9_turned 4 (some .int) 1 21 EI_ [.inr (9, some v0), .inl v1, .inl v2] g (f9_turned v0 v1 v2 g) := by
  refine k_method (own := RX9) (ini := false) (L1 := [some (.inr (9, some v0)), some (.inl v1), some (.inl v2), none]) (by decide +kernel) rfl (fun h => by cases h) (Nat.le_of_ble_eq_true rfl) rfl ?_
  unfold f9_turned
  refine k_aloadn (j := 0) dX9_turned_0 rfl rfl ?_
  refine k_getr fg_9_10 rfl rfl dX9_turned_1 (fun x1 => ?_)
  refine k_iloadn (j := 1) dX9_turned_4 rfl rfl ?_
  rcases x1 with _ | a2
  · exact k_ocn
  refine k_ocs ?_
  refine k_callVr [.inl v1] (t8_jobAt a2 v1 g) cw_cX8_jobAt (Or.inl ml_9_122) rfl rfl (by decide) (by decide) (Nat.le_of_ble_eq_true rfl) dX9_turned_5 (fun x4 g3 => ?_)
  refine k_astn (j := 3) (L' := [some (.inr (9, some v0)), some (.inl v1), some (.inl v2), some (.inr (1, x4))]) dX9_turned_8 rfl (by decide) rfl ?_
  refine k_aloadn (j := 3) dX9_turned_9 rfl rfl ?_
  rcases x4 with _ | a5
  · refine k_ifnonnulln dX9_turned_10 ?_
    refine k_iconst (v := (-1 : Int32)) dX9_turned_13 rfl ?_
    exact k_ireturn rfl dX9_turned_14
  refine k_ifnonnulls (tgt := 15) dX9_turned_10 (by decide) ?_
  refine k_aloadn (j := 3) dX9_turned_15 rfl rfl ?_
  refine k_getr fg_9_126 rfl rfl dX9_turned_16 (fun x6 => ?_)
  refine k_iloadn (j := 2) dX9_turned_19 rfl rfl ?_
  rcases x6 with _ | a7
  · exact k_ocn
  refine k_ocs ?_
  refine k_callVi [.inl v2] (t4_hasSide a7 v2 g3) cw_cX4_hasSide (Or.inl ml_9_178) rfl rfl (by decide) (by decide) (Nat.le_of_ble_eq_true rfl) dX9_turned_20 (fun z9 g8 => ?_)
  refine k_ifne (tgt := 29) dX9_turned_23 (by decide) (fun _ => ?_) (fun _ => ?_)
  · refine k_bipush (v := (-2 : Int32)) dX9_turned_26 rfl ?_
    exact k_ireturn rfl dX9_turned_28
  refine k_iloadn (j := 2) dX9_turned_29 rfl rfl ?_
  refine k_iconst (v := (1 : Int32)) dX9_turned_30 rfl ?_
  refine k_icmpne (tgt := 50) dX9_turned_31 (by decide) (fun _ => ?_) (fun _ => ?_)
  · refine k_aloadn (j := 3) dX9_turned_34 rfl rfl ?_
    refine k_getr fg_9_126 rfl rfl dX9_turned_35 (fun x10 => ?_)
    rcases x10 with _ | a11
    · exact k_ocn
    refine k_ocs ?_
    refine k_callVi [] (t4_turnsBacks a11 g8) cw_cX4_turnsBacks (Or.inl ml_9_191) rfl rfl (by decide) (by decide) (Nat.le_of_ble_eq_true rfl) dX9_turned_38 (fun z13 g12 => ?_)
    refine k_ifeq (tgt := 50) dX9_turned_41 (by decide) (fun _ => ?_) (fun _ => ?_)
    · refine k_msk (L' := [none, none, none, none]) [false, false, false, false] rfl ?_
      exact t9_turned_b50 g12
    refine k_sipush (v := (180 : Int32)) dX9_turned_44 rfl ?_
    refine k_goto (tgt := 51) dX9_turned_47 (by decide) ?_
    exact k_ireturn rfl dX9_turned_51
  refine k_msk (L' := [none, none, none, none]) [false, false, false, false] rfl ?_
  exact t9_turned_b50 g8
theorem dX9_blanks_0 : decode cX9_blanks 0 = .ok (.aload_n 0, 1) := by decide +kernel
theorem dX9_blanks_1 : decode cX9_blanks 1 = .ok (.getfield 10, 3) := by decide +kernel
theorem dX9_blanks_4 : decode cX9_blanks 4 = .ok (.iload_n 1, 1) := by decide +kernel
theorem dX9_blanks_5 : decode cX9_blanks 5 = .ok (.invokevirtual 122, 3) := by decide +kernel
theorem dX9_blanks_8 : decode cX9_blanks 8 = .ok (.astore_n 2, 1) := by decide +kernel
theorem dX9_blanks_9 : decode cX9_blanks 9 = .ok (.aload_n 2, 1) := by decide +kernel
theorem dX9_blanks_10 : decode cX9_blanks 10 = .ok (.ifnonnull 7, 3) := by decide +kernel
theorem dX9_blanks_13 : decode cX9_blanks 13 = .ok (.iconst (-1), 1) := by decide +kernel
theorem dX9_blanks_14 : decode cX9_blanks 14 = .ok (.goto 10, 3) := by decide +kernel
theorem dX9_blanks_17 : decode cX9_blanks 17 = .ok (.aload_n 2, 1) := by decide +kernel
theorem dX9_blanks_18 : decode cX9_blanks 18 = .ok (.getfield 126, 3) := by decide +kernel
theorem dX9_blanks_21 : decode cX9_blanks 21 = .ok (.invokevirtual 195, 3) := by decide +kernel
theorem dX9_blanks_24 : decode cX9_blanks 24 = .ok (.ireturn, 1) := by decide +kernel
def f9_blanks (v0 : Nat) (v1 : Int32) (g : GS_) : Option (Int32 × GS_) :=
  lr_ (gfr g 288 v0) fun x1 => oc_ x1 none fun a2 => bd_ (f8_jobAt a2 v1 g) fun x4 g3 => oc_ x4 (some ((-1 : Int32), g3)) fun a5 => lr_ (gfr g3 33 a5) fun x6 => oc_ x6 none fun a7 => bd_ (f4_blankPositions a7 g3) fun z9 g8 => some (z9, g8)
theorem t9_blanks (v0 : Nat) (v1 : Int32) (g : GS_) : Cn_ yX9_blanks cX9_blanks 3 (some .int) 1 21 EI_ [.inr (9, some v0), .inl v1] g (f9_blanks v0 v1 g) := by
  refine k_method (own := RX9) (ini := false) (L1 := [some (.inr (9, some v0)), some (.inl v1), none]) (by decide +kernel) rfl (fun h => by cases h) (Nat.le_of_ble_eq_true rfl) rfl ?_
  unfold f9_blanks
  refine k_aloadn (j := 0) dX9_blanks_0 rfl rfl ?_
  refine k_getr fg_9_10 rfl rfl dX9_blanks_1 (fun x1 => ?_)
  refine k_iloadn (j := 1) dX9_blanks_4 rfl rfl ?_
  rcases x1 with _ | a2
  · exact k_ocn
  refine k_ocs ?_
  refine k_callVr [.inl v1] (t8_jobAt a2 v1 g) cw_cX8_jobAt (Or.inl ml_9_122) rfl rfl (by decide) (by decide) (Nat.le_of_ble_eq_true rfl) dX9_blanks_5 (fun x4 g3 => ?_)
  refine k_astn (j := 2) (L' := [some (.inr (9, some v0)), some (.inl v1), some (.inr (1, x4))]) dX9_blanks_8 rfl (by decide) rfl ?_
  refine k_aloadn (j := 2) dX9_blanks_9 rfl rfl ?_
  rcases x4 with _ | a5
  · refine k_ifnonnulln dX9_blanks_10 ?_
    refine k_iconst (v := (-1 : Int32)) dX9_blanks_13 rfl ?_
    refine k_goto (tgt := 24) dX9_blanks_14 (by decide) ?_
    exact k_ireturn rfl dX9_blanks_24
  refine k_ifnonnulls (tgt := 17) dX9_blanks_10 (by decide) ?_
  refine k_aloadn (j := 2) dX9_blanks_17 rfl rfl ?_
  refine k_getr fg_9_126 rfl rfl dX9_blanks_18 (fun x6 => ?_)
  rcases x6 with _ | a7
  · exact k_ocn
  refine k_ocs ?_
  refine k_callVi [] (t4_blankPositions a7 g3) cw_cX4_blankPositions (Or.inl ml_9_195) rfl rfl (by decide) (by decide) (Nat.le_of_ble_eq_true rfl) dX9_blanks_21 (fun z9 g8 => ?_)
  exact k_ireturn rfl dX9_blanks_24
theorem dX9_where_0 : decode cX9_where 0 = .ok (.aload_n 0, 1) := by decide +kernel
theorem dX9_where_1 : decode cX9_where 1 = .ok (.getfield 10, 3) := by decide +kernel
theorem dX9_where_4 : decode cX9_where 4 = .ok (.iload_n 1, 1) := by decide +kernel
theorem dX9_where_5 : decode cX9_where 5 = .ok (.invokevirtual 122, 3) := by decide +kernel
theorem dX9_where_8 : decode cX9_where 8 = .ok (.astore 4, 2) := by decide +kernel
theorem dX9_where_10 : decode cX9_where 10 = .ok (.aload 4, 2) := by decide +kernel
theorem dX9_where_12 : decode cX9_where 12 = .ok (.ifnonnull 5, 3) := by decide +kernel
theorem dX9_where_15 : decode cX9_where 15 = .ok (.iconst (-1), 1) := by decide +kernel
theorem dX9_where_16 : decode cX9_where 16 = .ok (.ireturn, 1) := by decide +kernel
theorem dX9_where_17 : decode cX9_where 17 = .ok (.iload_n 2, 1) := by decide +kernel
theorem dX9_where_18 : decode cX9_where 18 = .ok (.iconst 0, 1) := by decide +kernel
theorem dX9_where_19 : decode cX9_where 19 = .ok (.aload 4, 2) := by decide +kernel
theorem dX9_where_21 : decode cX9_where 21 = .ok (.getfield 126, 3) := by decide +kernel
theorem dX9_where_24 : decode cX9_where 24 = .ok (.getfield 153, 3) := by decide +kernel
theorem dX9_where_27 : decode cX9_where 27 = .ok (.arraylength, 1) := by decide +kernel
theorem dX9_where_28 : decode cX9_where 28 = .ok (.iconst 1, 1) := by decide +kernel
theorem dX9_where_29 : decode cX9_where 29 = .ok (.isub, 1) := by decide +kernel
theorem dX9_where_30 : decode cX9_where 30 = .ok (.invokestatic 37, 3) := by decide +kernel
theorem dX9_where_33 : decode cX9_where 33 = .ok (.ifCond .eq 12, 3) := by decide +kernel
theorem dX9_where_36 : decode cX9_where 36 = .ok (.iload_n 3, 1) := by decide +kernel
theorem dX9_where_37 : decode cX9_where 37 = .ok (.iconst 0, 1) := by decide +kernel
theorem dX9_where_38 : decode cX9_where 38 = .ok (.iconst 2, 1) := by decide +kernel
theorem dX9_where_39 : decode cX9_where 39 = .ok (.invokestatic 37, 3) := by decide +kernel
theorem dX9_where_42 : decode cX9_where 42 = .ok (.ifCond .ne 6, 3) := by decide +kernel
theorem dX9_where_45 : decode cX9_where 45 = .ok (.bipush (-2), 2) := by decide +kernel
theorem dX9_where_47 : decode cX9_where 47 = .ok (.ireturn, 1) := by decide +kernel
theorem dX9_where_48 : decode cX9_where 48 = .ok (.aload 4, 2) := by decide +kernel
theorem dX9_where_50 : decode cX9_where 50 = .ok (.getfield 126, 3) := by decide +kernel
theorem dX9_where_53 : decode cX9_where 53 = .ok (.iload_n 2, 1) := by decide +kernel
theorem dX9_where_54 : decode cX9_where 54 = .ok (.iload_n 3, 1) := by decide +kernel
theorem dX9_where_55 : decode cX9_where 55 = .ok (.invokevirtual 198, 3) := by decide +kernel
theorem dX9_where_58 : decode cX9_where 58 = .ok (.ireturn, 1) := by decide +kernel
def f9_where (v0 : Nat) (v1 : Int32) (v2 : Int32) (v3 : Int32) (g : GS_) : Option (Int32 × GS_) :=
  lr_ (gfr g 288 v0) fun x1 => oc_ x1 none fun a2 => bd_ (f8_jobAt a2 v1 g) fun x4 g3 => oc_ x4 (some ((-1 : Int32), g3)) fun a5 => lr_ (gfr g3 33 a5) fun x6 => oc_ x6 none fun a7 => lr_ (gfr g3 130 a7) fun x8 => oc_ x8 none fun a9 => bd_ (f9_within v2 (0 : Int32) ((Int32.ofNat (gln g3 20 a9)) - (1 : Int32)) g3) fun z11 g10 => if z11 = 0 then some ((-2 : Int32), g10) else bd_ (f9_within v3 (0 : Int32) (2 : Int32) g10) fun z13 g12 => if z13 = 0 then some ((-2 : Int32), g12) else lr_ (gfr g12 33 a5) fun x14 => oc_ x14 none fun a15 => bd_ (f4_placeOf a15 v2 v3 g12) fun z17 g16 => some (z17, g16)
theorem t9_where (v0 : Nat) (v1 : Int32) (v2 : Int32) (v3 : Int32) (g : GS_) : Cn_ yX9_where cX9_where 5 (some .int) 1 27 EI_ [.inr (9, some v0), .inl v1, .inl v2, .inl v3] g (f9_where v0 v1 v2 v3 g) := by
  refine k_method (own := RX9) (ini := false) (L1 := [some (.inr (9, some v0)), some (.inl v1), some (.inl v2), some (.inl v3), none]) (by decide +kernel) rfl (fun h => by cases h) (Nat.le_of_ble_eq_true rfl) rfl ?_
  unfold f9_where
  refine k_aloadn (j := 0) dX9_where_0 rfl rfl ?_
  refine k_getr fg_9_10 rfl rfl dX9_where_1 (fun x1 => ?_)
  refine k_iloadn (j := 1) dX9_where_4 rfl rfl ?_
  rcases x1 with _ | a2
  · exact k_ocn
  refine k_ocs ?_
  refine k_callVr [.inl v1] (t8_jobAt a2 v1 g) cw_cX8_jobAt (Or.inl ml_9_122) rfl rfl (by decide) (by decide) (Nat.le_of_ble_eq_true rfl) dX9_where_5 (fun x4 g3 => ?_)
  refine k_ast (L' := [some (.inr (9, some v0)), some (.inl v1), some (.inl v2), some (.inl v3), some (.inr (1, x4))]) dX9_where_8 (by decide) rfl ?_
  refine k_aload dX9_where_10 rfl ?_
  rcases x4 with _ | a5
  · refine k_ifnonnulln dX9_where_12 ?_
    refine k_iconst (v := (-1 : Int32)) dX9_where_15 rfl ?_
    exact k_ireturn rfl dX9_where_16
  refine k_ifnonnulls (tgt := 17) dX9_where_12 (by decide) ?_
  refine k_iloadn (j := 2) dX9_where_17 rfl rfl ?_
  refine k_iconst (v := (0 : Int32)) dX9_where_18 rfl ?_
  refine k_aload dX9_where_19 rfl ?_
  refine k_getr fg_9_126 rfl rfl dX9_where_21 (fun x6 => ?_)
  rcases x6 with _ | a7
  · exact k_ocn
  refine k_ocs ?_
  refine k_getr fg_9_153 rfl rfl dX9_where_24 (fun x8 => ?_)
  rcases x8 with _ | a9
  · exact k_ocn
  refine k_ocs ?_
  refine k_alen dX9_where_27 (by decide) ?_
  refine k_iconst (v := (1 : Int32)) dX9_where_28 rfl ?_
  refine k_isub dX9_where_29 ?_
  refine k_callSi [.inl v2, .inl (0 : Int32), .inl ((Int32.ofNat (gln g3 20 a9)) - (1 : Int32))] (t9_within v2 (0 : Int32) ((Int32.ofNat (gln g3 20 a9)) - (1 : Int32)) g3) cw_cX9_within ml_9_37 rfl rfl (by decide) (by decide) (Nat.le_of_ble_eq_true rfl) dX9_where_30 (fun z11 g10 => ?_)
  refine k_ifeq (tgt := 45) dX9_where_33 (by decide) (fun _ => ?_) (fun _ => ?_)
  · refine k_bipush (v := (-2 : Int32)) dX9_where_45 rfl ?_
    exact k_ireturn rfl dX9_where_47
  refine k_iloadn (j := 3) dX9_where_36 rfl rfl ?_
  refine k_iconst (v := (0 : Int32)) dX9_where_37 rfl ?_
  refine k_iconst (v := (2 : Int32)) dX9_where_38 rfl ?_
  refine k_callSi [.inl v3, .inl (0 : Int32), .inl (2 : Int32)] (t9_within v3 (0 : Int32) (2 : Int32) g10) cw_cX9_within ml_9_37 rfl rfl (by decide) (by decide) (Nat.le_of_ble_eq_true rfl) dX9_where_39 (fun z13 g12 => ?_)
  refine k_ifne (tgt := 48) dX9_where_42 (by decide) (fun _ => ?_) (fun _ => ?_)
  · refine k_bipush (v := (-2 : Int32)) dX9_where_45 rfl ?_
    exact k_ireturn rfl dX9_where_47
  refine k_aload dX9_where_48 rfl ?_
  refine k_getr fg_9_126 rfl rfl dX9_where_50 (fun x14 => ?_)
  refine k_iloadn (j := 2) dX9_where_53 rfl rfl ?_
  refine k_iloadn (j := 3) dX9_where_54 rfl rfl ?_
  rcases x14 with _ | a15
  · exact k_ocn
  refine k_ocs ?_
  refine k_callVi [.inl v2, .inl v3] (t4_placeOf a15 v2 v3 g12) cw_cX4_placeOf (Or.inl ml_9_198) rfl rfl (by decide) (by decide) (Nat.le_of_ble_eq_true rfl) dX9_where_55 (fun z17 g16 => ?_)
  exact k_ireturn rfl dX9_where_58
theorem dX9_canonical_0 : decode cX9_canonical 0 = .ok (.aload_n 0, 1) := by decide +kernel
theorem dX9_canonical_1 : decode cX9_canonical 1 = .ok (.getfield 10, 3) := by decide +kernel
theorem dX9_canonical_4 : decode cX9_canonical 4 = .ok (.iload_n 1, 1) := by decide +kernel
theorem dX9_canonical_5 : decode cX9_canonical 5 = .ok (.invokevirtual 122, 3) := by decide +kernel
theorem dX9_canonical_8 : decode cX9_canonical 8 = .ok (.astore_n 3, 1) := by decide +kernel
theorem dX9_canonical_9 : decode cX9_canonical 9 = .ok (.aload_n 3, 1) := by decide +kernel
theorem dX9_canonical_10 : decode cX9_canonical 10 = .ok (.ifnonnull 5, 3) := by decide +kernel
theorem dX9_canonical_13 : decode cX9_canonical 13 = .ok (.iconst (-1), 1) := by decide +kernel
theorem dX9_canonical_14 : decode cX9_canonical 14 = .ok (.ireturn, 1) := by decide +kernel
theorem dX9_canonical_15 : decode cX9_canonical 15 = .ok (.aload_n 0, 1) := by decide +kernel
theorem dX9_canonical_16 : decode cX9_canonical 16 = .ok (.getfield 33, 3) := by decide +kernel
theorem dX9_canonical_19 : decode cX9_canonical 19 = .ok (.aload_n 3, 1) := by decide +kernel
theorem dX9_canonical_20 : decode cX9_canonical 20 = .ok (.getfield 126, 3) := by decide +kernel
theorem dX9_canonical_23 : decode cX9_canonical 23 = .ok (.getfield 153, 3) := by decide +kernel
theorem dX9_canonical_26 : decode cX9_canonical 26 = .ok (.invokevirtual 201, 3) := by decide +kernel
theorem dX9_canonical_29 : decode cX9_canonical 29 = .ok (.iload_n 2, 1) := by decide +kernel
theorem dX9_canonical_30 : decode cX9_canonical 30 = .ok (.iconst (-1), 1) := by decide +kernel
theorem dX9_canonical_31 : decode cX9_canonical 31 = .ok (.if_icmp .ne 11, 3) := by decide +kernel
theorem dX9_canonical_34 : decode cX9_canonical 34 = .ok (.aload_n 0, 1) := by decide +kernel
theorem dX9_canonical_35 : decode cX9_canonical 35 = .ok (.getfield 33, 3) := by decide +kernel
theorem dX9_canonical_38 : decode cX9_canonical 38 = .ok (.getfield 205, 3) := by decide +kernel
theorem dX9_canonical_41 : decode cX9_canonical 41 = .ok (.ireturn, 1) := by decide +kernel
theorem dX9_canonical_42 : decode cX9_canonical 42 = .ok (.iload_n 2, 1) := by decide +kernel
theorem dX9_canonical_43 : decode cX9_canonical 43 = .ok (.bipush (-2), 2) := by decide +kernel
theorem dX9_canonical_45 : decode cX9_canonical 45 = .ok (.if_icmp .ne 11, 3) := by decide +kernel
theorem dX9_canonical_48 : decode cX9_canonical 48 = .ok (.aload_n 0, 1) := by decide +kernel
theorem dX9_canonical_49 : decode cX9_canonical 49 = .ok (.getfield 33, 3) := by decide +kernel
theorem dX9_canonical_52 : decode cX9_canonical 52 = .ok (.invokevirtual 206, 3) := by decide +kernel
theorem dX9_canonical_55 : decode cX9_canonical 55 = .ok (.ireturn, 1) := by decide +kernel
theorem dX9_canonical_56 : decode cX9_canonical 56 = .ok (.aload_n 0, 1) := by decide +kernel
theorem dX9_canonical_57 : decode cX9_canonical 57 = .ok (.getfield 33, 3) := by decide +kernel
theorem dX9_canonical_60 : decode cX9_canonical 60 = .ok (.iload_n 2, 1) := by decide +kernel
theorem dX9_canonical_61 : decode cX9_canonical 61 = .ok (.invokevirtual 209, 3) := by decide +kernel
theorem dX9_canonical_64 : decode cX9_canonical 64 = .ok (.ifCond .eq 14, 3) := by decide +kernel
theorem dX9_canonical_67 : decode cX9_canonical 67 = .ok (.aload_n 0, 1) := by decide +kernel
theorem dX9_canonical_68 : decode cX9_canonical 68 = .ok (.getfield 33, 3) := by decide +kernel
theorem dX9_canonical_71 : decode cX9_canonical 71 = .ok (.iload_n 2, 1) := by decide +kernel
theorem dX9_canonical_72 : decode cX9_canonical 72 = .ok (.invokevirtual 210, 3) := by decide +kernel
theorem dX9_canonical_75 : decode cX9_canonical 75 = .ok (.goto 5, 3) := by decide +kernel
theorem dX9_canonical_78 : decode cX9_canonical 78 = .ok (.bipush (-6), 2) := by decide +kernel
theorem dX9_canonical_80 : decode cX9_canonical 80 = .ok (.ireturn, 1) := by decide +kernel
def f9_canonical (v0 : Nat) (v1 : Int32) (v2 : Int32) (g : GS_) : Option (Int32 × GS_) :=
  lr_ (gfr g 288 v0) fun x1 => oc_ x1 none fun a2 => bd_ (f8_jobAt a2 v1 g) fun x4 g3 => oc_ x4 (some ((-1 : Int32), g3)) fun a5 => lr_ (gfr g3 292 v0) fun x6 => lr_ (gfr g3 33 a5) fun x7 => oc_ x7 none fun a8 => lr_ (gfr g3 130 a8) fun x9 => oc_ x6 none fun a10 => bd_ (f7_describe a10 x9 g3) fun _ g11 => if v2 = (-1 : Int32) then lr_ (gfr g11 292 v0) fun x12 => oc_ x12 none fun a13 => some ((gfi g11 228 a13), g11) else if v2 = (-2 : Int32) then lr_ (gfr g11 292 v0) fun x14 => oc_ x14 none fun a15 => bd_ (f7_itemCount a15 g11) fun z17 g16 => some (z17, g16) else lr_ (gfr g11 292 v0) fun x18 => oc_ x18 none fun a19 => bd_ (f7_has a19 v2 g11) fun z21 g20 => if z21 = 0 then some ((-6 : Int32), g20) else lr_ (gfr g20 292 v0) fun x22 => oc_ x22 none fun a23 => bd_ (f7_characterAt a23 v2 g20) fun z25 g24 => some (z25, g24)
theorem t9_canonical (v0 : Nat) (v1 : Int32) (v2 : Int32) (g : GS_) : Cn_ yX9_canonical cX9_canonical 4 (some .int) 6 137 EI_ [.inr (9, some v0), .inl v1, .inl v2] g (f9_canonical v0 v1 v2 g) := by
  refine k_method (own := RX9) (ini := false) (L1 := [some (.inr (9, some v0)), some (.inl v1), some (.inl v2), none]) (by decide +kernel) rfl (fun h => by cases h) (Nat.le_of_ble_eq_true rfl) rfl ?_
  unfold f9_canonical
  refine k_aloadn (j := 0) dX9_canonical_0 rfl rfl ?_
  refine k_getr fg_9_10 rfl rfl dX9_canonical_1 (fun x1 => ?_)
  refine k_iloadn (j := 1) dX9_canonical_4 rfl rfl ?_
  rcases x1 with _ | a2
  · exact k_ocn
  refine k_ocs ?_
  refine k_callVr [.inl v1] (t8_jobAt a2 v1 g) cw_cX8_jobAt (Or.inl ml_9_122) rfl rfl (by decide) (by decide) (Nat.le_of_ble_eq_true rfl) dX9_canonical_5 (fun x4 g3 => ?_)
  refine k_astn (j := 3) (L' := [some (.inr (9, some v0)), some (.inl v1), some (.inl v2), some (.inr (1, x4))]) dX9_canonical_8 rfl (by decide) rfl ?_
  refine k_aloadn (j := 3) dX9_canonical_9 rfl rfl ?_
  rcases x4 with _ | a5
  · refine k_ifnonnulln dX9_canonical_10 ?_
    refine k_iconst (v := (-1 : Int32)) dX9_canonical_13 rfl ?_
    exact k_ireturn rfl dX9_canonical_14
  refine k_ifnonnulls (tgt := 15) dX9_canonical_10 (by decide) ?_
  refine k_aloadn (j := 0) dX9_canonical_15 rfl rfl ?_
  refine k_getr fg_9_33 rfl rfl dX9_canonical_16 (fun x6 => ?_)
  refine k_aloadn (j := 3) dX9_canonical_19 rfl rfl ?_
  refine k_getr fg_9_126 rfl rfl dX9_canonical_20 (fun x7 => ?_)
  rcases x7 with _ | a8
  · exact k_ocn
  refine k_ocs ?_
  refine k_getr fg_9_153 rfl rfl dX9_canonical_23 (fun x9 => ?_)
  rcases x6 with _ | a10
  · exact k_ocn
  refine k_ocs ?_
  refine k_callVv [.inr (20, x9)] (t7_describe a10 x9 g3) cw_cX7_describe (Or.inl ml_9_201) rfl rfl (by decide) (by decide) (Nat.le_of_ble_eq_true rfl) dX9_canonical_26 (fun _ g11 => ?_)
  refine k_iloadn (j := 2) dX9_canonical_29 rfl rfl ?_
  refine k_iconst (v := (-1 : Int32)) dX9_canonical_30 rfl ?_
  refine k_icmpne (tgt := 42) dX9_canonical_31 (by decide) (fun _ => ?_) (fun _ => ?_)
  · refine k_aloadn (j := 0) dX9_canonical_34 rfl rfl ?_
    refine k_getr fg_9_33 rfl rfl dX9_canonical_35 (fun x12 => ?_)
    rcases x12 with _ | a13
    · exact k_ocn
    refine k_ocs ?_
    refine k_geti fg_9_205 rfl rfl dX9_canonical_38 ?_
    exact k_ireturn rfl dX9_canonical_41
  refine k_iloadn (j := 2) dX9_canonical_42 rfl rfl ?_
  refine k_bipush (v := (-2 : Int32)) dX9_canonical_43 rfl ?_
  refine k_icmpne (tgt := 56) dX9_canonical_45 (by decide) (fun _ => ?_) (fun _ => ?_)
  · refine k_aloadn (j := 0) dX9_canonical_48 rfl rfl ?_
    refine k_getr fg_9_33 rfl rfl dX9_canonical_49 (fun x14 => ?_)
    rcases x14 with _ | a15
    · exact k_ocn
    refine k_ocs ?_
    refine k_callVi [] (t7_itemCount a15 g11) cw_cX7_itemCount (Or.inl ml_9_206) rfl rfl (by decide) (by decide) (Nat.le_of_ble_eq_true rfl) dX9_canonical_52 (fun z17 g16 => ?_)
    exact k_ireturn rfl dX9_canonical_55
  refine k_aloadn (j := 0) dX9_canonical_56 rfl rfl ?_
  refine k_getr fg_9_33 rfl rfl dX9_canonical_57 (fun x18 => ?_)
  refine k_iloadn (j := 2) dX9_canonical_60 rfl rfl ?_
  rcases x18 with _ | a19
  · exact k_ocn
  refine k_ocs ?_
  refine k_callVi [.inl v2] (t7_has a19 v2 g11) cw_cX7_has (Or.inl ml_9_209) rfl rfl (by decide) (by decide) (Nat.le_of_ble_eq_true rfl) dX9_canonical_61 (fun z21 g20 => ?_)
  refine k_ifeq (tgt := 78) dX9_canonical_64 (by decide) (fun _ => ?_) (fun _ => ?_)
  · refine k_bipush (v := (-6 : Int32)) dX9_canonical_78 rfl ?_
    exact k_ireturn rfl dX9_canonical_80
  refine k_aloadn (j := 0) dX9_canonical_67 rfl rfl ?_
  refine k_getr fg_9_33 rfl rfl dX9_canonical_68 (fun x22 => ?_)
  refine k_iloadn (j := 2) dX9_canonical_71 rfl rfl ?_
  rcases x22 with _ | a23
  · exact k_ocn
  refine k_ocs ?_
  refine k_callVi [.inl v2] (t7_characterAt a23 v2 g20) cw_cX7_characterAt (Or.inl ml_9_210) rfl rfl (by decide) (by decide) (Nat.le_of_ble_eq_true rfl) dX9_canonical_72 (fun z25 g24 => ?_)
  refine k_goto (tgt := 80) dX9_canonical_75 (by decide) ?_
  exact k_ireturn rfl dX9_canonical_80
theorem dX9_addPrinter_0 : decode cX9_addPrinter 0 = .ok (.iload_n 1, 1) := by decide +kernel
theorem dX9_addPrinter_1 : decode cX9_addPrinter 1 = .ok (.iconst 1, 1) := by decide +kernel
theorem dX9_addPrinter_2 : decode cX9_addPrinter 2 = .ok (.bipush 50, 2) := by decide +kernel
theorem dX9_addPrinter_4 : decode cX9_addPrinter 4 = .ok (.invokestatic 37, 3) := by decide +kernel
theorem dX9_addPrinter_7 : decode cX9_addPrinter 7 = .ok (.ifCond .eq 23, 3) := by decide +kernel
theorem dX9_addPrinter_10 : decode cX9_addPrinter 10 = .ok (.iload_n 2, 1) := by decide +kernel
theorem dX9_addPrinter_11 : decode cX9_addPrinter 11 = .ok (.iconst 1, 1) := by decide +kernel
theorem dX9_addPrinter_12 : decode cX9_addPrinter 12 = .ok (.sipush 2000, 3) := by decide +kernel
theorem dX9_addPrinter_15 : decode cX9_addPrinter 15 = .ok (.invokestatic 37, 3) := by decide +kernel
theorem dX9_addPrinter_18 : decode cX9_addPrinter 18 = .ok (.ifCond .eq 12, 3) := by decide +kernel
theorem dX9_addPrinter_21 : decode cX9_addPrinter 21 = .ok (.iload_n 3, 1) := by decide +kernel
theorem dX9_addPrinter_22 : decode cX9_addPrinter 22 = .ok (.iconst 0, 1) := by decide +kernel
theorem dX9_addPrinter_23 : decode cX9_addPrinter 23 = .ok (.iconst 1, 1) := by decide +kernel
theorem dX9_addPrinter_24 : decode cX9_addPrinter 24 = .ok (.invokestatic 37, 3) := by decide +kernel
theorem dX9_addPrinter_27 : decode cX9_addPrinter 27 = .ok (.ifCond .ne 6, 3) := by decide +kernel
theorem dX9_addPrinter_30 : decode cX9_addPrinter 30 = .ok (.bipush (-2), 2) := by decide +kernel
theorem dX9_addPrinter_32 : decode cX9_addPrinter 32 = .ok (.ireturn, 1) := by decide +kernel
theorem dX9_addPrinter_33 : decode cX9_addPrinter 33 = .ok (.aload_n 0, 1) := by decide +kernel
theorem dX9_addPrinter_34 : decode cX9_addPrinter 34 = .ok (.getfield 10, 3) := by decide +kernel
theorem dX9_addPrinter_37 : decode cX9_addPrinter 37 = .ok (.iload_n 1, 1) := by decide +kernel
theorem dX9_addPrinter_38 : decode cX9_addPrinter 38 = .ok (.iload_n 2, 1) := by decide +kernel
theorem dX9_addPrinter_39 : decode cX9_addPrinter 39 = .ok (.iload_n 3, 1) := by decide +kernel
theorem dX9_addPrinter_40 : decode cX9_addPrinter 40 = .ok (.iconst 1, 1) := by decide +kernel
theorem dX9_addPrinter_41 : decode cX9_addPrinter 41 = .ok (.if_icmp .ne 7, 3) := by decide +kernel
theorem dX9_addPrinter_44 : decode cX9_addPrinter 44 = .ok (.iconst 1, 1) := by decide +kernel
theorem dX9_addPrinter_45 : decode cX9_addPrinter 45 = .ok (.goto 4, 3) := by decide +kernel
theorem dX9_addPrinter_48 : decode cX9_addPrinter 48 = .ok (.iconst 0, 1) := by decide +kernel
theorem dX9_addPrinter_49 : decode cX9_addPrinter 49 = .ok (.invokevirtual 213, 3) := by decide +kernel
theorem dX9_addPrinter_52 : decode cX9_addPrinter 52 = .ok (.ireturn, 1) := by decide +kernel
def f9_addPrinter_b49 (s0 : Option Nat) (s1 : Int32) (s2 : Int32) (s3 : Int32) (g : GS_) : Option (Int32 × GS_) :=
  oc_ s0 none fun a1 => bd_ (f8_keepPrinter a1 s1 s2 s3 g) fun z3 g2 => some (z3, g2)
theorem t9_addPrinter_b49 (s0 : Option Nat) (s1 : Int32) (s2 : Int32) (s3 : Int32) (g : GS_) : K_ RX9 cX9_addPrinter 4 (some .int) 2 48 false EI_ 49 [none, none, none, none] [.inl s3, .inl s2, .inl s1, .inr (8, s0)] g (f9_addPrinter_b49 s0 s1 s2 s3 g) := by
  unfold f9_addPrinter_b49
  rcases s0 with _ | a1
  · exact k_ocn
  refine k_ocs ?_
  refine k_callVi [.inl s1, .inl s2, .inl s3] (t8_keepPrinter a1 s1 s2 s3 g) cw_cX8_keepPrinter (Or.inl ml_9_213) rfl rfl (by decide) (by decide) (Nat.le_of_ble_eq_true rfl) dX9_addPrinter_49 (fun z3 g2 => ?_)
  exact k_ireturn rfl dX9_addPrinter_52
def f9_addPrinter (v0 : Nat) (v1 : Int32) (v2 : Int32) (v3 : Int32) (g : GS_) : Option (Int32 × GS_) :=
  bd_ (f9_within v1 (1 : Int32) (50 : Int32) g) fun z5 g4 => if z5 = 0 then some ((-2 : Int32), g4) else bd_ (f9_within v2 (1 : Int32) (2000 : Int32) g4) fun z7 g6 => if z7 = 0 then some ((-2 : Int32), g6) else bd_ (f9_within v3 (0 : Int32) (1 : Int32) g6) fun z9 g8 => if z9 = 0 then some ((-2 : Int32), g8) else lr_ (gfr g8 288 v0) fun x10 => if v3 = (1 : Int32) then f9_addPrinter_b49 x10 v1 v2 (1 : Int32) g8 else f9_addPrinter_b49 x10 v1 v2 (0 : Int32) g8
theorem t9_addPrinter (v0 : Nat) (v1 : Int32) (v2 : Int32) (v3 : Int32) (g : GS_) : Cn_ yX9_addPrinter cX9_addPrinter 4 (some .int) 2 48 EI_ [.inr (9, some v0), .inl v1, .inl v2, .inl v3] g (f9_addPrinter v0 v1 v2 v3 g) := by
  refine k_method (own := RX9) (ini := false) (L1 := [some (.inr (9, some v0)), some (.inl v1), some (.inl v2), some (.inl v3)]) (by decide +kernel) rfl (fun h => by cases h) (Nat.le_of_ble_eq_true rfl) rfl ?_
  unfold f9_addPrinter
  refine k_iloadn (j := 1) dX9_addPrinter_0 rfl rfl ?_
  refine k_iconst (v := (1 : Int32)) dX9_addPrinter_1 rfl ?_
  refine k_bipush (v := (50 : Int32)) dX9_addPrinter_2 rfl ?_
  refine k_callSi [.inl v1, .inl (1 : Int32), .inl (50 : Int32)] (t9_within v1 (1 : Int32) (50 : Int32) g) cw_cX9_within ml_9_37 rfl rfl (by decide) (by decide) (Nat.le_of_ble_eq_true rfl) dX9_addPrinter_4 (fun z5 g4 => ?_)
  refine k_ifeq (tgt := 30) dX9_addPrinter_7 (by decide) (fun _ => ?_) (fun _ => ?_)
  · refine k_bipush (v := (-2 : Int32)) dX9_addPrinter_30 rfl ?_
    exact k_ireturn rfl dX9_addPrinter_32
  refine k_iloadn (j := 2) dX9_addPrinter_10 rfl rfl ?_
  refine k_iconst (v := (1 : Int32)) dX9_addPrinter_11 rfl ?_
  refine k_sipush (v := (2000 : Int32)) dX9_addPrinter_12 rfl ?_
  refine k_callSi [.inl v2, .inl (1 : Int32), .inl (2000 : Int32)] (t9_within v2 (1 : Int32) (2000 : Int32) g4) cw_cX9_within ml_9_37 rfl rfl (by decide) (by decide) (Nat.le_of_ble_eq_true rfl) dX9_addPrinter_15 (fun z7 g6 => ?_)
  refine k_ifeq (tgt := 30) dX9_addPrinter_18 (by decide) (fun _ => ?_) (fun _ => ?_)
  · refine k_bipush (v := (-2 : Int32)) dX9_addPrinter_30 rfl ?_
    exact k_ireturn rfl dX9_addPrinter_32
  refine k_iloadn (j := 3) dX9_addPrinter_21 rfl rfl ?_
  refine k_iconst (v := (0 : Int32)) dX9_addPrinter_22 rfl ?_
  refine k_iconst (v := (1 : Int32)) dX9_addPrinter_23 rfl ?_
  refine k_callSi [.inl v3, .inl (0 : Int32), .inl (1 : Int32)] (t9_within v3 (0 : Int32) (1 : Int32) g6) cw_cX9_within ml_9_37 rfl rfl (by decide) (by decide) (Nat.le_of_ble_eq_true rfl) dX9_addPrinter_24 (fun z9 g8 => ?_)
  refine k_ifne (tgt := 33) dX9_addPrinter_27 (by decide) (fun _ => ?_) (fun _ => ?_)
  · refine k_bipush (v := (-2 : Int32)) dX9_addPrinter_30 rfl ?_
    exact k_ireturn rfl dX9_addPrinter_32
  refine k_aloadn (j := 0) dX9_addPrinter_33 rfl rfl ?_
  refine k_getr fg_9_10 rfl rfl dX9_addPrinter_34 (fun x10 => ?_)
  refine k_iloadn (j := 1) dX9_addPrinter_37 rfl rfl ?_
  refine k_iloadn (j := 2) dX9_addPrinter_38 rfl rfl ?_
  refine k_iloadn (j := 3) dX9_addPrinter_39 rfl rfl ?_
  refine k_iconst (v := (1 : Int32)) dX9_addPrinter_40 rfl ?_
  refine k_icmpne (tgt := 48) dX9_addPrinter_41 (by decide) (fun _ => ?_) (fun _ => ?_)
  · refine k_iconst (v := (1 : Int32)) dX9_addPrinter_44 rfl ?_
    refine k_goto (tgt := 49) dX9_addPrinter_45 (by decide) ?_
    refine k_msk (L' := [none, none, none, none]) [false, false, false, false] rfl ?_
    exact t9_addPrinter_b49 x10 v1 v2 (1 : Int32) g8
  refine k_iconst (v := (0 : Int32)) dX9_addPrinter_48 rfl ?_
  refine k_msk (L' := [none, none, none, none]) [false, false, false, false] rfl ?_
  exact t9_addPrinter_b49 x10 v1 v2 (0 : Int32) g8
theorem dX9_fill_0 : decode cX9_fill 0 = .ok (.aload_n 0, 1) := by decide +kernel
theorem dX9_fill_1 : decode cX9_fill 1 = .ok (.getfield 10, 3) := by decide +kernel
theorem dX9_fill_4 : decode cX9_fill 4 = .ok (.iload_n 1, 1) := by decide +kernel
theorem dX9_fill_5 : decode cX9_fill 5 = .ok (.invokevirtual 217, 3) := by decide +kernel
theorem dX9_fill_8 : decode cX9_fill 8 = .ok (.astore 4, 2) := by decide +kernel
theorem dX9_fill_10 : decode cX9_fill 10 = .ok (.aload 4, 2) := by decide +kernel
theorem dX9_fill_12 : decode cX9_fill 12 = .ok (.ifnonnull 5, 3) := by decide +kernel
theorem dX9_fill_15 : decode cX9_fill 15 = .ok (.iconst (-1), 1) := by decide +kernel
theorem dX9_fill_16 : decode cX9_fill 16 = .ok (.ireturn, 1) := by decide +kernel
theorem dX9_fill_17 : decode cX9_fill 17 = .ok (.iload_n 2, 1) := by decide +kernel
theorem dX9_fill_18 : decode cX9_fill 18 = .ok (.iconst 0, 1) := by decide +kernel
theorem dX9_fill_19 : decode cX9_fill 19 = .ok (.iconst 2, 1) := by decide +kernel
theorem dX9_fill_20 : decode cX9_fill 20 = .ok (.invokestatic 37, 3) := by decide +kernel
theorem dX9_fill_23 : decode cX9_fill 23 = .ok (.ifCond .eq 16, 3) := by decide +kernel
theorem dX9_fill_26 : decode cX9_fill 26 = .ok (.iload_n 3, 1) := by decide +kernel
theorem dX9_fill_27 : decode cX9_fill 27 = .ok (.sipush (-500), 3) := by decide +kernel
theorem dX9_fill_30 : decode cX9_fill 30 = .ok (.sipush 500, 3) := by decide +kernel
theorem dX9_fill_33 : decode cX9_fill 33 = .ok (.invokestatic 37, 3) := by decide +kernel
theorem dX9_fill_36 : decode cX9_fill 36 = .ok (.ifCond .ne 6, 3) := by decide +kernel
theorem dX9_fill_39 : decode cX9_fill 39 = .ok (.bipush (-2), 2) := by decide +kernel
theorem dX9_fill_41 : decode cX9_fill 41 = .ok (.ireturn, 1) := by decide +kernel
theorem dX9_fill_42 : decode cX9_fill 42 = .ok (.aload 4, 2) := by decide +kernel
theorem dX9_fill_44 : decode cX9_fill 44 = .ok (.iload_n 2, 1) := by decide +kernel
theorem dX9_fill_45 : decode cX9_fill 45 = .ok (.invokevirtual 221, 3) := by decide +kernel
theorem dX9_fill_48 : decode cX9_fill 48 = .ok (.iload_n 3, 1) := by decide +kernel
theorem dX9_fill_49 : decode cX9_fill 49 = .ok (.iadd, 1) := by decide +kernel
theorem dX9_fill_50 : decode cX9_fill 50 = .ok (.istore 5, 2) := by decide +kernel
theorem dX9_fill_52 : decode cX9_fill 52 = .ok (.iload 5, 2) := by decide +kernel
theorem dX9_fill_54 : decode cX9_fill 54 = .ok (.iconst 0, 1) := by decide +kernel
theorem dX9_fill_55 : decode cX9_fill 55 = .ok (.sipush 500, 3) := by decide +kernel
theorem dX9_fill_58 : decode cX9_fill 58 = .ok (.invokestatic 37, 3) := by decide +kernel
theorem dX9_fill_61 : decode cX9_fill 61 = .ok (.ifCond .ne 6, 3) := by decide +kernel
theorem dX9_fill_64 : decode cX9_fill 64 = .ok (.bipush (-5), 2) := by decide +kernel
theorem dX9_fill_66 : decode cX9_fill 66 = .ok (.ireturn, 1) := by decide +kernel
theorem dX9_fill_67 : decode cX9_fill 67 = .ok (.aload 4, 2) := by decide +kernel
theorem dX9_fill_69 : decode cX9_fill 69 = .ok (.iload_n 2, 1) := by decide +kernel
theorem dX9_fill_70 : decode cX9_fill 70 = .ok (.iload 5, 2) := by decide +kernel
theorem dX9_fill_72 : decode cX9_fill 72 = .ok (.invokevirtual 226, 3) := by decide +kernel
theorem dX9_fill_75 : decode cX9_fill 75 = .ok (.iload 5, 2) := by decide +kernel
theorem dX9_fill_77 : decode cX9_fill 77 = .ok (.ireturn, 1) := by decide +kernel
def f9_fill (v0 : Nat) (v1 : Int32) (v2 : Int32) (v3 : Int32) (g : GS_) : Option (Int32 × GS_) :=
  lr_ (gfr g 288 v0) fun x1 => oc_ x1 none fun a2 => bd_ (f8_printerAt a2 v1 g) fun x4 g3 => oc_ x4 (some ((-1 : Int32), g3)) fun a5 => bd_ (f9_within v2 (0 : Int32) (2 : Int32) g3) fun z7 g6 => if z7 = 0 then some ((-2 : Int32), g6) else bd_ (f9_within v3 (-500 : Int32) (500 : Int32) g6) fun z9 g8 => if z9 = 0 then some ((-2 : Int32), g8) else bd_ (f5_sheetsIn a5 v2 g8) fun z11 g10 => lr_ (z11 + v3) fun z12 => bd_ (f9_within z12 (0 : Int32) (500 : Int32) g10) fun z14 g13 => if z14 = 0 then some ((-5 : Int32), g13) else bd_ (f5_changeTray a5 v2 z12 g13) fun _ g15 => some (z12, g15)
theorem t9_fill (v0 : Nat) (v1 : Int32) (v2 : Int32) (v3 : Int32) (g : GS_) : Cn_ yX9_fill cX9_fill 6 (some .int) 1 22 EI_ [.inr (9, some v0), .inl v1, .inl v2, .inl v3] g (f9_fill v0 v1 v2 v3 g) := by
  refine k_method (own := RX9) (ini := false) (L1 := [some (.inr (9, some v0)), some (.inl v1), some (.inl v2), some (.inl v3), none, none]) (by decide +kernel) rfl (fun h => by cases h) (Nat.le_of_ble_eq_true rfl) rfl ?_
  unfold f9_fill
  refine k_aloadn (j := 0) dX9_fill_0 rfl rfl ?_
  refine k_getr fg_9_10 rfl rfl dX9_fill_1 (fun x1 => ?_)
  refine k_iloadn (j := 1) dX9_fill_4 rfl rfl ?_
  rcases x1 with _ | a2
  · exact k_ocn
  refine k_ocs ?_
  refine k_callVr [.inl v1] (t8_printerAt a2 v1 g) cw_cX8_printerAt (Or.inl ml_9_217) rfl rfl (by decide) (by decide) (Nat.le_of_ble_eq_true rfl) dX9_fill_5 (fun x4 g3 => ?_)
  refine k_ast (L' := [some (.inr (9, some v0)), some (.inl v1), some (.inl v2), some (.inl v3), some (.inr (5, x4)), none]) dX9_fill_8 (by decide) rfl ?_
  refine k_aload dX9_fill_10 rfl ?_
  rcases x4 with _ | a5
  · refine k_ifnonnulln dX9_fill_12 ?_
    refine k_iconst (v := (-1 : Int32)) dX9_fill_15 rfl ?_
    exact k_ireturn rfl dX9_fill_16
  refine k_ifnonnulls (tgt := 17) dX9_fill_12 (by decide) ?_
  refine k_iloadn (j := 2) dX9_fill_17 rfl rfl ?_
  refine k_iconst (v := (0 : Int32)) dX9_fill_18 rfl ?_
  refine k_iconst (v := (2 : Int32)) dX9_fill_19 rfl ?_
  refine k_callSi [.inl v2, .inl (0 : Int32), .inl (2 : Int32)] (t9_within v2 (0 : Int32) (2 : Int32) g3) cw_cX9_within ml_9_37 rfl rfl (by decide) (by decide) (Nat.le_of_ble_eq_true rfl) dX9_fill_20 (fun z7 g6 => ?_)
  refine k_ifeq (tgt := 39) dX9_fill_23 (by decide) (fun _ => ?_) (fun _ => ?_)
  · refine k_bipush (v := (-2 : Int32)) dX9_fill_39 rfl ?_
    exact k_ireturn rfl dX9_fill_41
  refine k_iloadn (j := 3) dX9_fill_26 rfl rfl ?_
  refine k_sipush (v := (-500 : Int32)) dX9_fill_27 rfl ?_
  refine k_sipush (v := (500 : Int32)) dX9_fill_30 rfl ?_
  refine k_callSi [.inl v3, .inl (-500 : Int32), .inl (500 : Int32)] (t9_within v3 (-500 : Int32) (500 : Int32) g6) cw_cX9_within ml_9_37 rfl rfl (by decide) (by decide) (Nat.le_of_ble_eq_true rfl) dX9_fill_33 (fun z9 g8 => ?_)
  refine k_ifne (tgt := 42) dX9_fill_36 (by decide) (fun _ => ?_) (fun _ => ?_)
  · refine k_bipush (v := (-2 : Int32)) dX9_fill_39 rfl ?_
    exact k_ireturn rfl dX9_fill_41
  refine k_aload dX9_fill_42 rfl ?_
  refine k_iloadn (j := 2) dX9_fill_44 rfl rfl ?_
  refine k_callVi [.inl v2] (t5_sheetsIn a5 v2 g8) cw_cX5_sheetsIn (Or.inl ml_9_221) rfl rfl (by decide) (by decide) (Nat.le_of_ble_eq_true rfl) dX9_fill_45 (fun z11 g10 => ?_)
  refine k_iloadn (j := 3) dX9_fill_48 rfl rfl ?_
  refine k_iadd dX9_fill_49 ?_
  refine k_istl (L2 := fun z12 => [some (.inr (9, some v0)), some (.inl v1), some (.inl v2), some (.inl v3), some (.inr (5, some a5)), some (.inl z12)]) dX9_fill_50 (by decide) (fun _ => rfl) (fun z12 => ?_)
  refine k_iload dX9_fill_52 rfl ?_
  refine k_iconst (v := (0 : Int32)) dX9_fill_54 rfl ?_
  refine k_sipush (v := (500 : Int32)) dX9_fill_55 rfl ?_
  refine k_callSi [.inl z12, .inl (0 : Int32), .inl (500 : Int32)] (t9_within z12 (0 : Int32) (500 : Int32) g10) cw_cX9_within ml_9_37 rfl rfl (by decide) (by decide) (Nat.le_of_ble_eq_true rfl) dX9_fill_58 (fun z14 g13 => ?_)
  refine k_ifne (tgt := 67) dX9_fill_61 (by decide) (fun _ => ?_) (fun _ => ?_)
  · refine k_bipush (v := (-5 : Int32)) dX9_fill_64 rfl ?_
    exact k_ireturn rfl dX9_fill_66
  refine k_aload dX9_fill_67 rfl ?_
  refine k_iloadn (j := 2) dX9_fill_69 rfl rfl ?_
  refine k_iload dX9_fill_70 rfl ?_
  refine k_callVv [.inl v2, .inl z12] (t5_changeTray a5 v2 z12 g13) cw_cX5_changeTray (Or.inl ml_9_226) rfl rfl (by decide) (by decide) (Nat.le_of_ble_eq_true rfl) dX9_fill_72 (fun _ g15 => ?_)
  refine k_iload dX9_fill_75 rfl ?_
  exact k_ireturn rfl dX9_fill_77
theorem dX9_printer_0 : decode cX9_printer 0 = .ok (.aload_n 0, 1) := by decide +kernel
theorem dX9_printer_1 : decode cX9_printer 1 = .ok (.getfield 10, 3) := by decide +kernel
theorem dX9_printer_4 : decode cX9_printer 4 = .ok (.iload_n 1, 1) := by decide +kernel
theorem dX9_printer_5 : decode cX9_printer 5 = .ok (.invokevirtual 217, 3) := by decide +kernel
theorem dX9_printer_8 : decode cX9_printer 8 = .ok (.astore_n 3, 1) := by decide +kernel
theorem dX9_printer_9 : decode cX9_printer 9 = .ok (.aload_n 3, 1) := by decide +kernel
theorem dX9_printer_10 : decode cX9_printer 10 = .ok (.ifnonnull 5, 3) := by decide +kernel
theorem dX9_printer_13 : decode cX9_printer 13 = .ok (.iconst (-1), 1) := by decide +kernel
theorem dX9_printer_14 : decode cX9_printer 14 = .ok (.ireturn, 1) := by decide +kernel
theorem dX9_printer_15 : decode cX9_printer 15 = .ok (.aload_n 3, 1) := by decide +kernel
theorem dX9_printer_16 : decode cX9_printer 16 = .ok (.getfield 229, 3) := by decide +kernel
theorem dX9_printer_19 : decode cX9_printer 19 = .ok (.iconst 1, 1) := by decide +kernel
theorem dX9_printer_20 : decode cX9_printer 20 = .ok (.if_icmp .ne 7, 3) := by decide +kernel
theorem dX9_printer_23 : decode cX9_printer 23 = .ok (.iconst 1, 1) := by decide +kernel
theorem dX9_printer_24 : decode cX9_printer 24 = .ok (.goto 4, 3) := by decide +kernel
theorem dX9_printer_27 : decode cX9_printer 27 = .ok (.iconst 0, 1) := by decide +kernel
theorem dX9_printer_28 : decode cX9_printer 28 = .ok (.istore 4, 2) := by decide +kernel
theorem dX9_printer_30 : decode cX9_printer 30 = .ok (.iload_n 2, 1) := by decide +kernel
theorem dX9_printer_31 : decode cX9_printer 31 = .ok (.tableswitch 87 0 6 #[41, 41, 41, 47, 52, 67, 82], 41) := by decide +kernel
theorem dX9_printer_72 : decode cX9_printer 72 = .ok (.aload_n 3, 1) := by decide +kernel
theorem dX9_printer_73 : decode cX9_printer 73 = .ok (.iload_n 2, 1) := by decide +kernel
theorem dX9_printer_74 : decode cX9_printer 74 = .ok (.invokevirtual 221, 3) := by decide +kernel
theorem dX9_printer_77 : decode cX9_printer 77 = .ok (.ireturn, 1) := by decide +kernel
theorem dX9_printer_78 : decode cX9_printer 78 = .ok (.aload_n 3, 1) := by decide +kernel
theorem dX9_printer_79 : decode cX9_printer 79 = .ok (.getfield 229, 3) := by decide +kernel
theorem dX9_printer_82 : decode cX9_printer 82 = .ok (.ireturn, 1) := by decide +kernel
theorem dX9_printer_83 : decode cX9_printer 83 = .ok (.iload 4, 2) := by decide +kernel
theorem dX9_printer_85 : decode cX9_printer 85 = .ok (.ifCond .eq 10, 3) := by decide +kernel
theorem dX9_printer_88 : decode cX9_printer 88 = .ok (.aload_n 3, 1) := by decide +kernel
theorem dX9_printer_89 : decode cX9_printer 89 = .ok (.getfield 230, 3) := by decide +kernel
theorem dX9_printer_92 : decode cX9_printer 92 = .ok (.goto 5, 3) := by decide +kernel
theorem dX9_printer_95 : decode cX9_printer 95 = .ok (.bipush (-6), 2) := by decide +kernel
theorem dX9_printer_97 : decode cX9_printer 97 = .ok (.ireturn, 1) := by decide +kernel
theorem dX9_printer_98 : decode cX9_printer 98 = .ok (.iload 4, 2) := by decide +kernel
theorem dX9_printer_100 : decode cX9_printer 100 = .ok (.ifCond .eq 10, 3) := by decide +kernel
theorem dX9_printer_103 : decode cX9_printer 103 = .ok (.aload_n 3, 1) := by decide +kernel
theorem dX9_printer_104 : decode cX9_printer 104 = .ok (.getfield 233, 3) := by decide +kernel
theorem dX9_printer_107 : decode cX9_printer 107 = .ok (.goto 5, 3) := by decide +kernel
theorem dX9_printer_110 : decode cX9_printer 110 = .ok (.bipush (-6), 2) := by decide +kernel
theorem dX9_printer_112 : decode cX9_printer 112 = .ok (.ireturn, 1) := by decide +kernel
theorem dX9_printer_113 : decode cX9_printer 113 = .ok (.aload_n 3, 1) := by decide +kernel
theorem dX9_printer_114 : decode cX9_printer 114 = .ok (.getfield 236, 3) := by decide +kernel
theorem dX9_printer_117 : decode cX9_printer 117 = .ok (.ireturn, 1) := by decide +kernel
theorem dX9_printer_118 : decode cX9_printer 118 = .ok (.bipush (-2), 2) := by decide +kernel
theorem dX9_printer_120 : decode cX9_printer 120 = .ok (.ireturn, 1) := by decide +kernel
def f9_printer_b72 (v2 : Int32) (v3 : Option Nat) (g : GS_) : Option (Int32 × GS_) :=
  oc_ v3 none fun a1 => bd_ (f5_sheetsIn a1 v2 g) fun z3 g2 => some (z3, g2)
theorem t9_printer_b72 (v2 : Int32) (v3 : Option Nat) (g : GS_) : K_ RX9 cX9_printer 5 (some .int) 1 22 false EI_ 72 [none, none, some (.inl v2), some (.inr (5, v3)), none] [] g (f9_printer_b72 v2 v3 g) := by
  unfold f9_printer_b72
  refine k_aloadn (j := 3) dX9_printer_72 rfl rfl ?_
  refine k_iloadn (j := 2) dX9_printer_73 rfl rfl ?_
  rcases v3 with _ | a1
  · exact k_ocn
  refine k_ocs ?_
  refine k_callVi [.inl v2] (t5_sheetsIn a1 v2 g) cw_cX5_sheetsIn (Or.inl ml_9_221) rfl rfl (by decide) (by decide) (Nat.le_of_ble_eq_true rfl) dX9_printer_74 (fun z3 g2 => ?_)
  exact k_ireturn rfl dX9_printer_77
def f9_printer_b28 (v2 : Int32) (v3 : Option Nat) (s0 : Int32) (g : GS_) : Option (Int32 × GS_) :=
  if v2 = (0 : Int32) then f9_printer_b72 v2 v3 g else if v2 = (1 : Int32) then f9_printer_b72 v2 v3 g else if v2 = (2 : Int32) then f9_printer_b72 v2 v3 g else if v2 = (3 : Int32) then oc_ v3 none fun a4 => some ((gfi g 164 a4), g) else if v2 = (4 : Int32) then if s0 = 0 then some ((-6 : Int32), g) else oc_ v3 none fun a5 => some ((gfi g 165 a5), g) else if v2 = (5 : Int32) then if s0 = 0 then some ((-6 : Int32), g) else oc_ v3 none fun a6 => some ((gfi g 166 a6), g) else if v2 = (6 : Int32) then oc_ v3 none fun a7 => some ((gfi g 167 a7), g) else some ((-2 : Int32), g)
theorem t9_printer_b28 (v2 : Int32) (v3 : Option Nat) (s0 : Int32) (g : GS_) : K_ RX9 cX9_printer 5 (some .int) 1 22 false EI_ 28 [none, none, some (.inl v2), some (.inr (5, v3)), none] [.inl s0] g (f9_printer_b28 v2 v3 s0 g) := by
  unfold f9_printer_b28
  refine k_ist (L' := [none, none, some (.inl v2), some (.inr (5, v3)), some (.inl s0)]) dX9_printer_28 (by decide) rfl ?_
  refine k_iloadn (j := 2) dX9_printer_30 rfl rfl ?_
  refine k_case (fun h0_ => ?_) (fun h0_ => ?_)
  · refine k_tin (tgt := 72) dX9_printer_31 h0_ (by decide) (by decide) rfl (by decide) ?_
    refine k_msk (L' := [none, none, some (.inl v2), some (.inr (5, v3)), none]) [true, true, true, true, false] rfl ?_
    exact t9_printer_b72 v2 v3 g
  refine k_case (fun h1_ => ?_) (fun h1_ => ?_)
  · refine k_tin (tgt := 72) dX9_printer_31 h1_ (by decide) (by decide) rfl (by decide) ?_
    refine k_msk (L' := [none, none, some (.inl v2), some (.inr (5, v3)), none]) [true, true, true, true, false] rfl ?_
    exact t9_printer_b72 v2 v3 g
  refine k_case (fun h2_ => ?_) (fun h2_ => ?_)
  · refine k_tin (tgt := 72) dX9_printer_31 h2_ (by decide) (by decide) rfl (by decide) ?_
    refine k_msk (L' := [none, none, some (.inl v2), some (.inr (5, v3)), none]) [true, true, true, true, false] rfl ?_
    exact t9_printer_b72 v2 v3 g
  refine k_case (fun h3_ => ?_) (fun h3_ => ?_)
  · refine k_tin (tgt := 78) dX9_printer_31 h3_ (by decide) (by decide) rfl (by decide) ?_
    refine k_aloadn (j := 3) dX9_printer_78 rfl rfl ?_
    rcases v3 with _ | a4
    · exact k_ocn
    refine k_ocs ?_
    refine k_geti fg_9_229 rfl rfl dX9_printer_79 ?_
    exact k_ireturn rfl dX9_printer_82
  refine k_case (fun h4_ => ?_) (fun h4_ => ?_)
  · refine k_tin (tgt := 83) dX9_printer_31 h4_ (by decide) (by decide) rfl (by decide) ?_
    refine k_iload dX9_printer_83 rfl ?_
    refine k_ifeq (tgt := 95) dX9_printer_85 (by decide) (fun _ => ?_) (fun _ => ?_)
    · refine k_bipush (v := (-6 : Int32)) dX9_printer_95 rfl ?_
      exact k_ireturn rfl dX9_printer_97
    refine k_aloadn (j := 3) dX9_printer_88 rfl rfl ?_
    rcases v3 with _ | a5
    · exact k_ocn
    refine k_ocs ?_
    refine k_geti fg_9_230 rfl rfl dX9_printer_89 ?_
    refine k_goto (tgt := 97) dX9_printer_92 (by decide) ?_
    exact k_ireturn rfl dX9_printer_97
  refine k_case (fun h5_ => ?_) (fun h5_ => ?_)
  · refine k_tin (tgt := 98) dX9_printer_31 h5_ (by decide) (by decide) rfl (by decide) ?_
    refine k_iload dX9_printer_98 rfl ?_
    refine k_ifeq (tgt := 110) dX9_printer_100 (by decide) (fun _ => ?_) (fun _ => ?_)
    · refine k_bipush (v := (-6 : Int32)) dX9_printer_110 rfl ?_
      exact k_ireturn rfl dX9_printer_112
    refine k_aloadn (j := 3) dX9_printer_103 rfl rfl ?_
    rcases v3 with _ | a6
    · exact k_ocn
    refine k_ocs ?_
    refine k_geti fg_9_233 rfl rfl dX9_printer_104 ?_
    refine k_goto (tgt := 112) dX9_printer_107 (by decide) ?_
    exact k_ireturn rfl dX9_printer_112
  refine k_case (fun h6_ => ?_) (fun h6_ => ?_)
  · refine k_tin (tgt := 113) dX9_printer_31 h6_ (by decide) (by decide) rfl (by decide) ?_
    refine k_aloadn (j := 3) dX9_printer_113 rfl rfl ?_
    rcases v3 with _ | a7
    · exact k_ocn
    refine k_ocs ?_
    refine k_geti fg_9_236 rfl rfl dX9_printer_114 ?_
    exact k_ireturn rfl dX9_printer_117
  refine k_tout (tgt := 118) dX9_printer_31 (by have q0 := lv_neT (a := 0) h0_ (by decide); have q1 := lv_neT (a := 1) h1_ (by decide); have q2 := lv_neT (a := 2) h2_ (by decide); have q3 := lv_neT (a := 3) h3_ (by decide); have q4 := lv_neT (a := 4) h4_ (by decide); have q5 := lv_neT (a := 5) h5_ (by decide); have q6 := lv_neT (a := 6) h6_ (by decide); omega) (by decide) ?_
  refine k_bipush (v := (-2 : Int32)) dX9_printer_118 rfl ?_
  exact k_ireturn rfl dX9_printer_120
def f9_printer (v0 : Nat) (v1 : Int32) (v2 : Int32) (g : GS_) : Option (Int32 × GS_) :=
  lr_ (gfr g 288 v0) fun x8 => oc_ x8 none fun a9 => bd_ (f8_printerAt a9 v1 g) fun x11 g10 => oc_ x11 (some ((-1 : Int32), g10)) fun a12 => if (gfi g10 164 a12) = (1 : Int32) then f9_printer_b28 v2 (some a12) (1 : Int32) g10 else f9_printer_b28 v2 (some a12) (0 : Int32) g10
theorem t9_printer (v0 : Nat) (v1 : Int32) (v2 : Int32) (g : GS_) : Cn_ yX9_printer cX9_printer 5 (some .int) 1 22 EI_ [.inr (9, some v0), .inl v1, .inl v2] g (f9_printer v0 v1 v2 g) := by
  refine k_method (own := RX9) (ini := false) (L1 := [some (.inr (9, some v0)), some (.inl v1), some (.inl v2), none, none]) (by decide +kernel) rfl (fun h => by cases h) (Nat.le_of_ble_eq_true rfl) rfl ?_
  unfold f9_printer
  refine k_aloadn (j := 0) dX9_printer_0 rfl rfl ?_
  refine k_getr fg_9_10 rfl rfl dX9_printer_1 (fun x8 => ?_)
  refine k_iloadn (j := 1) dX9_printer_4 rfl rfl ?_
  rcases x8 with _ | a9
  · exact k_ocn
  refine k_ocs ?_
  refine k_callVr [.inl v1] (t8_printerAt a9 v1 g) cw_cX8_printerAt (Or.inl ml_9_217) rfl rfl (by decide) (by decide) (Nat.le_of_ble_eq_true rfl) dX9_printer_5 (fun x11 g10 => ?_)
  refine k_astn (j := 3) (L' := [some (.inr (9, some v0)), some (.inl v1), some (.inl v2), some (.inr (5, x11)), none]) dX9_printer_8 rfl (by decide) rfl ?_
  refine k_aloadn (j := 3) dX9_printer_9 rfl rfl ?_
  rcases x11 with _ | a12
  · refine k_ifnonnulln dX9_printer_10 ?_
    refine k_iconst (v := (-1 : Int32)) dX9_printer_13 rfl ?_
    exact k_ireturn rfl dX9_printer_14
  refine k_ifnonnulls (tgt := 15) dX9_printer_10 (by decide) ?_
  refine k_aloadn (j := 3) dX9_printer_15 rfl rfl ?_
  refine k_geti fg_9_229 rfl rfl dX9_printer_16 ?_
  refine k_iconst (v := (1 : Int32)) dX9_printer_19 rfl ?_
  refine k_icmpne (tgt := 27) dX9_printer_20 (by decide) (fun _ => ?_) (fun _ => ?_)
  · refine k_iconst (v := (1 : Int32)) dX9_printer_23 rfl ?_
    refine k_goto (tgt := 28) dX9_printer_24 (by decide) ?_
    refine k_msk (L' := [none, none, some (.inl v2), some (.inr (5, some a12)), none]) [false, false, true, true, true] rfl ?_
    exact t9_printer_b28 v2 (some a12) (1 : Int32) g10
  refine k_iconst (v := (0 : Int32)) dX9_printer_27 rfl ?_
  refine k_msk (L' := [none, none, some (.inl v2), some (.inr (5, some a12)), none]) [false, false, true, true, true] rfl ?_
  exact t9_printer_b28 v2 (some a12) (0 : Int32) g10
theorem dX9_side_0 : decode cX9_side 0 = .ok (.aload_n 0, 1) := by decide +kernel
theorem dX9_side_1 : decode cX9_side 1 = .ok (.getfield 10, 3) := by decide +kernel
theorem dX9_side_4 : decode cX9_side 4 = .ok (.iload_n 1, 1) := by decide +kernel
theorem dX9_side_5 : decode cX9_side 5 = .ok (.invokevirtual 122, 3) := by decide +kernel
theorem dX9_side_8 : decode cX9_side 8 = .ok (.astore 6, 2) := by decide +kernel
theorem dX9_side_10 : decode cX9_side 10 = .ok (.aload_n 0, 1) := by decide +kernel
theorem dX9_side_11 : decode cX9_side 11 = .ok (.getfield 10, 3) := by decide +kernel
theorem dX9_side_14 : decode cX9_side 14 = .ok (.iload 4, 2) := by decide +kernel
theorem dX9_side_16 : decode cX9_side 16 = .ok (.invokevirtual 217, 3) := by decide +kernel
theorem dX9_side_19 : decode cX9_side 19 = .ok (.astore 7, 2) := by decide +kernel
theorem dX9_side_21 : decode cX9_side 21 = .ok (.aload 6, 2) := by decide +kernel
theorem dX9_side_23 : decode cX9_side 23 = .ok (.ifnull 20, 3) := by decide +kernel
theorem dX9_side_26 : decode cX9_side 26 = .ok (.aload 6, 2) := by decide +kernel
theorem dX9_side_28 : decode cX9_side 28 = .ok (.getfield 126, 3) := by decide +kernel
theorem dX9_side_31 : decode cX9_side 31 = .ok (.iload_n 2, 1) := by decide +kernel
theorem dX9_side_32 : decode cX9_side 32 = .ok (.invokevirtual 175, 3) := by decide +kernel
theorem dX9_side_35 : decode cX9_side 35 = .ok (.ifCond .eq 8, 3) := by decide +kernel
theorem dX9_side_38 : decode cX9_side 38 = .ok (.aload 7, 2) := by decide +kernel
theorem dX9_side_40 : decode cX9_side 40 = .ok (.ifnonnull 5, 3) := by decide +kernel
theorem dX9_side_43 : decode cX9_side 43 = .ok (.iconst (-1), 1) := by decide +kernel
theorem dX9_side_44 : decode cX9_side 44 = .ok (.ireturn, 1) := by decide +kernel
theorem dX9_side_45 : decode cX9_side 45 = .ok (.aload 6, 2) := by decide +kernel
theorem dX9_side_47 : decode cX9_side 47 = .ok (.getfield 126, 3) := by decide +kernel
theorem dX9_side_50 : decode cX9_side 50 = .ok (.astore 8, 2) := by decide +kernel
theorem dX9_side_52 : decode cX9_side 52 = .ok (.aload 8, 2) := by decide +kernel
theorem dX9_side_54 : decode cX9_side 54 = .ok (.iload_n 3, 1) := by decide +kernel
theorem dX9_side_55 : decode cX9_side 55 = .ok (.invokevirtual 178, 3) := by decide +kernel
theorem dX9_side_58 : decode cX9_side 58 = .ok (.ifCond .eq 13, 3) := by decide +kernel
theorem dX9_side_61 : decode cX9_side 61 = .ok (.iload 5, 2) := by decide +kernel
theorem dX9_side_63 : decode cX9_side 63 = .ok (.iconst 0, 1) := by decide +kernel
theorem dX9_side_64 : decode cX9_side 64 = .ok (.iconst 2, 1) := by decide +kernel
theorem dX9_side_65 : decode cX9_side 65 = .ok (.invokestatic 37, 3) := by decide +kernel
theorem dX9_side_68 : decode cX9_side 68 = .ok (.ifCond .ne 6, 3) := by decide +kernel
theorem dX9_side_71 : decode cX9_side 71 = .ok (.bipush (-2), 2) := by decide +kernel
theorem dX9_side_73 : decode cX9_side 73 = .ok (.ireturn, 1) := by decide +kernel
theorem dX9_side_74 : decode cX9_side 74 = .ok (.aload 8, 2) := by decide +kernel
theorem dX9_side_76 : decode cX9_side 76 = .ok (.aload 8, 2) := by decide +kernel
theorem dX9_side_78 : decode cX9_side 78 = .ok (.iload_n 2, 1) := by decide +kernel
theorem dX9_side_79 : decode cX9_side 79 = .ok (.invokevirtual 184, 3) := by decide +kernel
theorem dX9_side_82 : decode cX9_side 82 = .ok (.iload_n 3, 1) := by decide +kernel
theorem dX9_side_83 : decode cX9_side 83 = .ok (.invokevirtual 239, 3) := by decide +kernel
theorem dX9_side_86 : decode cX9_side 86 = .ok (.istore 9, 2) := by decide +kernel
theorem dX9_side_88 : decode cX9_side 88 = .ok (.iload 5, 2) := by decide +kernel
theorem dX9_side_90 : decode cX9_side 90 = .ok (.ifCond .ne 16, 3) := by decide +kernel
theorem dX9_side_93 : decode cX9_side 93 = .ok (.iload 9, 2) := by decide +kernel
theorem dX9_side_95 : decode cX9_side 95 = .ok (.iconst (-1), 1) := by decide +kernel
theorem dX9_side_96 : decode cX9_side 96 = .ok (.if_icmp .ne 7, 3) := by decide +kernel
theorem dX9_side_99 : decode cX9_side 99 = .ok (.iconst 0, 1) := by decide +kernel
theorem dX9_side_100 : decode cX9_side 100 = .ok (.goto 5, 3) := by decide +kernel
theorem dX9_side_103 : decode cX9_side 103 = .ok (.iload 9, 2) := by decide +kernel
theorem dX9_side_105 : decode cX9_side 105 = .ok (.ireturn, 1) := by decide +kernel
theorem dX9_side_106 : decode cX9_side 106 = .ok (.iload 5, 2) := by decide +kernel
theorem dX9_side_108 : decode cX9_side 108 = .ok (.iconst 1, 1) := by decide +kernel
theorem dX9_side_109 : decode cX9_side 109 = .ok (.if_icmp .ne 11, 3) := by decide +kernel
theorem dX9_side_112 : decode cX9_side 112 = .ok (.aload 7, 2) := by decide +kernel
theorem dX9_side_114 : decode cX9_side 114 = .ok (.iload 9, 2) := by decide +kernel
theorem dX9_side_116 : decode cX9_side 116 = .ok (.invokevirtual 242, 3) := by decide +kernel
theorem dX9_side_119 : decode cX9_side 119 = .ok (.ireturn, 1) := by decide +kernel
theorem dX9_side_120 : decode cX9_side 120 = .ok (.aload 7, 2) := by decide +kernel
theorem dX9_side_122 : decode cX9_side 122 = .ok (.iload 9, 2) := by decide +kernel
theorem dX9_side_124 : decode cX9_side 124 = .ok (.invokevirtual 245, 3) := by decide +kernel
theorem dX9_side_127 : decode cX9_side 127 = .ok (.ifCond .eq 7, 3) := by decide +kernel
theorem dX9_side_130 : decode cX9_side 130 = .ok (.iconst 1, 1) := by decide +kernel
theorem dX9_side_131 : decode cX9_side 131 = .ok (.goto 4, 3) := by decide +kernel
theorem dX9_side_134 : decode cX9_side 134 = .ok (.iconst 0, 1) := by decide +kernel
theorem dX9_side_135 : decode cX9_side 135 = .ok (.ireturn, 1) := by decide +kernel
def f9_side (v0 : Nat) (v1 : Int32) (v2 : Int32) (v3 : Int32) (v4 : Int32) (v5 : Int32) (g : GS_) : Option (Int32 × GS_) :=
  lr_ (gfr g 288 v0) fun x1 => oc_ x1 none fun a2 => bd_ (f8_jobAt a2 v1 g) fun x4 g3 => lr_ (gfr g3 288 v0) fun x5 => oc_ x5 none fun a6 => bd_ (f8_printerAt a6 v4 g3) fun x8 g7 => oc_ x4 (some ((-1 : Int32), g7)) fun a9 => lr_ (gfr g7 33 a9) fun x10 => oc_ x10 none fun a11 => bd_ (f4_hasSheet a11 v2 g7) fun z13 g12 => if z13 = 0 then some ((-1 : Int32), g12) else oc_ x8 (some ((-1 : Int32), g12)) fun a14 => lr_ (gfr g12 33 a9) fun x15 => oc_ x15 none fun a16 => bd_ (f4_hasSide a16 v3 g12) fun z18 g17 => if z18 = 0 then some ((-2 : Int32), g17) else bd_ (f9_within v5 (0 : Int32) (2 : Int32) g17) fun z20 g19 => if z20 = 0 then some ((-2 : Int32), g19) else bd_ (f4_sheetOfCopy a16 v2 g19) fun z22 g21 => bd_ (f4_loadOn a16 z22 v3 g21) fun z24 g23 => if v5 = 0 then if z24 = (-1 : Int32) then some ((0 : Int32), g23) else some (z24, g23) else if v5 = (1 : Int32) then bd_ (f5_bandsFor a14 z24 g23) fun z26 g25 => some (z26, g25) else bd_ (f5_isCoarse a14 z24 g23) fun z28 g27 => if z28 = 0 then some ((0 : Int32), g27) else some ((1 : Int32), g27)
theorem t9_side (v0 : Nat) (v1 : Int32) (v2 : Int32) (v3 : Int32) (v4 : Int32) (v5 : Int32) (g : GS_) : Cn_ yX9_side cX9_side 10 (some .int) 2 44 EI_ [.inr (9, some v0), .inl v1, .inl v2, .inl v3, .inl v4, .inl v5] g (f9_side v0 v1 v2 v3 v4 v5 g) := by
  refine k_method (own := RX9) (ini := false) (L1 := [some (.inr (9, some v0)), some (.inl v1), some (.inl v2), some (.inl v3), some (.inl v4), some (.inl v5), none, none, none, none]) (by decide +kernel) rfl (fun h => by cases h) (Nat.le_of_ble_eq_true rfl) rfl ?_
  unfold f9_side
  refine k_aloadn (j := 0) dX9_side_0 rfl rfl ?_
  refine k_getr fg_9_10 rfl rfl dX9_side_1 (fun x1 => ?_)
  refine k_iloadn (j := 1) dX9_side_4 rfl rfl ?_
  rcases x1 with _ | a2
  · exact k_ocn
  refine k_ocs ?_
  refine k_callVr [.inl v1] (t8_jobAt a2 v1 g) cw_cX8_jobAt (Or.inl ml_9_122) rfl rfl (by decide) (by decide) (Nat.le_of_ble_eq_true rfl) dX9_side_5 (fun x4 g3 => ?_)
  refine k_ast (L' := [some (.inr (9, some v0)), some (.inl v1), some (.inl v2), some (.inl v3), some (.inl v4), some (.inl v5), some (.inr (1, x4)), none, none, none]) dX9_side_8 (by decide) rfl ?_
  refine k_aloadn (j := 0) dX9_side_10 rfl rfl ?_
  refine k_getr fg_9_10 rfl rfl dX9_side_11 (fun x5 => ?_)
  refine k_iload dX9_side_14 rfl ?_
  rcases x5 with _ | a6
  · exact k_ocn
  refine k_ocs ?_
  refine k_callVr [.inl v4] (t8_printerAt a6 v4 g3) cw_cX8_printerAt (Or.inl ml_9_217) rfl rfl (by decide) (by decide) (Nat.le_of_ble_eq_true rfl) dX9_side_16 (fun x8 g7 => ?_)
  refine k_ast (L' := [some (.inr (9, some v0)), some (.inl v1), some (.inl v2), some (.inl v3), some (.inl v4), some (.inl v5), some (.inr (1, x4)), some (.inr (5, x8)), none, none]) dX9_side_19 (by decide) rfl ?_
  refine k_aload dX9_side_21 rfl ?_
  rcases x4 with _ | a9
  · refine k_ifnulln (tgt := 43) dX9_side_23 (by decide) ?_
    refine k_iconst (v := (-1 : Int32)) dX9_side_43 rfl ?_
    exact k_ireturn rfl dX9_side_44
  refine k_ifnulls dX9_side_23 ?_
  refine k_aload dX9_side_26 rfl ?_
  refine k_getr fg_9_126 rfl rfl dX9_side_28 (fun x10 => ?_)
  refine k_iloadn (j := 2) dX9_side_31 rfl rfl ?_
  rcases x10 with _ | a11
  · exact k_ocn
  refine k_ocs ?_
  refine k_callVi [.inl v2] (t4_hasSheet a11 v2 g7) cw_cX4_hasSheet (Or.inl ml_9_175) rfl rfl (by decide) (by decide) (Nat.le_of_ble_eq_true rfl) dX9_side_32 (fun z13 g12 => ?_)
  refine k_ifeq (tgt := 43) dX9_side_35 (by decide) (fun _ => ?_) (fun _ => ?_)
  · refine k_iconst (v := (-1 : Int32)) dX9_side_43 rfl ?_
    exact k_ireturn rfl dX9_side_44
  refine k_aload dX9_side_38 rfl ?_
  rcases x8 with _ | a14
  · refine k_ifnonnulln dX9_side_40 ?_
    refine k_iconst (v := (-1 : Int32)) dX9_side_43 rfl ?_
    exact k_ireturn rfl dX9_side_44
  refine k_ifnonnulls (tgt := 45) dX9_side_40 (by decide) ?_
  refine k_aload dX9_side_45 rfl ?_
  refine k_getr fg_9_126 rfl rfl dX9_side_47 (fun x15 => ?_)
  refine k_ast (L' := [some (.inr (9, some v0)), some (.inl v1), some (.inl v2), some (.inl v3), some (.inl v4), some (.inl v5), some (.inr (1, some a9)), some (.inr (5, some a14)), some (.inr (4, x15)), none]) dX9_side_50 (by decide) rfl ?_
  refine k_aload dX9_side_52 rfl ?_
  refine k_iloadn (j := 3) dX9_side_54 rfl rfl ?_
  rcases x15 with _ | a16
  · exact k_ocn
  refine k_ocs ?_
  refine k_callVi [.inl v3] (t4_hasSide a16 v3 g12) cw_cX4_hasSide (Or.inl ml_9_178) rfl rfl (by decide) (by decide) (Nat.le_of_ble_eq_true rfl) dX9_side_55 (fun z18 g17 => ?_)
  refine k_ifeq (tgt := 71) dX9_side_58 (by decide) (fun _ => ?_) (fun _ => ?_)
  · refine k_bipush (v := (-2 : Int32)) dX9_side_71 rfl ?_
    exact k_ireturn rfl dX9_side_73
  refine k_iload dX9_side_61 rfl ?_
  refine k_iconst (v := (0 : Int32)) dX9_side_63 rfl ?_
  refine k_iconst (v := (2 : Int32)) dX9_side_64 rfl ?_
  refine k_callSi [.inl v5, .inl (0 : Int32), .inl (2 : Int32)] (t9_within v5 (0 : Int32) (2 : Int32) g17) cw_cX9_within ml_9_37 rfl rfl (by decide) (by decide) (Nat.le_of_ble_eq_true rfl) dX9_side_65 (fun z20 g19 => ?_)
  refine k_ifne (tgt := 74) dX9_side_68 (by decide) (fun _ => ?_) (fun _ => ?_)
  · refine k_bipush (v := (-2 : Int32)) dX9_side_71 rfl ?_
    exact k_ireturn rfl dX9_side_73
  refine k_aload dX9_side_74 rfl ?_
  refine k_aload dX9_side_76 rfl ?_
  refine k_iloadn (j := 2) dX9_side_78 rfl rfl ?_
  refine k_callVi [.inl v2] (t4_sheetOfCopy a16 v2 g19) cw_cX4_sheetOfCopy (Or.inl ml_9_184) rfl rfl (by decide) (by decide) (Nat.le_of_ble_eq_true rfl) dX9_side_79 (fun z22 g21 => ?_)
  refine k_iloadn (j := 3) dX9_side_82 rfl rfl ?_
  refine k_callVi [.inl z22, .inl v3] (t4_loadOn a16 z22 v3 g21) cw_cX4_loadOn (Or.inl ml_9_239) rfl rfl (by decide) (by decide) (Nat.le_of_ble_eq_true rfl) dX9_side_83 (fun z24 g23 => ?_)
  refine k_ist (L' := [some (.inr (9, some v0)), some (.inl v1), some (.inl v2), some (.inl v3), some (.inl v4), some (.inl v5), some (.inr (1, some a9)), some (.inr (5, some a14)), some (.inr (4, some a16)), some (.inl z24)]) dX9_side_86 (by decide) rfl ?_
  refine k_iload dX9_side_88 rfl ?_
  refine k_ifne (tgt := 106) dX9_side_90 (by decide) (fun _ => ?_) (fun _ => ?_)
  · refine k_iload dX9_side_93 rfl ?_
    refine k_iconst (v := (-1 : Int32)) dX9_side_95 rfl ?_
    refine k_icmpne (tgt := 103) dX9_side_96 (by decide) (fun _ => ?_) (fun _ => ?_)
    · refine k_iconst (v := (0 : Int32)) dX9_side_99 rfl ?_
      refine k_goto (tgt := 105) dX9_side_100 (by decide) ?_
      exact k_ireturn rfl dX9_side_105
    refine k_iload dX9_side_103 rfl ?_
    exact k_ireturn rfl dX9_side_105
  refine k_iload dX9_side_106 rfl ?_
  refine k_iconst (v := (1 : Int32)) dX9_side_108 rfl ?_
  refine k_icmpne (tgt := 120) dX9_side_109 (by decide) (fun _ => ?_) (fun _ => ?_)
  · refine k_aload dX9_side_112 rfl ?_
    refine k_iload dX9_side_114 rfl ?_
    refine k_callVi [.inl z24] (t5_bandsFor a14 z24 g23) cw_cX5_bandsFor (Or.inl ml_9_242) rfl rfl (by decide) (by decide) (Nat.le_of_ble_eq_true rfl) dX9_side_116 (fun z26 g25 => ?_)
    exact k_ireturn rfl dX9_side_119
  refine k_aload dX9_side_120 rfl ?_
  refine k_iload dX9_side_122 rfl ?_
  refine k_callVi [.inl z24] (t5_isCoarse a14 z24 g23) cw_cX5_isCoarse (Or.inl ml_9_245) rfl rfl (by decide) (by decide) (Nat.le_of_ble_eq_true rfl) dX9_side_124 (fun z28 g27 => ?_)
  refine k_ifeq (tgt := 134) dX9_side_127 (by decide) (fun _ => ?_) (fun _ => ?_)
  · refine k_iconst (v := (0 : Int32)) dX9_side_134 rfl ?_
    exact k_ireturn rfl dX9_side_135
  refine k_iconst (v := (1 : Int32)) dX9_side_130 rfl ?_
  refine k_goto (tgt := 135) dX9_side_131 (by decide) ?_
  exact k_ireturn rfl dX9_side_135
theorem dX9_init_0 : decode cX9_init 0 = .ok (.aload_n 0, 1) := by decide +kernel
theorem dX9_init_1 : decode cX9_init 1 = .ok (.invokespecial 1, 3) := by decide +kernel
theorem dX9_init_4 : decode cX9_init 4 = .ok (.aload_n 0, 1) := by decide +kernel
theorem dX9_init_5 : decode cX9_init 5 = .ok (.new 7, 3) := by decide +kernel
theorem dX9_init_8 : decode cX9_init 8 = .ok (.dup, 1) := by decide +kernel
theorem dX9_init_9 : decode cX9_init 9 = .ok (.invokespecial 9, 3) := by decide +kernel
theorem dX9_init_12 : decode cX9_init 12 = .ok (.putfield 10, 3) := by decide +kernel
theorem dX9_init_15 : decode cX9_init 15 = .ok (.aload_n 0, 1) := by decide +kernel
theorem dX9_init_16 : decode cX9_init 16 = .ok (.new 7, 3) := by decide +kernel
theorem dX9_init_19 : decode cX9_init 19 = .ok (.dup, 1) := by decide +kernel
theorem dX9_init_20 : decode cX9_init 20 = .ok (.invokespecial 9, 3) := by decide +kernel
theorem dX9_init_23 : decode cX9_init 23 = .ok (.putfield 16, 3) := by decide +kernel
theorem dX9_init_26 : decode cX9_init 26 = .ok (.aload_n 0, 1) := by decide +kernel
theorem dX9_init_27 : decode cX9_init 27 = .ok (.iconst 2, 1) := by decide +kernel
theorem dX9_init_28 : decode cX9_init 28 = .ok (.anewarray 7, 3) := by decide +kernel
theorem dX9_init_31 : decode cX9_init 31 = .ok (.putfield 19, 3) := by decide +kernel
theorem dX9_init_34 : decode cX9_init 34 = .ok (.aload_n 0, 1) := by decide +kernel
theorem dX9_init_35 : decode cX9_init 35 = .ok (.new 23, 3) := by decide +kernel
theorem dX9_init_38 : decode cX9_init 38 = .ok (.dup, 1) := by decide +kernel
theorem dX9_init_39 : decode cX9_init 39 = .ok (.invokespecial 25, 3) := by decide +kernel
theorem dX9_init_42 : decode cX9_init 42 = .ok (.putfield 26, 3) := by decide +kernel
theorem dX9_init_45 : decode cX9_init 45 = .ok (.aload_n 0, 1) := by decide +kernel
theorem dX9_init_46 : decode cX9_init 46 = .ok (.new 30, 3) := by decide +kernel
theorem dX9_init_49 : decode cX9_init 49 = .ok (.dup, 1) := by decide +kernel
theorem dX9_init_50 : decode cX9_init 50 = .ok (.invokespecial 32, 3) := by decide +kernel
theorem dX9_init_53 : decode cX9_init 53 = .ok (.putfield 33, 3) := by decide +kernel
theorem dX9_init_56 : decode cX9_init 56 = .ok (.iconst 0, 1) := by decide +kernel
theorem dX9_init_57 : decode cX9_init 57 = .ok (.istore_n 1, 1) := by decide +kernel
theorem dX9_init_58 : decode cX9_init 58 = .ok (.iload_n 1, 1) := by decide +kernel
theorem dX9_init_59 : decode cX9_init 59 = .ok (.aload_n 0, 1) := by decide +kernel
theorem dX9_init_60 : decode cX9_init 60 = .ok (.getfield 19, 3) := by decide +kernel
theorem dX9_init_63 : decode cX9_init 63 = .ok (.arraylength, 1) := by decide +kernel
theorem dX9_init_64 : decode cX9_init 64 = .ok (.if_icmp .ge 22, 3) := by decide +kernel
theorem dX9_init_67 : decode cX9_init 67 = .ok (.aload_n 0, 1) := by decide +kernel
theorem dX9_init_68 : decode cX9_init 68 = .ok (.getfield 19, 3) := by decide +kernel
theorem dX9_init_71 : decode cX9_init 71 = .ok (.iload_n 1, 1) := by decide +kernel
theorem dX9_init_72 : decode cX9_init 72 = .ok (.new 7, 3) := by decide +kernel
theorem dX9_init_75 : decode cX9_init 75 = .ok (.dup, 1) := by decide +kernel
theorem dX9_init_76 : decode cX9_init 76 = .ok (.invokespecial 9, 3) := by decide +kernel
theorem dX9_init_79 : decode cX9_init 79 = .ok (.aastore, 1) := by decide +kernel
theorem dX9_init_80 : decode cX9_init 80 = .ok (.iinc 1 1, 3) := by decide +kernel
theorem dX9_init_83 : decode cX9_init 83 = .ok (.goto (-25), 3) := by decide +kernel
theorem dX9_init_86 : decode cX9_init 86 = .ok (.return_, 1) := by decide +kernel
def f9_init_b58 : Nat → Nat → Int32 → GS_ → Option (Unit × GS_)
  | 0, _, _, _ => none
  | n + 1, v0, v1, g =>
    lr_ (gfr g 290 v0) fun x1 => oc_ x1 none fun a2 => if (Int32.ofNat (gln g 25 a2)) ≤ v1 then some ((), g) else lr_ (gfr g 290 v0) fun x3 => no_ g 8 17 fun a4 g5 => bd_ (f8_init a4 g5) fun _ g6 => oc_ x3 none fun a7 => if inb v1 (gln g6 25 a7) then lr_ (sar g6 25 a7 v1.toInt.toNat (some a4)) (fun g8 => (f9_init_b58 n) v0 (v1 + (1 : Int32)) g8) else none
theorem t9_init_b58 : ∀ (n : Nat) (v0 : Nat) (v1 : Int32) (g : GS_), K_ RX9 cX9_init 2 none 3 53 true EV_ 58 [some (.inr (9, some v0)), some (.inl v1)] [] g (f9_init_b58 n v0 v1 g) := by
  intro n
  induction n with
  | zero =>
    intro v0 v1 g
    exact k_fail
  | succ n ih =>
    intro v0 v1 g
    show K_ RX9 cX9_init 2 none 3 53 true EV_ 58 [some (.inr (9, some v0)), some (.inl v1)] [] g (lr_ (gfr g 290 v0) fun x1 => oc_ x1 none fun a2 => if (Int32.ofNat (gln g 25 a2)) ≤ v1 then some ((), g) else lr_ (gfr g 290 v0) fun x3 => no_ g 8 17 fun a4 g5 => bd_ (f8_init a4 g5) fun _ g6 => oc_ x3 none fun a7 => if inb v1 (gln g6 25 a7) then lr_ (sar g6 25 a7 v1.toInt.toNat (some a4)) (fun g8 => (f9_init_b58 n) v0 (v1 + (1 : Int32)) g8) else none)
    refine k_iloadn (j := 1) dX9_init_58 rfl rfl ?_
    refine k_aloadn (j := 0) dX9_init_59 rfl rfl ?_
    refine k_getr fg_9_19 rfl rfl dX9_init_60 (fun x1 => ?_)
    rcases x1 with _ | a2
    · exact k_ocn
    refine k_ocs ?_
    refine k_alen dX9_init_63 (by decide) ?_
    refine k_icmpge (tgt := 86) dX9_init_64 (by decide) (fun _ => ?_) (fun _ => ?_)
    · exact k_return rfl dX9_init_86
    refine k_aloadn (j := 0) dX9_init_67 rfl rfl ?_
    refine k_getr fg_9_19 rfl rfl dX9_init_68 (fun x3 => ?_)
    refine k_iloadn (j := 1) dX9_init_71 rfl rfl ?_
    refine k_new cf_8 cl_9_7 (in_8).1 (in_8).2 dX9_init_72 (fun a4 g5 => ?_)
    refine k_dup dX9_init_75 ?_
    refine k_callIv [] (t8_init a4 g5) cw_cX8_init (Or.inl ml_9_9) rfl rfl (by decide) (by decide) (Nat.le_of_ble_eq_true rfl) dX9_init_76 (fun _ g6 => ?_)
    rcases x3 with _ | a7
    · exact k_ocn
    refine k_ocs ?_
    refine k_aast rfl dX9_init_79 (fun g8 => ?_)
    refine k_iinc (v := (v1 + (1 : Int32))) (L' := [some (.inr (9, some v0)), some (.inl (v1 + (1 : Int32)))]) dX9_init_80 rfl rfl (by decide) rfl ?_
    refine k_goto (tgt := 58) dX9_init_83 (by decide) ?_
    exact ih v0 (v1 + (1 : Int32)) g8
def f9_init (v0 : Nat) (g : GS_) : Option (Unit × GS_) :=
  no_ g 8 17 fun a9 g10 => bd_ (f8_init a9 g10) fun _ g11 => lr_ (sfr g11 288 v0 (some a9)) fun g12 => no_ g12 8 17 fun a13 g14 => bd_ (f8_init a13 g14) fun _ g15 => lr_ (sfr g15 289 v0 (some a13)) fun g16 => na_ g16 25 (2 : Int32) fun a17 g18 => lr_ (sfr g18 290 v0 (some a17)) fun g19 => no_ g19 3 3 fun a20 g21 => bd_ (f3_init a20 g21) fun _ g22 => lr_ (sfr g22 291 v0 (some a20)) fun g23 => no_ g23 7 5 fun a24 g25 => bd_ (f7_init a24 g25) fun _ g26 => lr_ (sfr g26 292 v0 (some a24)) fun g27 => f9_init_b58 FU_ v0 (0 : Int32) g27
theorem t9_init (v0 : Nat) (g : GS_) : Cn_ yX9_init cX9_init 2 none 3 53 EV_ [.inr (9, some v0)] g (f9_init v0 g) := by
  refine k_method (own := RX9) (ini := true) (L1 := [some (.inr (9, some v0)), none]) (by decide +kernel) rfl (fun _ => rfl) (Nat.le_of_ble_eq_true rfl) rfl ?_
  unfold f9_init
  refine k_aloadn (j := 0) dX9_init_0 rfl rfl ?_
  refine k_objInit ml_9_1 oi_.1 oi_.2 (by decide) (Nat.le_of_ble_eq_true rfl) dX9_init_1 ?_
  refine k_aloadn (j := 0) dX9_init_4 rfl rfl ?_
  refine k_new cf_8 cl_9_7 (in_8).1 (in_8).2 dX9_init_5 (fun a9 g10 => ?_)
  refine k_dup dX9_init_8 ?_
  refine k_callIv [] (t8_init a9 g10) cw_cX8_init (Or.inl ml_9_9) rfl rfl (by decide) (by decide) (Nat.le_of_ble_eq_true rfl) dX9_init_9 (fun _ g11 => ?_)
  refine k_putfr fp_9_10 ty_obj rfl rfl rfl dX9_init_12 (fun g12 => ?_)
  refine k_aloadn (j := 0) dX9_init_15 rfl rfl ?_
  refine k_new cf_8 cl_9_7 (in_8).1 (in_8).2 dX9_init_16 (fun a13 g14 => ?_)
  refine k_dup dX9_init_19 ?_
  refine k_callIv [] (t8_init a13 g14) cw_cX8_init (Or.inl ml_9_9) rfl rfl (by decide) (by decide) (Nat.le_of_ble_eq_true rfl) dX9_init_20 (fun _ g15 => ?_)
  refine k_putfr fp_9_16 ty_obj rfl rfl rfl dX9_init_23 (fun g16 => ?_)
  refine k_aloadn (j := 0) dX9_init_26 rfl rfl ?_
  refine k_iconst (v := (2 : Int32)) dX9_init_27 rfl ?_
  refine k_anew rfl (fun C T N h => by have h : some _ = some (C, T, N) := h; cases h; exact cl_9_7) dX9_init_28 (fun a17 g18 => ?_)
  refine k_putfr fp_9_19 ty_arr rfl rfl rfl dX9_init_31 (fun g19 => ?_)
  refine k_aloadn (j := 0) dX9_init_34 rfl rfl ?_
  refine k_new cf_3 cl_9_23 (in_3).1 (in_3).2 dX9_init_35 (fun a20 g21 => ?_)
  refine k_dup dX9_init_38 ?_
  refine k_callIv [] (t3_init a20 g21) cw_cX3_init (Or.inr ml_9_25) rfl rfl (by decide) (by decide) (Nat.le_of_ble_eq_true rfl) dX9_init_39 (fun _ g22 => ?_)
  refine k_putfr fp_9_26 ty_obj rfl rfl rfl dX9_init_42 (fun g23 => ?_)
  refine k_aloadn (j := 0) dX9_init_45 rfl rfl ?_
  refine k_new cf_7 cl_9_30 (in_7).1 (in_7).2 dX9_init_46 (fun a24 g25 => ?_)
  refine k_dup dX9_init_49 ?_
  refine k_callIv [] (t7_init a24 g25) cw_cX7_init (Or.inr ml_9_32) rfl rfl (by decide) (by decide) (Nat.le_of_ble_eq_true rfl) dX9_init_50 (fun _ g26 => ?_)
  refine k_putfr fp_9_33 ty_obj rfl rfl rfl dX9_init_53 (fun g27 => ?_)
  refine k_iconst (v := (0 : Int32)) dX9_init_56 rfl ?_
  refine k_istn (j := 1) (L' := [some (.inr (9, some v0)), some (.inl (0 : Int32))]) dX9_init_57 rfl (by decide) rfl ?_
  exact t9_init_b58 FU_ v0 (0 : Int32) g27
