/-! methods as functions over numbers, and that the machine does them: written by wip/whole/gen/mkparts.py (decode rows: printed names) -/
theorem dX10_isBooklet_0 : decode cX10_isBooklet 0 = .ok (.aload_n 0, 1) := by decide +kernel
theorem dX10_isBooklet_1 : decode cX10_isBooklet 1 = .ok (.iload_n 1, 1) := by decide +kernel
theorem dX10_isBooklet_2 : decode cX10_isBooklet 2 = .ok (.iconst 3, 1) := by decide +kernel
theorem dX10_isBooklet_3 : decode cX10_isBooklet 3 = .ok (.invokevirtual 133, 3) := by decide +kernel
theorem dX10_isBooklet_6 : decode cX10_isBooklet 6 = .ok (.ifCond .ne 7, 3) := by decide +kernel
theorem dX10_isBooklet_9 : decode cX10_isBooklet 9 = .ok (.iconst 1, 1) := by decide +kernel
theorem dX10_isBooklet_10 : decode cX10_isBooklet 10 = .ok (.goto 4, 3) := by decide +kernel
theorem dX10_isBooklet_13 : decode cX10_isBooklet 13 = .ok (.iconst 0, 1) := by decide +kernel
theorem dX10_isBooklet_14 : decode cX10_isBooklet 14 = .ok (.ireturn, 1) := by decide +kernel
def f10_isBooklet (v0 : Nat) (v1 : Int32) (g : GS_) : Option (Int32 × GS_) :=
  bd_ (f10_ofJob v0 v1 (3 : Int32) g) fun z2 g1 => if z2 = 0 then some ((1 : Int32), g1) else some ((0 : Int32), g1)
theorem t10_isBooklet (v0 : Nat) (v1 : Int32) (g : GS_) : Cn_ yX10_isBooklet cX10_isBooklet 2 (some .boolean) 1 22 EI_ [.inr (10, some v0), .inl v1] g (f10_isBooklet v0 v1 g) := by
  refine k_method (own := RX10) (ini := false) (L1 := [some (.inr (10, some v0)), some (.inl v1)]) (by decide +kernel) rfl (fun h => by cases h) (Nat.le_of_ble_eq_true rfl) rfl ?_
  unfold f10_isBooklet
  refine k_aloadn (j := 0) dX10_isBooklet_0 rfl rfl ?_
  refine k_iloadn (j := 1) dX10_isBooklet_1 rfl rfl ?_
  refine k_iconst (v := (3 : Int32)) dX10_isBooklet_2 rfl ?_
  refine k_callVi [.inl v1, .inl (3 : Int32)] (t10_ofJob v0 v1 (3 : Int32) g) cw_cX10_ofJob (Or.inl ml_10_133) rfl rfl (by decide) (by decide) (Nat.le_of_ble_eq_true rfl) dX10_isBooklet_3 (fun z2 g1 => ?_)
  refine k_ifne (tgt := 13) dX10_isBooklet_6 (by decide) (fun _ => ?_) (fun _ => ?_)
  · refine k_iconst (v := (1 : Int32)) dX10_isBooklet_9 rfl ?_
    refine k_goto (tgt := 14) dX10_isBooklet_10 (by decide) ?_
    exact k_zreturn rfl (by decide) dX10_isBooklet_14
  refine k_iconst (v := (0 : Int32)) dX10_isBooklet_13 rfl ?_
  exact k_zreturn rfl (by decide) dX10_isBooklet_14
theorem dX10_perSide_0 : decode cX10_perSide 0 = .ok (.aload_n 0, 1) := by decide +kernel
theorem dX10_perSide_1 : decode cX10_perSide 1 = .ok (.iload_n 1, 1) := by decide +kernel
theorem dX10_perSide_2 : decode cX10_perSide 2 = .ok (.invokevirtual 136, 3) := by decide +kernel
theorem dX10_perSide_5 : decode cX10_perSide 5 = .ok (.ifCond .eq 7, 3) := by decide +kernel
theorem dX10_perSide_8 : decode cX10_perSide 8 = .ok (.iconst 2, 1) := by decide +kernel
theorem dX10_perSide_9 : decode cX10_perSide 9 = .ok (.goto 9, 3) := by decide +kernel
theorem dX10_perSide_12 : decode cX10_perSide 12 = .ok (.aload_n 0, 1) := by decide +kernel
theorem dX10_perSide_13 : decode cX10_perSide 13 = .ok (.iload_n 1, 1) := by decide +kernel
theorem dX10_perSide_14 : decode cX10_perSide 14 = .ok (.iconst 3, 1) := by decide +kernel
theorem dX10_perSide_15 : decode cX10_perSide 15 = .ok (.invokevirtual 133, 3) := by decide +kernel
theorem dX10_perSide_18 : decode cX10_perSide 18 = .ok (.ireturn, 1) := by decide +kernel
def f10_perSide (v0 : Nat) (v1 : Int32) (g : GS_) : Option (Int32 × GS_) :=
  bd_ (f10_isBooklet v0 v1 g) fun z2 g1 => if z2 = 0 then bd_ (f10_ofJob v0 v1 (3 : Int32) g1) fun z4 g3 => some (z4, g3) else some ((2 : Int32), g1)
theorem t10_perSide (v0 : Nat) (v1 : Int32) (g : GS_) : Cn_ yX10_perSide cX10_perSide 2 (some .int) 2 43 EI_ [.inr (10, some v0), .inl v1] g (f10_perSide v0 v1 g) := by
  refine k_method (own := RX10) (ini := false) (L1 := [some (.inr (10, some v0)), some (.inl v1)]) (by decide +kernel) rfl (fun h => by cases h) (Nat.le_of_ble_eq_true rfl) rfl ?_
  unfold f10_perSide
  refine k_aloadn (j := 0) dX10_perSide_0 rfl rfl ?_
  refine k_iloadn (j := 1) dX10_perSide_1 rfl rfl ?_
  refine k_callVi [.inl v1] (t10_isBooklet v0 v1 g) cw_cX10_isBooklet (Or.inl ml_10_136) rfl rfl (by decide) (by decide) (Nat.le_of_ble_eq_true rfl) dX10_perSide_2 (fun z2 g1 => ?_)
  refine k_ifeq (tgt := 12) dX10_perSide_5 (by decide) (fun _ => ?_) (fun _ => ?_)
  · refine k_aloadn (j := 0) dX10_perSide_12 rfl rfl ?_
    refine k_iloadn (j := 1) dX10_perSide_13 rfl rfl ?_
    refine k_iconst (v := (3 : Int32)) dX10_perSide_14 rfl ?_
    refine k_callVi [.inl v1, .inl (3 : Int32)] (t10_ofJob v0 v1 (3 : Int32) g1) cw_cX10_ofJob (Or.inl ml_10_133) rfl rfl (by decide) (by decide) (Nat.le_of_ble_eq_true rfl) dX10_perSide_15 (fun z4 g3 => ?_)
    exact k_ireturn rfl dX10_perSide_18
  refine k_iconst (v := (2 : Int32)) dX10_perSide_8 rfl ?_
  refine k_goto (tgt := 18) dX10_perSide_9 (by decide) ?_
  exact k_ireturn rfl dX10_perSide_18
theorem dX10_sidesOf_0 : decode cX10_sidesOf 0 = .ok (.aload_n 0, 1) := by decide +kernel
theorem dX10_sidesOf_1 : decode cX10_sidesOf 1 = .ok (.iload_n 1, 1) := by decide +kernel
theorem dX10_sidesOf_2 : decode cX10_sidesOf 2 = .ok (.invokevirtual 136, 3) := by decide +kernel
theorem dX10_sidesOf_5 : decode cX10_sidesOf 5 = .ok (.ifCond .ne 12, 3) := by decide +kernel
theorem dX10_sidesOf_8 : decode cX10_sidesOf 8 = .ok (.aload_n 0, 1) := by decide +kernel
theorem dX10_sidesOf_9 : decode cX10_sidesOf 9 = .ok (.iload_n 1, 1) := by decide +kernel
theorem dX10_sidesOf_10 : decode cX10_sidesOf 10 = .ok (.iconst 2, 1) := by decide +kernel
theorem dX10_sidesOf_11 : decode cX10_sidesOf 11 = .ok (.invokevirtual 133, 3) := by decide +kernel
theorem dX10_sidesOf_14 : decode cX10_sidesOf 14 = .ok (.ifCond .eq 7, 3) := by decide +kernel
theorem dX10_sidesOf_17 : decode cX10_sidesOf 17 = .ok (.iconst 2, 1) := by decide +kernel
theorem dX10_sidesOf_18 : decode cX10_sidesOf 18 = .ok (.goto 4, 3) := by decide +kernel
theorem dX10_sidesOf_21 : decode cX10_sidesOf 21 = .ok (.iconst 1, 1) := by decide +kernel
theorem dX10_sidesOf_22 : decode cX10_sidesOf 22 = .ok (.ireturn, 1) := by decide +kernel
def f10_sidesOf_b17 (g : GS_) : Option (Int32 × GS_) :=
  some ((2 : Int32), g)
theorem t10_sidesOf_b17 (g : GS_) : K_ RX10 cX10_sidesOf 2 (some .int) 2 43 false EI_ 17 [none, none] [] g (f10_sidesOf_b17 g) := by
  unfold f10_sidesOf_b17
  refine k_iconst (v := (2 : Int32)) dX10_sidesOf_17 rfl ?_
  refine k_goto (tgt := 22) dX10_sidesOf_18 (by decide) ?_
  exact k_ireturn rfl dX10_sidesOf_22
def f10_sidesOf (v0 : Nat) (v1 : Int32) (g : GS_) : Option (Int32 × GS_) :=
  bd_ (f10_isBooklet v0 v1 g) fun z2 g1 => if z2 = 0 then bd_ (f10_ofJob v0 v1 (2 : Int32) g1) fun z4 g3 => if z4 = 0 then some ((1 : Int32), g3) else f10_sidesOf_b17 g3 else f10_sidesOf_b17 g1
theorem t10_sidesOf (v0 : Nat) (v1 : Int32) (g : GS_) : Cn_ yX10_sidesOf cX10_sidesOf 2 (some .int) 2 43 EI_ [.inr (10, some v0), .inl v1] g (f10_sidesOf v0 v1 g) := by
  refine k_method (own := RX10) (ini := false) (L1 := [some (.inr (10, some v0)), some (.inl v1)]) (by decide +kernel) rfl (fun h => by cases h) (Nat.le_of_ble_eq_true rfl) rfl ?_
  unfold f10_sidesOf
  refine k_aloadn (j := 0) dX10_sidesOf_0 rfl rfl ?_
  refine k_iloadn (j := 1) dX10_sidesOf_1 rfl rfl ?_
  refine k_callVi [.inl v1] (t10_isBooklet v0 v1 g) cw_cX10_isBooklet (Or.inl ml_10_136) rfl rfl (by decide) (by decide) (Nat.le_of_ble_eq_true rfl) dX10_sidesOf_2 (fun z2 g1 => ?_)
  refine k_ifne (tgt := 17) dX10_sidesOf_5 (by decide) (fun _ => ?_) (fun _ => ?_)
  · refine k_aloadn (j := 0) dX10_sidesOf_8 rfl rfl ?_
    refine k_iloadn (j := 1) dX10_sidesOf_9 rfl rfl ?_
    refine k_iconst (v := (2 : Int32)) dX10_sidesOf_10 rfl ?_
    refine k_callVi [.inl v1, .inl (2 : Int32)] (t10_ofJob v0 v1 (2 : Int32) g1) cw_cX10_ofJob (Or.inl ml_10_133) rfl rfl (by decide) (by decide) (Nat.le_of_ble_eq_true rfl) dX10_sidesOf_11 (fun z4 g3 => ?_)
    refine k_ifeq (tgt := 21) dX10_sidesOf_14 (by decide) (fun _ => ?_) (fun _ => ?_)
    · refine k_iconst (v := (1 : Int32)) dX10_sidesOf_21 rfl ?_
      exact k_ireturn rfl dX10_sidesOf_22
    refine k_msk (L' := [none, none]) [false, false] rfl ?_
    exact t10_sidesOf_b17 g3
  refine k_msk (L' := [none, none]) [false, false] rfl ?_
  exact t10_sidesOf_b17 g1
theorem dX10_sheetsOfCopy_0 : decode cX10_sheetsOfCopy 0 = .ok (.aload_n 0, 1) := by decide +kernel
theorem dX10_sheetsOfCopy_1 : decode cX10_sheetsOfCopy 1 = .ok (.iload_n 1, 1) := by decide +kernel
theorem dX10_sheetsOfCopy_2 : decode cX10_sheetsOfCopy 2 = .ok (.bipush 7, 2) := by decide +kernel
theorem dX10_sheetsOfCopy_4 : decode cX10_sheetsOfCopy 4 = .ok (.invokevirtual 133, 3) := by decide +kernel
theorem dX10_sheetsOfCopy_7 : decode cX10_sheetsOfCopy 7 = .ok (.istore_n 2, 1) := by decide +kernel
theorem dX10_sheetsOfCopy_8 : decode cX10_sheetsOfCopy 8 = .ok (.aload_n 0, 1) := by decide +kernel
theorem dX10_sheetsOfCopy_9 : decode cX10_sheetsOfCopy 9 = .ok (.iload_n 1, 1) := by decide +kernel
theorem dX10_sheetsOfCopy_10 : decode cX10_sheetsOfCopy 10 = .ok (.invokevirtual 136, 3) := by decide +kernel
theorem dX10_sheetsOfCopy_13 : decode cX10_sheetsOfCopy 13 = .ok (.ifCond .eq 9, 3) := by decide +kernel
theorem dX10_sheetsOfCopy_16 : decode cX10_sheetsOfCopy 16 = .ok (.iload_n 2, 1) := by decide +kernel
theorem dX10_sheetsOfCopy_17 : decode cX10_sheetsOfCopy 17 = .ok (.iconst 3, 1) := by decide +kernel
theorem dX10_sheetsOfCopy_18 : decode cX10_sheetsOfCopy 18 = .ok (.iadd, 1) := by decide +kernel
theorem dX10_sheetsOfCopy_19 : decode cX10_sheetsOfCopy 19 = .ok (.iconst 4, 1) := by decide +kernel
theorem dX10_sheetsOfCopy_20 : decode cX10_sheetsOfCopy 20 = .ok (.idiv, 1) := by decide +kernel
theorem dX10_sheetsOfCopy_21 : decode cX10_sheetsOfCopy 21 = .ok (.ireturn, 1) := by decide +kernel
theorem dX10_sheetsOfCopy_22 : decode cX10_sheetsOfCopy 22 = .ok (.iload_n 2, 1) := by decide +kernel
theorem dX10_sheetsOfCopy_23 : decode cX10_sheetsOfCopy 23 = .ok (.aload_n 0, 1) := by decide +kernel
theorem dX10_sheetsOfCopy_24 : decode cX10_sheetsOfCopy 24 = .ok (.iload_n 1, 1) := by decide +kernel
theorem dX10_sheetsOfCopy_25 : decode cX10_sheetsOfCopy 25 = .ok (.invokevirtual 139, 3) := by decide +kernel
theorem dX10_sheetsOfCopy_28 : decode cX10_sheetsOfCopy 28 = .ok (.iadd, 1) := by decide +kernel
theorem dX10_sheetsOfCopy_29 : decode cX10_sheetsOfCopy 29 = .ok (.iconst 1, 1) := by decide +kernel
theorem dX10_sheetsOfCopy_30 : decode cX10_sheetsOfCopy 30 = .ok (.isub, 1) := by decide +kernel
theorem dX10_sheetsOfCopy_31 : decode cX10_sheetsOfCopy 31 = .ok (.aload_n 0, 1) := by decide +kernel
theorem dX10_sheetsOfCopy_32 : decode cX10_sheetsOfCopy 32 = .ok (.iload_n 1, 1) := by decide +kernel
theorem dX10_sheetsOfCopy_33 : decode cX10_sheetsOfCopy 33 = .ok (.invokevirtual 139, 3) := by decide +kernel
theorem dX10_sheetsOfCopy_36 : decode cX10_sheetsOfCopy 36 = .ok (.idiv, 1) := by decide +kernel
theorem dX10_sheetsOfCopy_37 : decode cX10_sheetsOfCopy 37 = .ok (.istore_n 3, 1) := by decide +kernel
theorem dX10_sheetsOfCopy_38 : decode cX10_sheetsOfCopy 38 = .ok (.iload_n 3, 1) := by decide +kernel
theorem dX10_sheetsOfCopy_39 : decode cX10_sheetsOfCopy 39 = .ok (.aload_n 0, 1) := by decide +kernel
theorem dX10_sheetsOfCopy_40 : decode cX10_sheetsOfCopy 40 = .ok (.iload_n 1, 1) := by decide +kernel
theorem dX10_sheetsOfCopy_41 : decode cX10_sheetsOfCopy 41 = .ok (.invokevirtual 142, 3) := by decide +kernel
theorem dX10_sheetsOfCopy_44 : decode cX10_sheetsOfCopy 44 = .ok (.iadd, 1) := by decide +kernel
theorem dX10_sheetsOfCopy_45 : decode cX10_sheetsOfCopy 45 = .ok (.iconst 1, 1) := by decide +kernel
theorem dX10_sheetsOfCopy_46 : decode cX10_sheetsOfCopy 46 = .ok (.isub, 1) := by decide +kernel
theorem dX10_sheetsOfCopy_47 : decode cX10_sheetsOfCopy 47 = .ok (.aload_n 0, 1) := by decide +kernel
theorem dX10_sheetsOfCopy_48 : decode cX10_sheetsOfCopy 48 = .ok (.iload_n 1, 1) := by decide +kernel
theorem dX10_sheetsOfCopy_49 : decode cX10_sheetsOfCopy 49 = .ok (.invokevirtual 142, 3) := by decide +kernel
theorem dX10_sheetsOfCopy_52 : decode cX10_sheetsOfCopy 52 = .ok (.idiv, 1) := by decide +kernel
theorem dX10_sheetsOfCopy_53 : decode cX10_sheetsOfCopy 53 = .ok (.ireturn, 1) := by decide +kernel
def f10_sheetsOfCopy (v0 : Nat) (v1 : Int32) (g : GS_) : Option (Int32 × GS_) :=
  bd_ (f10_ofJob v0 v1 (7 : Int32) g) fun z2 g1 => bd_ (f10_isBooklet v0 v1 g1) fun z4 g3 => if z4 = 0 then bd_ (f10_perSide v0 v1 g3) fun z6 g5 => bd_ (f10_perSide v0 v1 g5) fun z8 g7 => if z8 = 0 then none else lr_ (((z2 + z6) - (1 : Int32)) / z8) fun z9 => bd_ (f10_sidesOf v0 v1 g7) fun z11 g10 => bd_ (f10_sidesOf v0 v1 g10) fun z13 g12 => if z13 = 0 then none else some ((((z9 + z11) - (1 : Int32)) / z13), g12) else some (((z2 + (3 : Int32)) / (4 : Int32)), g3)
theorem t10_sheetsOfCopy (v0 : Nat) (v1 : Int32) (g : GS_) : Cn_ yX10_sheetsOfCopy cX10_sheetsOfCopy 4 (some .int) 3 64 EI_ [.inr (10, some v0), .inl v1] g (f10_sheetsOfCopy v0 v1 g) := by
  refine k_method (own := RX10) (ini := false) (L1 := [some (.inr (10, some v0)), some (.inl v1), none, none]) (by decide +kernel) rfl (fun h => by cases h) (Nat.le_of_ble_eq_true rfl) rfl ?_
  unfold f10_sheetsOfCopy
  refine k_aloadn (j := 0) dX10_sheetsOfCopy_0 rfl rfl ?_
  refine k_iloadn (j := 1) dX10_sheetsOfCopy_1 rfl rfl ?_
  refine k_bipush (v := (7 : Int32)) dX10_sheetsOfCopy_2 rfl ?_
  refine k_callVi [.inl v1, .inl (7 : Int32)] (t10_ofJob v0 v1 (7 : Int32) g) cw_cX10_ofJob (Or.inl ml_10_133) rfl rfl (by decide) (by decide) (Nat.le_of_ble_eq_true rfl) dX10_sheetsOfCopy_4 (fun z2 g1 => ?_)
  refine k_istn (j := 2) (L' := [some (.inr (10, some v0)), some (.inl v1), some (.inl z2), none]) dX10_sheetsOfCopy_7 rfl (by decide) rfl ?_
  refine k_aloadn (j := 0) dX10_sheetsOfCopy_8 rfl rfl ?_
  refine k_iloadn (j := 1) dX10_sheetsOfCopy_9 rfl rfl ?_
  refine k_callVi [.inl v1] (t10_isBooklet v0 v1 g1) cw_cX10_isBooklet (Or.inl ml_10_136) rfl rfl (by decide) (by decide) (Nat.le_of_ble_eq_true rfl) dX10_sheetsOfCopy_10 (fun z4 g3 => ?_)
  refine k_ifeq (tgt := 22) dX10_sheetsOfCopy_13 (by decide) (fun _ => ?_) (fun _ => ?_)
  · refine k_iloadn (j := 2) dX10_sheetsOfCopy_22 rfl rfl ?_
    refine k_aloadn (j := 0) dX10_sheetsOfCopy_23 rfl rfl ?_
    refine k_iloadn (j := 1) dX10_sheetsOfCopy_24 rfl rfl ?_
    refine k_callVi [.inl v1] (t10_perSide v0 v1 g3) cw_cX10_perSide (Or.inl ml_10_139) rfl rfl (by decide) (by decide) (Nat.le_of_ble_eq_true rfl) dX10_sheetsOfCopy_25 (fun z6 g5 => ?_)
    refine k_iadd dX10_sheetsOfCopy_28 ?_
    refine k_iconst (v := (1 : Int32)) dX10_sheetsOfCopy_29 rfl ?_
    refine k_isub dX10_sheetsOfCopy_30 ?_
    refine k_aloadn (j := 0) dX10_sheetsOfCopy_31 rfl rfl ?_
    refine k_iloadn (j := 1) dX10_sheetsOfCopy_32 rfl rfl ?_
    refine k_callVi [.inl v1] (t10_perSide v0 v1 g5) cw_cX10_perSide (Or.inl ml_10_139) rfl rfl (by decide) (by decide) (Nat.le_of_ble_eq_true rfl) dX10_sheetsOfCopy_33 (fun z8 g7 => ?_)
    refine k_idiv dX10_sheetsOfCopy_36 (fun _ => ?_)
    refine k_istnl (j := 3) (L2 := fun z9 => [some (.inr (10, some v0)), some (.inl v1), some (.inl z2), some (.inl z9)]) dX10_sheetsOfCopy_37 rfl (by decide) (fun _ => rfl) (fun z9 => ?_)
    refine k_iloadn (j := 3) dX10_sheetsOfCopy_38 rfl rfl ?_
    refine k_aloadn (j := 0) dX10_sheetsOfCopy_39 rfl rfl ?_
    refine k_iloadn (j := 1) dX10_sheetsOfCopy_40 rfl rfl ?_
    refine k_callVi [.inl v1] (t10_sidesOf v0 v1 g7) cw_cX10_sidesOf (Or.inl ml_10_142) rfl rfl (by decide) (by decide) (Nat.le_of_ble_eq_true rfl) dX10_sheetsOfCopy_41 (fun z11 g10 => ?_)
    refine k_iadd dX10_sheetsOfCopy_44 ?_
    refine k_iconst (v := (1 : Int32)) dX10_sheetsOfCopy_45 rfl ?_
    refine k_isub dX10_sheetsOfCopy_46 ?_
    refine k_aloadn (j := 0) dX10_sheetsOfCopy_47 rfl rfl ?_
    refine k_iloadn (j := 1) dX10_sheetsOfCopy_48 rfl rfl ?_
    refine k_callVi [.inl v1] (t10_sidesOf v0 v1 g10) cw_cX10_sidesOf (Or.inl ml_10_142) rfl rfl (by decide) (by decide) (Nat.le_of_ble_eq_true rfl) dX10_sheetsOfCopy_49 (fun z13 g12 => ?_)
    refine k_idiv dX10_sheetsOfCopy_52 (fun _ => ?_)
    exact k_ireturn rfl dX10_sheetsOfCopy_53
  refine k_iloadn (j := 2) dX10_sheetsOfCopy_16 rfl rfl ?_
  refine k_iconst (v := (3 : Int32)) dX10_sheetsOfCopy_17 rfl ?_
  refine k_iadd dX10_sheetsOfCopy_18 ?_
  refine k_iconst (v := (4 : Int32)) dX10_sheetsOfCopy_19 rfl ?_
  refine k_idivc (by decide) dX10_sheetsOfCopy_20 ?_
  exact k_ireturn rfl dX10_sheetsOfCopy_21
theorem dX10_submit_0 : decode cX10_submit 0 = .ok (.aload_n 0, 1) := by decide +kernel
theorem dX10_submit_1 : decode cX10_submit 1 = .ok (.iload_n 1, 1) := by decide +kernel
theorem dX10_submit_2 : decode cX10_submit 2 = .ok (.invokevirtual 52, 3) := by decide +kernel
theorem dX10_submit_5 : decode cX10_submit 5 = .ok (.ifCond .ne 5, 3) := by decide +kernel
theorem dX10_submit_8 : decode cX10_submit 8 = .ok (.iconst (-1), 1) := by decide +kernel
theorem dX10_submit_9 : decode cX10_submit 9 = .ok (.ireturn, 1) := by decide +kernel
theorem dX10_submit_10 : decode cX10_submit 10 = .ok (.aload_n 0, 1) := by decide +kernel
theorem dX10_submit_11 : decode cX10_submit 11 = .ok (.invokevirtual 97, 3) := by decide +kernel
theorem dX10_submit_14 : decode cX10_submit 14 = .ok (.bipush (-6), 2) := by decide +kernel
theorem dX10_submit_16 : decode cX10_submit 16 = .ok (.if_icmp .eq 6, 3) := by decide +kernel
theorem dX10_submit_19 : decode cX10_submit 19 = .ok (.bipush (-3), 2) := by decide +kernel
theorem dX10_submit_21 : decode cX10_submit 21 = .ok (.ireturn, 1) := by decide +kernel
theorem dX10_submit_22 : decode cX10_submit 22 = .ok (.aload_n 0, 1) := by decide +kernel
theorem dX10_submit_23 : decode cX10_submit 23 = .ok (.iload_n 1, 1) := by decide +kernel
theorem dX10_submit_24 : decode cX10_submit 24 = .ok (.invokevirtual 117, 3) := by decide +kernel
theorem dX10_submit_27 : decode cX10_submit 27 = .ok (.ifCond .eq 14, 3) := by decide +kernel
theorem dX10_submit_30 : decode cX10_submit 30 = .ok (.aload_n 0, 1) := by decide +kernel
theorem dX10_submit_31 : decode cX10_submit 31 = .ok (.getfield 7, 3) := by decide +kernel
theorem dX10_submit_34 : decode cX10_submit 34 = .ok (.iconst 4, 1) := by decide +kernel
theorem dX10_submit_35 : decode cX10_submit 35 = .ok (.iaload, 1) := by decide +kernel
theorem dX10_submit_36 : decode cX10_submit 36 = .ok (.bipush 24, 2) := by decide +kernel
theorem dX10_submit_38 : decode cX10_submit 38 = .ok (.if_icmp .ne 6, 3) := by decide +kernel
theorem dX10_submit_41 : decode cX10_submit 41 = .ok (.bipush (-4), 2) := by decide +kernel
theorem dX10_submit_43 : decode cX10_submit 43 = .ok (.ireturn, 1) := by decide +kernel
theorem dX10_submit_44 : decode cX10_submit 44 = .ok (.aload_n 0, 1) := by decide +kernel
theorem dX10_submit_45 : decode cX10_submit 45 = .ok (.iload_n 1, 1) := by decide +kernel
theorem dX10_submit_46 : decode cX10_submit 46 = .ok (.iconst 1, 1) := by decide +kernel
theorem dX10_submit_47 : decode cX10_submit 47 = .ok (.invokevirtual 48, 3) := by decide +kernel
theorem dX10_submit_50 : decode cX10_submit 50 = .ok (.iconst 2, 1) := by decide +kernel
theorem dX10_submit_51 : decode cX10_submit 51 = .ok (.if_icmp .ne 7, 3) := by decide +kernel
theorem dX10_submit_54 : decode cX10_submit 54 = .ok (.iconst 1, 1) := by decide +kernel
theorem dX10_submit_55 : decode cX10_submit 55 = .ok (.goto 4, 3) := by decide +kernel
theorem dX10_submit_58 : decode cX10_submit 58 = .ok (.iconst 0, 1) := by decide +kernel
theorem dX10_submit_59 : decode cX10_submit 59 = .ok (.istore_n 2, 1) := by decide +kernel
theorem dX10_submit_60 : decode cX10_submit 60 = .ok (.aload_n 0, 1) := by decide +kernel
theorem dX10_submit_61 : decode cX10_submit 61 = .ok (.getfield 103, 3) := by decide +kernel
theorem dX10_submit_64 : decode cX10_submit 64 = .ok (.ifCond .eq 17, 3) := by decide +kernel
theorem dX10_submit_67 : decode cX10_submit 67 = .ok (.iload_n 2, 1) := by decide +kernel
theorem dX10_submit_68 : decode cX10_submit 68 = .ok (.ifCond .eq 16, 3) := by decide +kernel
theorem dX10_submit_71 : decode cX10_submit 71 = .ok (.aload_n 0, 1) := by decide +kernel
theorem dX10_submit_72 : decode cX10_submit 72 = .ok (.getfield 7, 3) := by decide +kernel
theorem dX10_submit_75 : decode cX10_submit 75 = .ok (.bipush 11, 2) := by decide +kernel
theorem dX10_submit_77 : decode cX10_submit 77 = .ok (.iaload, 1) := by decide +kernel
theorem dX10_submit_78 : decode cX10_submit 78 = .ok (.ifCond .ne 6, 3) := by decide +kernel
theorem dX10_submit_81 : decode cX10_submit 81 = .ok (.bipush (-5), 2) := by decide +kernel
theorem dX10_submit_83 : decode cX10_submit 83 = .ok (.ireturn, 1) := by decide +kernel
theorem dX10_submit_84 : decode cX10_submit 84 = .ok (.aload_n 0, 1) := by decide +kernel
theorem dX10_submit_85 : decode cX10_submit 85 = .ok (.getfield 7, 3) := by decide +kernel
theorem dX10_submit_88 : decode cX10_submit 88 = .ok (.iconst 4, 1) := by decide +kernel
theorem dX10_submit_89 : decode cX10_submit 89 = .ok (.iaload, 1) := by decide +kernel
theorem dX10_submit_90 : decode cX10_submit 90 = .ok (.istore_n 3, 1) := by decide +kernel
theorem dX10_submit_91 : decode cX10_submit 91 = .ok (.aload_n 0, 1) := by decide +kernel
theorem dX10_submit_92 : decode cX10_submit 92 = .ok (.getfield 7, 3) := by decide +kernel
theorem dX10_submit_95 : decode cX10_submit 95 = .ok (.iconst 4, 1) := by decide +kernel
theorem dX10_submit_96 : decode cX10_submit 96 = .ok (.dup2, 1) := by decide +kernel
theorem dX10_submit_97 : decode cX10_submit 97 = .ok (.iaload, 1) := by decide +kernel
theorem dX10_submit_98 : decode cX10_submit 98 = .ok (.iconst 1, 1) := by decide +kernel
theorem dX10_submit_99 : decode cX10_submit 99 = .ok (.iadd, 1) := by decide +kernel
theorem dX10_submit_100 : decode cX10_submit 100 = .ok (.iastore, 1) := by decide +kernel
theorem dX10_submit_101 : decode cX10_submit 101 = .ok (.iconst 0, 1) := by decide +kernel
theorem dX10_submit_102 : decode cX10_submit 102 = .ok (.istore 4, 2) := by decide +kernel
theorem dX10_submit_104 : decode cX10_submit 104 = .ok (.iload 4, 2) := by decide +kernel
theorem dX10_submit_106 : decode cX10_submit 106 = .ok (.bipush 6, 2) := by decide +kernel
theorem dX10_submit_108 : decode cX10_submit 108 = .ok (.if_icmp .ge 26, 3) := by decide +kernel
theorem dX10_submit_111 : decode cX10_submit 111 = .ok (.aload_n 0, 1) := by decide +kernel
theorem dX10_submit_112 : decode cX10_submit 112 = .ok (.iload_n 3, 1) := by decide +kernel
theorem dX10_submit_113 : decode cX10_submit 113 = .ok (.iload 4, 2) := by decide +kernel
theorem dX10_submit_115 : decode cX10_submit 115 = .ok (.aload_n 0, 1) := by decide +kernel
theorem dX10_submit_116 : decode cX10_submit 116 = .ok (.getfield 7, 3) := by decide +kernel
theorem dX10_submit_119 : decode cX10_submit 119 = .ok (.bipush 8, 2) := by decide +kernel
theorem dX10_submit_121 : decode cX10_submit 121 = .ok (.iload 4, 2) := by decide +kernel
theorem dX10_submit_123 : decode cX10_submit 123 = .ok (.iadd, 1) := by decide +kernel
theorem dX10_submit_124 : decode cX10_submit 124 = .ok (.iaload, 1) := by decide +kernel
theorem dX10_submit_125 : decode cX10_submit 125 = .ok (.invokevirtual 126, 3) := by decide +kernel
theorem dX10_submit_128 : decode cX10_submit 128 = .ok (.iinc 4 1, 3) := by decide +kernel
theorem dX10_submit_131 : decode cX10_submit 131 = .ok (.goto (-27), 3) := by decide +kernel
theorem dX10_submit_134 : decode cX10_submit 134 = .ok (.aload_n 0, 1) := by decide +kernel
theorem dX10_submit_135 : decode cX10_submit 135 = .ok (.iload_n 3, 1) := by decide +kernel
theorem dX10_submit_136 : decode cX10_submit 136 = .ok (.iconst 2, 1) := by decide +kernel
theorem dX10_submit_137 : decode cX10_submit 137 = .ok (.iload_n 2, 1) := by decide +kernel
theorem dX10_submit_138 : decode cX10_submit 138 = .ok (.ifCond .eq 7, 3) := by decide +kernel
theorem dX10_submit_141 : decode cX10_submit 141 = .ok (.iconst 0, 1) := by decide +kernel
theorem dX10_submit_142 : decode cX10_submit 142 = .ok (.goto 10, 3) := by decide +kernel
theorem dX10_submit_145 : decode cX10_submit 145 = .ok (.aload_n 0, 1) := by decide +kernel
theorem dX10_submit_146 : decode cX10_submit 146 = .ok (.getfield 7, 3) := by decide +kernel
theorem dX10_submit_149 : decode cX10_submit 149 = .ok (.bipush 10, 2) := by decide +kernel
theorem dX10_submit_151 : decode cX10_submit 151 = .ok (.iaload, 1) := by decide +kernel
theorem dX10_submit_152 : decode cX10_submit 152 = .ok (.invokevirtual 126, 3) := by decide +kernel
theorem dX10_submit_155 : decode cX10_submit 155 = .ok (.aload_n 0, 1) := by decide +kernel
theorem dX10_submit_156 : decode cX10_submit 156 = .ok (.iload_n 3, 1) := by decide +kernel
theorem dX10_submit_157 : decode cX10_submit 157 = .ok (.bipush 6, 2) := by decide +kernel
theorem dX10_submit_159 : decode cX10_submit 159 = .ok (.iload_n 1, 1) := by decide +kernel
theorem dX10_submit_160 : decode cX10_submit 160 = .ok (.invokevirtual 126, 3) := by decide +kernel
theorem dX10_submit_163 : decode cX10_submit 163 = .ok (.aload_n 0, 1) := by decide +kernel
theorem dX10_submit_164 : decode cX10_submit 164 = .ok (.iload_n 3, 1) := by decide +kernel
theorem dX10_submit_165 : decode cX10_submit 165 = .ok (.bipush 7, 2) := by decide +kernel
theorem dX10_submit_167 : decode cX10_submit 167 = .ok (.aload_n 0, 1) := by decide +kernel
theorem dX10_submit_168 : decode cX10_submit 168 = .ok (.getfield 103, 3) := by decide +kernel
theorem dX10_submit_171 : decode cX10_submit 171 = .ok (.invokevirtual 126, 3) := by decide +kernel
theorem dX10_submit_174 : decode cX10_submit 174 = .ok (.aload_n 0, 1) := by decide +kernel
theorem dX10_submit_175 : decode cX10_submit 175 = .ok (.iload_n 3, 1) := by decide +kernel
theorem dX10_submit_176 : decode cX10_submit 176 = .ok (.bipush 8, 2) := by decide +kernel
theorem dX10_submit_178 : decode cX10_submit 178 = .ok (.aload_n 0, 1) := by decide +kernel
theorem dX10_submit_179 : decode cX10_submit 179 = .ok (.getfield 7, 3) := by decide +kernel
theorem dX10_submit_182 : decode cX10_submit 182 = .ok (.bipush 8, 2) := by decide +kernel
theorem dX10_submit_184 : decode cX10_submit 184 = .ok (.iaload, 1) := by decide +kernel
theorem dX10_submit_185 : decode cX10_submit 185 = .ok (.aload_n 0, 1) := by decide +kernel
theorem dX10_submit_186 : decode cX10_submit 186 = .ok (.iload_n 3, 1) := by decide +kernel
theorem dX10_submit_187 : decode cX10_submit 187 = .ok (.invokevirtual 130, 3) := by decide +kernel
theorem dX10_submit_190 : decode cX10_submit 190 = .ok (.imul, 1) := by decide +kernel
theorem dX10_submit_191 : decode cX10_submit 191 = .ok (.invokevirtual 126, 3) := by decide +kernel
theorem dX10_submit_194 : decode cX10_submit 194 = .ok (.aload_n 0, 1) := by decide +kernel
theorem dX10_submit_195 : decode cX10_submit 195 = .ok (.iload_n 3, 1) := by decide +kernel
theorem dX10_submit_196 : decode cX10_submit 196 = .ok (.bipush 9, 2) := by decide +kernel
theorem dX10_submit_198 : decode cX10_submit 198 = .ok (.iconst 0, 1) := by decide +kernel
theorem dX10_submit_199 : decode cX10_submit 199 = .ok (.invokevirtual 126, 3) := by decide +kernel
theorem dX10_submit_202 : decode cX10_submit 202 = .ok (.aload_n 0, 1) := by decide +kernel
theorem dX10_submit_203 : decode cX10_submit 203 = .ok (.iload_n 3, 1) := by decide +kernel
theorem dX10_submit_204 : decode cX10_submit 204 = .ok (.bipush 10, 2) := by decide +kernel
theorem dX10_submit_206 : decode cX10_submit 206 = .ok (.iconst 0, 1) := by decide +kernel
theorem dX10_submit_207 : decode cX10_submit 207 = .ok (.invokevirtual 126, 3) := by decide +kernel
theorem dX10_submit_210 : decode cX10_submit 210 = .ok (.aload_n 0, 1) := by decide +kernel
theorem dX10_submit_211 : decode cX10_submit 211 = .ok (.iload_n 3, 1) := by decide +kernel
theorem dX10_submit_212 : decode cX10_submit 212 = .ok (.bipush 11, 2) := by decide +kernel
theorem dX10_submit_214 : decode cX10_submit 214 = .ok (.aload_n 0, 1) := by decide +kernel
theorem dX10_submit_215 : decode cX10_submit 215 = .ok (.getfield 7, 3) := by decide +kernel
theorem dX10_submit_218 : decode cX10_submit 218 = .ok (.iconst 0, 1) := by decide +kernel
theorem dX10_submit_219 : decode cX10_submit 219 = .ok (.iaload, 1) := by decide +kernel
theorem dX10_submit_220 : decode cX10_submit 220 = .ok (.invokevirtual 126, 3) := by decide +kernel
theorem dX10_submit_223 : decode cX10_submit 223 = .ok (.aload_n 0, 1) := by decide +kernel
theorem dX10_submit_224 : decode cX10_submit 224 = .ok (.iload_n 3, 1) := by decide +kernel
theorem dX10_submit_225 : decode cX10_submit 225 = .ok (.bipush 12, 2) := by decide +kernel
theorem dX10_submit_227 : decode cX10_submit 227 = .ok (.iconst 0, 1) := by decide +kernel
theorem dX10_submit_228 : decode cX10_submit 228 = .ok (.invokevirtual 126, 3) := by decide +kernel
theorem dX10_submit_231 : decode cX10_submit 231 = .ok (.iconst 0, 1) := by decide +kernel
theorem dX10_submit_232 : decode cX10_submit 232 = .ok (.istore 4, 2) := by decide +kernel
theorem dX10_submit_234 : decode cX10_submit 234 = .ok (.iload 4, 2) := by decide +kernel
theorem dX10_submit_236 : decode cX10_submit 236 = .ok (.aload_n 0, 1) := by decide +kernel
theorem dX10_submit_237 : decode cX10_submit 237 = .ok (.getfield 103, 3) := by decide +kernel
theorem dX10_submit_240 : decode cX10_submit 240 = .ok (.if_icmp .ge 29, 3) := by decide +kernel
theorem dX10_submit_243 : decode cX10_submit 243 = .ok (.aload_n 0, 1) := by decide +kernel
theorem dX10_submit_244 : decode cX10_submit 244 = .ok (.getfield 16, 3) := by decide +kernel
theorem dX10_submit_247 : decode cX10_submit 247 = .ok (.sipush 400, 3) := by decide +kernel
theorem dX10_submit_250 : decode cX10_submit 250 = .ok (.iload_n 3, 1) := by decide +kernel
theorem dX10_submit_251 : decode cX10_submit 251 = .ok (.imul, 1) := by decide +kernel
theorem dX10_submit_252 : decode cX10_submit 252 = .ok (.iload 4, 2) := by decide +kernel
theorem dX10_submit_254 : decode cX10_submit 254 = .ok (.iadd, 1) := by decide +kernel
theorem dX10_submit_255 : decode cX10_submit 255 = .ok (.aload_n 0, 1) := by decide +kernel
theorem dX10_submit_256 : decode cX10_submit 256 = .ok (.getfield 29, 3) := by decide +kernel
theorem dX10_submit_259 : decode cX10_submit 259 = .ok (.iload 4, 2) := by decide +kernel
theorem dX10_submit_261 : decode cX10_submit 261 = .ok (.iaload, 1) := by decide +kernel
theorem dX10_submit_262 : decode cX10_submit 262 = .ok (.iastore, 1) := by decide +kernel
theorem dX10_submit_263 : decode cX10_submit 263 = .ok (.iinc 4 1, 3) := by decide +kernel
theorem dX10_submit_266 : decode cX10_submit 266 = .ok (.goto (-32), 3) := by decide +kernel
theorem dX10_submit_269 : decode cX10_submit 269 = .ok (.aload_n 0, 1) := by decide +kernel
theorem dX10_submit_270 : decode cX10_submit 270 = .ok (.getfield 7, 3) := by decide +kernel
theorem dX10_submit_273 : decode cX10_submit 273 = .ok (.bipush 7, 2) := by decide +kernel
theorem dX10_submit_275 : decode cX10_submit 275 = .ok (.iconst 0, 1) := by decide +kernel
theorem dX10_submit_276 : decode cX10_submit 276 = .ok (.iastore, 1) := by decide +kernel
theorem dX10_submit_277 : decode cX10_submit 277 = .ok (.iload_n 3, 1) := by decide +kernel
theorem dX10_submit_278 : decode cX10_submit 278 = .ok (.ireturn, 1) := by decide +kernel
def f10_submit_b234 : Nat → Nat → Int32 → Int32 → GS_ → Option (Int32 × GS_)
  | 0, _, _, _, _ => none
  | n + 1, v0, v3, v4, g =>
    if (gfi g 333 v0) ≤ v4 then lr_ (gfr g 320 v0) fun x1 => oc_ x1 none fun a2 => if inb (7 : Int32) (gln g 20 a2) then lr_ (sai g 20 a2 (7 : Int32).toInt.toNat (0 : Int32)) (fun g3 => some (v3, g3)) else none else lr_ (gfr g 322 v0) fun x4 => lr_ (gfr g 332 v0) fun x5 => oc_ x5 none fun a6 => if inb v4 (gln g 20 a6) then oc_ x4 none fun a7 => if inb (((400 : Int32) * v3) + v4) (gln g 20 a7) then lr_ (sai g 20 a7 (((400 : Int32) * v3) + v4).toInt.toNat (gai g 20 a6 v4.toInt.toNat)) (fun g8 => (f10_submit_b234 n) v0 v3 (v4 + (1 : Int32)) g8) else none else none
theorem t10_submit_b234 : ∀ (n : Nat) (v0 : Nat) (v3 : Int32) (v4 : Int32) (g : GS_), K_ RX10 cX10_submit 5 (some .int) 5 111 false EI_ 234 [some (.inr (10, some v0)), none, none, some (.inl v3), some (.inl v4)] [] g (f10_submit_b234 n v0 v3 v4 g) := by
  intro n
  induction n with
  | zero =>
    intro v0 v3 v4 g
    exact k_fail
  | succ n ih =>
    intro v0 v3 v4 g
    show K_ RX10 cX10_submit 5 (some .int) 5 111 false EI_ 234 [some (.inr (10, some v0)), none, none, some (.inl v3), some (.inl v4)] [] g (if (gfi g 333 v0) ≤ v4 then lr_ (gfr g 320 v0) fun x1 => oc_ x1 none fun a2 => if inb (7 : Int32) (gln g 20 a2) then lr_ (sai g 20 a2 (7 : Int32).toInt.toNat (0 : Int32)) (fun g3 => some (v3, g3)) else none else lr_ (gfr g 322 v0) fun x4 => lr_ (gfr g 332 v0) fun x5 => oc_ x5 none fun a6 => if inb v4 (gln g 20 a6) then oc_ x4 none fun a7 => if inb (((400 : Int32) * v3) + v4) (gln g 20 a7) then lr_ (sai g 20 a7 (((400 : Int32) * v3) + v4).toInt.toNat (gai g 20 a6 v4.toInt.toNat)) (fun g8 => (f10_submit_b234 n) v0 v3 (v4 + (1 : Int32)) g8) else none else none)
    refine k_iload dX10_submit_234 rfl ?_
    refine k_aloadn (j := 0) dX10_submit_236 rfl rfl ?_
    refine k_geti fg_10_103 rfl rfl dX10_submit_237 ?_
    refine k_icmpge (tgt := 269) dX10_submit_240 (by decide) (fun _ => ?_) (fun _ => ?_)
    · refine k_aloadn (j := 0) dX10_submit_269 rfl rfl ?_
      refine k_getr fg_10_7 rfl rfl dX10_submit_270 (fun x1 => ?_)
      refine k_bipush (v := (7 : Int32)) dX10_submit_273 rfl ?_
      refine k_iconst (v := (0 : Int32)) dX10_submit_275 rfl ?_
      rcases x1 with _ | a2
      · exact k_ocn
      refine k_ocs ?_
      refine k_iast dX10_submit_276 (fun g3 => ?_)
      refine k_iloadn (j := 3) dX10_submit_277 rfl rfl ?_
      exact k_ireturn rfl dX10_submit_278
    refine k_aloadn (j := 0) dX10_submit_243 rfl rfl ?_
    refine k_getr fg_10_16 rfl rfl dX10_submit_244 (fun x4 => ?_)
    refine k_sipush (v := (400 : Int32)) dX10_submit_247 rfl ?_
    refine k_iloadn (j := 3) dX10_submit_250 rfl rfl ?_
    refine k_imul dX10_submit_251 ?_
    refine k_iload dX10_submit_252 rfl ?_
    refine k_iadd dX10_submit_254 ?_
    refine k_aloadn (j := 0) dX10_submit_255 rfl rfl ?_
    refine k_getr fg_10_29 rfl rfl dX10_submit_256 (fun x5 => ?_)
    refine k_iload dX10_submit_259 rfl ?_
    rcases x5 with _ | a6
    · exact k_ocn
    refine k_ocs ?_
    refine k_iald dX10_submit_261 ?_
    rcases x4 with _ | a7
    · exact k_ocn
    refine k_ocs ?_
    refine k_iast dX10_submit_262 (fun g8 => ?_)
    refine k_iinc (v := (v4 + (1 : Int32))) (L' := [some (.inr (10, some v0)), none, none, some (.inl v3), some (.inl (v4 + (1 : Int32)))]) dX10_submit_263 rfl rfl (by decide) rfl ?_
    refine k_goto (tgt := 234) dX10_submit_266 (by decide) ?_
    exact ih v0 v3 (v4 + (1 : Int32)) g8
def f10_submit_b152 (v0 : Nat) (v1 : Int32) (v3 : Int32) (s0 : Nat) (s1 : Int32) (s2 : Int32) (s3 : Int32) (g : GS_) : Option (Int32 × GS_) :=
  bd_ (f10_setJob s0 s1 s2 s3 g) fun _ g9 => bd_ (f10_setJob v0 v3 (6 : Int32) v1 g9) fun _ g10 => bd_ (f10_setJob v0 v3 (7 : Int32) (gfi g10 333 v0) g10) fun _ g11 => lr_ (gfr g11 320 v0) fun x12 => oc_ x12 none fun a13 => if inb (8 : Int32) (gln g11 20 a13) then bd_ (f10_sheetsOfCopy v0 v3 g11) fun z15 g14 => bd_ (f10_setJob v0 v3 (8 : Int32) ((gai g11 20 a13 (8 : Int32).toInt.toNat) * z15) g14) fun _ g16 => bd_ (f10_setJob v0 v3 (9 : Int32) (0 : Int32) g16) fun _ g17 => bd_ (f10_setJob v0 v3 (10 : Int32) (0 : Int32) g17) fun _ g18 => lr_ (gfr g18 320 v0) fun x19 => oc_ x19 none fun a20 => if inb (0 : Int32) (gln g18 20 a20) then bd_ (f10_setJob v0 v3 (11 : Int32) (gai g18 20 a20 (0 : Int32).toInt.toNat) g18) fun _ g21 => bd_ (f10_setJob v0 v3 (12 : Int32) (0 : Int32) g21) fun _ g22 => f10_submit_b234 FU_ v0 v3 (0 : Int32) g22 else none else none
theorem t10_submit_b152 (v0 : Nat) (v1 : Int32) (v3 : Int32) (s0 : Nat) (s1 : Int32) (s2 : Int32) (s3 : Int32) (g : GS_) : K_ RX10 cX10_submit 5 (some .int) 5 111 false EI_ 152 [some (.inr (10, some v0)), some (.inl v1), none, some (.inl v3), none] [.inl s3, .inl s2, .inl s1, .inr (10, some s0)] g (f10_submit_b152 v0 v1 v3 s0 s1 s2 s3 g) := by
  unfold f10_submit_b152
  refine k_callVv [.inl s1, .inl s2, .inl s3] (t10_setJob s0 s1 s2 s3 g) cw_cX10_setJob (Or.inl ml_10_126) rfl rfl (by decide) (by decide) (Nat.le_of_ble_eq_true rfl) dX10_submit_152 (fun _ g9 => ?_)
  refine k_aloadn (j := 0) dX10_submit_155 rfl rfl ?_
  refine k_iloadn (j := 3) dX10_submit_156 rfl rfl ?_
  refine k_bipush (v := (6 : Int32)) dX10_submit_157 rfl ?_
  refine k_iloadn (j := 1) dX10_submit_159 rfl rfl ?_
  refine k_callVv [.inl v3, .inl (6 : Int32), .inl v1] (t10_setJob v0 v3 (6 : Int32) v1 g9) cw_cX10_setJob (Or.inl ml_10_126) rfl rfl (by decide) (by decide) (Nat.le_of_ble_eq_true rfl) dX10_submit_160 (fun _ g10 => ?_)
  refine k_aloadn (j := 0) dX10_submit_163 rfl rfl ?_
  refine k_iloadn (j := 3) dX10_submit_164 rfl rfl ?_
  refine k_bipush (v := (7 : Int32)) dX10_submit_165 rfl ?_
  refine k_aloadn (j := 0) dX10_submit_167 rfl rfl ?_
  refine k_geti fg_10_103 rfl rfl dX10_submit_168 ?_
  refine k_callVv [.inl v3, .inl (7 : Int32), .inl (gfi g10 333 v0)] (t10_setJob v0 v3 (7 : Int32) (gfi g10 333 v0) g10) cw_cX10_setJob (Or.inl ml_10_126) rfl rfl (by decide) (by decide) (Nat.le_of_ble_eq_true rfl) dX10_submit_171 (fun _ g11 => ?_)
  refine k_aloadn (j := 0) dX10_submit_174 rfl rfl ?_
  refine k_iloadn (j := 3) dX10_submit_175 rfl rfl ?_
  refine k_bipush (v := (8 : Int32)) dX10_submit_176 rfl ?_
  refine k_aloadn (j := 0) dX10_submit_178 rfl rfl ?_
  refine k_getr fg_10_7 rfl rfl dX10_submit_179 (fun x12 => ?_)
  refine k_bipush (v := (8 : Int32)) dX10_submit_182 rfl ?_
  rcases x12 with _ | a13
  · exact k_ocn
  refine k_ocs ?_
  refine k_iald dX10_submit_184 ?_
  refine k_aloadn (j := 0) dX10_submit_185 rfl rfl ?_
  refine k_iloadn (j := 3) dX10_submit_186 rfl rfl ?_
  refine k_callVi [.inl v3] (t10_sheetsOfCopy v0 v3 g11) cw_cX10_sheetsOfCopy (Or.inl ml_10_130) rfl rfl (by decide) (by decide) (Nat.le_of_ble_eq_true rfl) dX10_submit_187 (fun z15 g14 => ?_)
  refine k_imul dX10_submit_190 ?_
  refine k_callVv [.inl v3, .inl (8 : Int32), .inl ((gai g11 20 a13 (8 : Int32).toInt.toNat) * z15)] (t10_setJob v0 v3 (8 : Int32) ((gai g11 20 a13 (8 : Int32).toInt.toNat) * z15) g14) cw_cX10_setJob (Or.inl ml_10_126) rfl rfl (by decide) (by decide) (Nat.le_of_ble_eq_true rfl) dX10_submit_191 (fun _ g16 => ?_)
  refine k_aloadn (j := 0) dX10_submit_194 rfl rfl ?_
  refine k_iloadn (j := 3) dX10_submit_195 rfl rfl ?_
  refine k_bipush (v := (9 : Int32)) dX10_submit_196 rfl ?_
  refine k_iconst (v := (0 : Int32)) dX10_submit_198 rfl ?_
  refine k_callVv [.inl v3, .inl (9 : Int32), .inl (0 : Int32)] (t10_setJob v0 v3 (9 : Int32) (0 : Int32) g16) cw_cX10_setJob (Or.inl ml_10_126) rfl rfl (by decide) (by decide) (Nat.le_of_ble_eq_true rfl) dX10_submit_199 (fun _ g17 => ?_)
  refine k_aloadn (j := 0) dX10_submit_202 rfl rfl ?_
  refine k_iloadn (j := 3) dX10_submit_203 rfl rfl ?_
  refine k_bipush (v := (10 : Int32)) dX10_submit_204 rfl ?_
  refine k_iconst (v := (0 : Int32)) dX10_submit_206 rfl ?_
  refine k_callVv [.inl v3, .inl (10 : Int32), .inl (0 : Int32)] (t10_setJob v0 v3 (10 : Int32) (0 : Int32) g17) cw_cX10_setJob (Or.inl ml_10_126) rfl rfl (by decide) (by decide) (Nat.le_of_ble_eq_true rfl) dX10_submit_207 (fun _ g18 => ?_)
  refine k_aloadn (j := 0) dX10_submit_210 rfl rfl ?_
  refine k_iloadn (j := 3) dX10_submit_211 rfl rfl ?_
  refine k_bipush (v := (11 : Int32)) dX10_submit_212 rfl ?_
  refine k_aloadn (j := 0) dX10_submit_214 rfl rfl ?_
  refine k_getr fg_10_7 rfl rfl dX10_submit_215 (fun x19 => ?_)
  refine k_iconst (v := (0 : Int32)) dX10_submit_218 rfl ?_
  rcases x19 with _ | a20
  · exact k_ocn
  refine k_ocs ?_
  refine k_iald dX10_submit_219 ?_
  refine k_callVv [.inl v3, .inl (11 : Int32), .inl (gai g18 20 a20 (0 : Int32).toInt.toNat)] (t10_setJob v0 v3 (11 : Int32) (gai g18 20 a20 (0 : Int32).toInt.toNat) g18) cw_cX10_setJob (Or.inl ml_10_126) rfl rfl (by decide) (by decide) (Nat.le_of_ble_eq_true rfl) dX10_submit_220 (fun _ g21 => ?_)
  refine k_aloadn (j := 0) dX10_submit_223 rfl rfl ?_
  refine k_iloadn (j := 3) dX10_submit_224 rfl rfl ?_
  refine k_bipush (v := (12 : Int32)) dX10_submit_225 rfl ?_
  refine k_iconst (v := (0 : Int32)) dX10_submit_227 rfl ?_
  refine k_callVv [.inl v3, .inl (12 : Int32), .inl (0 : Int32)] (t10_setJob v0 v3 (12 : Int32) (0 : Int32) g21) cw_cX10_setJob (Or.inl ml_10_126) rfl rfl (by decide) (by decide) (Nat.le_of_ble_eq_true rfl) dX10_submit_228 (fun _ g22 => ?_)
  refine k_iconst (v := (0 : Int32)) dX10_submit_231 rfl ?_
  refine k_ist (L' := [some (.inr (10, some v0)), some (.inl v1), none, some (.inl v3), some (.inl (0 : Int32))]) dX10_submit_232 (by decide) rfl ?_
  refine k_msk (L' := [some (.inr (10, some v0)), none, none, some (.inl v3), some (.inl (0 : Int32))]) [true, false, true, true, true] rfl ?_
  exact t10_submit_b234 FU_ v0 v3 (0 : Int32) g22
def f10_submit_b104 : Nat → Nat → Int32 → Int32 → Int32 → Int32 → GS_ → Option (Int32 × GS_)
  | 0, _, _, _, _, _, _ => none
  | n + 1, v0, v1, v2, v3, v4, g =>
    if (6 : Int32) ≤ v4 then if v2 = 0 then lr_ (gfr g 320 v0) fun x23 => oc_ x23 none fun a24 => if inb (10 : Int32) (gln g 20 a24) then f10_submit_b152 v0 v1 v3 v0 v3 (2 : Int32) (gai g 20 a24 (10 : Int32).toInt.toNat) g else none else f10_submit_b152 v0 v1 v3 v0 v3 (2 : Int32) (0 : Int32) g else lr_ (gfr g 320 v0) fun x25 => oc_ x25 none fun a26 => if inb ((8 : Int32) + v4) (gln g 20 a26) then bd_ (f10_setJob v0 v3 v4 (gai g 20 a26 ((8 : Int32) + v4).toInt.toNat) g) fun _ g27 => (f10_submit_b104 n) v0 v1 v2 v3 (v4 + (1 : Int32)) g27 else none
theorem t10_submit_b104 : ∀ (n : Nat) (v0 : Nat) (v1 : Int32) (v2 : Int32) (v3 : Int32) (v4 : Int32) (g : GS_), K_ RX10 cX10_submit 5 (some .int) 5 111 false EI_ 104 [some (.inr (10, some v0)), some (.inl v1), some (.inl v2), some (.inl v3), some (.inl v4)] [] g (f10_submit_b104 n v0 v1 v2 v3 v4 g) := by
  intro n
  induction n with
  | zero =>
    intro v0 v1 v2 v3 v4 g
    exact k_fail
  | succ n ih =>
    intro v0 v1 v2 v3 v4 g
    show K_ RX10 cX10_submit 5 (some .int) 5 111 false EI_ 104 [some (.inr (10, some v0)), some (.inl v1), some (.inl v2), some (.inl v3), some (.inl v4)] [] g (if (6 : Int32) ≤ v4 then if v2 = 0 then lr_ (gfr g 320 v0) fun x23 => oc_ x23 none fun a24 => if inb (10 : Int32) (gln g 20 a24) then f10_submit_b152 v0 v1 v3 v0 v3 (2 : Int32) (gai g 20 a24 (10 : Int32).toInt.toNat) g else none else f10_submit_b152 v0 v1 v3 v0 v3 (2 : Int32) (0 : Int32) g else lr_ (gfr g 320 v0) fun x25 => oc_ x25 none fun a26 => if inb ((8 : Int32) + v4) (gln g 20 a26) then bd_ (f10_setJob v0 v3 v4 (gai g 20 a26 ((8 : Int32) + v4).toInt.toNat) g) fun _ g27 => (f10_submit_b104 n) v0 v1 v2 v3 (v4 + (1 : Int32)) g27 else none)
    refine k_iload dX10_submit_104 rfl ?_
    refine k_bipush (v := (6 : Int32)) dX10_submit_106 rfl ?_
    refine k_icmpge (tgt := 134) dX10_submit_108 (by decide) (fun _ => ?_) (fun _ => ?_)
    · refine k_aloadn (j := 0) dX10_submit_134 rfl rfl ?_
      refine k_iloadn (j := 3) dX10_submit_135 rfl rfl ?_
      refine k_iconst (v := (2 : Int32)) dX10_submit_136 rfl ?_
      refine k_iloadn (j := 2) dX10_submit_137 rfl rfl ?_
      refine k_ifeq (tgt := 145) dX10_submit_138 (by decide) (fun _ => ?_) (fun _ => ?_)
      · refine k_aloadn (j := 0) dX10_submit_145 rfl rfl ?_
        refine k_getr fg_10_7 rfl rfl dX10_submit_146 (fun x23 => ?_)
        refine k_bipush (v := (10 : Int32)) dX10_submit_149 rfl ?_
        rcases x23 with _ | a24
        · exact k_ocn
        refine k_ocs ?_
        refine k_iald dX10_submit_151 ?_
        refine k_msk (L' := [some (.inr (10, some v0)), some (.inl v1), none, some (.inl v3), none]) [true, true, false, true, false] rfl ?_
        exact t10_submit_b152 v0 v1 v3 v0 v3 (2 : Int32) (gai g 20 a24 (10 : Int32).toInt.toNat) g
      refine k_iconst (v := (0 : Int32)) dX10_submit_141 rfl ?_
      refine k_goto (tgt := 152) dX10_submit_142 (by decide) ?_
      refine k_msk (L' := [some (.inr (10, some v0)), some (.inl v1), none, some (.inl v3), none]) [true, true, false, true, false] rfl ?_
      exact t10_submit_b152 v0 v1 v3 v0 v3 (2 : Int32) (0 : Int32) g
    refine k_aloadn (j := 0) dX10_submit_111 rfl rfl ?_
    refine k_iloadn (j := 3) dX10_submit_112 rfl rfl ?_
    refine k_iload dX10_submit_113 rfl ?_
    refine k_aloadn (j := 0) dX10_submit_115 rfl rfl ?_
    refine k_getr fg_10_7 rfl rfl dX10_submit_116 (fun x25 => ?_)
    refine k_bipush (v := (8 : Int32)) dX10_submit_119 rfl ?_
    refine k_iload dX10_submit_121 rfl ?_
    refine k_iadd dX10_submit_123 ?_
    rcases x25 with _ | a26
    · exact k_ocn
    refine k_ocs ?_
    refine k_iald dX10_submit_124 ?_
    refine k_callVv [.inl v3, .inl v4, .inl (gai g 20 a26 ((8 : Int32) + v4).toInt.toNat)] (t10_setJob v0 v3 v4 (gai g 20 a26 ((8 : Int32) + v4).toInt.toNat) g) cw_cX10_setJob (Or.inl ml_10_126) rfl rfl (by decide) (by decide) (Nat.le_of_ble_eq_true rfl) dX10_submit_125 (fun _ g27 => ?_)
    refine k_iinc (v := (v4 + (1 : Int32))) (L' := [some (.inr (10, some v0)), some (.inl v1), some (.inl v2), some (.inl v3), some (.inl (v4 + (1 : Int32)))]) dX10_submit_128 rfl rfl (by decide) rfl ?_
    refine k_goto (tgt := 104) dX10_submit_131 (by decide) ?_
    exact ih v0 v1 v2 v3 (v4 + (1 : Int32)) g27
def f10_submit_b84 (v0 : Nat) (v1 : Int32) (v2 : Int32) (g : GS_) : Option (Int32 × GS_) :=
  lr_ (gfr g 320 v0) fun x28 => oc_ x28 none fun a29 => if inb (4 : Int32) (gln g 20 a29) then lr_ (gai g 20 a29 (4 : Int32).toInt.toNat) fun z30 => lr_ (gfr g 320 v0) fun x31 => oc_ x31 none fun a32 => if inb (4 : Int32) (gln g 20 a32) then if inb (4 : Int32) (gln g 20 a32) then lr_ (sai g 20 a32 (4 : Int32).toInt.toNat ((gai g 20 a32 (4 : Int32).toInt.toNat) + (1 : Int32))) (fun g33 => f10_submit_b104 FU_ v0 v1 v2 z30 (0 : Int32) g33) else none else none else none
theorem t10_submit_b84 (v0 : Nat) (v1 : Int32) (v2 : Int32) (g : GS_) : K_ RX10 cX10_submit 5 (some .int) 5 111 false EI_ 84 [some (.inr (10, some v0)), some (.inl v1), some (.inl v2), none, none] [] g (f10_submit_b84 v0 v1 v2 g) := by
  unfold f10_submit_b84
  refine k_aloadn (j := 0) dX10_submit_84 rfl rfl ?_
  refine k_getr fg_10_7 rfl rfl dX10_submit_85 (fun x28 => ?_)
  refine k_iconst (v := (4 : Int32)) dX10_submit_88 rfl ?_
  rcases x28 with _ | a29
  · exact k_ocn
  refine k_ocs ?_
  refine k_iald dX10_submit_89 ?_
  refine k_istnl (j := 3) (L2 := fun z30 => [some (.inr (10, some v0)), some (.inl v1), some (.inl v2), some (.inl z30), none]) dX10_submit_90 rfl (by decide) (fun _ => rfl) (fun z30 => ?_)
  refine k_aloadn (j := 0) dX10_submit_91 rfl rfl ?_
  refine k_getr fg_10_7 rfl rfl dX10_submit_92 (fun x31 => ?_)
  refine k_iconst (v := (4 : Int32)) dX10_submit_95 rfl ?_
  refine k_dup2 dX10_submit_96 ?_
  rcases x31 with _ | a32
  · exact k_ocn
  refine k_ocs ?_
  refine k_iald dX10_submit_97 ?_
  refine k_iconst (v := (1 : Int32)) dX10_submit_98 rfl ?_
  refine k_iadd dX10_submit_99 ?_
  refine k_iast dX10_submit_100 (fun g33 => ?_)
  refine k_iconst (v := (0 : Int32)) dX10_submit_101 rfl ?_
  refine k_ist (L' := [some (.inr (10, some v0)), some (.inl v1), some (.inl v2), some (.inl z30), some (.inl (0 : Int32))]) dX10_submit_102 (by decide) rfl ?_
  exact t10_submit_b104 FU_ v0 v1 v2 z30 (0 : Int32) g33
def f10_submit_b59 (v0 : Nat) (v1 : Int32) (s0 : Int32) (g : GS_) : Option (Int32 × GS_) :=
  if (gfi g 333 v0) = 0 then some ((-5 : Int32), g) else if s0 = 0 then f10_submit_b84 v0 v1 s0 g else lr_ (gfr g 320 v0) fun x34 => oc_ x34 none fun a35 => if inb (11 : Int32) (gln g 20 a35) then if (gai g 20 a35 (11 : Int32).toInt.toNat) = 0 then some ((-5 : Int32), g) else f10_submit_b84 v0 v1 s0 g else none
theorem t10_submit_b59 (v0 : Nat) (v1 : Int32) (s0 : Int32) (g : GS_) : K_ RX10 cX10_submit 5 (some .int) 5 111 false EI_ 59 [some (.inr (10, some v0)), some (.inl v1), none, none, none] [.inl s0] g (f10_submit_b59 v0 v1 s0 g) := by
  unfold f10_submit_b59
  refine k_istn (j := 2) (L' := [some (.inr (10, some v0)), some (.inl v1), some (.inl s0), none, none]) dX10_submit_59 rfl (by decide) rfl ?_
  refine k_aloadn (j := 0) dX10_submit_60 rfl rfl ?_
  refine k_geti fg_10_103 rfl rfl dX10_submit_61 ?_
  refine k_ifeq (tgt := 81) dX10_submit_64 (by decide) (fun _ => ?_) (fun _ => ?_)
  · refine k_bipush (v := (-5 : Int32)) dX10_submit_81 rfl ?_
    exact k_ireturn rfl dX10_submit_83
  refine k_iloadn (j := 2) dX10_submit_67 rfl rfl ?_
  refine k_ifeq (tgt := 84) dX10_submit_68 (by decide) (fun _ => ?_) (fun _ => ?_)
  · exact t10_submit_b84 v0 v1 s0 g
  refine k_aloadn (j := 0) dX10_submit_71 rfl rfl ?_
  refine k_getr fg_10_7 rfl rfl dX10_submit_72 (fun x34 => ?_)
  refine k_bipush (v := (11 : Int32)) dX10_submit_75 rfl ?_
  rcases x34 with _ | a35
  · exact k_ocn
  refine k_ocs ?_
  refine k_iald dX10_submit_77 ?_
  refine k_ifne (tgt := 84) dX10_submit_78 (by decide) (fun _ => ?_) (fun _ => ?_)
  · refine k_bipush (v := (-5 : Int32)) dX10_submit_81 rfl ?_
    exact k_ireturn rfl dX10_submit_83
  exact t10_submit_b84 v0 v1 s0 g
def f10_submit (v0 : Nat) (v1 : Int32) (g : GS_) : Option (Int32 × GS_) :=
  bd_ (f10_isDocument v0 v1 g) fun z37 g36 => if z37 = 0 then some ((-1 : Int32), g36) else bd_ (f10_faultOf v0 g36) fun z39 g38 => if z39 = (-6 : Int32) then bd_ (f10_makeList v0 v1 g38) fun z41 g40 => if z41 = 0 then some ((-4 : Int32), g40) else lr_ (gfr g40 320 v0) fun x42 => oc_ x42 none fun a43 => if inb (4 : Int32) (gln g40 20 a43) then if (gai g40 20 a43 (4 : Int32).toInt.toNat) = (24 : Int32) then some ((-4 : Int32), g40) else bd_ (f10_ofDocument v0 v1 (1 : Int32) g40) fun z45 g44 => if z45 = (2 : Int32) then f10_submit_b59 v0 v1 (1 : Int32) g44 else f10_submit_b59 v0 v1 (0 : Int32) g44 else none else some ((-3 : Int32), g38)
theorem t10_submit (v0 : Nat) (v1 : Int32) (g : GS_) : Cn_ yX10_submit cX10_submit 5 (some .int) 5 111 EI_ [.inr (10, some v0), .inl v1] g (f10_submit v0 v1 g) := by
  refine k_method (own := RX10) (ini := false) (L1 := [some (.inr (10, some v0)), some (.inl v1), none, none, none]) (by decide +kernel) rfl (fun h => by cases h) (Nat.le_of_ble_eq_true rfl) rfl ?_
  unfold f10_submit
  refine k_aloadn (j := 0) dX10_submit_0 rfl rfl ?_
  refine k_iloadn (j := 1) dX10_submit_1 rfl rfl ?_
  refine k_callVi [.inl v1] (t10_isDocument v0 v1 g) cw_cX10_isDocument (Or.inl ml_10_52) rfl rfl (by decide) (by decide) (Nat.le_of_ble_eq_true rfl) dX10_submit_2 (fun z37 g36 => ?_)
  refine k_ifne (tgt := 10) dX10_submit_5 (by decide) (fun _ => ?_) (fun _ => ?_)
  · refine k_iconst (v := (-1 : Int32)) dX10_submit_8 rfl ?_
    exact k_ireturn rfl dX10_submit_9
  refine k_aloadn (j := 0) dX10_submit_10 rfl rfl ?_
  refine k_callVi [] (t10_faultOf v0 g36) cw_cX10_faultOf (Or.inl ml_10_97) rfl rfl (by decide) (by decide) (Nat.le_of_ble_eq_true rfl) dX10_submit_11 (fun z39 g38 => ?_)
  refine k_bipush (v := (-6 : Int32)) dX10_submit_14 rfl ?_
  refine k_icmpeq (tgt := 22) dX10_submit_16 (by decide) (fun _ => ?_) (fun _ => ?_)
  · refine k_aloadn (j := 0) dX10_submit_22 rfl rfl ?_
    refine k_iloadn (j := 1) dX10_submit_23 rfl rfl ?_
    refine k_callVi [.inl v1] (t10_makeList v0 v1 g38) cw_cX10_makeList (Or.inl ml_10_117) rfl rfl (by decide) (by decide) (Nat.le_of_ble_eq_true rfl) dX10_submit_24 (fun z41 g40 => ?_)
    refine k_ifeq (tgt := 41) dX10_submit_27 (by decide) (fun _ => ?_) (fun _ => ?_)
    · refine k_bipush (v := (-4 : Int32)) dX10_submit_41 rfl ?_
      exact k_ireturn rfl dX10_submit_43
    refine k_aloadn (j := 0) dX10_submit_30 rfl rfl ?_
    refine k_getr fg_10_7 rfl rfl dX10_submit_31 (fun x42 => ?_)
    refine k_iconst (v := (4 : Int32)) dX10_submit_34 rfl ?_
    rcases x42 with _ | a43
    · exact k_ocn
    refine k_ocs ?_
    refine k_iald dX10_submit_35 ?_
    refine k_bipush (v := (24 : Int32)) dX10_submit_36 rfl ?_
    refine k_icmpne (tgt := 44) dX10_submit_38 (by decide) (fun _ => ?_) (fun _ => ?_)
    · refine k_bipush (v := (-4 : Int32)) dX10_submit_41 rfl ?_
      exact k_ireturn rfl dX10_submit_43
    refine k_aloadn (j := 0) dX10_submit_44 rfl rfl ?_
    refine k_iloadn (j := 1) dX10_submit_45 rfl rfl ?_
    refine k_iconst (v := (1 : Int32)) dX10_submit_46 rfl ?_
    refine k_callVi [.inl v1, .inl (1 : Int32)] (t10_ofDocument v0 v1 (1 : Int32) g40) cw_cX10_ofDocument (Or.inl ml_10_48) rfl rfl (by decide) (by decide) (Nat.le_of_ble_eq_true rfl) dX10_submit_47 (fun z45 g44 => ?_)
    refine k_iconst (v := (2 : Int32)) dX10_submit_50 rfl ?_
    refine k_icmpne (tgt := 58) dX10_submit_51 (by decide) (fun _ => ?_) (fun _ => ?_)
    · refine k_iconst (v := (1 : Int32)) dX10_submit_54 rfl ?_
      refine k_goto (tgt := 59) dX10_submit_55 (by decide) ?_
      exact t10_submit_b59 v0 v1 (1 : Int32) g44
    refine k_iconst (v := (0 : Int32)) dX10_submit_58 rfl ?_
    exact t10_submit_b59 v0 v1 (0 : Int32) g44
  refine k_bipush (v := (-3 : Int32)) dX10_submit_19 rfl ?_
  exact k_ireturn rfl dX10_submit_21
theorem dX10_elementAt_0 : decode cX10_elementAt 0 = .ok (.aload_n 0, 1) := by decide +kernel
theorem dX10_elementAt_1 : decode cX10_elementAt 1 = .ok (.iload_n 1, 1) := by decide +kernel
theorem dX10_elementAt_2 : decode cX10_elementAt 2 = .ok (.invokevirtual 136, 3) := by decide +kernel
theorem dX10_elementAt_5 : decode cX10_elementAt 5 = .ok (.ifCond .ne 26, 3) := by decide +kernel
theorem dX10_elementAt_8 : decode cX10_elementAt 8 = .ok (.aload_n 0, 1) := by decide +kernel
theorem dX10_elementAt_9 : decode cX10_elementAt 9 = .ok (.iload_n 1, 1) := by decide +kernel
theorem dX10_elementAt_10 : decode cX10_elementAt 10 = .ok (.invokevirtual 142, 3) := by decide +kernel
theorem dX10_elementAt_13 : decode cX10_elementAt 13 = .ok (.iload_n 2, 1) := by decide +kernel
theorem dX10_elementAt_14 : decode cX10_elementAt 14 = .ok (.imul, 1) := by decide +kernel
theorem dX10_elementAt_15 : decode cX10_elementAt 15 = .ok (.iload_n 3, 1) := by decide +kernel
theorem dX10_elementAt_16 : decode cX10_elementAt 16 = .ok (.iadd, 1) := by decide +kernel
theorem dX10_elementAt_17 : decode cX10_elementAt 17 = .ok (.istore 5, 2) := by decide +kernel
theorem dX10_elementAt_19 : decode cX10_elementAt 19 = .ok (.aload_n 0, 1) := by decide +kernel
theorem dX10_elementAt_20 : decode cX10_elementAt 20 = .ok (.iload_n 1, 1) := by decide +kernel
theorem dX10_elementAt_21 : decode cX10_elementAt 21 = .ok (.invokevirtual 139, 3) := by decide +kernel
theorem dX10_elementAt_24 : decode cX10_elementAt 24 = .ok (.iload 5, 2) := by decide +kernel
theorem dX10_elementAt_26 : decode cX10_elementAt 26 = .ok (.imul, 1) := by decide +kernel
theorem dX10_elementAt_27 : decode cX10_elementAt 27 = .ok (.iload 4, 2) := by decide +kernel
theorem dX10_elementAt_29 : decode cX10_elementAt 29 = .ok (.iadd, 1) := by decide +kernel
theorem dX10_elementAt_30 : decode cX10_elementAt 30 = .ok (.ireturn, 1) := by decide +kernel
theorem dX10_elementAt_31 : decode cX10_elementAt 31 = .ok (.iconst 4, 1) := by decide +kernel
theorem dX10_elementAt_32 : decode cX10_elementAt 32 = .ok (.aload_n 0, 1) := by decide +kernel
theorem dX10_elementAt_33 : decode cX10_elementAt 33 = .ok (.iload_n 1, 1) := by decide +kernel
theorem dX10_elementAt_34 : decode cX10_elementAt 34 = .ok (.invokevirtual 130, 3) := by decide +kernel
theorem dX10_elementAt_37 : decode cX10_elementAt 37 = .ok (.imul, 1) := by decide +kernel
theorem dX10_elementAt_38 : decode cX10_elementAt 38 = .ok (.istore 5, 2) := by decide +kernel
theorem dX10_elementAt_40 : decode cX10_elementAt 40 = .ok (.iload_n 3, 1) := by decide +kernel
theorem dX10_elementAt_41 : decode cX10_elementAt 41 = .ok (.ifCond .ne 23, 3) := by decide +kernel
theorem dX10_elementAt_44 : decode cX10_elementAt 44 = .ok (.iload 4, 2) := by decide +kernel
theorem dX10_elementAt_46 : decode cX10_elementAt 46 = .ok (.ifCond .ne 14, 3) := by decide +kernel
theorem dX10_elementAt_49 : decode cX10_elementAt 49 = .ok (.iload 5, 2) := by decide +kernel
theorem dX10_elementAt_51 : decode cX10_elementAt 51 = .ok (.iconst 1, 1) := by decide +kernel
theorem dX10_elementAt_52 : decode cX10_elementAt 52 = .ok (.isub, 1) := by decide +kernel
theorem dX10_elementAt_53 : decode cX10_elementAt 53 = .ok (.iconst 2, 1) := by decide +kernel
theorem dX10_elementAt_54 : decode cX10_elementAt 54 = .ok (.iload_n 2, 1) := by decide +kernel
theorem dX10_elementAt_55 : decode cX10_elementAt 55 = .ok (.imul, 1) := by decide +kernel
theorem dX10_elementAt_56 : decode cX10_elementAt 56 = .ok (.isub, 1) := by decide +kernel
theorem dX10_elementAt_57 : decode cX10_elementAt 57 = .ok (.goto 6, 3) := by decide +kernel
theorem dX10_elementAt_60 : decode cX10_elementAt 60 = .ok (.iconst 2, 1) := by decide +kernel
theorem dX10_elementAt_61 : decode cX10_elementAt 61 = .ok (.iload_n 2, 1) := by decide +kernel
theorem dX10_elementAt_62 : decode cX10_elementAt 62 = .ok (.imul, 1) := by decide +kernel
theorem dX10_elementAt_63 : decode cX10_elementAt 63 = .ok (.ireturn, 1) := by decide +kernel
theorem dX10_elementAt_64 : decode cX10_elementAt 64 = .ok (.iload 4, 2) := by decide +kernel
theorem dX10_elementAt_66 : decode cX10_elementAt 66 = .ok (.ifCond .ne 11, 3) := by decide +kernel
theorem dX10_elementAt_69 : decode cX10_elementAt 69 = .ok (.iconst 2, 1) := by decide +kernel
theorem dX10_elementAt_70 : decode cX10_elementAt 70 = .ok (.iload_n 2, 1) := by decide +kernel
theorem dX10_elementAt_71 : decode cX10_elementAt 71 = .ok (.imul, 1) := by decide +kernel
theorem dX10_elementAt_72 : decode cX10_elementAt 72 = .ok (.iconst 1, 1) := by decide +kernel
theorem dX10_elementAt_73 : decode cX10_elementAt 73 = .ok (.iadd, 1) := by decide +kernel
theorem dX10_elementAt_74 : decode cX10_elementAt 74 = .ok (.goto 11, 3) := by decide +kernel
theorem dX10_elementAt_77 : decode cX10_elementAt 77 = .ok (.iload 5, 2) := by decide +kernel
theorem dX10_elementAt_79 : decode cX10_elementAt 79 = .ok (.iconst 2, 1) := by decide +kernel
theorem dX10_elementAt_80 : decode cX10_elementAt 80 = .ok (.isub, 1) := by decide +kernel
theorem dX10_elementAt_81 : decode cX10_elementAt 81 = .ok (.iconst 2, 1) := by decide +kernel
theorem dX10_elementAt_82 : decode cX10_elementAt 82 = .ok (.iload_n 2, 1) := by decide +kernel
theorem dX10_elementAt_83 : decode cX10_elementAt 83 = .ok (.imul, 1) := by decide +kernel
theorem dX10_elementAt_84 : decode cX10_elementAt 84 = .ok (.isub, 1) := by decide +kernel
theorem dX10_elementAt_85 : decode cX10_elementAt 85 = .ok (.ireturn, 1) := by decide +kernel
def f10_elementAt (v0 : Nat) (v1 : Int32) (v2 : Int32) (v3 : Int32) (v4 : Int32) (g : GS_) : Option (Int32 × GS_) :=
  bd_ (f10_isBooklet v0 v1 g) fun z2 g1 => if z2 = 0 then bd_ (f10_sidesOf v0 v1 g1) fun z4 g3 => lr_ ((z4 * v2) + v3) fun z5 => bd_ (f10_perSide v0 v1 g3) fun z7 g6 => some (((z7 * z5) + v4), g6) else bd_ (f10_sheetsOfCopy v0 v1 g1) fun z9 g8 => lr_ ((4 : Int32) * z9) fun z10 => if v3 = 0 then if v4 = 0 then some (((z10 - (1 : Int32)) - ((2 : Int32) * v2)), g8) else some (((2 : Int32) * v2), g8) else if v4 = 0 then some ((((2 : Int32) * v2) + (1 : Int32)), g8) else some (((z10 - (2 : Int32)) - ((2 : Int32) * v2)), g8)
theorem t10_elementAt (v0 : Nat) (v1 : Int32) (v2 : Int32) (v3 : Int32) (v4 : Int32) (g : GS_) : Cn_ yX10_elementAt cX10_elementAt 6 (some .int) 4 87 EI_ [.inr (10, some v0), .inl v1, .inl v2, .inl v3, .inl v4] g (f10_elementAt v0 v1 v2 v3 v4 g) := by
  refine k_method (own := RX10) (ini := false) (L1 := [some (.inr (10, some v0)), some (.inl v1), some (.inl v2), some (.inl v3), some (.inl v4), none]) (by decide +kernel) rfl (fun h => by cases h) (Nat.le_of_ble_eq_true rfl) rfl ?_
  unfold f10_elementAt
  refine k_aloadn (j := 0) dX10_elementAt_0 rfl rfl ?_
  refine k_iloadn (j := 1) dX10_elementAt_1 rfl rfl ?_
  refine k_callVi [.inl v1] (t10_isBooklet v0 v1 g) cw_cX10_isBooklet (Or.inl ml_10_136) rfl rfl (by decide) (by decide) (Nat.le_of_ble_eq_true rfl) dX10_elementAt_2 (fun z2 g1 => ?_)
  refine k_ifne (tgt := 31) dX10_elementAt_5 (by decide) (fun _ => ?_) (fun _ => ?_)
  · refine k_aloadn (j := 0) dX10_elementAt_8 rfl rfl ?_
    refine k_iloadn (j := 1) dX10_elementAt_9 rfl rfl ?_
    refine k_callVi [.inl v1] (t10_sidesOf v0 v1 g1) cw_cX10_sidesOf (Or.inl ml_10_142) rfl rfl (by decide) (by decide) (Nat.le_of_ble_eq_true rfl) dX10_elementAt_10 (fun z4 g3 => ?_)
    refine k_iloadn (j := 2) dX10_elementAt_13 rfl rfl ?_
    refine k_imul dX10_elementAt_14 ?_
    refine k_iloadn (j := 3) dX10_elementAt_15 rfl rfl ?_
    refine k_iadd dX10_elementAt_16 ?_
    refine k_istl (L2 := fun z5 => [some (.inr (10, some v0)), some (.inl v1), some (.inl v2), some (.inl v3), some (.inl v4), some (.inl z5)]) dX10_elementAt_17 (by decide) (fun _ => rfl) (fun z5 => ?_)
    refine k_aloadn (j := 0) dX10_elementAt_19 rfl rfl ?_
    refine k_iloadn (j := 1) dX10_elementAt_20 rfl rfl ?_
    refine k_callVi [.inl v1] (t10_perSide v0 v1 g3) cw_cX10_perSide (Or.inl ml_10_139) rfl rfl (by decide) (by decide) (Nat.le_of_ble_eq_true rfl) dX10_elementAt_21 (fun z7 g6 => ?_)
    refine k_iload dX10_elementAt_24 rfl ?_
    refine k_imul dX10_elementAt_26 ?_
    refine k_iload dX10_elementAt_27 rfl ?_
    refine k_iadd dX10_elementAt_29 ?_
    exact k_ireturn rfl dX10_elementAt_30
  refine k_iconst (v := (4 : Int32)) dX10_elementAt_31 rfl ?_
  refine k_aloadn (j := 0) dX10_elementAt_32 rfl rfl ?_
  refine k_iloadn (j := 1) dX10_elementAt_33 rfl rfl ?_
  refine k_callVi [.inl v1] (t10_sheetsOfCopy v0 v1 g1) cw_cX10_sheetsOfCopy (Or.inl ml_10_130) rfl rfl (by decide) (by decide) (Nat.le_of_ble_eq_true rfl) dX10_elementAt_34 (fun z9 g8 => ?_)
  refine k_imul dX10_elementAt_37 ?_
  refine k_istl (L2 := fun z10 => [some (.inr (10, some v0)), some (.inl v1), some (.inl v2), some (.inl v3), some (.inl v4), some (.inl z10)]) dX10_elementAt_38 (by decide) (fun _ => rfl) (fun z10 => ?_)
  refine k_iloadn (j := 3) dX10_elementAt_40 rfl rfl ?_
  refine k_ifne (tgt := 64) dX10_elementAt_41 (by decide) (fun _ => ?_) (fun _ => ?_)
  · refine k_iload dX10_elementAt_44 rfl ?_
    refine k_ifne (tgt := 60) dX10_elementAt_46 (by decide) (fun _ => ?_) (fun _ => ?_)
    · refine k_iload dX10_elementAt_49 rfl ?_
      refine k_iconst (v := (1 : Int32)) dX10_elementAt_51 rfl ?_
      refine k_isub dX10_elementAt_52 ?_
      refine k_iconst (v := (2 : Int32)) dX10_elementAt_53 rfl ?_
      refine k_iloadn (j := 2) dX10_elementAt_54 rfl rfl ?_
      refine k_imul dX10_elementAt_55 ?_
      refine k_isub dX10_elementAt_56 ?_
      refine k_goto (tgt := 63) dX10_elementAt_57 (by decide) ?_
      exact k_ireturn rfl dX10_elementAt_63
    refine k_iconst (v := (2 : Int32)) dX10_elementAt_60 rfl ?_
    refine k_iloadn (j := 2) dX10_elementAt_61 rfl rfl ?_
    refine k_imul dX10_elementAt_62 ?_
    exact k_ireturn rfl dX10_elementAt_63
  refine k_iload dX10_elementAt_64 rfl ?_
  refine k_ifne (tgt := 77) dX10_elementAt_66 (by decide) (fun _ => ?_) (fun _ => ?_)
  · refine k_iconst (v := (2 : Int32)) dX10_elementAt_69 rfl ?_
    refine k_iloadn (j := 2) dX10_elementAt_70 rfl rfl ?_
    refine k_imul dX10_elementAt_71 ?_
    refine k_iconst (v := (1 : Int32)) dX10_elementAt_72 rfl ?_
    refine k_iadd dX10_elementAt_73 ?_
    refine k_goto (tgt := 85) dX10_elementAt_74 (by decide) ?_
    exact k_ireturn rfl dX10_elementAt_85
  refine k_iload dX10_elementAt_77 rfl ?_
  refine k_iconst (v := (2 : Int32)) dX10_elementAt_79 rfl ?_
  refine k_isub dX10_elementAt_80 ?_
  refine k_iconst (v := (2 : Int32)) dX10_elementAt_81 rfl ?_
  refine k_iloadn (j := 2) dX10_elementAt_82 rfl rfl ?_
  refine k_imul dX10_elementAt_83 ?_
  refine k_isub dX10_elementAt_84 ?_
  exact k_ireturn rfl dX10_elementAt_85
theorem dX10_pageAt_0 : decode cX10_pageAt 0 = .ok (.aload_n 0, 1) := by decide +kernel
theorem dX10_pageAt_1 : decode cX10_pageAt 1 = .ok (.iload_n 1, 1) := by decide +kernel
theorem dX10_pageAt_2 : decode cX10_pageAt 2 = .ok (.iconst 1, 1) := by decide +kernel
theorem dX10_pageAt_3 : decode cX10_pageAt 3 = .ok (.invokevirtual 133, 3) := by decide +kernel
theorem dX10_pageAt_6 : decode cX10_pageAt 6 = .ok (.iconst 1, 1) := by decide +kernel
theorem dX10_pageAt_7 : decode cX10_pageAt 7 = .ok (.if_icmp .ne 13, 3) := by decide +kernel
theorem dX10_pageAt_10 : decode cX10_pageAt 10 = .ok (.iload_n 2, 1) := by decide +kernel
theorem dX10_pageAt_11 : decode cX10_pageAt 11 = .ok (.aload_n 0, 1) := by decide +kernel
theorem dX10_pageAt_12 : decode cX10_pageAt 12 = .ok (.iload_n 1, 1) := by decide +kernel
theorem dX10_pageAt_13 : decode cX10_pageAt 13 = .ok (.invokevirtual 130, 3) := by decide +kernel
theorem dX10_pageAt_16 : decode cX10_pageAt 16 = .ok (.irem, 1) := by decide +kernel
theorem dX10_pageAt_17 : decode cX10_pageAt 17 = .ok (.goto 11, 3) := by decide +kernel
theorem dX10_pageAt_20 : decode cX10_pageAt 20 = .ok (.iload_n 2, 1) := by decide +kernel
theorem dX10_pageAt_21 : decode cX10_pageAt 21 = .ok (.aload_n 0, 1) := by decide +kernel
theorem dX10_pageAt_22 : decode cX10_pageAt 22 = .ok (.iload_n 1, 1) := by decide +kernel
theorem dX10_pageAt_23 : decode cX10_pageAt 23 = .ok (.iconst 0, 1) := by decide +kernel
theorem dX10_pageAt_24 : decode cX10_pageAt 24 = .ok (.invokevirtual 133, 3) := by decide +kernel
theorem dX10_pageAt_27 : decode cX10_pageAt 27 = .ok (.idiv, 1) := by decide +kernel
theorem dX10_pageAt_28 : decode cX10_pageAt 28 = .ok (.istore 5, 2) := by decide +kernel
theorem dX10_pageAt_30 : decode cX10_pageAt 30 = .ok (.aload_n 0, 1) := by decide +kernel
theorem dX10_pageAt_31 : decode cX10_pageAt 31 = .ok (.iload_n 1, 1) := by decide +kernel
theorem dX10_pageAt_32 : decode cX10_pageAt 32 = .ok (.iload 5, 2) := by decide +kernel
theorem dX10_pageAt_34 : decode cX10_pageAt 34 = .ok (.iload_n 3, 1) := by decide +kernel
theorem dX10_pageAt_35 : decode cX10_pageAt 35 = .ok (.iload 4, 2) := by decide +kernel
theorem dX10_pageAt_37 : decode cX10_pageAt 37 = .ok (.invokevirtual 145, 3) := by decide +kernel
theorem dX10_pageAt_40 : decode cX10_pageAt 40 = .ok (.istore 6, 2) := by decide +kernel
theorem dX10_pageAt_42 : decode cX10_pageAt 42 = .ok (.iload 6, 2) := by decide +kernel
theorem dX10_pageAt_44 : decode cX10_pageAt 44 = .ok (.aload_n 0, 1) := by decide +kernel
theorem dX10_pageAt_45 : decode cX10_pageAt 45 = .ok (.iload_n 1, 1) := by decide +kernel
theorem dX10_pageAt_46 : decode cX10_pageAt 46 = .ok (.bipush 7, 2) := by decide +kernel
theorem dX10_pageAt_48 : decode cX10_pageAt 48 = .ok (.invokevirtual 133, 3) := by decide +kernel
theorem dX10_pageAt_51 : decode cX10_pageAt 51 = .ok (.if_icmp .ge 19, 3) := by decide +kernel
theorem dX10_pageAt_54 : decode cX10_pageAt 54 = .ok (.aload_n 0, 1) := by decide +kernel
theorem dX10_pageAt_55 : decode cX10_pageAt 55 = .ok (.getfield 16, 3) := by decide +kernel
theorem dX10_pageAt_58 : decode cX10_pageAt 58 = .ok (.sipush 400, 3) := by decide +kernel
theorem dX10_pageAt_61 : decode cX10_pageAt 61 = .ok (.iload_n 1, 1) := by decide +kernel
theorem dX10_pageAt_62 : decode cX10_pageAt 62 = .ok (.imul, 1) := by decide +kernel
theorem dX10_pageAt_63 : decode cX10_pageAt 63 = .ok (.iload 6, 2) := by decide +kernel
theorem dX10_pageAt_65 : decode cX10_pageAt 65 = .ok (.iadd, 1) := by decide +kernel
theorem dX10_pageAt_66 : decode cX10_pageAt 66 = .ok (.iaload, 1) := by decide +kernel
theorem dX10_pageAt_67 : decode cX10_pageAt 67 = .ok (.goto 4, 3) := by decide +kernel
theorem dX10_pageAt_70 : decode cX10_pageAt 70 = .ok (.iconst 0, 1) := by decide +kernel
theorem dX10_pageAt_71 : decode cX10_pageAt 71 = .ok (.ireturn, 1) := by decide +kernel
def f10_pageAt_b28 (v0 : Nat) (v1 : Int32) (v3 : Int32) (v4 : Int32) (s0 : Int32) (g : GS_) : Option (Int32 × GS_) :=
  bd_ (f10_elementAt v0 v1 s0 v3 v4 g) fun z2 g1 => bd_ (f10_ofJob v0 v1 (7 : Int32) g1) fun z4 g3 => if z4 ≤ z2 then some ((0 : Int32), g3) else lr_ (gfr g3 322 v0) fun x5 => oc_ x5 none fun a6 => if inb (((400 : Int32) * v1) + z2) (gln g3 20 a6) then some ((gai g3 20 a6 (((400 : Int32) * v1) + z2).toInt.toNat), g3) else none
theorem t10_pageAt_b28 (v0 : Nat) (v1 : Int32) (v3 : Int32) (v4 : Int32) (s0 : Int32) (g : GS_) : K_ RX10 cX10_pageAt 7 (some .int) 5 112 false EI_ 28 [some (.inr (10, some v0)), some (.inl v1), none, some (.inl v3), some (.inl v4), none, none] [.inl s0] g (f10_pageAt_b28 v0 v1 v3 v4 s0 g) := by
  unfold f10_pageAt_b28
  refine k_ist (L' := [some (.inr (10, some v0)), some (.inl v1), none, some (.inl v3), some (.inl v4), some (.inl s0), none]) dX10_pageAt_28 (by decide) rfl ?_
  refine k_aloadn (j := 0) dX10_pageAt_30 rfl rfl ?_
  refine k_iloadn (j := 1) dX10_pageAt_31 rfl rfl ?_
  refine k_iload dX10_pageAt_32 rfl ?_
  refine k_iloadn (j := 3) dX10_pageAt_34 rfl rfl ?_
  refine k_iload dX10_pageAt_35 rfl ?_
  refine k_callVi [.inl v1, .inl s0, .inl v3, .inl v4] (t10_elementAt v0 v1 s0 v3 v4 g) cw_cX10_elementAt (Or.inl ml_10_145) rfl rfl (by decide) (by decide) (Nat.le_of_ble_eq_true rfl) dX10_pageAt_37 (fun z2 g1 => ?_)
  refine k_ist (L' := [some (.inr (10, some v0)), some (.inl v1), none, some (.inl v3), some (.inl v4), some (.inl s0), some (.inl z2)]) dX10_pageAt_40 (by decide) rfl ?_
  refine k_iload dX10_pageAt_42 rfl ?_
  refine k_aloadn (j := 0) dX10_pageAt_44 rfl rfl ?_
  refine k_iloadn (j := 1) dX10_pageAt_45 rfl rfl ?_
  refine k_bipush (v := (7 : Int32)) dX10_pageAt_46 rfl ?_
  refine k_callVi [.inl v1, .inl (7 : Int32)] (t10_ofJob v0 v1 (7 : Int32) g1) cw_cX10_ofJob (Or.inl ml_10_133) rfl rfl (by decide) (by decide) (Nat.le_of_ble_eq_true rfl) dX10_pageAt_48 (fun z4 g3 => ?_)
  refine k_icmpge (tgt := 70) dX10_pageAt_51 (by decide) (fun _ => ?_) (fun _ => ?_)
  · refine k_iconst (v := (0 : Int32)) dX10_pageAt_70 rfl ?_
    exact k_ireturn rfl dX10_pageAt_71
  refine k_aloadn (j := 0) dX10_pageAt_54 rfl rfl ?_
  refine k_getr fg_10_16 rfl rfl dX10_pageAt_55 (fun x5 => ?_)
  refine k_sipush (v := (400 : Int32)) dX10_pageAt_58 rfl ?_
  refine k_iloadn (j := 1) dX10_pageAt_61 rfl rfl ?_
  refine k_imul dX10_pageAt_62 ?_
  refine k_iload dX10_pageAt_63 rfl ?_
  refine k_iadd dX10_pageAt_65 ?_
  rcases x5 with _ | a6
  · exact k_ocn
  refine k_ocs ?_
  refine k_iald dX10_pageAt_66 ?_
  refine k_goto (tgt := 71) dX10_pageAt_67 (by decide) ?_
  exact k_ireturn rfl dX10_pageAt_71
def f10_pageAt (v0 : Nat) (v1 : Int32) (v2 : Int32) (v3 : Int32) (v4 : Int32) (g : GS_) : Option (Int32 × GS_) :=
  bd_ (f10_ofJob v0 v1 (1 : Int32) g) fun z8 g7 => if z8 = (1 : Int32) then bd_ (f10_sheetsOfCopy v0 v1 g7) fun z10 g9 => if z10 = 0 then none else f10_pageAt_b28 v0 v1 v3 v4 (jrem v2 z10) g9 else bd_ (f10_ofJob v0 v1 (0 : Int32) g7) fun z12 g11 => if z12 = 0 then none else f10_pageAt_b28 v0 v1 v3 v4 (v2 / z12) g11
theorem t10_pageAt (v0 : Nat) (v1 : Int32) (v2 : Int32) (v3 : Int32) (v4 : Int32) (g : GS_) : Cn_ yX10_pageAt cX10_pageAt 7 (some .int) 5 112 EI_ [.inr (10, some v0), .inl v1, .inl v2, .inl v3, .inl v4] g (f10_pageAt v0 v1 v2 v3 v4 g) := by
  refine k_method (own := RX10) (ini := false) (L1 := [some (.inr (10, some v0)), some (.inl v1), some (.inl v2), some (.inl v3), some (.inl v4), none, none]) (by decide +kernel) rfl (fun h => by cases h) (Nat.le_of_ble_eq_true rfl) rfl ?_
  unfold f10_pageAt
  refine k_aloadn (j := 0) dX10_pageAt_0 rfl rfl ?_
  refine k_iloadn (j := 1) dX10_pageAt_1 rfl rfl ?_
  refine k_iconst (v := (1 : Int32)) dX10_pageAt_2 rfl ?_
  refine k_callVi [.inl v1, .inl (1 : Int32)] (t10_ofJob v0 v1 (1 : Int32) g) cw_cX10_ofJob (Or.inl ml_10_133) rfl rfl (by decide) (by decide) (Nat.le_of_ble_eq_true rfl) dX10_pageAt_3 (fun z8 g7 => ?_)
  refine k_iconst (v := (1 : Int32)) dX10_pageAt_6 rfl ?_
  refine k_icmpne (tgt := 20) dX10_pageAt_7 (by decide) (fun _ => ?_) (fun _ => ?_)
  · refine k_iloadn (j := 2) dX10_pageAt_10 rfl rfl ?_
    refine k_aloadn (j := 0) dX10_pageAt_11 rfl rfl ?_
    refine k_iloadn (j := 1) dX10_pageAt_12 rfl rfl ?_
    refine k_callVi [.inl v1] (t10_sheetsOfCopy v0 v1 g7) cw_cX10_sheetsOfCopy (Or.inl ml_10_130) rfl rfl (by decide) (by decide) (Nat.le_of_ble_eq_true rfl) dX10_pageAt_13 (fun z10 g9 => ?_)
    refine k_irem dX10_pageAt_16 (fun _ => ?_)
    refine k_goto (tgt := 28) dX10_pageAt_17 (by decide) ?_
    refine k_msk (L' := [some (.inr (10, some v0)), some (.inl v1), none, some (.inl v3), some (.inl v4), none, none]) [true, true, false, true, true, true, true] rfl ?_
    exact t10_pageAt_b28 v0 v1 v3 v4 (jrem v2 z10) g9
  refine k_iloadn (j := 2) dX10_pageAt_20 rfl rfl ?_
  refine k_aloadn (j := 0) dX10_pageAt_21 rfl rfl ?_
  refine k_iloadn (j := 1) dX10_pageAt_22 rfl rfl ?_
  refine k_iconst (v := (0 : Int32)) dX10_pageAt_23 rfl ?_
  refine k_callVi [.inl v1, .inl (0 : Int32)] (t10_ofJob v0 v1 (0 : Int32) g7) cw_cX10_ofJob (Or.inl ml_10_133) rfl rfl (by decide) (by decide) (Nat.le_of_ble_eq_true rfl) dX10_pageAt_24 (fun z12 g11 => ?_)
  refine k_idiv dX10_pageAt_27 (fun _ => ?_)
  refine k_msk (L' := [some (.inr (10, some v0)), some (.inl v1), none, some (.inl v3), some (.inl v4), none, none]) [true, true, false, true, true, true, true] rfl ?_
  exact t10_pageAt_b28 v0 v1 v3 v4 (v2 / z12) g11
theorem dX10_rankOf_0 : decode cX10_rankOf 0 = .ok (.bipush 10, 2) := by decide +kernel
theorem dX10_rankOf_2 : decode cX10_rankOf 2 = .ok (.aload_n 0, 1) := by decide +kernel
theorem dX10_rankOf_3 : decode cX10_rankOf 3 = .ok (.iload_n 1, 1) := by decide +kernel
theorem dX10_rankOf_4 : decode cX10_rankOf 4 = .ok (.iconst 4, 1) := by decide +kernel
theorem dX10_rankOf_5 : decode cX10_rankOf 5 = .ok (.invokevirtual 133, 3) := by decide +kernel
theorem dX10_rankOf_8 : decode cX10_rankOf 8 = .ok (.imul, 1) := by decide +kernel
theorem dX10_rankOf_9 : decode cX10_rankOf 9 = .ok (.aload_n 0, 1) := by decide +kernel
theorem dX10_rankOf_10 : decode cX10_rankOf 10 = .ok (.getfield 7, 3) := by decide +kernel
theorem dX10_rankOf_13 : decode cX10_rankOf 13 = .ok (.iconst 0, 1) := by decide +kernel
theorem dX10_rankOf_14 : decode cX10_rankOf 14 = .ok (.iaload, 1) := by decide +kernel
theorem dX10_rankOf_15 : decode cX10_rankOf 15 = .ok (.aload_n 0, 1) := by decide +kernel
theorem dX10_rankOf_16 : decode cX10_rankOf 16 = .ok (.iload_n 1, 1) := by decide +kernel
theorem dX10_rankOf_17 : decode cX10_rankOf 17 = .ok (.bipush 11, 2) := by decide +kernel
theorem dX10_rankOf_19 : decode cX10_rankOf 19 = .ok (.invokevirtual 133, 3) := by decide +kernel
theorem dX10_rankOf_22 : decode cX10_rankOf 22 = .ok (.isub, 1) := by decide +kernel
theorem dX10_rankOf_23 : decode cX10_rankOf 23 = .ok (.aload_n 0, 1) := by decide +kernel
theorem dX10_rankOf_24 : decode cX10_rankOf 24 = .ok (.getfield 7, 3) := by decide +kernel
theorem dX10_rankOf_27 : decode cX10_rankOf 27 = .ok (.iconst 1, 1) := by decide +kernel
theorem dX10_rankOf_28 : decode cX10_rankOf 28 = .ok (.iaload, 1) := by decide +kernel
theorem dX10_rankOf_29 : decode cX10_rankOf 29 = .ok (.idiv, 1) := by decide +kernel
theorem dX10_rankOf_30 : decode cX10_rankOf 30 = .ok (.iadd, 1) := by decide +kernel
theorem dX10_rankOf_31 : decode cX10_rankOf 31 = .ok (.ireturn, 1) := by decide +kernel
def f10_rankOf (v0 : Nat) (v1 : Int32) (g : GS_) : Option (Int32 × GS_) :=
  bd_ (f10_ofJob v0 v1 (4 : Int32) g) fun z2 g1 => lr_ (gfr g1 320 v0) fun x3 => oc_ x3 none fun a4 => if inb (0 : Int32) (gln g1 20 a4) then bd_ (f10_ofJob v0 v1 (11 : Int32) g1) fun z6 g5 => lr_ (gfr g5 320 v0) fun x7 => oc_ x7 none fun a8 => if inb (1 : Int32) (gln g5 20 a8) then if (gai g5 20 a8 (1 : Int32).toInt.toNat) = 0 then none else some ((((10 : Int32) * z2) + (((gai g1 20 a4 (0 : Int32).toInt.toNat) - z6) / (gai g5 20 a8 (1 : Int32).toInt.toNat))), g5) else none else none
theorem t10_rankOf (v0 : Nat) (v1 : Int32) (g : GS_) : Cn_ yX10_rankOf cX10_rankOf 2 (some .int) 1 22 EI_ [.inr (10, some v0), .inl v1] g (f10_rankOf v0 v1 g) := by
  refine k_method (own := RX10) (ini := false) (L1 := [some (.inr (10, some v0)), some (.inl v1)]) (by decide +kernel) rfl (fun h => by cases h) (Nat.le_of_ble_eq_true rfl) rfl ?_
  unfold f10_rankOf
  refine k_bipush (v := (10 : Int32)) dX10_rankOf_0 rfl ?_
  refine k_aloadn (j := 0) dX10_rankOf_2 rfl rfl ?_
  refine k_iloadn (j := 1) dX10_rankOf_3 rfl rfl ?_
  refine k_iconst (v := (4 : Int32)) dX10_rankOf_4 rfl ?_
  refine k_callVi [.inl v1, .inl (4 : Int32)] (t10_ofJob v0 v1 (4 : Int32) g) cw_cX10_ofJob (Or.inl ml_10_133) rfl rfl (by decide) (by decide) (Nat.le_of_ble_eq_true rfl) dX10_rankOf_5 (fun z2 g1 => ?_)
  refine k_imul dX10_rankOf_8 ?_
  refine k_aloadn (j := 0) dX10_rankOf_9 rfl rfl ?_
  refine k_getr fg_10_7 rfl rfl dX10_rankOf_10 (fun x3 => ?_)
  refine k_iconst (v := (0 : Int32)) dX10_rankOf_13 rfl ?_
  rcases x3 with _ | a4
  · exact k_ocn
  refine k_ocs ?_
  refine k_iald dX10_rankOf_14 ?_
  refine k_aloadn (j := 0) dX10_rankOf_15 rfl rfl ?_
  refine k_iloadn (j := 1) dX10_rankOf_16 rfl rfl ?_
  refine k_bipush (v := (11 : Int32)) dX10_rankOf_17 rfl ?_
  refine k_callVi [.inl v1, .inl (11 : Int32)] (t10_ofJob v0 v1 (11 : Int32) g1) cw_cX10_ofJob (Or.inl ml_10_133) rfl rfl (by decide) (by decide) (Nat.le_of_ble_eq_true rfl) dX10_rankOf_19 (fun z6 g5 => ?_)
  refine k_isub dX10_rankOf_22 ?_
  refine k_aloadn (j := 0) dX10_rankOf_23 rfl rfl ?_
  refine k_getr fg_10_7 rfl rfl dX10_rankOf_24 (fun x7 => ?_)
  refine k_iconst (v := (1 : Int32)) dX10_rankOf_27 rfl ?_
  rcases x7 with _ | a8
  · exact k_ocn
  refine k_ocs ?_
  refine k_iald dX10_rankOf_28 ?_
  refine k_idiv dX10_rankOf_29 (fun _ => ?_)
  refine k_iadd dX10_rankOf_30 ?_
  exact k_ireturn rfl dX10_rankOf_31
theorem dX10_isJob_0 : decode cX10_isJob 0 = .ok (.iload_n 1, 1) := by decide +kernel
theorem dX10_isJob_1 : decode cX10_isJob 1 = .ok (.iconst 0, 1) := by decide +kernel
theorem dX10_isJob_2 : decode cX10_isJob 2 = .ok (.aload_n 0, 1) := by decide +kernel
theorem dX10_isJob_3 : decode cX10_isJob 3 = .ok (.getfield 7, 3) := by decide +kernel
theorem dX10_isJob_6 : decode cX10_isJob 6 = .ok (.iconst 4, 1) := by decide +kernel
theorem dX10_isJob_7 : decode cX10_isJob 7 = .ok (.iaload, 1) := by decide +kernel
theorem dX10_isJob_8 : decode cX10_isJob 8 = .ok (.iconst 1, 1) := by decide +kernel
theorem dX10_isJob_9 : decode cX10_isJob 9 = .ok (.isub, 1) := by decide +kernel
theorem dX10_isJob_10 : decode cX10_isJob 10 = .ok (.invokestatic 44, 3) := by decide +kernel
theorem dX10_isJob_13 : decode cX10_isJob 13 = .ok (.ireturn, 1) := by decide +kernel
def f10_isJob (v0 : Nat) (v1 : Int32) (g : GS_) : Option (Int32 × GS_) :=
  lr_ (gfr g 320 v0) fun x1 => oc_ x1 none fun a2 => if inb (4 : Int32) (gln g 20 a2) then bd_ (f10_in v1 (0 : Int32) ((gai g 20 a2 (4 : Int32).toInt.toNat) - (1 : Int32)) g) fun z4 g3 => if z4 = 0 ∨ z4 = 1 then some (z4, g3) else none else none
theorem t10_isJob (v0 : Nat) (v1 : Int32) (g : GS_) : Cn_ yX10_isJob cX10_isJob 2 (some .boolean) 1 22 EI_ [.inr (10, some v0), .inl v1] g (f10_isJob v0 v1 g) := by
  refine k_method (own := RX10) (ini := false) (L1 := [some (.inr (10, some v0)), some (.inl v1)]) (by decide +kernel) rfl (fun h => by cases h) (Nat.le_of_ble_eq_true rfl) rfl ?_
  unfold f10_isJob
  refine k_iloadn (j := 1) dX10_isJob_0 rfl rfl ?_
  refine k_iconst (v := (0 : Int32)) dX10_isJob_1 rfl ?_
  refine k_aloadn (j := 0) dX10_isJob_2 rfl rfl ?_
  refine k_getr fg_10_7 rfl rfl dX10_isJob_3 (fun x1 => ?_)
  refine k_iconst (v := (4 : Int32)) dX10_isJob_6 rfl ?_
  rcases x1 with _ | a2
  · exact k_ocn
  refine k_ocs ?_
  refine k_iald dX10_isJob_7 ?_
  refine k_iconst (v := (1 : Int32)) dX10_isJob_8 rfl ?_
  refine k_isub dX10_isJob_9 ?_
  refine k_callSi [.inl v1, .inl (0 : Int32), .inl ((gai g 20 a2 (4 : Int32).toInt.toNat) - (1 : Int32))] (t10_in v1 (0 : Int32) ((gai g 20 a2 (4 : Int32).toInt.toNat) - (1 : Int32)) g) cw_cX10_in ml_10_44 rfl rfl (by decide) (by decide) (Nat.le_of_ble_eq_true rfl) dX10_isJob_10 (fun z4 g3 => ?_)
  exact k_zreturnc rfl dX10_isJob_13
theorem dX10_about_0 : decode cX10_about 0 = .ok (.aload_n 0, 1) := by decide +kernel
theorem dX10_about_1 : decode cX10_about 1 = .ok (.iload_n 1, 1) := by decide +kernel
theorem dX10_about_2 : decode cX10_about 2 = .ok (.invokevirtual 149, 3) := by decide +kernel
theorem dX10_about_5 : decode cX10_about 5 = .ok (.ifCond .ne 5, 3) := by decide +kernel
theorem dX10_about_8 : decode cX10_about 8 = .ok (.iconst (-1), 1) := by decide +kernel
theorem dX10_about_9 : decode cX10_about 9 = .ok (.ireturn, 1) := by decide +kernel
theorem dX10_about_10 : decode cX10_about 10 = .ok (.iload_n 2, 1) := by decide +kernel
theorem dX10_about_11 : decode cX10_about 11 = .ok (.iconst 0, 1) := by decide +kernel
theorem dX10_about_12 : decode cX10_about 12 = .ok (.bipush 11, 2) := by decide +kernel
theorem dX10_about_14 : decode cX10_about 14 = .ok (.invokestatic 44, 3) := by decide +kernel
theorem dX10_about_17 : decode cX10_about 17 = .ok (.ifCond .ne 6, 3) := by decide +kernel
theorem dX10_about_20 : decode cX10_about 20 = .ok (.bipush (-2), 2) := by decide +kernel
theorem dX10_about_22 : decode cX10_about 22 = .ok (.ireturn, 1) := by decide +kernel
theorem dX10_about_23 : decode cX10_about 23 = .ok (.iload_n 2, 1) := by decide +kernel
theorem dX10_about_24 : decode cX10_about 24 = .ok (.bipush 11, 2) := by decide +kernel
theorem dX10_about_26 : decode cX10_about 26 = .ok (.if_icmp .ge 12, 3) := by decide +kernel
theorem dX10_about_29 : decode cX10_about 29 = .ok (.aload_n 0, 1) := by decide +kernel
theorem dX10_about_30 : decode cX10_about 30 = .ok (.iload_n 1, 1) := by decide +kernel
theorem dX10_about_31 : decode cX10_about 31 = .ok (.iload_n 2, 1) := by decide +kernel
theorem dX10_about_32 : decode cX10_about 32 = .ok (.invokevirtual 133, 3) := by decide +kernel
theorem dX10_about_35 : decode cX10_about 35 = .ok (.goto 23, 3) := by decide +kernel
theorem dX10_about_38 : decode cX10_about 38 = .ok (.aload_n 0, 1) := by decide +kernel
theorem dX10_about_39 : decode cX10_about 39 = .ok (.iload_n 1, 1) := by decide +kernel
theorem dX10_about_40 : decode cX10_about 40 = .ok (.bipush 9, 2) := by decide +kernel
theorem dX10_about_42 : decode cX10_about 42 = .ok (.invokevirtual 133, 3) := by decide +kernel
theorem dX10_about_45 : decode cX10_about 45 = .ok (.ifCond .ne 11, 3) := by decide +kernel
theorem dX10_about_48 : decode cX10_about 48 = .ok (.aload_n 0, 1) := by decide +kernel
theorem dX10_about_49 : decode cX10_about 49 = .ok (.iload_n 1, 1) := by decide +kernel
theorem dX10_about_50 : decode cX10_about 50 = .ok (.invokevirtual 152, 3) := by decide +kernel
theorem dX10_about_53 : decode cX10_about 53 = .ok (.goto 5, 3) := by decide +kernel
theorem dX10_about_56 : decode cX10_about 56 = .ok (.bipush (-6), 2) := by decide +kernel
theorem dX10_about_58 : decode cX10_about 58 = .ok (.ireturn, 1) := by decide +kernel
def f10_about (v0 : Nat) (v1 : Int32) (v2 : Int32) (g : GS_) : Option (Int32 × GS_) :=
  bd_ (f10_isJob v0 v1 g) fun z2 g1 => if z2 = 0 then some ((-1 : Int32), g1) else bd_ (f10_in v2 (0 : Int32) (11 : Int32) g1) fun z4 g3 => if z4 = 0 then some ((-2 : Int32), g3) else if (11 : Int32) ≤ v2 then bd_ (f10_ofJob v0 v1 (9 : Int32) g3) fun z6 g5 => if z6 = 0 then bd_ (f10_rankOf v0 v1 g5) fun z8 g7 => some (z8, g7) else some ((-6 : Int32), g5) else bd_ (f10_ofJob v0 v1 v2 g3) fun z10 g9 => some (z10, g9)
theorem t10_about (v0 : Nat) (v1 : Int32) (v2 : Int32) (g : GS_) : Cn_ yX10_about cX10_about 3 (some .int) 2 43 EI_ [.inr (10, some v0), .inl v1, .inl v2] g (f10_about v0 v1 v2 g) := by
  refine k_method (own := RX10) (ini := false) (L1 := [some (.inr (10, some v0)), some (.inl v1), some (.inl v2)]) (by decide +kernel) rfl (fun h => by cases h) (Nat.le_of_ble_eq_true rfl) rfl ?_
  unfold f10_about
  refine k_aloadn (j := 0) dX10_about_0 rfl rfl ?_
  refine k_iloadn (j := 1) dX10_about_1 rfl rfl ?_
  refine k_callVi [.inl v1] (t10_isJob v0 v1 g) cw_cX10_isJob (Or.inl ml_10_149) rfl rfl (by decide) (by decide) (Nat.le_of_ble_eq_true rfl) dX10_about_2 (fun z2 g1 => ?_)
  refine k_ifne (tgt := 10) dX10_about_5 (by decide) (fun _ => ?_) (fun _ => ?_)
  · refine k_iconst (v := (-1 : Int32)) dX10_about_8 rfl ?_
    exact k_ireturn rfl dX10_about_9
  refine k_iloadn (j := 2) dX10_about_10 rfl rfl ?_
  refine k_iconst (v := (0 : Int32)) dX10_about_11 rfl ?_
  refine k_bipush (v := (11 : Int32)) dX10_about_12 rfl ?_
  refine k_callSi [.inl v2, .inl (0 : Int32), .inl (11 : Int32)] (t10_in v2 (0 : Int32) (11 : Int32) g1) cw_cX10_in ml_10_44 rfl rfl (by decide) (by decide) (Nat.le_of_ble_eq_true rfl) dX10_about_14 (fun z4 g3 => ?_)
  refine k_ifne (tgt := 23) dX10_about_17 (by decide) (fun _ => ?_) (fun _ => ?_)
  · refine k_bipush (v := (-2 : Int32)) dX10_about_20 rfl ?_
    exact k_ireturn rfl dX10_about_22
  refine k_iloadn (j := 2) dX10_about_23 rfl rfl ?_
  refine k_bipush (v := (11 : Int32)) dX10_about_24 rfl ?_
  refine k_icmpge (tgt := 38) dX10_about_26 (by decide) (fun _ => ?_) (fun _ => ?_)
  · refine k_aloadn (j := 0) dX10_about_38 rfl rfl ?_
    refine k_iloadn (j := 1) dX10_about_39 rfl rfl ?_
    refine k_bipush (v := (9 : Int32)) dX10_about_40 rfl ?_
    refine k_callVi [.inl v1, .inl (9 : Int32)] (t10_ofJob v0 v1 (9 : Int32) g3) cw_cX10_ofJob (Or.inl ml_10_133) rfl rfl (by decide) (by decide) (Nat.le_of_ble_eq_true rfl) dX10_about_42 (fun z6 g5 => ?_)
    refine k_ifne (tgt := 56) dX10_about_45 (by decide) (fun _ => ?_) (fun _ => ?_)
    · refine k_aloadn (j := 0) dX10_about_48 rfl rfl ?_
      refine k_iloadn (j := 1) dX10_about_49 rfl rfl ?_
      refine k_callVi [.inl v1] (t10_rankOf v0 v1 g5) cw_cX10_rankOf (Or.inl ml_10_152) rfl rfl (by decide) (by decide) (Nat.le_of_ble_eq_true rfl) dX10_about_50 (fun z8 g7 => ?_)
      refine k_goto (tgt := 58) dX10_about_53 (by decide) ?_
      exact k_ireturn rfl dX10_about_58
    refine k_bipush (v := (-6 : Int32)) dX10_about_56 rfl ?_
    exact k_ireturn rfl dX10_about_58
  refine k_aloadn (j := 0) dX10_about_29 rfl rfl ?_
  refine k_iloadn (j := 1) dX10_about_30 rfl rfl ?_
  refine k_iloadn (j := 2) dX10_about_31 rfl rfl ?_
  refine k_callVi [.inl v1, .inl v2] (t10_ofJob v0 v1 v2 g3) cw_cX10_ofJob (Or.inl ml_10_133) rfl rfl (by decide) (by decide) (Nat.le_of_ble_eq_true rfl) dX10_about_32 (fun z10 g9 => ?_)
  refine k_goto (tgt := 58) dX10_about_35 (by decide) ?_
  exact k_ireturn rfl dX10_about_58
theorem dX10_isSheet_0 : decode cX10_isSheet 0 = .ok (.aload_n 0, 1) := by decide +kernel
theorem dX10_isSheet_1 : decode cX10_isSheet 1 = .ok (.iload_n 1, 1) := by decide +kernel
theorem dX10_isSheet_2 : decode cX10_isSheet 2 = .ok (.invokevirtual 149, 3) := by decide +kernel
theorem dX10_isSheet_5 : decode cX10_isSheet 5 = .ok (.ifCond .eq 24, 3) := by decide +kernel
theorem dX10_isSheet_8 : decode cX10_isSheet 8 = .ok (.iload_n 2, 1) := by decide +kernel
theorem dX10_isSheet_9 : decode cX10_isSheet 9 = .ok (.iconst 0, 1) := by decide +kernel
theorem dX10_isSheet_10 : decode cX10_isSheet 10 = .ok (.aload_n 0, 1) := by decide +kernel
theorem dX10_isSheet_11 : decode cX10_isSheet 11 = .ok (.iload_n 1, 1) := by decide +kernel
theorem dX10_isSheet_12 : decode cX10_isSheet 12 = .ok (.bipush 8, 2) := by decide +kernel
theorem dX10_isSheet_14 : decode cX10_isSheet 14 = .ok (.invokevirtual 133, 3) := by decide +kernel
theorem dX10_isSheet_17 : decode cX10_isSheet 17 = .ok (.iconst 1, 1) := by decide +kernel
theorem dX10_isSheet_18 : decode cX10_isSheet 18 = .ok (.isub, 1) := by decide +kernel
theorem dX10_isSheet_19 : decode cX10_isSheet 19 = .ok (.invokestatic 44, 3) := by decide +kernel
theorem dX10_isSheet_22 : decode cX10_isSheet 22 = .ok (.ifCond .eq 7, 3) := by decide +kernel
theorem dX10_isSheet_25 : decode cX10_isSheet 25 = .ok (.iconst 1, 1) := by decide +kernel
theorem dX10_isSheet_26 : decode cX10_isSheet 26 = .ok (.goto 4, 3) := by decide +kernel
theorem dX10_isSheet_29 : decode cX10_isSheet 29 = .ok (.iconst 0, 1) := by decide +kernel
theorem dX10_isSheet_30 : decode cX10_isSheet 30 = .ok (.ireturn, 1) := by decide +kernel
def f10_isSheet_b29 (g : GS_) : Option (Int32 × GS_) :=
  some ((0 : Int32), g)
theorem t10_isSheet_b29 (g : GS_) : K_ RX10 cX10_isSheet 3 (some .boolean) 2 43 false EI_ 29 [none, none, none] [] g (f10_isSheet_b29 g) := by
  unfold f10_isSheet_b29
  refine k_iconst (v := (0 : Int32)) dX10_isSheet_29 rfl ?_
  exact k_zreturn rfl (by decide) dX10_isSheet_30
def f10_isSheet (v0 : Nat) (v1 : Int32) (v2 : Int32) (g : GS_) : Option (Int32 × GS_) :=
  bd_ (f10_isJob v0 v1 g) fun z2 g1 => if z2 = 0 then f10_isSheet_b29 g1 else bd_ (f10_ofJob v0 v1 (8 : Int32) g1) fun z4 g3 => bd_ (f10_in v2 (0 : Int32) (z4 - (1 : Int32)) g3) fun z6 g5 => if z6 = 0 then f10_isSheet_b29 g5 else some ((1 : Int32), g5)
theorem t10_isSheet (v0 : Nat) (v1 : Int32) (v2 : Int32) (g : GS_) : Cn_ yX10_isSheet cX10_isSheet 3 (some .boolean) 2 43 EI_ [.inr (10, some v0), .inl v1, .inl v2] g (f10_isSheet v0 v1 v2 g) := by
  refine k_method (own := RX10) (ini := false) (L1 := [some (.inr (10, some v0)), some (.inl v1), some (.inl v2)]) (by decide +kernel) rfl (fun h => by cases h) (Nat.le_of_ble_eq_true rfl) rfl ?_
  unfold f10_isSheet
  refine k_aloadn (j := 0) dX10_isSheet_0 rfl rfl ?_
  refine k_iloadn (j := 1) dX10_isSheet_1 rfl rfl ?_
  refine k_callVi [.inl v1] (t10_isJob v0 v1 g) cw_cX10_isJob (Or.inl ml_10_149) rfl rfl (by decide) (by decide) (Nat.le_of_ble_eq_true rfl) dX10_isSheet_2 (fun z2 g1 => ?_)
  refine k_ifeq (tgt := 29) dX10_isSheet_5 (by decide) (fun _ => ?_) (fun _ => ?_)
  · refine k_msk (L' := [none, none, none]) [false, false, false] rfl ?_
    exact t10_isSheet_b29 g1
  refine k_iloadn (j := 2) dX10_isSheet_8 rfl rfl ?_
  refine k_iconst (v := (0 : Int32)) dX10_isSheet_9 rfl ?_
  refine k_aloadn (j := 0) dX10_isSheet_10 rfl rfl ?_
  refine k_iloadn (j := 1) dX10_isSheet_11 rfl rfl ?_
  refine k_bipush (v := (8 : Int32)) dX10_isSheet_12 rfl ?_
  refine k_callVi [.inl v1, .inl (8 : Int32)] (t10_ofJob v0 v1 (8 : Int32) g1) cw_cX10_ofJob (Or.inl ml_10_133) rfl rfl (by decide) (by decide) (Nat.le_of_ble_eq_true rfl) dX10_isSheet_14 (fun z4 g3 => ?_)
  refine k_iconst (v := (1 : Int32)) dX10_isSheet_17 rfl ?_
  refine k_isub dX10_isSheet_18 ?_
  refine k_callSi [.inl v2, .inl (0 : Int32), .inl (z4 - (1 : Int32))] (t10_in v2 (0 : Int32) (z4 - (1 : Int32)) g3) cw_cX10_in ml_10_44 rfl rfl (by decide) (by decide) (Nat.le_of_ble_eq_true rfl) dX10_isSheet_19 (fun z6 g5 => ?_)
  refine k_ifeq (tgt := 29) dX10_isSheet_22 (by decide) (fun _ => ?_) (fun _ => ?_)
  · refine k_msk (L' := [none, none, none]) [false, false, false] rfl ?_
    exact t10_isSheet_b29 g5
  refine k_iconst (v := (1 : Int32)) dX10_isSheet_25 rfl ?_
  refine k_goto (tgt := 30) dX10_isSheet_26 (by decide) ?_
  exact k_zreturn rfl (by decide) dX10_isSheet_30
theorem dX10_page_0 : decode cX10_page 0 = .ok (.aload_n 0, 1) := by decide +kernel
theorem dX10_page_1 : decode cX10_page 1 = .ok (.iload_n 1, 1) := by decide +kernel
theorem dX10_page_2 : decode cX10_page 2 = .ok (.iload_n 2, 1) := by decide +kernel
theorem dX10_page_3 : decode cX10_page 3 = .ok (.invokevirtual 155, 3) := by decide +kernel
theorem dX10_page_6 : decode cX10_page 6 = .ok (.ifCond .ne 5, 3) := by decide +kernel
theorem dX10_page_9 : decode cX10_page 9 = .ok (.iconst (-1), 1) := by decide +kernel
theorem dX10_page_10 : decode cX10_page 10 = .ok (.ireturn, 1) := by decide +kernel
theorem dX10_page_11 : decode cX10_page 11 = .ok (.iload_n 3, 1) := by decide +kernel
theorem dX10_page_12 : decode cX10_page 12 = .ok (.iconst 0, 1) := by decide +kernel
theorem dX10_page_13 : decode cX10_page 13 = .ok (.aload_n 0, 1) := by decide +kernel
theorem dX10_page_14 : decode cX10_page 14 = .ok (.iload_n 1, 1) := by decide +kernel
theorem dX10_page_15 : decode cX10_page 15 = .ok (.invokevirtual 142, 3) := by decide +kernel
theorem dX10_page_18 : decode cX10_page 18 = .ok (.iconst 1, 1) := by decide +kernel
theorem dX10_page_19 : decode cX10_page 19 = .ok (.isub, 1) := by decide +kernel
theorem dX10_page_20 : decode cX10_page 20 = .ok (.invokestatic 44, 3) := by decide +kernel
theorem dX10_page_23 : decode cX10_page 23 = .ok (.ifCond .eq 19, 3) := by decide +kernel
theorem dX10_page_26 : decode cX10_page 26 = .ok (.iload 4, 2) := by decide +kernel
theorem dX10_page_28 : decode cX10_page 28 = .ok (.iconst 0, 1) := by decide +kernel
theorem dX10_page_29 : decode cX10_page 29 = .ok (.aload_n 0, 1) := by decide +kernel
theorem dX10_page_30 : decode cX10_page 30 = .ok (.iload_n 1, 1) := by decide +kernel
theorem dX10_page_31 : decode cX10_page 31 = .ok (.invokevirtual 139, 3) := by decide +kernel
theorem dX10_page_34 : decode cX10_page 34 = .ok (.iconst 1, 1) := by decide +kernel
theorem dX10_page_35 : decode cX10_page 35 = .ok (.isub, 1) := by decide +kernel
theorem dX10_page_36 : decode cX10_page 36 = .ok (.invokestatic 44, 3) := by decide +kernel
theorem dX10_page_39 : decode cX10_page 39 = .ok (.ifCond .ne 6, 3) := by decide +kernel
theorem dX10_page_42 : decode cX10_page 42 = .ok (.bipush (-2), 2) := by decide +kernel
theorem dX10_page_44 : decode cX10_page 44 = .ok (.ireturn, 1) := by decide +kernel
theorem dX10_page_45 : decode cX10_page 45 = .ok (.aload_n 0, 1) := by decide +kernel
theorem dX10_page_46 : decode cX10_page 46 = .ok (.iload_n 1, 1) := by decide +kernel
theorem dX10_page_47 : decode cX10_page 47 = .ok (.iload_n 2, 1) := by decide +kernel
theorem dX10_page_48 : decode cX10_page 48 = .ok (.iload_n 3, 1) := by decide +kernel
theorem dX10_page_49 : decode cX10_page 49 = .ok (.iload 4, 2) := by decide +kernel
theorem dX10_page_51 : decode cX10_page 51 = .ok (.invokevirtual 158, 3) := by decide +kernel
theorem dX10_page_54 : decode cX10_page 54 = .ok (.ireturn, 1) := by decide +kernel
def f10_page (v0 : Nat) (v1 : Int32) (v2 : Int32) (v3 : Int32) (v4 : Int32) (g : GS_) : Option (Int32 × GS_) :=
  bd_ (f10_isSheet v0 v1 v2 g) fun z2 g1 => if z2 = 0 then some ((-1 : Int32), g1) else bd_ (f10_sidesOf v0 v1 g1) fun z4 g3 => bd_ (f10_in v3 (0 : Int32) (z4 - (1 : Int32)) g3) fun z6 g5 => if z6 = 0 then some ((-2 : Int32), g5) else bd_ (f10_perSide v0 v1 g5) fun z8 g7 => bd_ (f10_in v4 (0 : Int32) (z8 - (1 : Int32)) g7) fun z10 g9 => if z10 = 0 then some ((-2 : Int32), g9) else bd_ (f10_pageAt v0 v1 v2 v3 v4 g9) fun z12 g11 => some (z12, g11)
theorem t10_page (v0 : Nat) (v1 : Int32) (v2 : Int32) (v3 : Int32) (v4 : Int32) (g : GS_) : Cn_ yX10_page cX10_page 5 (some .int) 6 138 EI_ [.inr (10, some v0), .inl v1, .inl v2, .inl v3, .inl v4] g (f10_page v0 v1 v2 v3 v4 g) := by
  refine k_method (own := RX10) (ini := false) (L1 := [some (.inr (10, some v0)), some (.inl v1), some (.inl v2), some (.inl v3), some (.inl v4)]) (by decide +kernel) rfl (fun h => by cases h) (Nat.le_of_ble_eq_true rfl) rfl ?_
  unfold f10_page
  refine k_aloadn (j := 0) dX10_page_0 rfl rfl ?_
  refine k_iloadn (j := 1) dX10_page_1 rfl rfl ?_
  refine k_iloadn (j := 2) dX10_page_2 rfl rfl ?_
  refine k_callVi [.inl v1, .inl v2] (t10_isSheet v0 v1 v2 g) cw_cX10_isSheet (Or.inl ml_10_155) rfl rfl (by decide) (by decide) (Nat.le_of_ble_eq_true rfl) dX10_page_3 (fun z2 g1 => ?_)
  refine k_ifne (tgt := 11) dX10_page_6 (by decide) (fun _ => ?_) (fun _ => ?_)
  · refine k_iconst (v := (-1 : Int32)) dX10_page_9 rfl ?_
    exact k_ireturn rfl dX10_page_10
  refine k_iloadn (j := 3) dX10_page_11 rfl rfl ?_
  refine k_iconst (v := (0 : Int32)) dX10_page_12 rfl ?_
  refine k_aloadn (j := 0) dX10_page_13 rfl rfl ?_
  refine k_iloadn (j := 1) dX10_page_14 rfl rfl ?_
  refine k_callVi [.inl v1] (t10_sidesOf v0 v1 g1) cw_cX10_sidesOf (Or.inl ml_10_142) rfl rfl (by decide) (by decide) (Nat.le_of_ble_eq_true rfl) dX10_page_15 (fun z4 g3 => ?_)
  refine k_iconst (v := (1 : Int32)) dX10_page_18 rfl ?_
  refine k_isub dX10_page_19 ?_
  refine k_callSi [.inl v3, .inl (0 : Int32), .inl (z4 - (1 : Int32))] (t10_in v3 (0 : Int32) (z4 - (1 : Int32)) g3) cw_cX10_in ml_10_44 rfl rfl (by decide) (by decide) (Nat.le_of_ble_eq_true rfl) dX10_page_20 (fun z6 g5 => ?_)
  refine k_ifeq (tgt := 42) dX10_page_23 (by decide) (fun _ => ?_) (fun _ => ?_)
  · refine k_bipush (v := (-2 : Int32)) dX10_page_42 rfl ?_
    exact k_ireturn rfl dX10_page_44
  refine k_iload dX10_page_26 rfl ?_
  refine k_iconst (v := (0 : Int32)) dX10_page_28 rfl ?_
  refine k_aloadn (j := 0) dX10_page_29 rfl rfl ?_
  refine k_iloadn (j := 1) dX10_page_30 rfl rfl ?_
  refine k_callVi [.inl v1] (t10_perSide v0 v1 g5) cw_cX10_perSide (Or.inl ml_10_139) rfl rfl (by decide) (by decide) (Nat.le_of_ble_eq_true rfl) dX10_page_31 (fun z8 g7 => ?_)
  refine k_iconst (v := (1 : Int32)) dX10_page_34 rfl ?_
  refine k_isub dX10_page_35 ?_
  refine k_callSi [.inl v4, .inl (0 : Int32), .inl (z8 - (1 : Int32))] (t10_in v4 (0 : Int32) (z8 - (1 : Int32)) g7) cw_cX10_in ml_10_44 rfl rfl (by decide) (by decide) (Nat.le_of_ble_eq_true rfl) dX10_page_36 (fun z10 g9 => ?_)
  refine k_ifne (tgt := 45) dX10_page_39 (by decide) (fun _ => ?_) (fun _ => ?_)
  · refine k_bipush (v := (-2 : Int32)) dX10_page_42 rfl ?_
    exact k_ireturn rfl dX10_page_44
  refine k_aloadn (j := 0) dX10_page_45 rfl rfl ?_
  refine k_iloadn (j := 1) dX10_page_46 rfl rfl ?_
  refine k_iloadn (j := 2) dX10_page_47 rfl rfl ?_
  refine k_iloadn (j := 3) dX10_page_48 rfl rfl ?_
  refine k_iload dX10_page_49 rfl ?_
  refine k_callVi [.inl v1, .inl v2, .inl v3, .inl v4] (t10_pageAt v0 v1 v2 v3 v4 g9) cw_cX10_pageAt (Or.inl ml_10_158) rfl rfl (by decide) (by decide) (Nat.le_of_ble_eq_true rfl) dX10_page_51 (fun z12 g11 => ?_)
  exact k_ireturn rfl dX10_page_54
theorem dX10_turned_0 : decode cX10_turned 0 = .ok (.aload_n 0, 1) := by decide +kernel
theorem dX10_turned_1 : decode cX10_turned 1 = .ok (.iload_n 1, 1) := by decide +kernel
theorem dX10_turned_2 : decode cX10_turned 2 = .ok (.invokevirtual 149, 3) := by decide +kernel
theorem dX10_turned_5 : decode cX10_turned 5 = .ok (.ifCond .ne 5, 3) := by decide +kernel
theorem dX10_turned_8 : decode cX10_turned 8 = .ok (.iconst (-1), 1) := by decide +kernel
theorem dX10_turned_9 : decode cX10_turned 9 = .ok (.ireturn, 1) := by decide +kernel
theorem dX10_turned_10 : decode cX10_turned 10 = .ok (.iload_n 2, 1) := by decide +kernel
theorem dX10_turned_11 : decode cX10_turned 11 = .ok (.iconst 0, 1) := by decide +kernel
theorem dX10_turned_12 : decode cX10_turned 12 = .ok (.aload_n 0, 1) := by decide +kernel
theorem dX10_turned_13 : decode cX10_turned 13 = .ok (.iload_n 1, 1) := by decide +kernel
theorem dX10_turned_14 : decode cX10_turned 14 = .ok (.invokevirtual 142, 3) := by decide +kernel
theorem dX10_turned_17 : decode cX10_turned 17 = .ok (.iconst 1, 1) := by decide +kernel
theorem dX10_turned_18 : decode cX10_turned 18 = .ok (.isub, 1) := by decide +kernel
theorem dX10_turned_19 : decode cX10_turned 19 = .ok (.invokestatic 44, 3) := by decide +kernel
theorem dX10_turned_22 : decode cX10_turned 22 = .ok (.ifCond .ne 6, 3) := by decide +kernel
theorem dX10_turned_25 : decode cX10_turned 25 = .ok (.bipush (-2), 2) := by decide +kernel
theorem dX10_turned_27 : decode cX10_turned 27 = .ok (.ireturn, 1) := by decide +kernel
theorem dX10_turned_28 : decode cX10_turned 28 = .ok (.iload_n 2, 1) := by decide +kernel
theorem dX10_turned_29 : decode cX10_turned 29 = .ok (.iconst 1, 1) := by decide +kernel
theorem dX10_turned_30 : decode cX10_turned 30 = .ok (.if_icmp .ne 32, 3) := by decide +kernel
theorem dX10_turned_33 : decode cX10_turned 33 = .ok (.aload_n 0, 1) := by decide +kernel
theorem dX10_turned_34 : decode cX10_turned 34 = .ok (.iload_n 1, 1) := by decide +kernel
theorem dX10_turned_35 : decode cX10_turned 35 = .ok (.iconst 2, 1) := by decide +kernel
theorem dX10_turned_36 : decode cX10_turned 36 = .ok (.invokevirtual 133, 3) := by decide +kernel
theorem dX10_turned_39 : decode cX10_turned 39 = .ok (.iconst 2, 1) := by decide +kernel
theorem dX10_turned_40 : decode cX10_turned 40 = .ok (.if_icmp .ne 7, 3) := by decide +kernel
theorem dX10_turned_43 : decode cX10_turned 43 = .ok (.iconst 1, 1) := by decide +kernel
theorem dX10_turned_44 : decode cX10_turned 44 = .ok (.goto 4, 3) := by decide +kernel
theorem dX10_turned_47 : decode cX10_turned 47 = .ok (.iconst 0, 1) := by decide +kernel
theorem dX10_turned_48 : decode cX10_turned 48 = .ok (.aload_n 0, 1) := by decide +kernel
theorem dX10_turned_49 : decode cX10_turned 49 = .ok (.iload_n 1, 1) := by decide +kernel
theorem dX10_turned_50 : decode cX10_turned 50 = .ok (.invokevirtual 136, 3) := by decide +kernel
theorem dX10_turned_53 : decode cX10_turned 53 = .ok (.if_icmp .eq 9, 3) := by decide +kernel
theorem dX10_turned_56 : decode cX10_turned 56 = .ok (.sipush 180, 3) := by decide +kernel
theorem dX10_turned_59 : decode cX10_turned 59 = .ok (.goto 4, 3) := by decide +kernel
theorem dX10_turned_62 : decode cX10_turned 62 = .ok (.iconst 0, 1) := by decide +kernel
theorem dX10_turned_63 : decode cX10_turned 63 = .ok (.ireturn, 1) := by decide +kernel
def f10_turned_b62 (g : GS_) : Option (Int32 × GS_) :=
  some ((0 : Int32), g)
theorem t10_turned_b62 (g : GS_) : K_ RX10 cX10_turned 3 (some .int) 3 64 false EI_ 62 [none, none, none] [] g (f10_turned_b62 g) := by
  unfold f10_turned_b62
  refine k_iconst (v := (0 : Int32)) dX10_turned_62 rfl ?_
  exact k_ireturn rfl dX10_turned_63
def f10_turned_b48 (v0 : Nat) (v1 : Int32) (s0 : Int32) (g : GS_) : Option (Int32 × GS_) :=
  bd_ (f10_isBooklet v0 v1 g) fun z2 g1 => if s0 = z2 then f10_turned_b62 g1 else some ((180 : Int32), g1)
theorem t10_turned_b48 (v0 : Nat) (v1 : Int32) (s0 : Int32) (g : GS_) : K_ RX10 cX10_turned 3 (some .int) 3 64 false EI_ 48 [some (.inr (10, some v0)), some (.inl v1), none] [.inl s0] g (f10_turned_b48 v0 v1 s0 g) := by
  unfold f10_turned_b48
  refine k_aloadn (j := 0) dX10_turned_48 rfl rfl ?_
  refine k_iloadn (j := 1) dX10_turned_49 rfl rfl ?_
  refine k_callVi [.inl v1] (t10_isBooklet v0 v1 g) cw_cX10_isBooklet (Or.inl ml_10_136) rfl rfl (by decide) (by decide) (Nat.le_of_ble_eq_true rfl) dX10_turned_50 (fun z2 g1 => ?_)
  refine k_icmpeq (tgt := 62) dX10_turned_53 (by decide) (fun _ => ?_) (fun _ => ?_)
  · refine k_msk (L' := [none, none, none]) [false, false, true] rfl ?_
    exact t10_turned_b62 g1
  refine k_sipush (v := (180 : Int32)) dX10_turned_56 rfl ?_
  refine k_goto (tgt := 63) dX10_turned_59 (by decide) ?_
  exact k_ireturn rfl dX10_turned_63
def f10_turned (v0 : Nat) (v1 : Int32) (v2 : Int32) (g : GS_) : Option (Int32 × GS_) :=
  bd_ (f10_isJob v0 v1 g) fun z4 g3 => if z4 = 0 then some ((-1 : Int32), g3) else bd_ (f10_sidesOf v0 v1 g3) fun z6 g5 => bd_ (f10_in v2 (0 : Int32) (z6 - (1 : Int32)) g5) fun z8 g7 => if z8 = 0 then some ((-2 : Int32), g7) else if v2 = (1 : Int32) then bd_ (f10_ofJob v0 v1 (2 : Int32) g7) fun z10 g9 => if z10 = (2 : Int32) then f10_turned_b48 v0 v1 (1 : Int32) g9 else f10_turned_b48 v0 v1 (0 : Int32) g9 else f10_turned_b62 g7
theorem t10_turned (v0 : Nat) (v1 : Int32) (v2 : Int32) (g : GS_) : Cn_ yX10_turned cX10_turned 3 (some .int) 3 64 EI_ [.inr (10, some v0), .inl v1, .inl v2] g (f10_turned v0 v1 v2 g) := by
  refine k_method (own := RX10) (ini := false) (L1 := [some (.inr (10, some v0)), some (.inl v1), some (.inl v2)]) (by decide +kernel) rfl (fun h => by cases h) (Nat.le_of_ble_eq_true rfl) rfl ?_
  unfold f10_turned
  refine k_aloadn (j := 0) dX10_turned_0 rfl rfl ?_
  refine k_iloadn (j := 1) dX10_turned_1 rfl rfl ?_
  refine k_callVi [.inl v1] (t10_isJob v0 v1 g) cw_cX10_isJob (Or.inl ml_10_149) rfl rfl (by decide) (by decide) (Nat.le_of_ble_eq_true rfl) dX10_turned_2 (fun z4 g3 => ?_)
  refine k_ifne (tgt := 10) dX10_turned_5 (by decide) (fun _ => ?_) (fun _ => ?_)
  · refine k_iconst (v := (-1 : Int32)) dX10_turned_8 rfl ?_
    exact k_ireturn rfl dX10_turned_9
  refine k_iloadn (j := 2) dX10_turned_10 rfl rfl ?_
  refine k_iconst (v := (0 : Int32)) dX10_turned_11 rfl ?_
  refine k_aloadn (j := 0) dX10_turned_12 rfl rfl ?_
  refine k_iloadn (j := 1) dX10_turned_13 rfl rfl ?_
  refine k_callVi [.inl v1] (t10_sidesOf v0 v1 g3) cw_cX10_sidesOf (Or.inl ml_10_142) rfl rfl (by decide) (by decide) (Nat.le_of_ble_eq_true rfl) dX10_turned_14 (fun z6 g5 => ?_)
  refine k_iconst (v := (1 : Int32)) dX10_turned_17 rfl ?_
  refine k_isub dX10_turned_18 ?_
  refine k_callSi [.inl v2, .inl (0 : Int32), .inl (z6 - (1 : Int32))] (t10_in v2 (0 : Int32) (z6 - (1 : Int32)) g5) cw_cX10_in ml_10_44 rfl rfl (by decide) (by decide) (Nat.le_of_ble_eq_true rfl) dX10_turned_19 (fun z8 g7 => ?_)
  refine k_ifne (tgt := 28) dX10_turned_22 (by decide) (fun _ => ?_) (fun _ => ?_)
  · refine k_bipush (v := (-2 : Int32)) dX10_turned_25 rfl ?_
    exact k_ireturn rfl dX10_turned_27
  refine k_iloadn (j := 2) dX10_turned_28 rfl rfl ?_
  refine k_iconst (v := (1 : Int32)) dX10_turned_29 rfl ?_
  refine k_icmpne (tgt := 62) dX10_turned_30 (by decide) (fun _ => ?_) (fun _ => ?_)
  · refine k_aloadn (j := 0) dX10_turned_33 rfl rfl ?_
    refine k_iloadn (j := 1) dX10_turned_34 rfl rfl ?_
    refine k_iconst (v := (2 : Int32)) dX10_turned_35 rfl ?_
    refine k_callVi [.inl v1, .inl (2 : Int32)] (t10_ofJob v0 v1 (2 : Int32) g7) cw_cX10_ofJob (Or.inl ml_10_133) rfl rfl (by decide) (by decide) (Nat.le_of_ble_eq_true rfl) dX10_turned_36 (fun z10 g9 => ?_)
    refine k_iconst (v := (2 : Int32)) dX10_turned_39 rfl ?_
    refine k_icmpne (tgt := 47) dX10_turned_40 (by decide) (fun _ => ?_) (fun _ => ?_)
    · refine k_iconst (v := (1 : Int32)) dX10_turned_43 rfl ?_
      refine k_goto (tgt := 48) dX10_turned_44 (by decide) ?_
      refine k_msk (L' := [some (.inr (10, some v0)), some (.inl v1), none]) [true, true, false] rfl ?_
      exact t10_turned_b48 v0 v1 (1 : Int32) g9
    refine k_iconst (v := (0 : Int32)) dX10_turned_47 rfl ?_
    refine k_msk (L' := [some (.inr (10, some v0)), some (.inl v1), none]) [true, true, false] rfl ?_
    exact t10_turned_b48 v0 v1 (0 : Int32) g9
  refine k_msk (L' := [none, none, none]) [false, false, false] rfl ?_
  exact t10_turned_b62 g7
theorem dX10_blanks_0 : decode cX10_blanks 0 = .ok (.aload_n 0, 1) := by decide +kernel
theorem dX10_blanks_1 : decode cX10_blanks 1 = .ok (.iload_n 1, 1) := by decide +kernel
theorem dX10_blanks_2 : decode cX10_blanks 2 = .ok (.invokevirtual 149, 3) := by decide +kernel
theorem dX10_blanks_5 : decode cX10_blanks 5 = .ok (.ifCond .ne 5, 3) := by decide +kernel
theorem dX10_blanks_8 : decode cX10_blanks 8 = .ok (.iconst (-1), 1) := by decide +kernel
theorem dX10_blanks_9 : decode cX10_blanks 9 = .ok (.ireturn, 1) := by decide +kernel
theorem dX10_blanks_10 : decode cX10_blanks 10 = .ok (.aload_n 0, 1) := by decide +kernel
theorem dX10_blanks_11 : decode cX10_blanks 11 = .ok (.iload_n 1, 1) := by decide +kernel
theorem dX10_blanks_12 : decode cX10_blanks 12 = .ok (.invokevirtual 130, 3) := by decide +kernel
theorem dX10_blanks_15 : decode cX10_blanks 15 = .ok (.aload_n 0, 1) := by decide +kernel
theorem dX10_blanks_16 : decode cX10_blanks 16 = .ok (.iload_n 1, 1) := by decide +kernel
theorem dX10_blanks_17 : decode cX10_blanks 17 = .ok (.invokevirtual 142, 3) := by decide +kernel
theorem dX10_blanks_20 : decode cX10_blanks 20 = .ok (.imul, 1) := by decide +kernel
theorem dX10_blanks_21 : decode cX10_blanks 21 = .ok (.aload_n 0, 1) := by decide +kernel
theorem dX10_blanks_22 : decode cX10_blanks 22 = .ok (.iload_n 1, 1) := by decide +kernel
theorem dX10_blanks_23 : decode cX10_blanks 23 = .ok (.invokevirtual 139, 3) := by decide +kernel
theorem dX10_blanks_26 : decode cX10_blanks 26 = .ok (.imul, 1) := by decide +kernel
theorem dX10_blanks_27 : decode cX10_blanks 27 = .ok (.istore_n 2, 1) := by decide +kernel
theorem dX10_blanks_28 : decode cX10_blanks 28 = .ok (.aload_n 0, 1) := by decide +kernel
theorem dX10_blanks_29 : decode cX10_blanks 29 = .ok (.iload_n 1, 1) := by decide +kernel
theorem dX10_blanks_30 : decode cX10_blanks 30 = .ok (.iconst 0, 1) := by decide +kernel
theorem dX10_blanks_31 : decode cX10_blanks 31 = .ok (.invokevirtual 133, 3) := by decide +kernel
theorem dX10_blanks_34 : decode cX10_blanks 34 = .ok (.iload_n 2, 1) := by decide +kernel
theorem dX10_blanks_35 : decode cX10_blanks 35 = .ok (.aload_n 0, 1) := by decide +kernel
theorem dX10_blanks_36 : decode cX10_blanks 36 = .ok (.iload_n 1, 1) := by decide +kernel
theorem dX10_blanks_37 : decode cX10_blanks 37 = .ok (.bipush 7, 2) := by decide +kernel
theorem dX10_blanks_39 : decode cX10_blanks 39 = .ok (.invokevirtual 133, 3) := by decide +kernel
theorem dX10_blanks_42 : decode cX10_blanks 42 = .ok (.isub, 1) := by decide +kernel
theorem dX10_blanks_43 : decode cX10_blanks 43 = .ok (.imul, 1) := by decide +kernel
theorem dX10_blanks_44 : decode cX10_blanks 44 = .ok (.ireturn, 1) := by decide +kernel
def f10_blanks (v0 : Nat) (v1 : Int32) (g : GS_) : Option (Int32 × GS_) :=
  bd_ (f10_isJob v0 v1 g) fun z2 g1 => if z2 = 0 then some ((-1 : Int32), g1) else bd_ (f10_sheetsOfCopy v0 v1 g1) fun z4 g3 => bd_ (f10_sidesOf v0 v1 g3) fun z6 g5 => bd_ (f10_perSide v0 v1 g5) fun z8 g7 => lr_ ((z4 * z6) * z8) fun z9 => bd_ (f10_ofJob v0 v1 (0 : Int32) g7) fun z11 g10 => bd_ (f10_ofJob v0 v1 (7 : Int32) g10) fun z13 g12 => some ((z11 * (z9 - z13)), g12)
theorem t10_blanks (v0 : Nat) (v1 : Int32) (g : GS_) : Cn_ yX10_blanks cX10_blanks 3 (some .int) 4 87 EI_ [.inr (10, some v0), .inl v1] g (f10_blanks v0 v1 g) := by
  refine k_method (own := RX10) (ini := false) (L1 := [some (.inr (10, some v0)), some (.inl v1), none]) (by decide +kernel) rfl (fun h => by cases h) (Nat.le_of_ble_eq_true rfl) rfl ?_
  unfold f10_blanks
  refine k_aloadn (j := 0) dX10_blanks_0 rfl rfl ?_
  refine k_iloadn (j := 1) dX10_blanks_1 rfl rfl ?_
  refine k_callVi [.inl v1] (t10_isJob v0 v1 g) cw_cX10_isJob (Or.inl ml_10_149) rfl rfl (by decide) (by decide) (Nat.le_of_ble_eq_true rfl) dX10_blanks_2 (fun z2 g1 => ?_)
  refine k_ifne (tgt := 10) dX10_blanks_5 (by decide) (fun _ => ?_) (fun _ => ?_)
  · refine k_iconst (v := (-1 : Int32)) dX10_blanks_8 rfl ?_
    exact k_ireturn rfl dX10_blanks_9
  refine k_aloadn (j := 0) dX10_blanks_10 rfl rfl ?_
  refine k_iloadn (j := 1) dX10_blanks_11 rfl rfl ?_
  refine k_callVi [.inl v1] (t10_sheetsOfCopy v0 v1 g1) cw_cX10_sheetsOfCopy (Or.inl ml_10_130) rfl rfl (by decide) (by decide) (Nat.le_of_ble_eq_true rfl) dX10_blanks_12 (fun z4 g3 => ?_)
  refine k_aloadn (j := 0) dX10_blanks_15 rfl rfl ?_
  refine k_iloadn (j := 1) dX10_blanks_16 rfl rfl ?_
  refine k_callVi [.inl v1] (t10_sidesOf v0 v1 g3) cw_cX10_sidesOf (Or.inl ml_10_142) rfl rfl (by decide) (by decide) (Nat.le_of_ble_eq_true rfl) dX10_blanks_17 (fun z6 g5 => ?_)
  refine k_imul dX10_blanks_20 ?_
  refine k_aloadn (j := 0) dX10_blanks_21 rfl rfl ?_
  refine k_iloadn (j := 1) dX10_blanks_22 rfl rfl ?_
  refine k_callVi [.inl v1] (t10_perSide v0 v1 g5) cw_cX10_perSide (Or.inl ml_10_139) rfl rfl (by decide) (by decide) (Nat.le_of_ble_eq_true rfl) dX10_blanks_23 (fun z8 g7 => ?_)
  refine k_imul dX10_blanks_26 ?_
  refine k_istnl (j := 2) (L2 := fun z9 => [some (.inr (10, some v0)), some (.inl v1), some (.inl z9)]) dX10_blanks_27 rfl (by decide) (fun _ => rfl) (fun z9 => ?_)
  refine k_aloadn (j := 0) dX10_blanks_28 rfl rfl ?_
  refine k_iloadn (j := 1) dX10_blanks_29 rfl rfl ?_
  refine k_iconst (v := (0 : Int32)) dX10_blanks_30 rfl ?_
  refine k_callVi [.inl v1, .inl (0 : Int32)] (t10_ofJob v0 v1 (0 : Int32) g7) cw_cX10_ofJob (Or.inl ml_10_133) rfl rfl (by decide) (by decide) (Nat.le_of_ble_eq_true rfl) dX10_blanks_31 (fun z11 g10 => ?_)
  refine k_iloadn (j := 2) dX10_blanks_34 rfl rfl ?_
  refine k_aloadn (j := 0) dX10_blanks_35 rfl rfl ?_
  refine k_iloadn (j := 1) dX10_blanks_36 rfl rfl ?_
  refine k_bipush (v := (7 : Int32)) dX10_blanks_37 rfl ?_
  refine k_callVi [.inl v1, .inl (7 : Int32)] (t10_ofJob v0 v1 (7 : Int32) g10) cw_cX10_ofJob (Or.inl ml_10_133) rfl rfl (by decide) (by decide) (Nat.le_of_ble_eq_true rfl) dX10_blanks_39 (fun z13 g12 => ?_)
  refine k_isub dX10_blanks_42 ?_
  refine k_imul dX10_blanks_43 ?_
  exact k_ireturn rfl dX10_blanks_44
theorem dX10_where_0 : decode cX10_where 0 = .ok (.aload_n 0, 1) := by decide +kernel
theorem dX10_where_1 : decode cX10_where 1 = .ok (.iload_n 1, 1) := by decide +kernel
theorem dX10_where_2 : decode cX10_where 2 = .ok (.invokevirtual 149, 3) := by decide +kernel
theorem dX10_where_5 : decode cX10_where 5 = .ok (.ifCond .ne 5, 3) := by decide +kernel
theorem dX10_where_8 : decode cX10_where 8 = .ok (.iconst (-1), 1) := by decide +kernel
theorem dX10_where_9 : decode cX10_where 9 = .ok (.ireturn, 1) := by decide +kernel
theorem dX10_where_10 : decode cX10_where 10 = .ok (.iload_n 2, 1) := by decide +kernel
theorem dX10_where_11 : decode cX10_where 11 = .ok (.iconst 0, 1) := by decide +kernel
theorem dX10_where_12 : decode cX10_where 12 = .ok (.aload_n 0, 1) := by decide +kernel
theorem dX10_where_13 : decode cX10_where 13 = .ok (.iload_n 1, 1) := by decide +kernel
theorem dX10_where_14 : decode cX10_where 14 = .ok (.bipush 7, 2) := by decide +kernel
theorem dX10_where_16 : decode cX10_where 16 = .ok (.invokevirtual 133, 3) := by decide +kernel
theorem dX10_where_19 : decode cX10_where 19 = .ok (.iconst 1, 1) := by decide +kernel
theorem dX10_where_20 : decode cX10_where 20 = .ok (.isub, 1) := by decide +kernel
theorem dX10_where_21 : decode cX10_where 21 = .ok (.invokestatic 44, 3) := by decide +kernel
theorem dX10_where_24 : decode cX10_where 24 = .ok (.ifCond .eq 12, 3) := by decide +kernel
theorem dX10_where_27 : decode cX10_where 27 = .ok (.iload_n 3, 1) := by decide +kernel
theorem dX10_where_28 : decode cX10_where 28 = .ok (.iconst 0, 1) := by decide +kernel
theorem dX10_where_29 : decode cX10_where 29 = .ok (.iconst 2, 1) := by decide +kernel
theorem dX10_where_30 : decode cX10_where 30 = .ok (.invokestatic 44, 3) := by decide +kernel
theorem dX10_where_33 : decode cX10_where 33 = .ok (.ifCond .ne 6, 3) := by decide +kernel
theorem dX10_where_36 : decode cX10_where 36 = .ok (.bipush (-2), 2) := by decide +kernel
theorem dX10_where_38 : decode cX10_where 38 = .ok (.ireturn, 1) := by decide +kernel
theorem dX10_where_39 : decode cX10_where 39 = .ok (.iconst 0, 1) := by decide +kernel
theorem dX10_where_40 : decode cX10_where 40 = .ok (.istore 4, 2) := by decide +kernel
theorem dX10_where_42 : decode cX10_where 42 = .ok (.iload 4, 2) := by decide +kernel
theorem dX10_where_44 : decode cX10_where 44 = .ok (.aload_n 0, 1) := by decide +kernel
theorem dX10_where_45 : decode cX10_where 45 = .ok (.iload_n 1, 1) := by decide +kernel
theorem dX10_where_46 : decode cX10_where 46 = .ok (.invokevirtual 130, 3) := by decide +kernel
theorem dX10_where_49 : decode cX10_where 49 = .ok (.if_icmp .ge 110, 3) := by decide +kernel
theorem dX10_where_52 : decode cX10_where 52 = .ok (.iconst 0, 1) := by decide +kernel
theorem dX10_where_53 : decode cX10_where 53 = .ok (.istore 5, 2) := by decide +kernel
theorem dX10_where_55 : decode cX10_where 55 = .ok (.iload 5, 2) := by decide +kernel
theorem dX10_where_57 : decode cX10_where 57 = .ok (.aload_n 0, 1) := by decide +kernel
theorem dX10_where_58 : decode cX10_where 58 = .ok (.iload_n 1, 1) := by decide +kernel
theorem dX10_where_59 : decode cX10_where 59 = .ok (.invokevirtual 142, 3) := by decide +kernel
theorem dX10_where_62 : decode cX10_where 62 = .ok (.if_icmp .ge 91, 3) := by decide +kernel
theorem dX10_where_65 : decode cX10_where 65 = .ok (.iconst 0, 1) := by decide +kernel
theorem dX10_where_66 : decode cX10_where 66 = .ok (.istore 6, 2) := by decide +kernel
theorem dX10_where_68 : decode cX10_where 68 = .ok (.iload 6, 2) := by decide +kernel
theorem dX10_where_70 : decode cX10_where 70 = .ok (.aload_n 0, 1) := by decide +kernel
theorem dX10_where_71 : decode cX10_where 71 = .ok (.iload_n 1, 1) := by decide +kernel
theorem dX10_where_72 : decode cX10_where 72 = .ok (.invokevirtual 139, 3) := by decide +kernel
theorem dX10_where_75 : decode cX10_where 75 = .ok (.if_icmp .ge 72, 3) := by decide +kernel
theorem dX10_where_78 : decode cX10_where 78 = .ok (.aload_n 0, 1) := by decide +kernel
theorem dX10_where_79 : decode cX10_where 79 = .ok (.iload_n 1, 1) := by decide +kernel
theorem dX10_where_80 : decode cX10_where 80 = .ok (.iload 4, 2) := by decide +kernel
theorem dX10_where_82 : decode cX10_where 82 = .ok (.iload 5, 2) := by decide +kernel
theorem dX10_where_84 : decode cX10_where 84 = .ok (.iload 6, 2) := by decide +kernel
theorem dX10_where_86 : decode cX10_where 86 = .ok (.invokevirtual 145, 3) := by decide +kernel
theorem dX10_where_89 : decode cX10_where 89 = .ok (.iload_n 2, 1) := by decide +kernel
theorem dX10_where_90 : decode cX10_where 90 = .ok (.if_icmp .ne 51, 3) := by decide +kernel
theorem dX10_where_93 : decode cX10_where 93 = .ok (.aload_n 0, 1) := by decide +kernel
theorem dX10_where_94 : decode cX10_where 94 = .ok (.iload_n 1, 1) := by decide +kernel
theorem dX10_where_95 : decode cX10_where 95 = .ok (.iconst 1, 1) := by decide +kernel
theorem dX10_where_96 : decode cX10_where 96 = .ok (.invokevirtual 133, 3) := by decide +kernel
theorem dX10_where_99 : decode cX10_where 99 = .ok (.iconst 1, 1) := by decide +kernel
theorem dX10_where_100 : decode cX10_where 100 = .ok (.if_icmp .ne 8, 3) := by decide +kernel
theorem dX10_where_103 : decode cX10_where 103 = .ok (.iload 4, 2) := by decide +kernel
theorem dX10_where_105 : decode cX10_where 105 = .ok (.goto 12, 3) := by decide +kernel
theorem dX10_where_108 : decode cX10_where 108 = .ok (.iload 4, 2) := by decide +kernel
theorem dX10_where_110 : decode cX10_where 110 = .ok (.aload_n 0, 1) := by decide +kernel
theorem dX10_where_111 : decode cX10_where 111 = .ok (.iload_n 1, 1) := by decide +kernel
theorem dX10_where_112 : decode cX10_where 112 = .ok (.iconst 0, 1) := by decide +kernel
theorem dX10_where_113 : decode cX10_where 113 = .ok (.invokevirtual 133, 3) := by decide +kernel
theorem dX10_where_116 : decode cX10_where 116 = .ok (.imul, 1) := by decide +kernel
theorem dX10_where_117 : decode cX10_where 117 = .ok (.istore 7, 2) := by decide +kernel
theorem dX10_where_119 : decode cX10_where 119 = .ok (.iload_n 3, 1) := by decide +kernel
theorem dX10_where_120 : decode cX10_where 120 = .ok (.ifCond .ne 8, 3) := by decide +kernel
theorem dX10_where_123 : decode cX10_where 123 = .ok (.iload 7, 2) := by decide +kernel
theorem dX10_where_125 : decode cX10_where 125 = .ok (.goto 15, 3) := by decide +kernel
theorem dX10_where_128 : decode cX10_where 128 = .ok (.iload_n 3, 1) := by decide +kernel
theorem dX10_where_129 : decode cX10_where 129 = .ok (.iconst 1, 1) := by decide +kernel
theorem dX10_where_130 : decode cX10_where 130 = .ok (.if_icmp .ne 8, 3) := by decide +kernel
theorem dX10_where_133 : decode cX10_where 133 = .ok (.iload 5, 2) := by decide +kernel
theorem dX10_where_135 : decode cX10_where 135 = .ok (.goto 5, 3) := by decide +kernel
theorem dX10_where_138 : decode cX10_where 138 = .ok (.iload 6, 2) := by decide +kernel
theorem dX10_where_140 : decode cX10_where 140 = .ok (.ireturn, 1) := by decide +kernel
theorem dX10_where_141 : decode cX10_where 141 = .ok (.iinc 6 1, 3) := by decide +kernel
theorem dX10_where_144 : decode cX10_where 144 = .ok (.goto (-76), 3) := by decide +kernel
theorem dX10_where_147 : decode cX10_where 147 = .ok (.iinc 5 1, 3) := by decide +kernel
theorem dX10_where_150 : decode cX10_where 150 = .ok (.goto (-95), 3) := by decide +kernel
theorem dX10_where_153 : decode cX10_where 153 = .ok (.iinc 4 1, 3) := by decide +kernel
theorem dX10_where_156 : decode cX10_where 156 = .ok (.goto (-114), 3) := by decide +kernel
theorem dX10_where_159 : decode cX10_where 159 = .ok (.bipush (-6), 2) := by decide +kernel
theorem dX10_where_161 : decode cX10_where 161 = .ok (.ireturn, 1) := by decide +kernel
def f10_where_b117 (v3 : Int32) (v5 : Int32) (v6 : Int32) (s0 : Int32) (g : GS_) : Option (Int32 × GS_) :=
  if v3 = 0 then some (s0, g) else if v3 = (1 : Int32) then some (v5, g) else some (v6, g)
theorem t10_where_b117 (v3 : Int32) (v5 : Int32) (v6 : Int32) (s0 : Int32) (g : GS_) : K_ RX10 cX10_where 8 (some .int) 5 112 false EI_ 117 [none, none, none, some (.inl v3), none, some (.inl v5), some (.inl v6), none] [.inl s0] g (f10_where_b117 v3 v5 v6 s0 g) := by
  unfold f10_where_b117
  refine k_ist (L' := [none, none, none, some (.inl v3), none, some (.inl v5), some (.inl v6), some (.inl s0)]) dX10_where_117 (by decide) rfl ?_
  refine k_iloadn (j := 3) dX10_where_119 rfl rfl ?_
  refine k_ifne (tgt := 128) dX10_where_120 (by decide) (fun _ => ?_) (fun _ => ?_)
  · refine k_iload dX10_where_123 rfl ?_
    refine k_goto (tgt := 140) dX10_where_125 (by decide) ?_
    exact k_ireturn rfl dX10_where_140
  refine k_iloadn (j := 3) dX10_where_128 rfl rfl ?_
  refine k_iconst (v := (1 : Int32)) dX10_where_129 rfl ?_
  refine k_icmpne (tgt := 138) dX10_where_130 (by decide) (fun _ => ?_) (fun _ => ?_)
  · refine k_iload dX10_where_133 rfl ?_
    refine k_goto (tgt := 140) dX10_where_135 (by decide) ?_
    exact k_ireturn rfl dX10_where_140
  refine k_iload dX10_where_138 rfl ?_
  exact k_ireturn rfl dX10_where_140
def f10_where_b68 (c42 : Nat → Int32 → Int32 → Int32 → Int32 → GS_ → Option (Int32 × GS_)) (c55 : Nat → Int32 → Int32 → Int32 → Int32 → Int32 → GS_ → Option (Int32 × GS_)) : Nat → Nat → Int32 → Int32 → Int32 → Int32 → Int32 → Int32 → GS_ → Option (Int32 × GS_)
  | 0, _, _, _, _, _, _, _, _ => none
  | n + 1, v0, v1, v2, v3, v4, v5, v6, g =>
    bd_ (f10_perSide v0 v1 g) fun z2 g1 => if z2 ≤ v6 then c55 v0 v1 v2 v3 v4 (v5 + (1 : Int32)) g1 else bd_ (f10_elementAt v0 v1 v4 v5 v6 g1) fun z4 g3 => if z4 = v2 then bd_ (f10_ofJob v0 v1 (1 : Int32) g3) fun z6 g5 => if z6 = (1 : Int32) then f10_where_b117 v3 v5 v6 v4 g5 else bd_ (f10_ofJob v0 v1 (0 : Int32) g5) fun z8 g7 => f10_where_b117 v3 v5 v6 (v4 * z8) g7 else (f10_where_b68 c42 c55 n) v0 v1 v2 v3 v4 v5 (v6 + (1 : Int32)) g3
theorem t10_where_b68 (c42 : Nat → Int32 → Int32 → Int32 → Int32 → GS_ → Option (Int32 × GS_)) (c55 : Nat → Int32 → Int32 → Int32 → Int32 → Int32 → GS_ → Option (Int32 × GS_)) (h42 : ∀ (v0 : Nat) (v1 : Int32) (v2 : Int32) (v3 : Int32) (v4 : Int32) (g : GS_), K_ RX10 cX10_where 8 (some .int) 5 112 false EI_ 42 [some (.inr (10, some v0)), some (.inl v1), some (.inl v2), some (.inl v3), some (.inl v4), none, none, none] [] g (c42 v0 v1 v2 v3 v4 g)) (h55 : ∀ (v0 : Nat) (v1 : Int32) (v2 : Int32) (v3 : Int32) (v4 : Int32) (v5 : Int32) (g : GS_), K_ RX10 cX10_where 8 (some .int) 5 112 false EI_ 55 [some (.inr (10, some v0)), some (.inl v1), some (.inl v2), some (.inl v3), some (.inl v4), some (.inl v5), none, none] [] g (c55 v0 v1 v2 v3 v4 v5 g)) : ∀ (n : Nat) (v0 : Nat) (v1 : Int32) (v2 : Int32) (v3 : Int32) (v4 : Int32) (v5 : Int32) (v6 : Int32) (g : GS_), K_ RX10 cX10_where 8 (some .int) 5 112 false EI_ 68 [some (.inr (10, some v0)), some (.inl v1), some (.inl v2), some (.inl v3), some (.inl v4), some (.inl v5), some (.inl v6), none] [] g (f10_where_b68 c42 c55 n v0 v1 v2 v3 v4 v5 v6 g) := by
  intro n
  induction n with
  | zero =>
    intro v0 v1 v2 v3 v4 v5 v6 g
    exact k_fail
  | succ n ih =>
    intro v0 v1 v2 v3 v4 v5 v6 g
    show K_ RX10 cX10_where 8 (some .int) 5 112 false EI_ 68 [some (.inr (10, some v0)), some (.inl v1), some (.inl v2), some (.inl v3), some (.inl v4), some (.inl v5), some (.inl v6), none] [] g (bd_ (f10_perSide v0 v1 g) fun z2 g1 => if z2 ≤ v6 then c55 v0 v1 v2 v3 v4 (v5 + (1 : Int32)) g1 else bd_ (f10_elementAt v0 v1 v4 v5 v6 g1) fun z4 g3 => if z4 = v2 then bd_ (f10_ofJob v0 v1 (1 : Int32) g3) fun z6 g5 => if z6 = (1 : Int32) then f10_where_b117 v3 v5 v6 v4 g5 else bd_ (f10_ofJob v0 v1 (0 : Int32) g5) fun z8 g7 => f10_where_b117 v3 v5 v6 (v4 * z8) g7 else (f10_where_b68 c42 c55 n) v0 v1 v2 v3 v4 v5 (v6 + (1 : Int32)) g3)
    refine k_iload dX10_where_68 rfl ?_
    refine k_aloadn (j := 0) dX10_where_70 rfl rfl ?_
    refine k_iloadn (j := 1) dX10_where_71 rfl rfl ?_
    refine k_callVi [.inl v1] (t10_perSide v0 v1 g) cw_cX10_perSide (Or.inl ml_10_139) rfl rfl (by decide) (by decide) (Nat.le_of_ble_eq_true rfl) dX10_where_72 (fun z2 g1 => ?_)
    refine k_icmpge (tgt := 147) dX10_where_75 (by decide) (fun _ => ?_) (fun _ => ?_)
    · refine k_iinc (v := (v5 + (1 : Int32))) (L' := [some (.inr (10, some v0)), some (.inl v1), some (.inl v2), some (.inl v3), some (.inl v4), some (.inl (v5 + (1 : Int32))), some (.inl v6), none]) dX10_where_147 rfl rfl (by decide) rfl ?_
      refine k_goto (tgt := 55) dX10_where_150 (by decide) ?_
      refine k_msk (L' := [some (.inr (10, some v0)), some (.inl v1), some (.inl v2), some (.inl v3), some (.inl v4), some (.inl (v5 + (1 : Int32))), none, none]) [true, true, true, true, true, true, false, true] rfl ?_
      exact h55 v0 v1 v2 v3 v4 (v5 + (1 : Int32)) g1
    refine k_aloadn (j := 0) dX10_where_78 rfl rfl ?_
    refine k_iloadn (j := 1) dX10_where_79 rfl rfl ?_
    refine k_iload dX10_where_80 rfl ?_
    refine k_iload dX10_where_82 rfl ?_
    refine k_iload dX10_where_84 rfl ?_
    refine k_callVi [.inl v1, .inl v4, .inl v5, .inl v6] (t10_elementAt v0 v1 v4 v5 v6 g1) cw_cX10_elementAt (Or.inl ml_10_145) rfl rfl (by decide) (by decide) (Nat.le_of_ble_eq_true rfl) dX10_where_86 (fun z4 g3 => ?_)
    refine k_iloadn (j := 2) dX10_where_89 rfl rfl ?_
    refine k_icmpne (tgt := 141) dX10_where_90 (by decide) (fun _ => ?_) (fun _ => ?_)
    · refine k_aloadn (j := 0) dX10_where_93 rfl rfl ?_
      refine k_iloadn (j := 1) dX10_where_94 rfl rfl ?_
      refine k_iconst (v := (1 : Int32)) dX10_where_95 rfl ?_
      refine k_callVi [.inl v1, .inl (1 : Int32)] (t10_ofJob v0 v1 (1 : Int32) g3) cw_cX10_ofJob (Or.inl ml_10_133) rfl rfl (by decide) (by decide) (Nat.le_of_ble_eq_true rfl) dX10_where_96 (fun z6 g5 => ?_)
      refine k_iconst (v := (1 : Int32)) dX10_where_99 rfl ?_
      refine k_icmpne (tgt := 108) dX10_where_100 (by decide) (fun _ => ?_) (fun _ => ?_)
      · refine k_iload dX10_where_103 rfl ?_
        refine k_goto (tgt := 117) dX10_where_105 (by decide) ?_
        refine k_msk (L' := [none, none, none, some (.inl v3), none, some (.inl v5), some (.inl v6), none]) [false, false, false, true, false, true, true, true] rfl ?_
        exact t10_where_b117 v3 v5 v6 v4 g5
      refine k_iload dX10_where_108 rfl ?_
      refine k_aloadn (j := 0) dX10_where_110 rfl rfl ?_
      refine k_iloadn (j := 1) dX10_where_111 rfl rfl ?_
      refine k_iconst (v := (0 : Int32)) dX10_where_112 rfl ?_
      refine k_callVi [.inl v1, .inl (0 : Int32)] (t10_ofJob v0 v1 (0 : Int32) g5) cw_cX10_ofJob (Or.inl ml_10_133) rfl rfl (by decide) (by decide) (Nat.le_of_ble_eq_true rfl) dX10_where_113 (fun z8 g7 => ?_)
      refine k_imul dX10_where_116 ?_
      refine k_msk (L' := [none, none, none, some (.inl v3), none, some (.inl v5), some (.inl v6), none]) [false, false, false, true, false, true, true, true] rfl ?_
      exact t10_where_b117 v3 v5 v6 (v4 * z8) g7
    refine k_iinc (v := (v6 + (1 : Int32))) (L' := [some (.inr (10, some v0)), some (.inl v1), some (.inl v2), some (.inl v3), some (.inl v4), some (.inl v5), some (.inl (v6 + (1 : Int32))), none]) dX10_where_141 rfl rfl (by decide) rfl ?_
    refine k_goto (tgt := 68) dX10_where_144 (by decide) ?_
    exact ih v0 v1 v2 v3 v4 v5 (v6 + (1 : Int32)) g3
def f10_where_b55 (c42 : Nat → Int32 → Int32 → Int32 → Int32 → GS_ → Option (Int32 × GS_)) : Nat → Nat → Int32 → Int32 → Int32 → Int32 → Int32 → GS_ → Option (Int32 × GS_)
  | 0, _, _, _, _, _, _, _ => none
  | n + 1, v0, v1, v2, v3, v4, v5, g =>
    bd_ (f10_sidesOf v0 v1 g) fun z10 g9 => if z10 ≤ v5 then c42 v0 v1 v2 v3 (v4 + (1 : Int32)) g9 else f10_where_b68 c42 (f10_where_b55 c42 n) FU_ v0 v1 v2 v3 v4 v5 (0 : Int32) g9
theorem t10_where_b55 (c42 : Nat → Int32 → Int32 → Int32 → Int32 → GS_ → Option (Int32 × GS_)) (h42 : ∀ (v0 : Nat) (v1 : Int32) (v2 : Int32) (v3 : Int32) (v4 : Int32) (g : GS_), K_ RX10 cX10_where 8 (some .int) 5 112 false EI_ 42 [some (.inr (10, some v0)), some (.inl v1), some (.inl v2), some (.inl v3), some (.inl v4), none, none, none] [] g (c42 v0 v1 v2 v3 v4 g)) : ∀ (n : Nat) (v0 : Nat) (v1 : Int32) (v2 : Int32) (v3 : Int32) (v4 : Int32) (v5 : Int32) (g : GS_), K_ RX10 cX10_where 8 (some .int) 5 112 false EI_ 55 [some (.inr (10, some v0)), some (.inl v1), some (.inl v2), some (.inl v3), some (.inl v4), some (.inl v5), none, none] [] g (f10_where_b55 c42 n v0 v1 v2 v3 v4 v5 g) := by
  intro n
  induction n with
  | zero =>
    intro v0 v1 v2 v3 v4 v5 g
    exact k_fail
  | succ n ih =>
    intro v0 v1 v2 v3 v4 v5 g
    show K_ RX10 cX10_where 8 (some .int) 5 112 false EI_ 55 [some (.inr (10, some v0)), some (.inl v1), some (.inl v2), some (.inl v3), some (.inl v4), some (.inl v5), none, none] [] g (bd_ (f10_sidesOf v0 v1 g) fun z10 g9 => if z10 ≤ v5 then c42 v0 v1 v2 v3 (v4 + (1 : Int32)) g9 else f10_where_b68 c42 (f10_where_b55 c42 n) FU_ v0 v1 v2 v3 v4 v5 (0 : Int32) g9)
    refine k_iload dX10_where_55 rfl ?_
    refine k_aloadn (j := 0) dX10_where_57 rfl rfl ?_
    refine k_iloadn (j := 1) dX10_where_58 rfl rfl ?_
    refine k_callVi [.inl v1] (t10_sidesOf v0 v1 g) cw_cX10_sidesOf (Or.inl ml_10_142) rfl rfl (by decide) (by decide) (Nat.le_of_ble_eq_true rfl) dX10_where_59 (fun z10 g9 => ?_)
    refine k_icmpge (tgt := 153) dX10_where_62 (by decide) (fun _ => ?_) (fun _ => ?_)
    · refine k_iinc (v := (v4 + (1 : Int32))) (L' := [some (.inr (10, some v0)), some (.inl v1), some (.inl v2), some (.inl v3), some (.inl (v4 + (1 : Int32))), some (.inl v5), none, none]) dX10_where_153 rfl rfl (by decide) rfl ?_
      refine k_goto (tgt := 42) dX10_where_156 (by decide) ?_
      refine k_msk (L' := [some (.inr (10, some v0)), some (.inl v1), some (.inl v2), some (.inl v3), some (.inl (v4 + (1 : Int32))), none, none, none]) [true, true, true, true, true, false, true, true] rfl ?_
      exact h42 v0 v1 v2 v3 (v4 + (1 : Int32)) g9
    refine k_iconst (v := (0 : Int32)) dX10_where_65 rfl ?_
    refine k_ist (L' := [some (.inr (10, some v0)), some (.inl v1), some (.inl v2), some (.inl v3), some (.inl v4), some (.inl v5), some (.inl (0 : Int32)), none]) dX10_where_66 (by decide) rfl ?_
    exact t10_where_b68 c42 (f10_where_b55 c42 n) h42 ih FU_ v0 v1 v2 v3 v4 v5 (0 : Int32) g9
def f10_where_b42 : Nat → Nat → Int32 → Int32 → Int32 → Int32 → GS_ → Option (Int32 × GS_)
  | 0, _, _, _, _, _, _ => none
  | n + 1, v0, v1, v2, v3, v4, g =>
    bd_ (f10_sheetsOfCopy v0 v1 g) fun z12 g11 => if z12 ≤ v4 then some ((-6 : Int32), g11) else f10_where_b55 (f10_where_b42 n) FU_ v0 v1 v2 v3 v4 (0 : Int32) g11
theorem t10_where_b42 : ∀ (n : Nat) (v0 : Nat) (v1 : Int32) (v2 : Int32) (v3 : Int32) (v4 : Int32) (g : GS_), K_ RX10 cX10_where 8 (some .int) 5 112 false EI_ 42 [some (.inr (10, some v0)), some (.inl v1), some (.inl v2), some (.inl v3), some (.inl v4), none, none, none] [] g (f10_where_b42 n v0 v1 v2 v3 v4 g) := by
  intro n
  induction n with
  | zero =>
    intro v0 v1 v2 v3 v4 g
    exact k_fail
  | succ n ih =>
    intro v0 v1 v2 v3 v4 g
    show K_ RX10 cX10_where 8 (some .int) 5 112 false EI_ 42 [some (.inr (10, some v0)), some (.inl v1), some (.inl v2), some (.inl v3), some (.inl v4), none, none, none] [] g (bd_ (f10_sheetsOfCopy v0 v1 g) fun z12 g11 => if z12 ≤ v4 then some ((-6 : Int32), g11) else f10_where_b55 (f10_where_b42 n) FU_ v0 v1 v2 v3 v4 (0 : Int32) g11)
    refine k_iload dX10_where_42 rfl ?_
    refine k_aloadn (j := 0) dX10_where_44 rfl rfl ?_
    refine k_iloadn (j := 1) dX10_where_45 rfl rfl ?_
    refine k_callVi [.inl v1] (t10_sheetsOfCopy v0 v1 g) cw_cX10_sheetsOfCopy (Or.inl ml_10_130) rfl rfl (by decide) (by decide) (Nat.le_of_ble_eq_true rfl) dX10_where_46 (fun z12 g11 => ?_)
    refine k_icmpge (tgt := 159) dX10_where_49 (by decide) (fun _ => ?_) (fun _ => ?_)
    · refine k_bipush (v := (-6 : Int32)) dX10_where_159 rfl ?_
      exact k_ireturn rfl dX10_where_161
    refine k_iconst (v := (0 : Int32)) dX10_where_52 rfl ?_
    refine k_ist (L' := [some (.inr (10, some v0)), some (.inl v1), some (.inl v2), some (.inl v3), some (.inl v4), some (.inl (0 : Int32)), none, none]) dX10_where_53 (by decide) rfl ?_
    exact t10_where_b55 (f10_where_b42 n) ih FU_ v0 v1 v2 v3 v4 (0 : Int32) g11
def f10_where (v0 : Nat) (v1 : Int32) (v2 : Int32) (v3 : Int32) (g : GS_) : Option (Int32 × GS_) :=
  bd_ (f10_isJob v0 v1 g) fun z14 g13 => if z14 = 0 then some ((-1 : Int32), g13) else bd_ (f10_ofJob v0 v1 (7 : Int32) g13) fun z16 g15 => bd_ (f10_in v2 (0 : Int32) (z16 - (1 : Int32)) g15) fun z18 g17 => if z18 = 0 then some ((-2 : Int32), g17) else bd_ (f10_in v3 (0 : Int32) (2 : Int32) g17) fun z20 g19 => if z20 = 0 then some ((-2 : Int32), g19) else f10_where_b42 FU_ v0 v1 v2 v3 (0 : Int32) g19
theorem t10_where (v0 : Nat) (v1 : Int32) (v2 : Int32) (v3 : Int32) (g : GS_) : Cn_ yX10_where cX10_where 8 (some .int) 5 112 EI_ [.inr (10, some v0), .inl v1, .inl v2, .inl v3] g (f10_where v0 v1 v2 v3 g) := by
  refine k_method (own := RX10) (ini := false) (L1 := [some (.inr (10, some v0)), some (.inl v1), some (.inl v2), some (.inl v3), none, none, none, none]) (by decide +kernel) rfl (fun h => by cases h) (Nat.le_of_ble_eq_true rfl) rfl ?_
  unfold f10_where
  refine k_aloadn (j := 0) dX10_where_0 rfl rfl ?_
  refine k_iloadn (j := 1) dX10_where_1 rfl rfl ?_
  refine k_callVi [.inl v1] (t10_isJob v0 v1 g) cw_cX10_isJob (Or.inl ml_10_149) rfl rfl (by decide) (by decide) (Nat.le_of_ble_eq_true rfl) dX10_where_2 (fun z14 g13 => ?_)
  refine k_ifne (tgt := 10) dX10_where_5 (by decide) (fun _ => ?_) (fun _ => ?_)
  · refine k_iconst (v := (-1 : Int32)) dX10_where_8 rfl ?_
    exact k_ireturn rfl dX10_where_9
  refine k_iloadn (j := 2) dX10_where_10 rfl rfl ?_
  refine k_iconst (v := (0 : Int32)) dX10_where_11 rfl ?_
  refine k_aloadn (j := 0) dX10_where_12 rfl rfl ?_
  refine k_iloadn (j := 1) dX10_where_13 rfl rfl ?_
  refine k_bipush (v := (7 : Int32)) dX10_where_14 rfl ?_
  refine k_callVi [.inl v1, .inl (7 : Int32)] (t10_ofJob v0 v1 (7 : Int32) g13) cw_cX10_ofJob (Or.inl ml_10_133) rfl rfl (by decide) (by decide) (Nat.le_of_ble_eq_true rfl) dX10_where_16 (fun z16 g15 => ?_)
  refine k_iconst (v := (1 : Int32)) dX10_where_19 rfl ?_
  refine k_isub dX10_where_20 ?_
  refine k_callSi [.inl v2, .inl (0 : Int32), .inl (z16 - (1 : Int32))] (t10_in v2 (0 : Int32) (z16 - (1 : Int32)) g15) cw_cX10_in ml_10_44 rfl rfl (by decide) (by decide) (Nat.le_of_ble_eq_true rfl) dX10_where_21 (fun z18 g17 => ?_)
  refine k_ifeq (tgt := 36) dX10_where_24 (by decide) (fun _ => ?_) (fun _ => ?_)
  · refine k_bipush (v := (-2 : Int32)) dX10_where_36 rfl ?_
    exact k_ireturn rfl dX10_where_38
  refine k_iloadn (j := 3) dX10_where_27 rfl rfl ?_
  refine k_iconst (v := (0 : Int32)) dX10_where_28 rfl ?_
  refine k_iconst (v := (2 : Int32)) dX10_where_29 rfl ?_
  refine k_callSi [.inl v3, .inl (0 : Int32), .inl (2 : Int32)] (t10_in v3 (0 : Int32) (2 : Int32) g17) cw_cX10_in ml_10_44 rfl rfl (by decide) (by decide) (Nat.le_of_ble_eq_true rfl) dX10_where_30 (fun z20 g19 => ?_)
  refine k_ifne (tgt := 39) dX10_where_33 (by decide) (fun _ => ?_) (fun _ => ?_)
  · refine k_bipush (v := (-2 : Int32)) dX10_where_36 rfl ?_
    exact k_ireturn rfl dX10_where_38
  refine k_iconst (v := (0 : Int32)) dX10_where_39 rfl ?_
  refine k_ist (L' := [some (.inr (10, some v0)), some (.inl v1), some (.inl v2), some (.inl v3), some (.inl (0 : Int32)), none, none, none]) dX10_where_40 (by decide) rfl ?_
  exact t10_where_b42 FU_ v0 v1 v2 v3 (0 : Int32) g19
theorem dX10_figures_0 : decode cX10_figures 0 = .ok (.iload_n 0, 1) := by decide +kernel
theorem dX10_figures_1 : decode cX10_figures 1 = .ok (.bipush 10, 2) := by decide +kernel
theorem dX10_figures_3 : decode cX10_figures 3 = .ok (.if_icmp .ge 7, 3) := by decide +kernel
theorem dX10_figures_6 : decode cX10_figures 6 = .ok (.iconst 1, 1) := by decide +kernel
theorem dX10_figures_7 : decode cX10_figures 7 = .ok (.goto 14, 3) := by decide +kernel
theorem dX10_figures_10 : decode cX10_figures 10 = .ok (.iload_n 0, 1) := by decide +kernel
theorem dX10_figures_11 : decode cX10_figures 11 = .ok (.bipush 100, 2) := by decide +kernel
theorem dX10_figures_13 : decode cX10_figures 13 = .ok (.if_icmp .ge 7, 3) := by decide +kernel
theorem dX10_figures_16 : decode cX10_figures 16 = .ok (.iconst 2, 1) := by decide +kernel
theorem dX10_figures_17 : decode cX10_figures 17 = .ok (.goto 4, 3) := by decide +kernel
theorem dX10_figures_20 : decode cX10_figures 20 = .ok (.iconst 3, 1) := by decide +kernel
theorem dX10_figures_21 : decode cX10_figures 21 = .ok (.ireturn, 1) := by decide +kernel
def f10_figures (v0 : Int32) (g : GS_) : Option (Int32 × GS_) :=
  if (10 : Int32) ≤ v0 then if (100 : Int32) ≤ v0 then some ((3 : Int32), g) else some ((2 : Int32), g) else some ((1 : Int32), g)
theorem t10_figures (v0 : Int32) (g : GS_) : Cn_ yX10_figures cX10_figures 1 (some .int) 0 0 EI_ [.inl v0] g (f10_figures v0 g) := by
  refine k_method (own := RX10) (ini := false) (L1 := [some (.inl v0)]) (by decide +kernel) rfl (fun h => by cases h) (Nat.le_of_ble_eq_true rfl) rfl ?_
  unfold f10_figures
  refine k_iloadn (j := 0) dX10_figures_0 rfl rfl ?_
  refine k_bipush (v := (10 : Int32)) dX10_figures_1 rfl ?_
  refine k_icmpge (tgt := 10) dX10_figures_3 (by decide) (fun _ => ?_) (fun _ => ?_)
  · refine k_iloadn (j := 0) dX10_figures_10 rfl rfl ?_
    refine k_bipush (v := (100 : Int32)) dX10_figures_11 rfl ?_
    refine k_icmpge (tgt := 20) dX10_figures_13 (by decide) (fun _ => ?_) (fun _ => ?_)
    · refine k_iconst (v := (3 : Int32)) dX10_figures_20 rfl ?_
      exact k_ireturn rfl dX10_figures_21
    refine k_iconst (v := (2 : Int32)) dX10_figures_16 rfl ?_
    refine k_goto (tgt := 21) dX10_figures_17 (by decide) ?_
    exact k_ireturn rfl dX10_figures_21
  refine k_iconst (v := (1 : Int32)) dX10_figures_6 rfl ?_
  refine k_goto (tgt := 21) dX10_figures_7 (by decide) ?_
  exact k_ireturn rfl dX10_figures_21
theorem dX10_signsOf_0 : decode cX10_signsOf 0 = .ok (.aload_n 0, 1) := by decide +kernel
theorem dX10_signsOf_1 : decode cX10_signsOf 1 = .ok (.getfield 16, 3) := by decide +kernel
theorem dX10_signsOf_4 : decode cX10_signsOf 4 = .ok (.sipush 400, 3) := by decide +kernel
theorem dX10_signsOf_7 : decode cX10_signsOf 7 = .ok (.iload_n 1, 1) := by decide +kernel
theorem dX10_signsOf_8 : decode cX10_signsOf 8 = .ok (.imul, 1) := by decide +kernel
theorem dX10_signsOf_9 : decode cX10_signsOf 9 = .ok (.iload_n 2, 1) := by decide +kernel
theorem dX10_signsOf_10 : decode cX10_signsOf 10 = .ok (.iadd, 1) := by decide +kernel
theorem dX10_signsOf_11 : decode cX10_signsOf 11 = .ok (.iaload, 1) := by decide +kernel
theorem dX10_signsOf_12 : decode cX10_signsOf 12 = .ok (.istore 5, 2) := by decide +kernel
theorem dX10_signsOf_14 : decode cX10_signsOf 14 = .ok (.aload_n 0, 1) := by decide +kernel
theorem dX10_signsOf_15 : decode cX10_signsOf 15 = .ok (.getfield 16, 3) := by decide +kernel
theorem dX10_signsOf_18 : decode cX10_signsOf 18 = .ok (.sipush 400, 3) := by decide +kernel
theorem dX10_signsOf_21 : decode cX10_signsOf 21 = .ok (.iload_n 1, 1) := by decide +kernel
theorem dX10_signsOf_22 : decode cX10_signsOf 22 = .ok (.imul, 1) := by decide +kernel
theorem dX10_signsOf_23 : decode cX10_signsOf 23 = .ok (.iload_n 2, 1) := by decide +kernel
theorem dX10_signsOf_24 : decode cX10_signsOf 24 = .ok (.iadd, 1) := by decide +kernel
theorem dX10_signsOf_25 : decode cX10_signsOf 25 = .ok (.iload_n 3, 1) := by decide +kernel
theorem dX10_signsOf_26 : decode cX10_signsOf 26 = .ok (.iadd, 1) := by decide +kernel
theorem dX10_signsOf_27 : decode cX10_signsOf 27 = .ok (.iconst 1, 1) := by decide +kernel
theorem dX10_signsOf_28 : decode cX10_signsOf 28 = .ok (.isub, 1) := by decide +kernel
theorem dX10_signsOf_29 : decode cX10_signsOf 29 = .ok (.iaload, 1) := by decide +kernel
theorem dX10_signsOf_30 : decode cX10_signsOf 30 = .ok (.istore 6, 2) := by decide +kernel
theorem dX10_signsOf_32 : decode cX10_signsOf 32 = .ok (.iload_n 3, 1) := by decide +kernel
theorem dX10_signsOf_33 : decode cX10_signsOf 33 = .ok (.iconst 1, 1) := by decide +kernel
theorem dX10_signsOf_34 : decode cX10_signsOf 34 = .ok (.if_icmp .ne 11, 3) := by decide +kernel
theorem dX10_signsOf_37 : decode cX10_signsOf 37 = .ok (.iload 5, 2) := by decide +kernel
theorem dX10_signsOf_39 : decode cX10_signsOf 39 = .ok (.invokestatic 161, 3) := by decide +kernel
theorem dX10_signsOf_42 : decode cX10_signsOf 42 = .ok (.goto 35, 3) := by decide +kernel
theorem dX10_signsOf_45 : decode cX10_signsOf 45 = .ok (.iload 5, 2) := by decide +kernel
theorem dX10_signsOf_47 : decode cX10_signsOf 47 = .ok (.invokestatic 161, 3) := by decide +kernel
theorem dX10_signsOf_50 : decode cX10_signsOf 50 = .ok (.iconst 1, 1) := by decide +kernel
theorem dX10_signsOf_51 : decode cX10_signsOf 51 = .ok (.iadd, 1) := by decide +kernel
theorem dX10_signsOf_52 : decode cX10_signsOf 52 = .ok (.iload 6, 2) := by decide +kernel
theorem dX10_signsOf_54 : decode cX10_signsOf 54 = .ok (.invokestatic 161, 3) := by decide +kernel
theorem dX10_signsOf_57 : decode cX10_signsOf 57 = .ok (.iadd, 1) := by decide +kernel
theorem dX10_signsOf_58 : decode cX10_signsOf 58 = .ok (.iload 4, 2) := by decide +kernel
theorem dX10_signsOf_60 : decode cX10_signsOf 60 = .ok (.iconst 2, 1) := by decide +kernel
theorem dX10_signsOf_61 : decode cX10_signsOf 61 = .ok (.if_icmp .eq 10, 3) := by decide +kernel
theorem dX10_signsOf_64 : decode cX10_signsOf 64 = .ok (.iload 4, 2) := by decide +kernel
theorem dX10_signsOf_66 : decode cX10_signsOf 66 = .ok (.bipush (-2), 2) := by decide +kernel
theorem dX10_signsOf_68 : decode cX10_signsOf 68 = .ok (.if_icmp .ne 7, 3) := by decide +kernel
theorem dX10_signsOf_71 : decode cX10_signsOf 71 = .ok (.iconst 1, 1) := by decide +kernel
theorem dX10_signsOf_72 : decode cX10_signsOf 72 = .ok (.goto 4, 3) := by decide +kernel
theorem dX10_signsOf_75 : decode cX10_signsOf 75 = .ok (.iconst 0, 1) := by decide +kernel
theorem dX10_signsOf_76 : decode cX10_signsOf 76 = .ok (.iadd, 1) := by decide +kernel
theorem dX10_signsOf_77 : decode cX10_signsOf 77 = .ok (.ireturn, 1) := by decide +kernel
def f10_signsOf_b76 (s0 : Int32) (s1 : Int32) (g : GS_) : Option (Int32 × GS_) :=
  some ((s0 + s1), g)
theorem t10_signsOf_b76 (s0 : Int32) (s1 : Int32) (g : GS_) : K_ RX10 cX10_signsOf 7 (some .int) 1 20 false EI_ 76 [none, none, none, none, none, none, none] [.inl s1, .inl s0] g (f10_signsOf_b76 s0 s1 g) := by
  unfold f10_signsOf_b76
  refine k_iadd dX10_signsOf_76 ?_
  exact k_ireturn rfl dX10_signsOf_77
def f10_signsOf_b71 (s0 : Int32) (g : GS_) : Option (Int32 × GS_) :=
  f10_signsOf_b76 s0 (1 : Int32) g
theorem t10_signsOf_b71 (s0 : Int32) (g : GS_) : K_ RX10 cX10_signsOf 7 (some .int) 1 20 false EI_ 71 [none, none, none, none, none, none, none] [.inl s0] g (f10_signsOf_b71 s0 g) := by
  unfold f10_signsOf_b71
  refine k_iconst (v := (1 : Int32)) dX10_signsOf_71 rfl ?_
  refine k_goto (tgt := 76) dX10_signsOf_72 (by decide) ?_
  exact t10_signsOf_b76 s0 (1 : Int32) g
def f10_signsOf (v0 : Nat) (v1 : Int32) (v2 : Int32) (v3 : Int32) (v4 : Int32) (g : GS_) : Option (Int32 × GS_) :=
  lr_ (gfr g 322 v0) fun x1 => oc_ x1 none fun a2 => if inb (((400 : Int32) * v1) + v2) (gln g 20 a2) then lr_ (gai g 20 a2 (((400 : Int32) * v1) + v2).toInt.toNat) fun z3 => lr_ (gfr g 322 v0) fun x4 => oc_ x4 none fun a5 => if inb (((((400 : Int32) * v1) + v2) + v3) - (1 : Int32)) (gln g 20 a5) then lr_ (gai g 20 a5 (((((400 : Int32) * v1) + v2) + v3) - (1 : Int32)).toInt.toNat) fun z6 => if v3 = (1 : Int32) then bd_ (f10_figures z3 g) fun z8 g7 => some (z8, g7) else bd_ (f10_figures z3 g) fun z10 g9 => bd_ (f10_figures z6 g9) fun z12 g11 => if v4 = (2 : Int32) then f10_signsOf_b71 ((z10 + (1 : Int32)) + z12) g11 else if v4 = (-2 : Int32) then f10_signsOf_b71 ((z10 + (1 : Int32)) + z12) g11 else f10_signsOf_b76 ((z10 + (1 : Int32)) + z12) (0 : Int32) g11 else none else none
theorem t10_signsOf (v0 : Nat) (v1 : Int32) (v2 : Int32) (v3 : Int32) (v4 : Int32) (g : GS_) : Cn_ yX10_signsOf cX10_signsOf 7 (some .int) 1 20 EI_ [.inr (10, some v0), .inl v1, .inl v2, .inl v3, .inl v4] g (f10_signsOf v0 v1 v2 v3 v4 g) := by
  refine k_method (own := RX10) (ini := false) (L1 := [some (.inr (10, some v0)), some (.inl v1), some (.inl v2), some (.inl v3), some (.inl v4), none, none]) (by decide +kernel) rfl (fun h => by cases h) (Nat.le_of_ble_eq_true rfl) rfl ?_
  unfold f10_signsOf
  refine k_aloadn (j := 0) dX10_signsOf_0 rfl rfl ?_
  refine k_getr fg_10_16 rfl rfl dX10_signsOf_1 (fun x1 => ?_)
  refine k_sipush (v := (400 : Int32)) dX10_signsOf_4 rfl ?_
  refine k_iloadn (j := 1) dX10_signsOf_7 rfl rfl ?_
  refine k_imul dX10_signsOf_8 ?_
  refine k_iloadn (j := 2) dX10_signsOf_9 rfl rfl ?_
  refine k_iadd dX10_signsOf_10 ?_
  rcases x1 with _ | a2
  · exact k_ocn
  refine k_ocs ?_
  refine k_iald dX10_signsOf_11 ?_
  refine k_istl (L2 := fun z3 => [some (.inr (10, some v0)), some (.inl v1), some (.inl v2), some (.inl v3), some (.inl v4), some (.inl z3), none]) dX10_signsOf_12 (by decide) (fun _ => rfl) (fun z3 => ?_)
  refine k_aloadn (j := 0) dX10_signsOf_14 rfl rfl ?_
  refine k_getr fg_10_16 rfl rfl dX10_signsOf_15 (fun x4 => ?_)
  refine k_sipush (v := (400 : Int32)) dX10_signsOf_18 rfl ?_
  refine k_iloadn (j := 1) dX10_signsOf_21 rfl rfl ?_
  refine k_imul dX10_signsOf_22 ?_
  refine k_iloadn (j := 2) dX10_signsOf_23 rfl rfl ?_
  refine k_iadd dX10_signsOf_24 ?_
  refine k_iloadn (j := 3) dX10_signsOf_25 rfl rfl ?_
  refine k_iadd dX10_signsOf_26 ?_
  refine k_iconst (v := (1 : Int32)) dX10_signsOf_27 rfl ?_
  refine k_isub dX10_signsOf_28 ?_
  rcases x4 with _ | a5
  · exact k_ocn
  refine k_ocs ?_
  refine k_iald dX10_signsOf_29 ?_
  refine k_istl (L2 := fun z6 => [some (.inr (10, some v0)), some (.inl v1), some (.inl v2), some (.inl v3), some (.inl v4), some (.inl z3), some (.inl z6)]) dX10_signsOf_30 (by decide) (fun _ => rfl) (fun z6 => ?_)
  refine k_iloadn (j := 3) dX10_signsOf_32 rfl rfl ?_
  refine k_iconst (v := (1 : Int32)) dX10_signsOf_33 rfl ?_
  refine k_icmpne (tgt := 45) dX10_signsOf_34 (by decide) (fun _ => ?_) (fun _ => ?_)
  · refine k_iload dX10_signsOf_37 rfl ?_
    refine k_callSi [.inl z3] (t10_figures z3 g) cw_cX10_figures ml_10_161 rfl rfl (by decide) (by decide) (Nat.le_of_ble_eq_true rfl) dX10_signsOf_39 (fun z8 g7 => ?_)
    refine k_goto (tgt := 77) dX10_signsOf_42 (by decide) ?_
    exact k_ireturn rfl dX10_signsOf_77
  refine k_iload dX10_signsOf_45 rfl ?_
  refine k_callSi [.inl z3] (t10_figures z3 g) cw_cX10_figures ml_10_161 rfl rfl (by decide) (by decide) (Nat.le_of_ble_eq_true rfl) dX10_signsOf_47 (fun z10 g9 => ?_)
  refine k_iconst (v := (1 : Int32)) dX10_signsOf_50 rfl ?_
  refine k_iadd dX10_signsOf_51 ?_
  refine k_iload dX10_signsOf_52 rfl ?_
  refine k_callSi [.inl z6] (t10_figures z6 g9) cw_cX10_figures ml_10_161 rfl rfl (by decide) (by decide) (Nat.le_of_ble_eq_true rfl) dX10_signsOf_54 (fun z12 g11 => ?_)
  refine k_iadd dX10_signsOf_57 ?_
  refine k_iload dX10_signsOf_58 rfl ?_
  refine k_iconst (v := (2 : Int32)) dX10_signsOf_60 rfl ?_
  refine k_icmpeq (tgt := 71) dX10_signsOf_61 (by decide) (fun _ => ?_) (fun _ => ?_)
  · refine k_msk (L' := [none, none, none, none, none, none, none]) [false, false, false, false, false, false, false] rfl ?_
    exact t10_signsOf_b71 ((z10 + (1 : Int32)) + z12) g11
  refine k_iload dX10_signsOf_64 rfl ?_
  refine k_bipush (v := (-2 : Int32)) dX10_signsOf_66 rfl ?_
  refine k_icmpne (tgt := 75) dX10_signsOf_68 (by decide) (fun _ => ?_) (fun _ => ?_)
  · refine k_msk (L' := [none, none, none, none, none, none, none]) [false, false, false, false, false, false, false] rfl ?_
    exact t10_signsOf_b71 ((z10 + (1 : Int32)) + z12) g11
  refine k_iconst (v := (0 : Int32)) dX10_signsOf_75 rfl ?_
  refine k_msk (L' := [none, none, none, none, none, none, none]) [false, false, false, false, false, false, false] rfl ?_
  exact t10_signsOf_b76 ((z10 + (1 : Int32)) + z12) (0 : Int32) g11
theorem dX10_takeItem_0 : decode cX10_takeItem 0 = .ok (.iload_n 2, 1) := by decide +kernel
theorem dX10_takeItem_1 : decode cX10_takeItem 1 = .ok (.iload_n 3, 1) := by decide +kernel
theorem dX10_takeItem_2 : decode cX10_takeItem 2 = .ok (.iadd, 1) := by decide +kernel
theorem dX10_takeItem_3 : decode cX10_takeItem 3 = .ok (.istore 5, 2) := by decide +kernel
theorem dX10_takeItem_5 : decode cX10_takeItem 5 = .ok (.iload 5, 2) := by decide +kernel
theorem dX10_takeItem_7 : decode cX10_takeItem 7 = .ok (.aload_n 0, 1) := by decide +kernel
theorem dX10_takeItem_8 : decode cX10_takeItem 8 = .ok (.iload_n 1, 1) := by decide +kernel
theorem dX10_takeItem_9 : decode cX10_takeItem 9 = .ok (.bipush 7, 2) := by decide +kernel
theorem dX10_takeItem_11 : decode cX10_takeItem 11 = .ok (.invokevirtual 133, 3) := by decide +kernel
theorem dX10_takeItem_14 : decode cX10_takeItem 14 = .ok (.if_icmp .ne 7, 3) := by decide +kernel
theorem dX10_takeItem_17 : decode cX10_takeItem 17 = .ok (.iconst 1, 1) := by decide +kernel
theorem dX10_takeItem_18 : decode cX10_takeItem 18 = .ok (.goto 4, 3) := by decide +kernel
theorem dX10_takeItem_21 : decode cX10_takeItem 21 = .ok (.iconst 0, 1) := by decide +kernel
theorem dX10_takeItem_22 : decode cX10_takeItem 22 = .ok (.istore 6, 2) := by decide +kernel
theorem dX10_takeItem_24 : decode cX10_takeItem 24 = .ok (.aload_n 0, 1) := by decide +kernel
theorem dX10_takeItem_25 : decode cX10_takeItem 25 = .ok (.iload_n 1, 1) := by decide +kernel
theorem dX10_takeItem_26 : decode cX10_takeItem 26 = .ok (.iload_n 2, 1) := by decide +kernel
theorem dX10_takeItem_27 : decode cX10_takeItem 27 = .ok (.iload_n 3, 1) := by decide +kernel
theorem dX10_takeItem_28 : decode cX10_takeItem 28 = .ok (.iload 4, 2) := by decide +kernel
theorem dX10_takeItem_30 : decode cX10_takeItem 30 = .ok (.invokevirtual 164, 3) := by decide +kernel
theorem dX10_takeItem_33 : decode cX10_takeItem 33 = .ok (.iload 6, 2) := by decide +kernel
theorem dX10_takeItem_35 : decode cX10_takeItem 35 = .ok (.ifCond .eq 7, 3) := by decide +kernel
theorem dX10_takeItem_38 : decode cX10_takeItem 38 = .ok (.iconst 0, 1) := by decide +kernel
theorem dX10_takeItem_39 : decode cX10_takeItem 39 = .ok (.goto 12, 3) := by decide +kernel
theorem dX10_takeItem_42 : decode cX10_takeItem 42 = .ok (.iconst 1, 1) := by decide +kernel
theorem dX10_takeItem_43 : decode cX10_takeItem 43 = .ok (.aload_n 0, 1) := by decide +kernel
theorem dX10_takeItem_44 : decode cX10_takeItem 44 = .ok (.getfield 32, 3) := by decide +kernel
theorem dX10_takeItem_47 : decode cX10_takeItem 47 = .ok (.iload 5, 2) := by decide +kernel
theorem dX10_takeItem_49 : decode cX10_takeItem 49 = .ok (.iaload, 1) := by decide +kernel
theorem dX10_takeItem_50 : decode cX10_takeItem 50 = .ok (.iadd, 1) := by decide +kernel
theorem dX10_takeItem_51 : decode cX10_takeItem 51 = .ok (.iadd, 1) := by decide +kernel
theorem dX10_takeItem_52 : decode cX10_takeItem 52 = .ok (.istore 7, 2) := by decide +kernel
theorem dX10_takeItem_54 : decode cX10_takeItem 54 = .ok (.iconst 1, 1) := by decide +kernel
theorem dX10_takeItem_55 : decode cX10_takeItem 55 = .ok (.iload 6, 2) := by decide +kernel
theorem dX10_takeItem_57 : decode cX10_takeItem 57 = .ok (.ifCond .eq 7, 3) := by decide +kernel
theorem dX10_takeItem_60 : decode cX10_takeItem 60 = .ok (.iconst 0, 1) := by decide +kernel
theorem dX10_takeItem_61 : decode cX10_takeItem 61 = .ok (.goto 10, 3) := by decide +kernel
theorem dX10_takeItem_64 : decode cX10_takeItem 64 = .ok (.aload_n 0, 1) := by decide +kernel
theorem dX10_takeItem_65 : decode cX10_takeItem 65 = .ok (.getfield 35, 3) := by decide +kernel
theorem dX10_takeItem_68 : decode cX10_takeItem 68 = .ok (.iload 5, 2) := by decide +kernel
theorem dX10_takeItem_70 : decode cX10_takeItem 70 = .ok (.iaload, 1) := by decide +kernel
theorem dX10_takeItem_71 : decode cX10_takeItem 71 = .ok (.iadd, 1) := by decide +kernel
theorem dX10_takeItem_72 : decode cX10_takeItem 72 = .ok (.istore 8, 2) := by decide +kernel
theorem dX10_takeItem_74 : decode cX10_takeItem 74 = .ok (.aload_n 0, 1) := by decide +kernel
theorem dX10_takeItem_75 : decode cX10_takeItem 75 = .ok (.getfield 38, 3) := by decide +kernel
theorem dX10_takeItem_78 : decode cX10_takeItem 78 = .ok (.iload_n 2, 1) := by decide +kernel
theorem dX10_takeItem_79 : decode cX10_takeItem 79 = .ok (.iaload, 1) := by decide +kernel
theorem dX10_takeItem_80 : decode cX10_takeItem 80 = .ok (.ifCond .eq 36, 3) := by decide +kernel
theorem dX10_takeItem_83 : decode cX10_takeItem 83 = .ok (.iload 7, 2) := by decide +kernel
theorem dX10_takeItem_85 : decode cX10_takeItem 85 = .ok (.aload_n 0, 1) := by decide +kernel
theorem dX10_takeItem_86 : decode cX10_takeItem 86 = .ok (.getfield 32, 3) := by decide +kernel
theorem dX10_takeItem_89 : decode cX10_takeItem 89 = .ok (.iload_n 2, 1) := by decide +kernel
theorem dX10_takeItem_90 : decode cX10_takeItem 90 = .ok (.iaload, 1) := by decide +kernel
theorem dX10_takeItem_91 : decode cX10_takeItem 91 = .ok (.if_icmp .lt 25, 3) := by decide +kernel
theorem dX10_takeItem_94 : decode cX10_takeItem 94 = .ok (.iload 7, 2) := by decide +kernel
theorem dX10_takeItem_96 : decode cX10_takeItem 96 = .ok (.aload_n 0, 1) := by decide +kernel
theorem dX10_takeItem_97 : decode cX10_takeItem 97 = .ok (.getfield 32, 3) := by decide +kernel
theorem dX10_takeItem_100 : decode cX10_takeItem 100 = .ok (.iload_n 2, 1) := by decide +kernel
theorem dX10_takeItem_101 : decode cX10_takeItem 101 = .ok (.iaload, 1) := by decide +kernel
theorem dX10_takeItem_102 : decode cX10_takeItem 102 = .ok (.if_icmp .ne 37, 3) := by decide +kernel
theorem dX10_takeItem_105 : decode cX10_takeItem 105 = .ok (.iload 8, 2) := by decide +kernel
theorem dX10_takeItem_107 : decode cX10_takeItem 107 = .ok (.aload_n 0, 1) := by decide +kernel
theorem dX10_takeItem_108 : decode cX10_takeItem 108 = .ok (.getfield 35, 3) := by decide +kernel
theorem dX10_takeItem_111 : decode cX10_takeItem 111 = .ok (.iload_n 2, 1) := by decide +kernel
theorem dX10_takeItem_112 : decode cX10_takeItem 112 = .ok (.iaload, 1) := by decide +kernel
theorem dX10_takeItem_113 : decode cX10_takeItem 113 = .ok (.if_icmp .gt 26, 3) := by decide +kernel
theorem dX10_takeItem_116 : decode cX10_takeItem 116 = .ok (.aload_n 0, 1) := by decide +kernel
theorem dX10_takeItem_117 : decode cX10_takeItem 117 = .ok (.getfield 32, 3) := by decide +kernel
theorem dX10_takeItem_120 : decode cX10_takeItem 120 = .ok (.iload_n 2, 1) := by decide +kernel
theorem dX10_takeItem_121 : decode cX10_takeItem 121 = .ok (.iload 7, 2) := by decide +kernel
theorem dX10_takeItem_123 : decode cX10_takeItem 123 = .ok (.iastore, 1) := by decide +kernel
theorem dX10_takeItem_124 : decode cX10_takeItem 124 = .ok (.aload_n 0, 1) := by decide +kernel
theorem dX10_takeItem_125 : decode cX10_takeItem 125 = .ok (.getfield 35, 3) := by decide +kernel
theorem dX10_takeItem_128 : decode cX10_takeItem 128 = .ok (.iload_n 2, 1) := by decide +kernel
theorem dX10_takeItem_129 : decode cX10_takeItem 129 = .ok (.iload 8, 2) := by decide +kernel
theorem dX10_takeItem_131 : decode cX10_takeItem 131 = .ok (.iastore, 1) := by decide +kernel
theorem dX10_takeItem_132 : decode cX10_takeItem 132 = .ok (.aload_n 0, 1) := by decide +kernel
theorem dX10_takeItem_133 : decode cX10_takeItem 133 = .ok (.getfield 38, 3) := by decide +kernel
theorem dX10_takeItem_136 : decode cX10_takeItem 136 = .ok (.iload_n 2, 1) := by decide +kernel
theorem dX10_takeItem_137 : decode cX10_takeItem 137 = .ok (.iload_n 3, 1) := by decide +kernel
theorem dX10_takeItem_138 : decode cX10_takeItem 138 = .ok (.iastore, 1) := by decide +kernel
theorem dX10_takeItem_139 : decode cX10_takeItem 139 = .ok (.return_, 1) := by decide +kernel
def f10_takeItem_b116 (v0 : Nat) (v2 : Int32) (v3 : Int32) (v7 : Int32) (v8 : Int32) (g : GS_) : Option (Unit × GS_) :=
  lr_ (gfr g 334 v0) fun x1 => oc_ x1 none fun a2 => if inb v2 (gln g 20 a2) then lr_ (sai g 20 a2 v2.toInt.toNat v7) (fun g3 => lr_ (gfr g3 335 v0) fun x4 => oc_ x4 none fun a5 => if inb v2 (gln g3 20 a5) then lr_ (sai g3 20 a5 v2.toInt.toNat v8) (fun g6 => lr_ (gfr g6 336 v0) fun x7 => oc_ x7 none fun a8 => if inb v2 (gln g6 20 a8) then lr_ (sai g6 20 a8 v2.toInt.toNat v3) (fun g9 => some ((), g9)) else none) else none) else none
theorem t10_takeItem_b116 (v0 : Nat) (v2 : Int32) (v3 : Int32) (v7 : Int32) (v8 : Int32) (g : GS_) : K_ RX10 cX10_takeItem 9 none 2 46 false EV_ 116 [some (.inr (10, some v0)), none, some (.inl v2), some (.inl v3), none, none, none, some (.inl v7), some (.inl v8)] [] g (f10_takeItem_b116 v0 v2 v3 v7 v8 g) := by
  unfold f10_takeItem_b116
  refine k_aloadn (j := 0) dX10_takeItem_116 rfl rfl ?_
  refine k_getr fg_10_32 rfl rfl dX10_takeItem_117 (fun x1 => ?_)
  refine k_iloadn (j := 2) dX10_takeItem_120 rfl rfl ?_
  refine k_iload dX10_takeItem_121 rfl ?_
  rcases x1 with _ | a2
  · exact k_ocn
  refine k_ocs ?_
  refine k_iast dX10_takeItem_123 (fun g3 => ?_)
  refine k_aloadn (j := 0) dX10_takeItem_124 rfl rfl ?_
  refine k_getr fg_10_35 rfl rfl dX10_takeItem_125 (fun x4 => ?_)
  refine k_iloadn (j := 2) dX10_takeItem_128 rfl rfl ?_
  refine k_iload dX10_takeItem_129 rfl ?_
  rcases x4 with _ | a5
  · exact k_ocn
  refine k_ocs ?_
  refine k_iast dX10_takeItem_131 (fun g6 => ?_)
  refine k_aloadn (j := 0) dX10_takeItem_132 rfl rfl ?_
  refine k_getr fg_10_38 rfl rfl dX10_takeItem_133 (fun x7 => ?_)
  refine k_iloadn (j := 2) dX10_takeItem_136 rfl rfl ?_
  refine k_iloadn (j := 3) dX10_takeItem_137 rfl rfl ?_
  rcases x7 with _ | a8
  · exact k_ocn
  refine k_ocs ?_
  refine k_iast dX10_takeItem_138 (fun g9 => ?_)
  exact k_return rfl dX10_takeItem_139
def f10_takeItem_b71 (v0 : Nat) (v2 : Int32) (v3 : Int32) (v7 : Int32) (s0 : Int32) (s1 : Int32) (g : GS_) : Option (Unit × GS_) :=
  lr_ (s0 + s1) fun z10 => lr_ (gfr g 336 v0) fun x11 => oc_ x11 none fun a12 => if inb v2 (gln g 20 a12) then if (gai g 20 a12 v2.toInt.toNat) = 0 then f10_takeItem_b116 v0 v2 v3 v7 z10 g else lr_ (gfr g 334 v0) fun x13 => oc_ x13 none fun a14 => if inb v2 (gln g 20 a14) then if v7 < (gai g 20 a14 v2.toInt.toNat) then f10_takeItem_b116 v0 v2 v3 v7 z10 g else lr_ (gfr g 334 v0) fun x15 => oc_ x15 none fun a16 => if inb v2 (gln g 20 a16) then if v7 = (gai g 20 a16 v2.toInt.toNat) then lr_ (gfr g 335 v0) fun x17 => oc_ x17 none fun a18 => if inb v2 (gln g 20 a18) then if (gai g 20 a18 v2.toInt.toNat) < z10 then some ((), g) else f10_takeItem_b116 v0 v2 v3 v7 z10 g else none else some ((), g) else none else none else none
theorem t10_takeItem_b71 (v0 : Nat) (v2 : Int32) (v3 : Int32) (v7 : Int32) (s0 : Int32) (s1 : Int32) (g : GS_) : K_ RX10 cX10_takeItem 9 none 2 46 false EV_ 71 [some (.inr (10, some v0)), none, some (.inl v2), some (.inl v3), none, none, none, some (.inl v7), none] [.inl s1, .inl s0] g (f10_takeItem_b71 v0 v2 v3 v7 s0 s1 g) := by
  unfold f10_takeItem_b71
  refine k_iadd dX10_takeItem_71 ?_
  refine k_istl (L2 := fun z10 => [some (.inr (10, some v0)), none, some (.inl v2), some (.inl v3), none, none, none, some (.inl v7), some (.inl z10)]) dX10_takeItem_72 (by decide) (fun _ => rfl) (fun z10 => ?_)
  refine k_aloadn (j := 0) dX10_takeItem_74 rfl rfl ?_
  refine k_getr fg_10_38 rfl rfl dX10_takeItem_75 (fun x11 => ?_)
  refine k_iloadn (j := 2) dX10_takeItem_78 rfl rfl ?_
  rcases x11 with _ | a12
  · exact k_ocn
  refine k_ocs ?_
  refine k_iald dX10_takeItem_79 ?_
  refine k_ifeq (tgt := 116) dX10_takeItem_80 (by decide) (fun _ => ?_) (fun _ => ?_)
  · exact t10_takeItem_b116 v0 v2 v3 v7 z10 g
  refine k_iload dX10_takeItem_83 rfl ?_
  refine k_aloadn (j := 0) dX10_takeItem_85 rfl rfl ?_
  refine k_getr fg_10_32 rfl rfl dX10_takeItem_86 (fun x13 => ?_)
  refine k_iloadn (j := 2) dX10_takeItem_89 rfl rfl ?_
  rcases x13 with _ | a14
  · exact k_ocn
  refine k_ocs ?_
  refine k_iald dX10_takeItem_90 ?_
  refine k_icmplt (tgt := 116) dX10_takeItem_91 (by decide) (fun _ => ?_) (fun _ => ?_)
  · exact t10_takeItem_b116 v0 v2 v3 v7 z10 g
  refine k_iload dX10_takeItem_94 rfl ?_
  refine k_aloadn (j := 0) dX10_takeItem_96 rfl rfl ?_
  refine k_getr fg_10_32 rfl rfl dX10_takeItem_97 (fun x15 => ?_)
  refine k_iloadn (j := 2) dX10_takeItem_100 rfl rfl ?_
  rcases x15 with _ | a16
  · exact k_ocn
  refine k_ocs ?_
  refine k_iald dX10_takeItem_101 ?_
  refine k_icmpne (tgt := 139) dX10_takeItem_102 (by decide) (fun _ => ?_) (fun _ => ?_)
  · refine k_iload dX10_takeItem_105 rfl ?_
    refine k_aloadn (j := 0) dX10_takeItem_107 rfl rfl ?_
    refine k_getr fg_10_35 rfl rfl dX10_takeItem_108 (fun x17 => ?_)
    refine k_iloadn (j := 2) dX10_takeItem_111 rfl rfl ?_
    rcases x17 with _ | a18
    · exact k_ocn
    refine k_ocs ?_
    refine k_iald dX10_takeItem_112 ?_
    refine k_icmpgt (tgt := 139) dX10_takeItem_113 (by decide) (fun _ => ?_) (fun _ => ?_)
    · exact k_return rfl dX10_takeItem_139
    exact t10_takeItem_b116 v0 v2 v3 v7 z10 g
  exact k_return rfl dX10_takeItem_139
def f10_takeItem_b51 (v0 : Nat) (v2 : Int32) (v3 : Int32) (v5 : Int32) (v6 : Int32) (s0 : Int32) (s1 : Int32) (g : GS_) : Option (Unit × GS_) :=
  lr_ (s0 + s1) fun z19 => if v6 = 0 then lr_ (gfr g 335 v0) fun x20 => oc_ x20 none fun a21 => if inb v5 (gln g 20 a21) then f10_takeItem_b71 v0 v2 v3 z19 (1 : Int32) (gai g 20 a21 v5.toInt.toNat) g else none else f10_takeItem_b71 v0 v2 v3 z19 (1 : Int32) (0 : Int32) g
theorem t10_takeItem_b51 (v0 : Nat) (v2 : Int32) (v3 : Int32) (v5 : Int32) (v6 : Int32) (s0 : Int32) (s1 : Int32) (g : GS_) : K_ RX10 cX10_takeItem 9 none 2 46 false EV_ 51 [some (.inr (10, some v0)), none, some (.inl v2), some (.inl v3), none, some (.inl v5), some (.inl v6), none, none] [.inl s1, .inl s0] g (f10_takeItem_b51 v0 v2 v3 v5 v6 s0 s1 g) := by
  unfold f10_takeItem_b51
  refine k_iadd dX10_takeItem_51 ?_
  refine k_istl (L2 := fun z19 => [some (.inr (10, some v0)), none, some (.inl v2), some (.inl v3), none, some (.inl v5), some (.inl v6), some (.inl z19), none]) dX10_takeItem_52 (by decide) (fun _ => rfl) (fun z19 => ?_)
  refine k_iconst (v := (1 : Int32)) dX10_takeItem_54 rfl ?_
  refine k_iload dX10_takeItem_55 rfl ?_
  refine k_ifeq (tgt := 64) dX10_takeItem_57 (by decide) (fun _ => ?_) (fun _ => ?_)
  · refine k_aloadn (j := 0) dX10_takeItem_64 rfl rfl ?_
    refine k_getr fg_10_35 rfl rfl dX10_takeItem_65 (fun x20 => ?_)
    refine k_iload dX10_takeItem_68 rfl ?_
    rcases x20 with _ | a21
    · exact k_ocn
    refine k_ocs ?_
    refine k_iald dX10_takeItem_70 ?_
    refine k_msk (L' := [some (.inr (10, some v0)), none, some (.inl v2), some (.inl v3), none, none, none, some (.inl z19), none]) [true, true, true, true, true, false, false, true, true] rfl ?_
    exact t10_takeItem_b71 v0 v2 v3 z19 (1 : Int32) (gai g 20 a21 v5.toInt.toNat) g
  refine k_iconst (v := (0 : Int32)) dX10_takeItem_60 rfl ?_
  refine k_goto (tgt := 71) dX10_takeItem_61 (by decide) ?_
  refine k_msk (L' := [some (.inr (10, some v0)), none, some (.inl v2), some (.inl v3), none, none, none, some (.inl z19), none]) [true, true, true, true, true, false, false, true, true] rfl ?_
  exact t10_takeItem_b71 v0 v2 v3 z19 (1 : Int32) (0 : Int32) g
def f10_takeItem_b22 (v0 : Nat) (v1 : Int32) (v2 : Int32) (v3 : Int32) (v4 : Int32) (v5 : Int32) (s0 : Int32) (g : GS_) : Option (Unit × GS_) :=
  bd_ (f10_signsOf v0 v1 v2 v3 v4 g) fun z23 g22 => if s0 = 0 then lr_ (gfr g22 334 v0) fun x24 => oc_ x24 none fun a25 => if inb v5 (gln g22 20 a25) then f10_takeItem_b51 v0 v2 v3 v5 s0 z23 ((1 : Int32) + (gai g22 20 a25 v5.toInt.toNat)) g22 else none else f10_takeItem_b51 v0 v2 v3 v5 s0 z23 (0 : Int32) g22
theorem t10_takeItem_b22 (v0 : Nat) (v1 : Int32) (v2 : Int32) (v3 : Int32) (v4 : Int32) (v5 : Int32) (s0 : Int32) (g : GS_) : K_ RX10 cX10_takeItem 9 none 2 46 false EV_ 22 [some (.inr (10, some v0)), some (.inl v1), some (.inl v2), some (.inl v3), some (.inl v4), some (.inl v5), none, none, none] [.inl s0] g (f10_takeItem_b22 v0 v1 v2 v3 v4 v5 s0 g) := by
  unfold f10_takeItem_b22
  refine k_ist (L' := [some (.inr (10, some v0)), some (.inl v1), some (.inl v2), some (.inl v3), some (.inl v4), some (.inl v5), some (.inl s0), none, none]) dX10_takeItem_22 (by decide) rfl ?_
  refine k_aloadn (j := 0) dX10_takeItem_24 rfl rfl ?_
  refine k_iloadn (j := 1) dX10_takeItem_25 rfl rfl ?_
  refine k_iloadn (j := 2) dX10_takeItem_26 rfl rfl ?_
  refine k_iloadn (j := 3) dX10_takeItem_27 rfl rfl ?_
  refine k_iload dX10_takeItem_28 rfl ?_
  refine k_callVi [.inl v1, .inl v2, .inl v3, .inl v4] (t10_signsOf v0 v1 v2 v3 v4 g) cw_cX10_signsOf (Or.inl ml_10_164) rfl rfl (by decide) (by decide) (Nat.le_of_ble_eq_true rfl) dX10_takeItem_30 (fun z23 g22 => ?_)
  refine k_iload dX10_takeItem_33 rfl ?_
  refine k_ifeq (tgt := 42) dX10_takeItem_35 (by decide) (fun _ => ?_) (fun _ => ?_)
  · refine k_iconst (v := (1 : Int32)) dX10_takeItem_42 rfl ?_
    refine k_aloadn (j := 0) dX10_takeItem_43 rfl rfl ?_
    refine k_getr fg_10_32 rfl rfl dX10_takeItem_44 (fun x24 => ?_)
    refine k_iload dX10_takeItem_47 rfl ?_
    rcases x24 with _ | a25
    · exact k_ocn
    refine k_ocs ?_
    refine k_iald dX10_takeItem_49 ?_
    refine k_iadd dX10_takeItem_50 ?_
    refine k_msk (L' := [some (.inr (10, some v0)), none, some (.inl v2), some (.inl v3), none, some (.inl v5), some (.inl s0), none, none]) [true, false, true, true, false, true, true, true, true] rfl ?_
    exact t10_takeItem_b51 v0 v2 v3 v5 s0 z23 ((1 : Int32) + (gai g22 20 a25 v5.toInt.toNat)) g22
  refine k_iconst (v := (0 : Int32)) dX10_takeItem_38 rfl ?_
  refine k_goto (tgt := 51) dX10_takeItem_39 (by decide) ?_
  refine k_msk (L' := [some (.inr (10, some v0)), none, some (.inl v2), some (.inl v3), none, some (.inl v5), some (.inl s0), none, none]) [true, false, true, true, false, true, true, true, true] rfl ?_
  exact t10_takeItem_b51 v0 v2 v3 v5 s0 z23 (0 : Int32) g22
def f10_takeItem (v0 : Nat) (v1 : Int32) (v2 : Int32) (v3 : Int32) (v4 : Int32) (g : GS_) : Option (Unit × GS_) :=
  lr_ (v2 + v3) fun z26 => bd_ (f10_ofJob v0 v1 (7 : Int32) g) fun z28 g27 => if z26 = z28 then f10_takeItem_b22 v0 v1 v2 v3 v4 z26 (1 : Int32) g27 else f10_takeItem_b22 v0 v1 v2 v3 v4 z26 (0 : Int32) g27
theorem t10_takeItem (v0 : Nat) (v1 : Int32) (v2 : Int32) (v3 : Int32) (v4 : Int32) (g : GS_) : Cn_ yX10_takeItem cX10_takeItem 9 none 2 46 EV_ [.inr (10, some v0), .inl v1, .inl v2, .inl v3, .inl v4] g (f10_takeItem v0 v1 v2 v3 v4 g) := by
  refine k_method (own := RX10) (ini := false) (L1 := [some (.inr (10, some v0)), some (.inl v1), some (.inl v2), some (.inl v3), some (.inl v4), none, none, none, none]) (by decide +kernel) rfl (fun h => by cases h) (Nat.le_of_ble_eq_true rfl) rfl ?_
  unfold f10_takeItem
  refine k_iloadn (j := 2) dX10_takeItem_0 rfl rfl ?_
  refine k_iloadn (j := 3) dX10_takeItem_1 rfl rfl ?_
  refine k_iadd dX10_takeItem_2 ?_
  refine k_istl (L2 := fun z26 => [some (.inr (10, some v0)), some (.inl v1), some (.inl v2), some (.inl v3), some (.inl v4), some (.inl z26), none, none, none]) dX10_takeItem_3 (by decide) (fun _ => rfl) (fun z26 => ?_)
  refine k_iload dX10_takeItem_5 rfl ?_
  refine k_aloadn (j := 0) dX10_takeItem_7 rfl rfl ?_
  refine k_iloadn (j := 1) dX10_takeItem_8 rfl rfl ?_
  refine k_bipush (v := (7 : Int32)) dX10_takeItem_9 rfl ?_
  refine k_callVi [.inl v1, .inl (7 : Int32)] (t10_ofJob v0 v1 (7 : Int32) g) cw_cX10_ofJob (Or.inl ml_10_133) rfl rfl (by decide) (by decide) (Nat.le_of_ble_eq_true rfl) dX10_takeItem_11 (fun z28 g27 => ?_)
  refine k_icmpne (tgt := 21) dX10_takeItem_14 (by decide) (fun _ => ?_) (fun _ => ?_)
  · refine k_iconst (v := (1 : Int32)) dX10_takeItem_17 rfl ?_
    refine k_goto (tgt := 22) dX10_takeItem_18 (by decide) ?_
    exact t10_takeItem_b22 v0 v1 v2 v3 v4 z26 (1 : Int32) g27
  refine k_iconst (v := (0 : Int32)) dX10_takeItem_21 rfl ?_
  exact t10_takeItem_b22 v0 v1 v2 v3 v4 z26 (0 : Int32) g27
theorem dX10_stepAt_0 : decode cX10_stepAt 0 = .ok (.aload_n 0, 1) := by decide +kernel
theorem dX10_stepAt_1 : decode cX10_stepAt 1 = .ok (.getfield 16, 3) := by decide +kernel
theorem dX10_stepAt_4 : decode cX10_stepAt 4 = .ok (.sipush 400, 3) := by decide +kernel
theorem dX10_stepAt_7 : decode cX10_stepAt 7 = .ok (.iload_n 1, 1) := by decide +kernel
theorem dX10_stepAt_8 : decode cX10_stepAt 8 = .ok (.imul, 1) := by decide +kernel
theorem dX10_stepAt_9 : decode cX10_stepAt 9 = .ok (.iload_n 2, 1) := by decide +kernel
theorem dX10_stepAt_10 : decode cX10_stepAt 10 = .ok (.iadd, 1) := by decide +kernel
theorem dX10_stepAt_11 : decode cX10_stepAt 11 = .ok (.iconst 1, 1) := by decide +kernel
theorem dX10_stepAt_12 : decode cX10_stepAt 12 = .ok (.iadd, 1) := by decide +kernel
theorem dX10_stepAt_13 : decode cX10_stepAt 13 = .ok (.iaload, 1) := by decide +kernel
theorem dX10_stepAt_14 : decode cX10_stepAt 14 = .ok (.aload_n 0, 1) := by decide +kernel
theorem dX10_stepAt_15 : decode cX10_stepAt 15 = .ok (.getfield 16, 3) := by decide +kernel
theorem dX10_stepAt_18 : decode cX10_stepAt 18 = .ok (.sipush 400, 3) := by decide +kernel
theorem dX10_stepAt_21 : decode cX10_stepAt 21 = .ok (.iload_n 1, 1) := by decide +kernel
theorem dX10_stepAt_22 : decode cX10_stepAt 22 = .ok (.imul, 1) := by decide +kernel
theorem dX10_stepAt_23 : decode cX10_stepAt 23 = .ok (.iload_n 2, 1) := by decide +kernel
theorem dX10_stepAt_24 : decode cX10_stepAt 24 = .ok (.iadd, 1) := by decide +kernel
theorem dX10_stepAt_25 : decode cX10_stepAt 25 = .ok (.iaload, 1) := by decide +kernel
theorem dX10_stepAt_26 : decode cX10_stepAt 26 = .ok (.isub, 1) := by decide +kernel
theorem dX10_stepAt_27 : decode cX10_stepAt 27 = .ok (.ireturn, 1) := by decide +kernel
def f10_stepAt (v0 : Nat) (v1 : Int32) (v2 : Int32) (g : GS_) : Option (Int32 × GS_) :=
  lr_ (gfr g 322 v0) fun x1 => oc_ x1 none fun a2 => if inb ((((400 : Int32) * v1) + v2) + (1 : Int32)) (gln g 20 a2) then lr_ (gfr g 322 v0) fun x3 => oc_ x3 none fun a4 => if inb (((400 : Int32) * v1) + v2) (gln g 20 a4) then some (((gai g 20 a2 ((((400 : Int32) * v1) + v2) + (1 : Int32)).toInt.toNat) - (gai g 20 a4 (((400 : Int32) * v1) + v2).toInt.toNat)), g) else none else none
theorem t10_stepAt (v0 : Nat) (v1 : Int32) (v2 : Int32) (g : GS_) : Cn_ yX10_stepAt cX10_stepAt 3 (some .int) 0 0 EI_ [.inr (10, some v0), .inl v1, .inl v2] g (f10_stepAt v0 v1 v2 g) := by
  refine k_method (own := RX10) (ini := false) (L1 := [some (.inr (10, some v0)), some (.inl v1), some (.inl v2)]) (by decide +kernel) rfl (fun h => by cases h) (Nat.le_of_ble_eq_true rfl) rfl ?_
  unfold f10_stepAt
  refine k_aloadn (j := 0) dX10_stepAt_0 rfl rfl ?_
  refine k_getr fg_10_16 rfl rfl dX10_stepAt_1 (fun x1 => ?_)
  refine k_sipush (v := (400 : Int32)) dX10_stepAt_4 rfl ?_
  refine k_iloadn (j := 1) dX10_stepAt_7 rfl rfl ?_
  refine k_imul dX10_stepAt_8 ?_
  refine k_iloadn (j := 2) dX10_stepAt_9 rfl rfl ?_
  refine k_iadd dX10_stepAt_10 ?_
  refine k_iconst (v := (1 : Int32)) dX10_stepAt_11 rfl ?_
  refine k_iadd dX10_stepAt_12 ?_
  rcases x1 with _ | a2
  · exact k_ocn
  refine k_ocs ?_
  refine k_iald dX10_stepAt_13 ?_
  refine k_aloadn (j := 0) dX10_stepAt_14 rfl rfl ?_
  refine k_getr fg_10_16 rfl rfl dX10_stepAt_15 (fun x3 => ?_)
  refine k_sipush (v := (400 : Int32)) dX10_stepAt_18 rfl ?_
  refine k_iloadn (j := 1) dX10_stepAt_21 rfl rfl ?_
  refine k_imul dX10_stepAt_22 ?_
  refine k_iloadn (j := 2) dX10_stepAt_23 rfl rfl ?_
  refine k_iadd dX10_stepAt_24 ?_
  rcases x3 with _ | a4
  · exact k_ocn
  refine k_ocs ?_
  refine k_iald dX10_stepAt_25 ?_
  refine k_isub dX10_stepAt_26 ?_
  exact k_ireturn rfl dX10_stepAt_27
theorem dX10_layText_0 : decode cX10_layText 0 = .ok (.aload_n 0, 1) := by decide +kernel
theorem dX10_layText_1 : decode cX10_layText 1 = .ok (.iload_n 1, 1) := by decide +kernel
theorem dX10_layText_2 : decode cX10_layText 2 = .ok (.bipush 7, 2) := by decide +kernel
theorem dX10_layText_4 : decode cX10_layText 4 = .ok (.invokevirtual 133, 3) := by decide +kernel
theorem dX10_layText_7 : decode cX10_layText 7 = .ok (.istore_n 2, 1) := by decide +kernel
theorem dX10_layText_8 : decode cX10_layText 8 = .ok (.iload_n 2, 1) := by decide +kernel
theorem dX10_layText_9 : decode cX10_layText 9 = .ok (.iconst 1, 1) := by decide +kernel
theorem dX10_layText_10 : decode cX10_layText 10 = .ok (.isub, 1) := by decide +kernel
theorem dX10_layText_11 : decode cX10_layText 11 = .ok (.istore_n 3, 1) := by decide +kernel
theorem dX10_layText_12 : decode cX10_layText 12 = .ok (.iload_n 3, 1) := by decide +kernel
theorem dX10_layText_13 : decode cX10_layText 13 = .ok (.ifCond .lt 129, 3) := by decide +kernel
theorem dX10_layText_16 : decode cX10_layText 16 = .ok (.aload_n 0, 1) := by decide +kernel
theorem dX10_layText_17 : decode cX10_layText 17 = .ok (.getfield 38, 3) := by decide +kernel
theorem dX10_layText_20 : decode cX10_layText 20 = .ok (.iload_n 3, 1) := by decide +kernel
theorem dX10_layText_21 : decode cX10_layText 21 = .ok (.iconst 0, 1) := by decide +kernel
theorem dX10_layText_22 : decode cX10_layText 22 = .ok (.iastore, 1) := by decide +kernel
theorem dX10_layText_23 : decode cX10_layText 23 = .ok (.aload_n 0, 1) := by decide +kernel
theorem dX10_layText_24 : decode cX10_layText 24 = .ok (.iload_n 1, 1) := by decide +kernel
theorem dX10_layText_25 : decode cX10_layText 25 = .ok (.iload_n 3, 1) := by decide +kernel
theorem dX10_layText_26 : decode cX10_layText 26 = .ok (.iconst 1, 1) := by decide +kernel
theorem dX10_layText_27 : decode cX10_layText 27 = .ok (.iconst 0, 1) := by decide +kernel
theorem dX10_layText_28 : decode cX10_layText 28 = .ok (.invokevirtual 167, 3) := by decide +kernel
theorem dX10_layText_31 : decode cX10_layText 31 = .ok (.iload_n 3, 1) := by decide +kernel
theorem dX10_layText_32 : decode cX10_layText 32 = .ok (.iconst 1, 1) := by decide +kernel
theorem dX10_layText_33 : decode cX10_layText 33 = .ok (.iadd, 1) := by decide +kernel
theorem dX10_layText_34 : decode cX10_layText 34 = .ok (.iload_n 2, 1) := by decide +kernel
theorem dX10_layText_35 : decode cX10_layText 35 = .ok (.if_icmp .ge 12, 3) := by decide +kernel
theorem dX10_layText_38 : decode cX10_layText 38 = .ok (.aload_n 0, 1) := by decide +kernel
theorem dX10_layText_39 : decode cX10_layText 39 = .ok (.iload_n 1, 1) := by decide +kernel
theorem dX10_layText_40 : decode cX10_layText 40 = .ok (.iload_n 3, 1) := by decide +kernel
theorem dX10_layText_41 : decode cX10_layText 41 = .ok (.invokevirtual 171, 3) := by decide +kernel
theorem dX10_layText_44 : decode cX10_layText 44 = .ok (.goto 4, 3) := by decide +kernel
theorem dX10_layText_47 : decode cX10_layText 47 = .ok (.iconst 0, 1) := by decide +kernel
theorem dX10_layText_48 : decode cX10_layText 48 = .ok (.istore 4, 2) := by decide +kernel
theorem dX10_layText_50 : decode cX10_layText 50 = .ok (.iload 4, 2) := by decide +kernel
theorem dX10_layText_52 : decode cX10_layText 52 = .ok (.ifCond .eq 18, 3) := by decide +kernel
theorem dX10_layText_55 : decode cX10_layText 55 = .ok (.iload 4, 2) := by decide +kernel
theorem dX10_layText_57 : decode cX10_layText 57 = .ok (.bipush (-2), 2) := by decide +kernel
theorem dX10_layText_59 : decode cX10_layText 59 = .ok (.iconst 2, 1) := by decide +kernel
theorem dX10_layText_60 : decode cX10_layText 60 = .ok (.invokestatic 44, 3) := by decide +kernel
theorem dX10_layText_63 : decode cX10_layText 63 = .ok (.ifCond .eq 7, 3) := by decide +kernel
theorem dX10_layText_66 : decode cX10_layText 66 = .ok (.iconst 1, 1) := by decide +kernel
theorem dX10_layText_67 : decode cX10_layText 67 = .ok (.goto 4, 3) := by decide +kernel
theorem dX10_layText_70 : decode cX10_layText 70 = .ok (.iconst 0, 1) := by decide +kernel
theorem dX10_layText_71 : decode cX10_layText 71 = .ok (.istore 5, 2) := by decide +kernel
theorem dX10_layText_73 : decode cX10_layText 73 = .ok (.iconst 2, 1) := by decide +kernel
theorem dX10_layText_74 : decode cX10_layText 74 = .ok (.istore 6, 2) := by decide +kernel
theorem dX10_layText_76 : decode cX10_layText 76 = .ok (.iload_n 3, 1) := by decide +kernel
theorem dX10_layText_77 : decode cX10_layText 77 = .ok (.iload 6, 2) := by decide +kernel
theorem dX10_layText_79 : decode cX10_layText 79 = .ok (.iadd, 1) := by decide +kernel
theorem dX10_layText_80 : decode cX10_layText 80 = .ok (.iload_n 2, 1) := by decide +kernel
theorem dX10_layText_81 : decode cX10_layText 81 = .ok (.if_icmp .gt 55, 3) := by decide +kernel
theorem dX10_layText_84 : decode cX10_layText 84 = .ok (.iload 5, 2) := by decide +kernel
theorem dX10_layText_86 : decode cX10_layText 86 = .ok (.ifCond .eq 50, 3) := by decide +kernel
theorem dX10_layText_89 : decode cX10_layText 89 = .ok (.aload_n 0, 1) := by decide +kernel
theorem dX10_layText_90 : decode cX10_layText 90 = .ok (.iload_n 1, 1) := by decide +kernel
theorem dX10_layText_91 : decode cX10_layText 91 = .ok (.iload_n 3, 1) := by decide +kernel
theorem dX10_layText_92 : decode cX10_layText 92 = .ok (.iload 6, 2) := by decide +kernel
theorem dX10_layText_94 : decode cX10_layText 94 = .ok (.iload 4, 2) := by decide +kernel
theorem dX10_layText_96 : decode cX10_layText 96 = .ok (.invokevirtual 167, 3) := by decide +kernel
theorem dX10_layText_99 : decode cX10_layText 99 = .ok (.iload_n 3, 1) := by decide +kernel
theorem dX10_layText_100 : decode cX10_layText 100 = .ok (.iload 6, 2) := by decide +kernel
theorem dX10_layText_102 : decode cX10_layText 102 = .ok (.iadd, 1) := by decide +kernel
theorem dX10_layText_103 : decode cX10_layText 103 = .ok (.iload_n 2, 1) := by decide +kernel
theorem dX10_layText_104 : decode cX10_layText 104 = .ok (.if_icmp .ge 23, 3) := by decide +kernel
theorem dX10_layText_107 : decode cX10_layText 107 = .ok (.aload_n 0, 1) := by decide +kernel
theorem dX10_layText_108 : decode cX10_layText 108 = .ok (.iload_n 1, 1) := by decide +kernel
theorem dX10_layText_109 : decode cX10_layText 109 = .ok (.iload_n 3, 1) := by decide +kernel
theorem dX10_layText_110 : decode cX10_layText 110 = .ok (.iload 6, 2) := by decide +kernel
theorem dX10_layText_112 : decode cX10_layText 112 = .ok (.iadd, 1) := by decide +kernel
theorem dX10_layText_113 : decode cX10_layText 113 = .ok (.iconst 1, 1) := by decide +kernel
theorem dX10_layText_114 : decode cX10_layText 114 = .ok (.isub, 1) := by decide +kernel
theorem dX10_layText_115 : decode cX10_layText 115 = .ok (.invokevirtual 171, 3) := by decide +kernel
theorem dX10_layText_118 : decode cX10_layText 118 = .ok (.iload 4, 2) := by decide +kernel
theorem dX10_layText_120 : decode cX10_layText 120 = .ok (.if_icmp .ne 7, 3) := by decide +kernel
theorem dX10_layText_123 : decode cX10_layText 123 = .ok (.iconst 1, 1) := by decide +kernel
theorem dX10_layText_124 : decode cX10_layText 124 = .ok (.goto 4, 3) := by decide +kernel
theorem dX10_layText_127 : decode cX10_layText 127 = .ok (.iconst 0, 1) := by decide +kernel
theorem dX10_layText_128 : decode cX10_layText 128 = .ok (.istore 5, 2) := by decide +kernel
theorem dX10_layText_130 : decode cX10_layText 130 = .ok (.iinc 6 1, 3) := by decide +kernel
theorem dX10_layText_133 : decode cX10_layText 133 = .ok (.goto (-57), 3) := by decide +kernel
theorem dX10_layText_136 : decode cX10_layText 136 = .ok (.iinc 3 (-1), 3) := by decide +kernel
theorem dX10_layText_139 : decode cX10_layText 139 = .ok (.goto (-127), 3) := by decide +kernel
theorem dX10_layText_142 : decode cX10_layText 142 = .ok (.return_, 1) := by decide +kernel
def f10_layText_b136 (c12 : Nat → Int32 → Int32 → Int32 → GS_ → Option (Unit × GS_)) (v0 : Nat) (v1 : Int32) (v2 : Int32) (v3 : Int32) (g : GS_) : Option (Unit × GS_) :=
  c12 v0 v1 v2 (v3 + (-1 : Int32)) g
theorem t10_layText_b136 (c12 : Nat → Int32 → Int32 → Int32 → GS_ → Option (Unit × GS_)) (h12 : ∀ (v0 : Nat) (v1 : Int32) (v2 : Int32) (v3 : Int32) (g : GS_), K_ RX10 cX10_layText 7 none 3 74 false EV_ 12 [some (.inr (10, some v0)), some (.inl v1), some (.inl v2), some (.inl v3), none, none, none] [] g (c12 v0 v1 v2 v3 g)) (v0 : Nat) (v1 : Int32) (v2 : Int32) (v3 : Int32) (g : GS_) : K_ RX10 cX10_layText 7 none 3 74 false EV_ 136 [some (.inr (10, some v0)), some (.inl v1), some (.inl v2), some (.inl v3), none, none, none] [] g (f10_layText_b136 c12 v0 v1 v2 v3 g) := by
  unfold f10_layText_b136
  refine k_iinc (v := (v3 + (-1 : Int32))) (L' := [some (.inr (10, some v0)), some (.inl v1), some (.inl v2), some (.inl (v3 + (-1 : Int32))), none, none, none]) dX10_layText_136 rfl rfl (by decide) rfl ?_
  refine k_goto (tgt := 12) dX10_layText_139 (by decide) ?_
  exact h12 v0 v1 v2 (v3 + (-1 : Int32)) g
def f10_layText_b128 (c12 : Nat → Int32 → Int32 → Int32 → GS_ → Option (Unit × GS_)) (c76 : Nat → Int32 → Int32 → Int32 → Int32 → Int32 → Int32 → GS_ → Option (Unit × GS_)) (v0 : Nat) (v1 : Int32) (v2 : Int32) (v3 : Int32) (v4 : Int32) (v6 : Int32) (s0 : Int32) (g : GS_) : Option (Unit × GS_) :=
  c76 v0 v1 v2 v3 v4 s0 (v6 + (1 : Int32)) g
theorem t10_layText_b128 (c12 : Nat → Int32 → Int32 → Int32 → GS_ → Option (Unit × GS_)) (c76 : Nat → Int32 → Int32 → Int32 → Int32 → Int32 → Int32 → GS_ → Option (Unit × GS_)) (h12 : ∀ (v0 : Nat) (v1 : Int32) (v2 : Int32) (v3 : Int32) (g : GS_), K_ RX10 cX10_layText 7 none 3 74 false EV_ 12 [some (.inr (10, some v0)), some (.inl v1), some (.inl v2), some (.inl v3), none, none, none] [] g (c12 v0 v1 v2 v3 g)) (h76 : ∀ (v0 : Nat) (v1 : Int32) (v2 : Int32) (v3 : Int32) (v4 : Int32) (v5 : Int32) (v6 : Int32) (g : GS_), K_ RX10 cX10_layText 7 none 3 74 false EV_ 76 [some (.inr (10, some v0)), some (.inl v1), some (.inl v2), some (.inl v3), some (.inl v4), some (.inl v5), some (.inl v6)] [] g (c76 v0 v1 v2 v3 v4 v5 v6 g)) (v0 : Nat) (v1 : Int32) (v2 : Int32) (v3 : Int32) (v4 : Int32) (v6 : Int32) (s0 : Int32) (g : GS_) : K_ RX10 cX10_layText 7 none 3 74 false EV_ 128 [some (.inr (10, some v0)), some (.inl v1), some (.inl v2), some (.inl v3), some (.inl v4), none, some (.inl v6)] [.inl s0] g (f10_layText_b128 c12 c76 v0 v1 v2 v3 v4 v6 s0 g) := by
  unfold f10_layText_b128
  refine k_ist (L' := [some (.inr (10, some v0)), some (.inl v1), some (.inl v2), some (.inl v3), some (.inl v4), some (.inl s0), some (.inl v6)]) dX10_layText_128 (by decide) rfl ?_
  refine k_iinc (v := (v6 + (1 : Int32))) (L' := [some (.inr (10, some v0)), some (.inl v1), some (.inl v2), some (.inl v3), some (.inl v4), some (.inl s0), some (.inl (v6 + (1 : Int32)))]) dX10_layText_130 rfl rfl (by decide) rfl ?_
  refine k_goto (tgt := 76) dX10_layText_133 (by decide) ?_
  exact h76 v0 v1 v2 v3 v4 s0 (v6 + (1 : Int32)) g
def f10_layText_b127 (c12 : Nat → Int32 → Int32 → Int32 → GS_ → Option (Unit × GS_)) (c76 : Nat → Int32 → Int32 → Int32 → Int32 → Int32 → Int32 → GS_ → Option (Unit × GS_)) (v0 : Nat) (v1 : Int32) (v2 : Int32) (v3 : Int32) (v4 : Int32) (v6 : Int32) (g : GS_) : Option (Unit × GS_) :=
  f10_layText_b128 c12 c76 v0 v1 v2 v3 v4 v6 (0 : Int32) g
theorem t10_layText_b127 (c12 : Nat → Int32 → Int32 → Int32 → GS_ → Option (Unit × GS_)) (c76 : Nat → Int32 → Int32 → Int32 → Int32 → Int32 → Int32 → GS_ → Option (Unit × GS_)) (h12 : ∀ (v0 : Nat) (v1 : Int32) (v2 : Int32) (v3 : Int32) (g : GS_), K_ RX10 cX10_layText 7 none 3 74 false EV_ 12 [some (.inr (10, some v0)), some (.inl v1), some (.inl v2), some (.inl v3), none, none, none] [] g (c12 v0 v1 v2 v3 g)) (h76 : ∀ (v0 : Nat) (v1 : Int32) (v2 : Int32) (v3 : Int32) (v4 : Int32) (v5 : Int32) (v6 : Int32) (g : GS_), K_ RX10 cX10_layText 7 none 3 74 false EV_ 76 [some (.inr (10, some v0)), some (.inl v1), some (.inl v2), some (.inl v3), some (.inl v4), some (.inl v5), some (.inl v6)] [] g (c76 v0 v1 v2 v3 v4 v5 v6 g)) (v0 : Nat) (v1 : Int32) (v2 : Int32) (v3 : Int32) (v4 : Int32) (v6 : Int32) (g : GS_) : K_ RX10 cX10_layText 7 none 3 74 false EV_ 127 [some (.inr (10, some v0)), some (.inl v1), some (.inl v2), some (.inl v3), some (.inl v4), none, some (.inl v6)] [] g (f10_layText_b127 c12 c76 v0 v1 v2 v3 v4 v6 g) := by
  unfold f10_layText_b127
  refine k_iconst (v := (0 : Int32)) dX10_layText_127 rfl ?_
  exact t10_layText_b128 c12 c76 h12 h76 v0 v1 v2 v3 v4 v6 (0 : Int32) g
def f10_layText_b76 (c12 : Nat → Int32 → Int32 → Int32 → GS_ → Option (Unit × GS_)) : Nat → Nat → Int32 → Int32 → Int32 → Int32 → Int32 → Int32 → GS_ → Option (Unit × GS_)
  | 0, _, _, _, _, _, _, _, _ => none
  | n + 1, v0, v1, v2, v3, v4, v5, v6, g =>
    if v2 < (v3 + v6) then f10_layText_b136 c12 v0 v1 v2 v3 g else if v5 = 0 then f10_layText_b136 c12 v0 v1 v2 v3 g else bd_ (f10_takeItem v0 v1 v3 v6 v4 g) fun _ g1 => if v2 ≤ (v3 + v6) then f10_layText_b127 c12 (f10_layText_b76 c12 n) v0 v1 v2 v3 v4 v6 g1 else bd_ (f10_stepAt v0 v1 ((v3 + v6) - (1 : Int32)) g1) fun z3 g2 => if z3 = v4 then f10_layText_b128 c12 (f10_layText_b76 c12 n) v0 v1 v2 v3 v4 v6 (1 : Int32) g2 else f10_layText_b127 c12 (f10_layText_b76 c12 n) v0 v1 v2 v3 v4 v6 g2
theorem t10_layText_b76 (c12 : Nat → Int32 → Int32 → Int32 → GS_ → Option (Unit × GS_)) (h12 : ∀ (v0 : Nat) (v1 : Int32) (v2 : Int32) (v3 : Int32) (g : GS_), K_ RX10 cX10_layText 7 none 3 74 false EV_ 12 [some (.inr (10, some v0)), some (.inl v1), some (.inl v2), some (.inl v3), none, none, none] [] g (c12 v0 v1 v2 v3 g)) : ∀ (n : Nat) (v0 : Nat) (v1 : Int32) (v2 : Int32) (v3 : Int32) (v4 : Int32) (v5 : Int32) (v6 : Int32) (g : GS_), K_ RX10 cX10_layText 7 none 3 74 false EV_ 76 [some (.inr (10, some v0)), some (.inl v1), some (.inl v2), some (.inl v3), some (.inl v4), some (.inl v5), some (.inl v6)] [] g (f10_layText_b76 c12 n v0 v1 v2 v3 v4 v5 v6 g) := by
  intro n
  induction n with
  | zero =>
    intro v0 v1 v2 v3 v4 v5 v6 g
    exact k_fail
  | succ n ih =>
    intro v0 v1 v2 v3 v4 v5 v6 g
    show K_ RX10 cX10_layText 7 none 3 74 false EV_ 76 [some (.inr (10, some v0)), some (.inl v1), some (.inl v2), some (.inl v3), some (.inl v4), some (.inl v5), some (.inl v6)] [] g (if v2 < (v3 + v6) then f10_layText_b136 c12 v0 v1 v2 v3 g else if v5 = 0 then f10_layText_b136 c12 v0 v1 v2 v3 g else bd_ (f10_takeItem v0 v1 v3 v6 v4 g) fun _ g1 => if v2 ≤ (v3 + v6) then f10_layText_b127 c12 (f10_layText_b76 c12 n) v0 v1 v2 v3 v4 v6 g1 else bd_ (f10_stepAt v0 v1 ((v3 + v6) - (1 : Int32)) g1) fun z3 g2 => if z3 = v4 then f10_layText_b128 c12 (f10_layText_b76 c12 n) v0 v1 v2 v3 v4 v6 (1 : Int32) g2 else f10_layText_b127 c12 (f10_layText_b76 c12 n) v0 v1 v2 v3 v4 v6 g2)
    refine k_iloadn (j := 3) dX10_layText_76 rfl rfl ?_
    refine k_iload dX10_layText_77 rfl ?_
    refine k_iadd dX10_layText_79 ?_
    refine k_iloadn (j := 2) dX10_layText_80 rfl rfl ?_
    refine k_icmpgt (tgt := 136) dX10_layText_81 (by decide) (fun _ => ?_) (fun _ => ?_)
    · refine k_msk (L' := [some (.inr (10, some v0)), some (.inl v1), some (.inl v2), some (.inl v3), none, none, none]) [true, true, true, true, false, false, false] rfl ?_
      exact t10_layText_b136 c12 h12 v0 v1 v2 v3 g
    refine k_iload dX10_layText_84 rfl ?_
    refine k_ifeq (tgt := 136) dX10_layText_86 (by decide) (fun _ => ?_) (fun _ => ?_)
    · refine k_msk (L' := [some (.inr (10, some v0)), some (.inl v1), some (.inl v2), some (.inl v3), none, none, none]) [true, true, true, true, false, false, false] rfl ?_
      exact t10_layText_b136 c12 h12 v0 v1 v2 v3 g
    refine k_aloadn (j := 0) dX10_layText_89 rfl rfl ?_
    refine k_iloadn (j := 1) dX10_layText_90 rfl rfl ?_
    refine k_iloadn (j := 3) dX10_layText_91 rfl rfl ?_
    refine k_iload dX10_layText_92 rfl ?_
    refine k_iload dX10_layText_94 rfl ?_
    refine k_callVv [.inl v1, .inl v3, .inl v6, .inl v4] (t10_takeItem v0 v1 v3 v6 v4 g) cw_cX10_takeItem (Or.inl ml_10_167) rfl rfl (by decide) (by decide) (Nat.le_of_ble_eq_true rfl) dX10_layText_96 (fun _ g1 => ?_)
    refine k_iloadn (j := 3) dX10_layText_99 rfl rfl ?_
    refine k_iload dX10_layText_100 rfl ?_
    refine k_iadd dX10_layText_102 ?_
    refine k_iloadn (j := 2) dX10_layText_103 rfl rfl ?_
    refine k_icmpge (tgt := 127) dX10_layText_104 (by decide) (fun _ => ?_) (fun _ => ?_)
    · refine k_msk (L' := [some (.inr (10, some v0)), some (.inl v1), some (.inl v2), some (.inl v3), some (.inl v4), none, some (.inl v6)]) [true, true, true, true, true, false, true] rfl ?_
      exact t10_layText_b127 c12 (f10_layText_b76 c12 n) h12 ih v0 v1 v2 v3 v4 v6 g1
    refine k_aloadn (j := 0) dX10_layText_107 rfl rfl ?_
    refine k_iloadn (j := 1) dX10_layText_108 rfl rfl ?_
    refine k_iloadn (j := 3) dX10_layText_109 rfl rfl ?_
    refine k_iload dX10_layText_110 rfl ?_
    refine k_iadd dX10_layText_112 ?_
    refine k_iconst (v := (1 : Int32)) dX10_layText_113 rfl ?_
    refine k_isub dX10_layText_114 ?_
    refine k_callVi [.inl v1, .inl ((v3 + v6) - (1 : Int32))] (t10_stepAt v0 v1 ((v3 + v6) - (1 : Int32)) g1) cw_cX10_stepAt (Or.inl ml_10_171) rfl rfl (by decide) (by decide) (Nat.le_of_ble_eq_true rfl) dX10_layText_115 (fun z3 g2 => ?_)
    refine k_iload dX10_layText_118 rfl ?_
    refine k_icmpne (tgt := 127) dX10_layText_120 (by decide) (fun _ => ?_) (fun _ => ?_)
    · refine k_iconst (v := (1 : Int32)) dX10_layText_123 rfl ?_
      refine k_goto (tgt := 128) dX10_layText_124 (by decide) ?_
      refine k_msk (L' := [some (.inr (10, some v0)), some (.inl v1), some (.inl v2), some (.inl v3), some (.inl v4), none, some (.inl v6)]) [true, true, true, true, true, false, true] rfl ?_
      exact t10_layText_b128 c12 (f10_layText_b76 c12 n) h12 ih v0 v1 v2 v3 v4 v6 (1 : Int32) g2
    refine k_msk (L' := [some (.inr (10, some v0)), some (.inl v1), some (.inl v2), some (.inl v3), some (.inl v4), none, some (.inl v6)]) [true, true, true, true, true, false, true] rfl ?_
    exact t10_layText_b127 c12 (f10_layText_b76 c12 n) h12 ih v0 v1 v2 v3 v4 v6 g2
def f10_layText_b71 (c12 : Nat → Int32 → Int32 → Int32 → GS_ → Option (Unit × GS_)) (v0 : Nat) (v1 : Int32) (v2 : Int32) (v3 : Int32) (v4 : Int32) (s0 : Int32) (g : GS_) : Option (Unit × GS_) :=
  f10_layText_b76 c12 FU_ v0 v1 v2 v3 v4 s0 (2 : Int32) g
theorem t10_layText_b71 (c12 : Nat → Int32 → Int32 → Int32 → GS_ → Option (Unit × GS_)) (h12 : ∀ (v0 : Nat) (v1 : Int32) (v2 : Int32) (v3 : Int32) (g : GS_), K_ RX10 cX10_layText 7 none 3 74 false EV_ 12 [some (.inr (10, some v0)), some (.inl v1), some (.inl v2), some (.inl v3), none, none, none] [] g (c12 v0 v1 v2 v3 g)) (v0 : Nat) (v1 : Int32) (v2 : Int32) (v3 : Int32) (v4 : Int32) (s0 : Int32) (g : GS_) : K_ RX10 cX10_layText 7 none 3 74 false EV_ 71 [some (.inr (10, some v0)), some (.inl v1), some (.inl v2), some (.inl v3), some (.inl v4), none, none] [.inl s0] g (f10_layText_b71 c12 v0 v1 v2 v3 v4 s0 g) := by
  unfold f10_layText_b71
  refine k_ist (L' := [some (.inr (10, some v0)), some (.inl v1), some (.inl v2), some (.inl v3), some (.inl v4), some (.inl s0), none]) dX10_layText_71 (by decide) rfl ?_
  refine k_iconst (v := (2 : Int32)) dX10_layText_73 rfl ?_
  refine k_ist (L' := [some (.inr (10, some v0)), some (.inl v1), some (.inl v2), some (.inl v3), some (.inl v4), some (.inl s0), some (.inl (2 : Int32))]) dX10_layText_74 (by decide) rfl ?_
  exact t10_layText_b76 c12 h12 FU_ v0 v1 v2 v3 v4 s0 (2 : Int32) g
def f10_layText_b70 (c12 : Nat → Int32 → Int32 → Int32 → GS_ → Option (Unit × GS_)) (v0 : Nat) (v1 : Int32) (v2 : Int32) (v3 : Int32) (v4 : Int32) (g : GS_) : Option (Unit × GS_) :=
  f10_layText_b71 c12 v0 v1 v2 v3 v4 (0 : Int32) g
theorem t10_layText_b70 (c12 : Nat → Int32 → Int32 → Int32 → GS_ → Option (Unit × GS_)) (h12 : ∀ (v0 : Nat) (v1 : Int32) (v2 : Int32) (v3 : Int32) (g : GS_), K_ RX10 cX10_layText 7 none 3 74 false EV_ 12 [some (.inr (10, some v0)), some (.inl v1), some (.inl v2), some (.inl v3), none, none, none] [] g (c12 v0 v1 v2 v3 g)) (v0 : Nat) (v1 : Int32) (v2 : Int32) (v3 : Int32) (v4 : Int32) (g : GS_) : K_ RX10 cX10_layText 7 none 3 74 false EV_ 70 [some (.inr (10, some v0)), some (.inl v1), some (.inl v2), some (.inl v3), some (.inl v4), none, none] [] g (f10_layText_b70 c12 v0 v1 v2 v3 v4 g) := by
  unfold f10_layText_b70
  refine k_iconst (v := (0 : Int32)) dX10_layText_70 rfl ?_
  exact t10_layText_b71 c12 h12 v0 v1 v2 v3 v4 (0 : Int32) g
def f10_layText_b48 (c12 : Nat → Int32 → Int32 → Int32 → GS_ → Option (Unit × GS_)) (v0 : Nat) (v1 : Int32) (v2 : Int32) (v3 : Int32) (s0 : Int32) (g : GS_) : Option (Unit × GS_) :=
  if s0 = 0 then f10_layText_b70 c12 v0 v1 v2 v3 s0 g else bd_ (f10_in s0 (-2 : Int32) (2 : Int32) g) fun z5 g4 => if z5 = 0 then f10_layText_b70 c12 v0 v1 v2 v3 s0 g4 else f10_layText_b71 c12 v0 v1 v2 v3 s0 (1 : Int32) g4
theorem t10_layText_b48 (c12 : Nat → Int32 → Int32 → Int32 → GS_ → Option (Unit × GS_)) (h12 : ∀ (v0 : Nat) (v1 : Int32) (v2 : Int32) (v3 : Int32) (g : GS_), K_ RX10 cX10_layText 7 none 3 74 false EV_ 12 [some (.inr (10, some v0)), some (.inl v1), some (.inl v2), some (.inl v3), none, none, none] [] g (c12 v0 v1 v2 v3 g)) (v0 : Nat) (v1 : Int32) (v2 : Int32) (v3 : Int32) (s0 : Int32) (g : GS_) : K_ RX10 cX10_layText 7 none 3 74 false EV_ 48 [some (.inr (10, some v0)), some (.inl v1), some (.inl v2), some (.inl v3), none, none, none] [.inl s0] g (f10_layText_b48 c12 v0 v1 v2 v3 s0 g) := by
  unfold f10_layText_b48
  refine k_ist (L' := [some (.inr (10, some v0)), some (.inl v1), some (.inl v2), some (.inl v3), some (.inl s0), none, none]) dX10_layText_48 (by decide) rfl ?_
  refine k_iload dX10_layText_50 rfl ?_
  refine k_ifeq (tgt := 70) dX10_layText_52 (by decide) (fun _ => ?_) (fun _ => ?_)
  · exact t10_layText_b70 c12 h12 v0 v1 v2 v3 s0 g
  refine k_iload dX10_layText_55 rfl ?_
  refine k_bipush (v := (-2 : Int32)) dX10_layText_57 rfl ?_
  refine k_iconst (v := (2 : Int32)) dX10_layText_59 rfl ?_
  refine k_callSi [.inl s0, .inl (-2 : Int32), .inl (2 : Int32)] (t10_in s0 (-2 : Int32) (2 : Int32) g) cw_cX10_in ml_10_44 rfl rfl (by decide) (by decide) (Nat.le_of_ble_eq_true rfl) dX10_layText_60 (fun z5 g4 => ?_)
  refine k_ifeq (tgt := 70) dX10_layText_63 (by decide) (fun _ => ?_) (fun _ => ?_)
  · exact t10_layText_b70 c12 h12 v0 v1 v2 v3 s0 g4
  refine k_iconst (v := (1 : Int32)) dX10_layText_66 rfl ?_
  refine k_goto (tgt := 71) dX10_layText_67 (by decide) ?_
  exact t10_layText_b71 c12 h12 v0 v1 v2 v3 s0 (1 : Int32) g4
def f10_layText_b12 : Nat → Nat → Int32 → Int32 → Int32 → GS_ → Option (Unit × GS_)
  | 0, _, _, _, _, _ => none
  | n + 1, v0, v1, v2, v3, g =>
    if v3 < 0 then some ((), g) else lr_ (gfr g 336 v0) fun x6 => oc_ x6 none fun a7 => if inb v3 (gln g 20 a7) then lr_ (sai g 20 a7 v3.toInt.toNat (0 : Int32)) (fun g8 => bd_ (f10_takeItem v0 v1 v3 (1 : Int32) (0 : Int32) g8) fun _ g9 => if v2 ≤ (v3 + (1 : Int32)) then f10_layText_b48 (f10_layText_b12 n) v0 v1 v2 v3 (0 : Int32) g9 else bd_ (f10_stepAt v0 v1 v3 g9) fun z11 g10 => f10_layText_b48 (f10_layText_b12 n) v0 v1 v2 v3 z11 g10) else none
theorem t10_layText_b12 : ∀ (n : Nat) (v0 : Nat) (v1 : Int32) (v2 : Int32) (v3 : Int32) (g : GS_), K_ RX10 cX10_layText 7 none 3 74 false EV_ 12 [some (.inr (10, some v0)), some (.inl v1), some (.inl v2), some (.inl v3), none, none, none] [] g (f10_layText_b12 n v0 v1 v2 v3 g) := by
  intro n
  induction n with
  | zero =>
    intro v0 v1 v2 v3 g
    exact k_fail
  | succ n ih =>
    intro v0 v1 v2 v3 g
    show K_ RX10 cX10_layText 7 none 3 74 false EV_ 12 [some (.inr (10, some v0)), some (.inl v1), some (.inl v2), some (.inl v3), none, none, none] [] g (if v3 < 0 then some ((), g) else lr_ (gfr g 336 v0) fun x6 => oc_ x6 none fun a7 => if inb v3 (gln g 20 a7) then lr_ (sai g 20 a7 v3.toInt.toNat (0 : Int32)) (fun g8 => bd_ (f10_takeItem v0 v1 v3 (1 : Int32) (0 : Int32) g8) fun _ g9 => if v2 ≤ (v3 + (1 : Int32)) then f10_layText_b48 (f10_layText_b12 n) v0 v1 v2 v3 (0 : Int32) g9 else bd_ (f10_stepAt v0 v1 v3 g9) fun z11 g10 => f10_layText_b48 (f10_layText_b12 n) v0 v1 v2 v3 z11 g10) else none)
    refine k_iloadn (j := 3) dX10_layText_12 rfl rfl ?_
    refine k_iflt (tgt := 142) dX10_layText_13 (by decide) (fun _ => ?_) (fun _ => ?_)
    · exact k_return rfl dX10_layText_142
    refine k_aloadn (j := 0) dX10_layText_16 rfl rfl ?_
    refine k_getr fg_10_38 rfl rfl dX10_layText_17 (fun x6 => ?_)
    refine k_iloadn (j := 3) dX10_layText_20 rfl rfl ?_
    refine k_iconst (v := (0 : Int32)) dX10_layText_21 rfl ?_
    rcases x6 with _ | a7
    · exact k_ocn
    refine k_ocs ?_
    refine k_iast dX10_layText_22 (fun g8 => ?_)
    refine k_aloadn (j := 0) dX10_layText_23 rfl rfl ?_
    refine k_iloadn (j := 1) dX10_layText_24 rfl rfl ?_
    refine k_iloadn (j := 3) dX10_layText_25 rfl rfl ?_
    refine k_iconst (v := (1 : Int32)) dX10_layText_26 rfl ?_
    refine k_iconst (v := (0 : Int32)) dX10_layText_27 rfl ?_
    refine k_callVv [.inl v1, .inl v3, .inl (1 : Int32), .inl (0 : Int32)] (t10_takeItem v0 v1 v3 (1 : Int32) (0 : Int32) g8) cw_cX10_takeItem (Or.inl ml_10_167) rfl rfl (by decide) (by decide) (Nat.le_of_ble_eq_true rfl) dX10_layText_28 (fun _ g9 => ?_)
    refine k_iloadn (j := 3) dX10_layText_31 rfl rfl ?_
    refine k_iconst (v := (1 : Int32)) dX10_layText_32 rfl ?_
    refine k_iadd dX10_layText_33 ?_
    refine k_iloadn (j := 2) dX10_layText_34 rfl rfl ?_
    refine k_icmpge (tgt := 47) dX10_layText_35 (by decide) (fun _ => ?_) (fun _ => ?_)
    · refine k_iconst (v := (0 : Int32)) dX10_layText_47 rfl ?_
      exact t10_layText_b48 (f10_layText_b12 n) ih v0 v1 v2 v3 (0 : Int32) g9
    refine k_aloadn (j := 0) dX10_layText_38 rfl rfl ?_
    refine k_iloadn (j := 1) dX10_layText_39 rfl rfl ?_
    refine k_iloadn (j := 3) dX10_layText_40 rfl rfl ?_
    refine k_callVi [.inl v1, .inl v3] (t10_stepAt v0 v1 v3 g9) cw_cX10_stepAt (Or.inl ml_10_171) rfl rfl (by decide) (by decide) (Nat.le_of_ble_eq_true rfl) dX10_layText_41 (fun z11 g10 => ?_)
    refine k_goto (tgt := 48) dX10_layText_44 (by decide) ?_
    exact t10_layText_b48 (f10_layText_b12 n) ih v0 v1 v2 v3 z11 g10
def f10_layText (v0 : Nat) (v1 : Int32) (g : GS_) : Option (Unit × GS_) :=
  bd_ (f10_ofJob v0 v1 (7 : Int32) g) fun z13 g12 => lr_ (z13 - (1 : Int32)) fun z14 => f10_layText_b12 FU_ v0 v1 z13 z14 g12
theorem t10_layText (v0 : Nat) (v1 : Int32) (g : GS_) : Cn_ yX10_layText cX10_layText 7 none 3 74 EV_ [.inr (10, some v0), .inl v1] g (f10_layText v0 v1 g) := by
  refine k_method (own := RX10) (ini := false) (L1 := [some (.inr (10, some v0)), some (.inl v1), none, none, none, none, none]) (by decide +kernel) rfl (fun h => by cases h) (Nat.le_of_ble_eq_true rfl) rfl ?_
  unfold f10_layText
  refine k_aloadn (j := 0) dX10_layText_0 rfl rfl ?_
  refine k_iloadn (j := 1) dX10_layText_1 rfl rfl ?_
  refine k_bipush (v := (7 : Int32)) dX10_layText_2 rfl ?_
  refine k_callVi [.inl v1, .inl (7 : Int32)] (t10_ofJob v0 v1 (7 : Int32) g) cw_cX10_ofJob (Or.inl ml_10_133) rfl rfl (by decide) (by decide) (Nat.le_of_ble_eq_true rfl) dX10_layText_4 (fun z13 g12 => ?_)
  refine k_istn (j := 2) (L' := [some (.inr (10, some v0)), some (.inl v1), some (.inl z13), none, none, none, none]) dX10_layText_7 rfl (by decide) rfl ?_
  refine k_iloadn (j := 2) dX10_layText_8 rfl rfl ?_
  refine k_iconst (v := (1 : Int32)) dX10_layText_9 rfl ?_
  refine k_isub dX10_layText_10 ?_
  refine k_istnl (j := 3) (L2 := fun z14 => [some (.inr (10, some v0)), some (.inl v1), some (.inl z13), some (.inl z14), none, none, none]) dX10_layText_11 rfl (by decide) (fun _ => rfl) (fun z14 => ?_)
  exact t10_layText_b12 FU_ v0 v1 z13 z14 g12
theorem dX10_figure_0 : decode cX10_figure 0 = .ok (.iload_n 0, 1) := by decide +kernel
theorem dX10_figure_1 : decode cX10_figure 1 = .ok (.invokestatic 161, 3) := by decide +kernel
theorem dX10_figure_4 : decode cX10_figure 4 = .ok (.istore_n 2, 1) := by decide +kernel
theorem dX10_figure_5 : decode cX10_figure 5 = .ok (.iload_n 0, 1) := by decide +kernel
theorem dX10_figure_6 : decode cX10_figure 6 = .ok (.istore_n 3, 1) := by decide +kernel
theorem dX10_figure_7 : decode cX10_figure 7 = .ok (.iload_n 2, 1) := by decide +kernel
theorem dX10_figure_8 : decode cX10_figure 8 = .ok (.iconst 1, 1) := by decide +kernel
theorem dX10_figure_9 : decode cX10_figure 9 = .ok (.isub, 1) := by decide +kernel
theorem dX10_figure_10 : decode cX10_figure 10 = .ok (.istore 4, 2) := by decide +kernel
theorem dX10_figure_12 : decode cX10_figure 12 = .ok (.iload 4, 2) := by decide +kernel
theorem dX10_figure_14 : decode cX10_figure 14 = .ok (.iload_n 1, 1) := by decide +kernel
theorem dX10_figure_15 : decode cX10_figure 15 = .ok (.if_icmp .le 14, 3) := by decide +kernel
theorem dX10_figure_18 : decode cX10_figure 18 = .ok (.iload_n 3, 1) := by decide +kernel
theorem dX10_figure_19 : decode cX10_figure 19 = .ok (.bipush 10, 2) := by decide +kernel
theorem dX10_figure_21 : decode cX10_figure 21 = .ok (.idiv, 1) := by decide +kernel
theorem dX10_figure_22 : decode cX10_figure 22 = .ok (.istore_n 3, 1) := by decide +kernel
theorem dX10_figure_23 : decode cX10_figure 23 = .ok (.iinc 4 (-1), 3) := by decide +kernel
theorem dX10_figure_26 : decode cX10_figure 26 = .ok (.goto (-14), 3) := by decide +kernel
theorem dX10_figure_29 : decode cX10_figure 29 = .ok (.bipush 48, 2) := by decide +kernel
theorem dX10_figure_31 : decode cX10_figure 31 = .ok (.iload_n 3, 1) := by decide +kernel
theorem dX10_figure_32 : decode cX10_figure 32 = .ok (.bipush 10, 2) := by decide +kernel
theorem dX10_figure_34 : decode cX10_figure 34 = .ok (.irem, 1) := by decide +kernel
theorem dX10_figure_35 : decode cX10_figure 35 = .ok (.iadd, 1) := by decide +kernel
theorem dX10_figure_36 : decode cX10_figure 36 = .ok (.ireturn, 1) := by decide +kernel
def f10_figure_b12 : Nat → Int32 → Int32 → Int32 → GS_ → Option (Int32 × GS_)
  | 0, _, _, _, _ => none
  | n + 1, v1, v3, v4, g =>
    if v4 ≤ v1 then some (((48 : Int32) + (jrem v3 (10 : Int32))), g) else lr_ (v3 / (10 : Int32)) fun z1 => (f10_figure_b12 n) v1 z1 (v4 + (-1 : Int32)) g
theorem t10_figure_b12 : ∀ (n : Nat) (v1 : Int32) (v3 : Int32) (v4 : Int32) (g : GS_), K_ RX10 cX10_figure 5 (some .int) 1 20 false EI_ 12 [none, some (.inl v1), none, some (.inl v3), some (.inl v4)] [] g (f10_figure_b12 n v1 v3 v4 g) := by
  intro n
  induction n with
  | zero =>
    intro v1 v3 v4 g
    exact k_fail
  | succ n ih =>
    intro v1 v3 v4 g
    show K_ RX10 cX10_figure 5 (some .int) 1 20 false EI_ 12 [none, some (.inl v1), none, some (.inl v3), some (.inl v4)] [] g (if v4 ≤ v1 then some (((48 : Int32) + (jrem v3 (10 : Int32))), g) else lr_ (v3 / (10 : Int32)) fun z1 => (f10_figure_b12 n) v1 z1 (v4 + (-1 : Int32)) g)
    refine k_iload dX10_figure_12 rfl ?_
    refine k_iloadn (j := 1) dX10_figure_14 rfl rfl ?_
    refine k_icmple (tgt := 29) dX10_figure_15 (by decide) (fun _ => ?_) (fun _ => ?_)
    · refine k_bipush (v := (48 : Int32)) dX10_figure_29 rfl ?_
      refine k_iloadn (j := 3) dX10_figure_31 rfl rfl ?_
      refine k_bipush (v := (10 : Int32)) dX10_figure_32 rfl ?_
      refine k_iremc (by decide) dX10_figure_34 ?_
      refine k_iadd dX10_figure_35 ?_
      exact k_ireturn rfl dX10_figure_36
    refine k_iloadn (j := 3) dX10_figure_18 rfl rfl ?_
    refine k_bipush (v := (10 : Int32)) dX10_figure_19 rfl ?_
    refine k_idivc (by decide) dX10_figure_21 ?_
    refine k_istnl (j := 3) (L2 := fun z1 => [none, some (.inl v1), none, some (.inl z1), some (.inl v4)]) dX10_figure_22 rfl (by decide) (fun _ => rfl) (fun z1 => ?_)
    refine k_iinc (v := (v4 + (-1 : Int32))) (L' := [none, some (.inl v1), none, some (.inl z1), some (.inl (v4 + (-1 : Int32)))]) dX10_figure_23 rfl rfl (by decide) rfl ?_
    refine k_goto (tgt := 12) dX10_figure_26 (by decide) ?_
    exact ih v1 z1 (v4 + (-1 : Int32)) g
def f10_figure (v0 : Int32) (v1 : Int32) (g : GS_) : Option (Int32 × GS_) :=
  bd_ (f10_figures v0 g) fun z3 g2 => lr_ (z3 - (1 : Int32)) fun z4 => f10_figure_b12 FU_ v1 v0 z4 g2
theorem t10_figure (v0 : Int32) (v1 : Int32) (g : GS_) : Cn_ yX10_figure cX10_figure 5 (some .int) 1 20 EI_ [.inl v0, .inl v1] g (f10_figure v0 v1 g) := by
  refine k_method (own := RX10) (ini := false) (L1 := [some (.inl v0), some (.inl v1), none, none, none]) (by decide +kernel) rfl (fun h => by cases h) (Nat.le_of_ble_eq_true rfl) rfl ?_
  unfold f10_figure
  refine k_iloadn (j := 0) dX10_figure_0 rfl rfl ?_
  refine k_callSi [.inl v0] (t10_figures v0 g) cw_cX10_figures ml_10_161 rfl rfl (by decide) (by decide) (Nat.le_of_ble_eq_true rfl) dX10_figure_1 (fun z3 g2 => ?_)
  refine k_istn (j := 2) (L' := [some (.inl v0), some (.inl v1), some (.inl z3), none, none]) dX10_figure_4 rfl (by decide) rfl ?_
  refine k_iloadn (j := 0) dX10_figure_5 rfl rfl ?_
  refine k_istn (j := 3) (L' := [some (.inl v0), some (.inl v1), some (.inl z3), some (.inl v0), none]) dX10_figure_6 rfl (by decide) rfl ?_
  refine k_iloadn (j := 2) dX10_figure_7 rfl rfl ?_
  refine k_iconst (v := (1 : Int32)) dX10_figure_8 rfl ?_
  refine k_isub dX10_figure_9 ?_
  refine k_istl (L2 := fun z4 => [some (.inl v0), some (.inl v1), some (.inl z3), some (.inl v0), some (.inl z4)]) dX10_figure_10 (by decide) (fun _ => rfl) (fun z4 => ?_)
  refine k_msk (L' := [none, some (.inl v1), none, some (.inl v0), some (.inl z4)]) [false, true, false, true, true] rfl ?_
  exact t10_figure_b12 FU_ v1 v0 z4 g2
