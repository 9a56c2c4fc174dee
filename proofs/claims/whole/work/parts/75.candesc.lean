/-! the class describes a list -/
theorem x_describe {g : GS_} {A m : Nat} {x : Nat → Nat} (hS : CSh g) (hP : PA g A m x) (hm1 : 1 ≤ m) : ∃ g', f7_describe 0 (some A) g = some ((), g') ∧ FX g g' ∧ ABg x m g' 0 ∧ CL g' (txt x (cK g') m m 0) ∧ (txt x (cK g') m m 0).length = cC g' 0 ∧ cC g' 0 ≤ 1600 := by
  obtain ⟨s1, s2, s3, s4, l1, l2, l3, l4⟩ := id hS
  obtain ⟨p1, p2, p3, p4⟩ := id hP
  have jm : jmin (nI m) (400 : Int32) = nI m := by
    have := jmin_n2 (a := m) (b := 400) (by omega) (by omega)
    rw [show min m 400 = m by omega] at this
    exact this
  have e1 : nI m - (1 : Int32) = nI m + -nI 1 := Int32.sub_eq_add_neg _ _
  have k0 : FX g (W3 g m (nI 0) (nI 0) (nI 0)) := W3_FX
  have start : f7_describe 0 (some A) g = f7_describe_b40 FU_ 0 (some A) (nI m) (nI 0) (nI 0) (nI m + -nI 1) (W3 g m (nI 0) (nI 0) (nI 0)) := by
    have r2 : gfr (sai g 20 19 m (nI 0)) 225 0 = some 20 := s2
    have m2 : gln (sai g 20 19 m (nI 0)) 20 20 = 401 := l2
    have r3 : gfr (sai (sai g 20 19 m (nI 0)) 20 20 m (nI 0)) 226 0 = some 21 := s3
    have m3 : gln (sai (sai g 20 19 m (nI 0)) 20 20 m (nI 0)) 20 21 = 401 := l3
    rw [f7_describe, oc_some, p2, ofN, jm, lr_at, s1, lr_at, oc_some, l1, if_pos ((inb_nI (by omega)).mpr (by omega)), ix_nI (by omega), lr_at]
    rw [show gfr (sai g 20 19 m (0 : Int32)) 225 0 = some 20 from r2, lr_at, oc_some, show gln (sai g 20 19 m (0 : Int32)) 20 20 = 401 from m2, if_pos ((inb_nI (by omega)).mpr (by omega)), lr_at]
    rw [show gfr (sai (sai g 20 19 m (0 : Int32)) 20 20 m (0 : Int32)) 226 0 = some 21 from r3, lr_at, oc_some, show gln (sai (sai g 20 19 m (0 : Int32)) 20 20 m (0 : Int32)) 20 21 = 401 from m3, if_pos ((inb_nI (by omega)).mpr (by omega)), lr_at, e1, lr_at]
    rfl
  have hA0 : ABg x m (W3 g m (nI 0) (nI 0) (nI 0)) m := by
    refine ⟨⟨?_, ?_⟩, fun j h1 h2 => by omega⟩
    · exact (W3_a m).1.trans (if_pos rfl)
    · exact (W3_a m).2.1.trans (if_pos rfl)
  obtain ⟨g1, a1, a2, a3⟩ := x_desc m FU_ (W3 g m (nI 0) (nI 0) (nI 0)) 0 (nI 0) (by unfold FU_; omega) (Nat.le_refl _) (CSh_FX k0 hS) (PA_FX k0 hP) hA0 (fun q => by omega) (by omega)
  have k1 := FX_tr k0 a2
  have hB : ∀ j, j < m → Bst x (cC g1) (cT g1) (cK g1) m j := fun j hj => (a3.2 j (by omega) hj).2.2.2
  have hC0 : cC g1 0 ≤ 1600 := by
    have := (a3.2 0 (by omega) (by omega)).1.2
    show tn (gai g1 20 19 0) ≤ 1600
    omega
  have f0 : FW g1 (sfi g1 228 0 (nI 0)) := ⟨FX_sfi (by omega), rfl, rfl, rfl⟩
  have S2 := CSh_FX f0.1 (CSh_FX k1 hS)
  have P2 := PA_FX f0.1 (PA_FX k1 hP)
  obtain ⟨g2, b1, b2, b3⟩ := x_writeLoop (K := cK g1) hB m FU_ 0 (sfi g1 228 0 (nI 0)) [] (by omega) (by unfold FU_; omega) (by omega) S2 P2 (fun j hj => (a3.2 j (by omega) hj).2.2.1) ⟨by rw [e_gfi_sfi, if_pos ⟨rfl, rfl⟩]; rfl, fun i q w => by simp at w⟩ (by rw [if_pos rfl]; show 0 + 0 + cC g1 0 ≤ 1600; omega)
  rw [if_pos rfl, List.nil_append, List.nil_append] at b3
  have FW2 := FW_tr f0 b2
  have eK : cK g2 = cK g1 := by funext q; show tn (gai g2 20 21 q) = _; rw [FW2.2.2.2]
  have eC : cC g2 = cC g1 := by funext q; show tn (gai g2 20 19 q) = _; rw [FW2.2.1]
  refine ⟨g2, ?_, FX_tr k1 FW2.1, ?_, ?_, ?_, ?_⟩
  · have b1' : f7_write_b7 FU_ 0 (some A) (nI m) (0 : Int32) (sfi g1 228 0 (0 : Int32)) = some ((), g2) := b1
    rw [start, a1, f7_write, lr_at, b1', bd_some]
  · unfold ABg
    rw [FW2.2.1, FW2.2.2.1, FW2.2.2.2]
    exact a3
  · rw [eK]
    exact b3
  · rw [eK, eC]
    exact txt_len hB m 0 (by omega) (by omega)
  · rw [eC]
    exact hC0
