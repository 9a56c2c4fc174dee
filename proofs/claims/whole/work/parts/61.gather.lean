/-! listed -/
theorem bb_no {S c : Nat} (hS : S < 4) (hc : c < 9) : ¬ (18 ≤ bb S + c ∧ bb S + c < 23) := by
  rcases (show S = 0 ∨ S = 1 ∨ S = 2 ∨ S = 3 by omega) with rfl | rfl | rfl | rfl
  · have : bb 0 = 0 := rfl
    omega
  · have : bb 1 = 9 := rfl
    omega
  · have : bb 2 = 23 := rfl
    omega
  · have : bb 3 = 32 := rfl
    omega
theorem FX_f {g g' : GS_} (h : FX g g') {f i : Nat} (q : f ≠ 97 ∧ f ≠ 98 ∧ f ≠ 194 ∧ f ≠ 228) : gfi g' f i = gfi g f i := h.2.1 f i (by omega)
theorem FX_a {g g' : GS_} (h : FX g g') {i : Nat} (q : ¬ (18 ≤ i ∧ i < 23)) : gai g' 20 i = gai g 20 i := h.2.2 20 i (by omega)
theorem DocV_FX {g g' : GS_} (h : FX g g') {D : Nat} {a : Nat → Int32} {d : Nat} (hD : DocV g D a d) : DocV g' D a d := by
  refine ⟨by rw [h.1.2.2.2.1]; exact hD.1, fun w hw => ?_⟩
  rw [FX_f h (by omega)]
  exact hD.2 w hw
theorem PlV_FX {g g' : GS_} (h : FX g g') {Q : Nat} {a l : Nat → Int32} {j : Nat} (hP : PlV g Q a l j) : PlV g' Q a l j := by
  obtain ⟨p1, ⟨D, p2, p3⟩, p4, ⟨A, p5, p6, p7, p8, p9⟩, q1, q2, q3, q4, q5, q6, q7, q8, q9, B, r1, r2, r3, r4, r5⟩ := hP
  have ef : ∀ f, 128 ≤ f → f < 160 → gfi g' f Q = gfi g f Q := fun f h1 h2 => FX_f h (by omega)
  unfold PlV
  rw [h.1.1, h.1.2.1, h.1.2.2.2.1, ef _ (by omega) (by omega), ef _ (by omega) (by omega), ef _ (by omega) (by omega), ef _ (by omega) (by omega), ef _ (by omega) (by omega), ef _ (by omega) (by omega), ef _ (by omega) (by omega), ef _ (by omega) (by omega), ef _ (by omega) (by omega), ef _ (by omega) (by omega)]
  exact ⟨p1, ⟨D, p2, DocV_FX h p3⟩, p4, ⟨A, p5, p6, p7, p8, fun i hi => by rw [FX_a h (by omega)]; exact p9 i hi⟩, q1, q2, q3, q4, q5, q6, q7, q8, q9, B, r1, r2, r3, r4, fun t s ht hs => by rw [FX_a h (by omega)]; exact r5 t s ht hs⟩
theorem XT0_FX {g g' : GS_} {S : Nat} (h : FX g g') (hS : S < 4) {a l : Nat → Int32} (hX : XT0 g S a l) : XT0 g' S a l := by
  obtain ⟨h1, h2, h3, h4, h5, h6⟩ := hX
  refine ⟨?_, ?_, ?_, ?_, ?_, ?_⟩
  · rw [FX_f h (by omega), FX_f h (by omega), FX_f h (by omega), FX_f h (by omega), FX_f h (by omega), FX_f h (by omega)]
    exact h1
  · intro k hk
    rw [show gai g' 20 (bb S) = gai g 20 (bb S) from FX_a h (bb_no (c := 0) hS (by omega))]
    exact h2 k hk
  · intro u hu
    rw [FX_a h (bb_no (c := 1) hS (by omega)), FX_a h (bb_no (c := 2) hS (by omega))]
    exact h3 u hu
  · intro d hd
    obtain ⟨D, q1, q2⟩ := h4 d hd
    exact ⟨D, by rw [h.1.2.2.1]; exact q1, DocV_FX h q2⟩
  · intro j hj
    obtain ⟨J, Q, q1, q2, q3, q4⟩ := h5 j hj
    exact ⟨J, Q, by rw [h.1.2.2.1]; exact q1, by rw [h.1.1]; exact q2, PlV_FX h q3, by rw [FX_f h (by omega)]; exact q4⟩
  · intro p hp
    rw [FX_f h (by omega), FX_f h (by omega), FX_f h (by omega)]
    exact h6 p hp
theorem XS_FX {g g' : GS_} (h : FX g g') (hX : XS g) : XS g' := XS_NR h.1 (fun _ => FX_f h (by omega)) hX
theorem SpO_FX {g g' : GS_} {S : Nat} {a l : Nat → Int32} {F : List Nat} (h : FX g g') (hX : XS g) (hR : SpO g S a l F) : SpO g' S a l F := by
  have hS := hR.1.1
  have hXS := XS_FX h hX
  have h5 := Iv0_p hR.2.2.1
  refine ⟨⟨hS, XJ_XS hXS hS⟩, hXS.2.1 S hS, hR.2.2.1, XT0_FX h hS hR.2.2.2.1, ?_⟩
  refine XD_frame (g := g) (by rw [h.1.2.2.1]) (fun f i hf => FX_f h (by omega)) (fun c c1 c2 => FX_a h (bb_no hS c2)) h5 hR.2.2.2.2
theorem Rel_scr {gX gX' gM gM' : GS_} {n : Nat} (h : Rel gX gM n) (hX : FX gX gX') (hM : FLi gM gM') : Rel gX' gM' (n + 1) := by
  obtain ⟨h1, h2, ⟨F, h3, h3', h3''⟩, h4, c, h5, h6⟩ := h
  have e0 : gai gM' 20 0 = gai gM 20 0 := hM.2.2 20 0 (by omega)
  have e2 : gai gM' 20 2 = gai gM 20 2 := hM.2.2 20 2 (by omega)
  have e3 : gai gM' 20 3 = gai gM 20 3 := hM.2.2 20 3 (by omega)
  have e4 : gai gM' 20 4 = gai gM 20 4 := hM.2.2 20 4 (by omega)
  have e5 : gai gM' 21 0 = gai gM 21 0 := hM.2.2 21 0 (by omega)
  refine ⟨XS_FX hX h1, MI_eq h2 hM.1.1 hM.1.2.1, ⟨F, ?_⟩, fun s hs => ?_, c, (hM.2.1 341 (by omega) (by omega)).trans h5, by omega⟩
  · rw [e0, e2]
    exact ⟨SpO_FX hX h1 h3, PI_mono h3' (by omega), h3''⟩
  · obtain ⟨k1, k2⟩ := h4 s hs
    have ea : aS gM' s = aS gM s := by funext i; show gai gM' 20 3 _ = _; rw [e3]
    have el : lS gM' s = lS gM s := by funext i; show gai gM' 20 4 _ = _; rw [e4]
    rw [e5, ea, el, FX_f hX (by omega)]
    refine ⟨k1, ?_⟩
    rcases k2 with k2 | ⟨k2, F', k3⟩
    · exact Or.inl k2
    · exact Or.inr ⟨k2, F', SpO_FX hX h1 k3.1, PI_mono k3.2.1 (by omega), k3.2.2⟩
/-- both lists of a document's pages -/
theorem gather {gX gM : GS_} {n k D : Nat} (h : Rel gX gM n) (hk : k < tn (gai gM 20 0 3)) (hD : gar gX 22 0 k = some D) :
    ∃ gM1, f10_faultOf 0 gM = some (Aut (cx (gai gM 20 0)) (tn (gai gM 20 0 7)) 0 0, gM1) ∧ FRi gM gM1 ∧
      ((Aut (cx (gai gM 20 0)) (tn (gai gM 20 0 7)) 0 0 ≠ -nI 6 ∧ f9_gather 0 (some D) gX = some (-nI 3, gX)) ∨
       (Aut (cx (gai gM 20 0)) (tn (gai gM 20 0 7)) 0 0 = -nI 6 ∧ ∃ gX' gM' X, f9_gather 0 (some D) gX = some (if X.length ≤ 400 then nI 0 else -nI 4, gX') ∧ FX gX gX' ∧ OV gX' X ∧ (∀ x, x ∈ X → 1 ≤ x ∧ x ≤ dN (gai gM 20 0) k 0) ∧ f10_makeList 0 (nI k) gM1 = some (if X.length ≤ 400 then nI 1 else nI 0, gM') ∧ FLi gM gM' ∧ (X.length ≤ 400 → WL gM' X))) := by
  obtain ⟨F, r0, r1, hX, hS, hP, hE, hM, ⟨d1, d2, d3⟩, ⟨j1, j2, j3⟩, ⟨p1, p2, p3⟩⟩ := ctx h
  obtain ⟨⟨-, -, -, -, -, -, r291, r96, l18, -⟩, -, -⟩ := id h.1
  obtain ⟨s1, s2, s3, s4, s5, s6, s7, s8, s9, -⟩ := id hX
  have e1 := x_faultOf hS hE
  have hT := TX_of hM hE
  obtain ⟨gM1, a1, a2, a3⟩ := m_faultOf cx_0 hT
  refine ⟨gM1, a1, a2, ?_⟩
  generalize hA : Aut (cx (gai gM 20 0)) (tn (gai gM 20 0 7)) 0 0 = A at *
  by_cases hA6 : A = -nI 6
  · right
    refine ⟨hA6, ?_⟩
    have a3' := a3 hA6
    rw [hA6] at hA
    obtain ⟨q1, q2, q3⟩ := XT0_parts hS.2.2.2.1
    obtain ⟨w1, w2⟩ := vl_nI hE.1
    have hDoc := hS.2.2.1.2.2.2.2.1 k hk
    obtain ⟨D', u1, u2, u3⟩ := hS.2.2.2.1.2.2.2.1 k hk
    have : D' = D := Option.some.inj (u1.symm.trans hD)
    subst this
    have m0 : gai gM 20 0 (26 + 5 * k + 0) = nI (dN (gai gM 20 0) k 0) := (vl_nI hDoc.1).1
    have b0 : dN (gai gM 20 0) k 0 < 401 := (vl_nI hDoc.1).2
    have g0 : gfi gX 0 D' = nI (dN (gai gM 20 0) k 0) := (u3 0 (by omega)).trans m0
    have hT1 := TX_FRi hT a2
    have hM1 := hT1.1
    have fM : FLi gM1 (sfi (sfi gM1 326 0 (nI 0)) 333 0 (nI 0)) := FLi_tr (FLi_FRi (FRi_sfi (by omega))) (FLi_FL FL_sfi)
    have fX : FX gX (sfi (sfi (sfi gX 97 0 (nI 0)) 98 0 (nI 0)) 194 0 (nI 0)) := FX_tr (FX_tr (FX_sfi (by omega)) (FX_sfi (by omega))) (FX_sfi (by omega))
    have hCT : CT gX (cx (gai gM 20 0)) (tn (gai gM 20 0 7)) := by
      refine ⟨q1.2.2.trans w1, s8, s9, by omega, fun p => ?_⟩
      unfold cx
      by_cases z : p < tn (gai gM 20 0 7)
      · rw [if_pos z, if_pos z]
        exact q2 p (by omega)
      · rw [if_neg z, if_neg z]
    obtain ⟨gX', gM', X, z1, z2, z3, z4, z5, z6, z7⟩ := lists_loop cx_0 (by omega) ⟨hDoc.2.1, by omega⟩ FU_ 0 _ _ [] (by omega) (by unfold FU_; omega) hA (TX_FLi hT1 fM) (by rw [e_gfi_sfi, if_neg (by omega), e_gfi_sfi, if_pos ⟨rfl, rfl⟩]) (by rw [e_gfi_sfi, if_neg (by omega), e_gfi_sfi, if_neg (by omega)]; exact a3') (show WL _ [] from ⟨by rw [e_gfi_sfi, if_pos ⟨rfl, rfl⟩]; rfl, fun i x q => by simp at q⟩) (CT_FX fX hCT) (by rw [e_gfi_sfi, if_pos ⟨rfl, rfl⟩]) (PLs_FX fX ⟨r96, l18⟩) (by
      unfold OV
      rw [if_pos (by simp)]
      refine ⟨by rw [e_gfi_sfi, if_neg (by omega), e_gfi_sfi, if_pos ⟨rfl, rfl⟩], ?_, fun i x q => by simp at q⟩
      rw [e_gfi_sfi, if_neg (by omega), e_gfi_sfi, if_neg (by omega), e_gfi_sfi, if_pos ⟨rfl, rfl⟩]
      rfl) (by simp) (fun x q => by simp at q)
    refine ⟨gX', gM', X, ?_, FX_tr fX z2, z3, z4, ?_, FLi_tr (FLi_FRi a2) (FLi_tr fM z6), z7⟩
    · have r291' : gfr gX' 291 0 = some 0 := by rw [z2.1.1]; exact r291
      have o98 : gfi gX' 98 0 = nI 0 ∧ X.length ≤ 400 ∨ gfi gX' 98 0 = nI 1 ∧ ¬ X.length ≤ 400 := by
        unfold OV at z3
        by_cases w : X.length ≤ 400
        · rw [if_pos w] at z3
          exact Or.inl ⟨z3.1, w⟩
        · rw [if_neg w] at z3
          exact Or.inr ⟨z3.1, w⟩
      have z1' : f6_expand_b9 FU_ 0 (some 0) (nI (dN (gai gM 20 0) k 0)) (sfi (sfi (sfi gX 97 0 (nI 0)) 98 0 (nI 0)) 194 0 (nI 0)) = some ((), gX') := z1
      rw [hA6] at e1
      rcases o98 with ⟨o, w⟩ | ⟨o, w⟩
      · rw [if_pos w]
        simp (disch := first | with_reducible assumption | omega | (simp only [MI_sai_iff, MI_sfi_iff]; with_reducible assumption)) only [li, ↓lr_, ↓bd_m, ↓oc_m, ↓reduceIte, bi_0, bi_0n, bi_1, bi_1n, not_true_eq_false, not_false_eq_true, Nat.reduceAdd, Nat.reduceMul, nI_mul, nI_add, inb_T, ix_nI, le_T, le_F, lt_T, lt_F, eq_F, and_self, and_true, true_and, false_and, and_false, or_true, true_or, or_false, false_or, bi_eq, x_within, m_in, f9_gather, r0, s7, e1, r291, g0, f6_expand, f3_empty, z1', r291', o]
      · rw [if_neg w]
        simp (disch := first | with_reducible assumption | omega | (simp only [MI_sai_iff, MI_sfi_iff]; with_reducible assumption)) only [li, ↓lr_, ↓bd_m, ↓oc_m, ↓reduceIte, bi_0, bi_0n, bi_1, bi_1n, not_true_eq_false, not_false_eq_true, Nat.reduceAdd, Nat.reduceMul, nI_mul, nI_add, inb_T, ix_nI, le_T, le_F, lt_T, lt_F, eq_F, and_self, and_true, true_and, false_and, and_false, or_true, true_or, or_false, false_or, bi_eq, x_within, m_in, f9_gather, r0, s7, e1, r291, g0, f6_expand, f3_empty, z1', r291', o]
    · have e0 := m_ofDocument hM1 (j := k) (w := 0) (by omega) (by omega)
      rw [show gai gM1 20 0 = gai gM 20 0 by rw [a2.1.2.1], m0] at e0
      have z5' : f10_makeList_b19 FU_ 0 (nI (dN (gai gM 20 0) k 0)) (nI 1) (sfi (sfi gM1 326 0 (nI 0)) 333 0 (nI 0)) = some (if X.length ≤ 400 then nI 1 else nI 0, gM') := z5
      simp (disch := first | with_reducible assumption | omega | (simp only [MI_sai_iff, MI_sfi_iff]; with_reducible assumption)) only [li, ↓lr_, ↓bd_m, ↓oc_m, ↓reduceIte, bi_0, bi_0n, bi_1, bi_1n, not_true_eq_false, not_false_eq_true, Nat.reduceAdd, Nat.reduceMul, nI_mul, nI_add, inb_T, ix_nI, le_T, le_F, lt_T, lt_F, eq_F, and_self, and_true, true_and, false_and, and_false, or_true, true_or, or_false, false_or, bi_eq, x_within, m_in, f10_makeList, e0, z5']
  · left
    refine ⟨hA6, ?_⟩
    simp (disch := first | with_reducible assumption | omega | (simp only [MI_sai_iff, MI_sfi_iff]; with_reducible assumption)) only [li, ↓lr_, ↓bd_m, ↓oc_m, ↓reduceIte, bi_0, bi_0n, bi_1, bi_1n, not_true_eq_false, not_false_eq_true, Nat.reduceAdd, Nat.reduceMul, nI_mul, nI_add, inb_T, ix_nI, le_T, le_F, lt_T, lt_F, eq_F, and_self, and_true, true_and, false_and, and_false, or_true, true_or, or_false, false_or, bi_eq, x_within, m_in, f9_gather, r0, s7, e1, eq_false hA6]
theorem op_listed (d i : Int32) : Op (f9_listed 0 d i) (f10_listed 0 d i) := by
  intro gX gM n hn h
  obtain ⟨F, r0, r1, hX, hS, hP, hE, hM, ⟨d1, d2, d3⟩, ⟨j1, j2, j3⟩, ⟨p1, p2, p3⟩⟩ := ctx h
  obtain ⟨⟨-, -, -, -, -, -, r291, r96, l18, -⟩, -, -⟩ := id h.1
  have e1 := x_documentAt hX d1 d3 d
  have e2 := m_isDocument hM d2 (by omega) d
  by_cases hd : vl d (tn (gai gM 20 0 3))
  · obtain ⟨k, rfl, hk⟩ := vl_ex hd
    obtain ⟨D, w1, w2, w3⟩ := hS.2.2.2.1.2.2.2.1 k hk
    rw [if_pos hd, tn_nI (by omega), w1] at e1
    have hd' : vl (nI k) (tn (gai gM 20 0 3)) = True := eq_true hd
    obtain ⟨gM1, a1, a2, a3⟩ := gather h hk w1
    rcases a3 with ⟨b1, b2⟩ | ⟨b1, gX', gM', X, b2, b3, b4, b5, b6, b7, b8⟩
    · have n3 : (-nI 3 = nI 0) = False := neg_eq0 (by omega) (by omega)
      refine ⟨-nI 3, gX, gM1, ?_, ?_, Rel_scr h FX_rfl (FLi_FRi a2), by omega, by omega, a2.1.2.2.2.2.2.1, a2.1.2.2.2.2.2.2⟩
      · simp (disch := first | with_reducible assumption | omega | (simp only [MI_sai_iff, MI_sfi_iff]; with_reducible assumption)) only [li, ↓lr_, ↓bd_m, ↓oc_m, ↓reduceIte, bi_0, bi_0n, bi_1, bi_1n, not_true_eq_false, not_false_eq_true, Nat.reduceAdd, Nat.reduceMul, nI_mul, nI_add, inb_T, ix_nI, le_T, le_F, lt_T, lt_F, eq_F, and_self, and_true, true_and, false_and, and_false, or_true, true_or, or_false, false_or, bi_eq, x_within, m_in, f9_listed, r0, e1, b2, n3]
      · simp (disch := first | with_reducible assumption | omega | (simp only [MI_sai_iff, MI_sfi_iff]; with_reducible assumption)) only [li, ↓lr_, ↓bd_m, ↓oc_m, ↓reduceIte, bi_0, bi_0n, bi_1, bi_1n, not_true_eq_false, not_false_eq_true, Nat.reduceAdd, Nat.reduceMul, nI_mul, nI_add, inb_T, ix_nI, le_T, le_F, lt_T, lt_F, eq_F, and_self, and_true, true_and, false_and, and_false, or_true, true_or, or_false, false_or, bi_eq, x_within, m_in, f10_listed, e2, hd', a1, eq_false b1]
    · rw [b1] at a1
      have hR := Rel_scr h b3 b7
      have rX := b3.1
      by_cases hl : X.length ≤ 400
      · rw [if_pos hl] at b2 b6
        obtain ⟨t1, t2⟩ := b8 hl
        unfold OV at b4
        rw [if_pos hl] at b4
        obtain ⟨o1, o2, o3⟩ := b4
        have r291' : gfr gX' 291 0 = some 0 := by rw [rX.1]; exact r291
        have r96' : gfr gX' 96 0 = some 18 := by rw [rX.1]; exact r96
        have l18' : gln gX' 20 18 = 400 := by rw [rX.2.1]; exact l18
        have hM' := MI_eq hM b7.1.1 b7.1.2.1
        have q5 : gfr gM' 332 0 = some 5 := by obtain ⟨-, -, -, -, -, -, h, -⟩ := hM'; exact h
        have n5 : gln gM' 20 5 = 801 := by obtain ⟨-, -, -, -, -, -, -, -, -, -, -, -, -, -, -, -, h, -⟩ := hM'; exact h
        have fin : ∀ r, f9_listed 0 (nI k) i gX = some (r, gX') → f10_listed 0 (nI k) i gM = some (r, gM') → ∃ r gX' gM', f9_listed 0 (nI k) i gX = some (r, gX') ∧ f10_listed 0 (nI k) i gM = some (r, gM') ∧ Rel gX' gM' (n + 1) ∧ ghs gX' ≤ ghs gX + 1000 ∧ gsl gX' ≤ gsl gX + 14000 ∧ ghs gM' = ghs gM ∧ gsl gM' = gsl gM :=
          fun r hx hm => ⟨r, gX', gM', hx, hm, hR, by rw [rX.2.2.2.2.1]; omega, by rw [rX.2.2.2.2.2]; omega, b7.1.2.2.2.2.1, b7.1.2.2.2.2.2⟩
        have e3 := in_vlb (n := X.length) (by omega) i
        by_cases hi1 : i = -nI 1
        · refine fin (nI X.length) ?_ ?_
          · generalize X.length = xl at *
            simp (disch := first | with_reducible assumption | omega | (simp only [MI_sai_iff, MI_sfi_iff]; with_reducible assumption)) only [li, ↓lr_, ↓bd_m, ↓oc_m, ↓reduceIte, bi_0, bi_0n, bi_1, bi_1n, not_true_eq_false, not_false_eq_true, Nat.reduceAdd, Nat.reduceMul, nI_mul, nI_add, inb_T, ix_nI, le_T, le_F, lt_T, lt_F, eq_F, and_self, and_true, true_and, false_and, and_false, or_true, true_or, or_false, false_or, bi_eq, x_within, m_in, f9_listed, r0, e1, b2, eq_true hi1, r291', o2]
          · generalize X.length = xl at *
            simp (disch := first | with_reducible assumption | omega | (simp only [MI_sai_iff, MI_sfi_iff]; with_reducible assumption)) only [li, ↓lr_, ↓bd_m, ↓oc_m, ↓reduceIte, bi_0, bi_0n, bi_1, bi_1n, not_true_eq_false, not_false_eq_true, Nat.reduceAdd, Nat.reduceMul, nI_mul, nI_add, inb_T, ix_nI, le_T, le_F, lt_T, lt_F, eq_F, and_self, and_true, true_and, false_and, and_false, or_true, true_or, or_false, false_or, bi_eq, x_within, m_in, f10_listed, e2, hd', a1, b6, eq_true hi1, t1]
        · by_cases hi : vl i X.length
          · obtain ⟨q, rfl, hq⟩ := vl_ex hi
            have uq : (nI q ≤ nI X.length - nI 1) = True := eq_true (show nI 0 ≤ nI q ∧ _ by rw [e3]; exact hi).2
            have hx1 := o3 q _ (List.getElem?_eq_getElem hq)
            have hx2 := t2 q _ (List.getElem?_eq_getElem hq)
            obtain ⟨val, hval⟩ : ∃ v, v = nI X[q] := ⟨_, rfl⟩
            rw [← hval] at hx1 hx2
            clear hval
            refine fin val ?_ ?_
            · generalize X.length = xl at *
              simp (disch := first | with_reducible assumption | omega | (simp only [MI_sai_iff, MI_sfi_iff]; with_reducible assumption)) only [li, ↓lr_, ↓bd_m, ↓oc_m, ↓reduceIte, bi_0, bi_0n, bi_1, bi_1n, not_true_eq_false, not_false_eq_true, Nat.reduceAdd, Nat.reduceMul, nI_mul, nI_add, inb_T, ix_nI, le_T, le_F, lt_T, lt_F, eq_F, and_self, and_true, true_and, false_and, and_false, or_true, true_or, or_false, false_or, bi_eq, x_within, m_in, f9_listed, r0, e1, b2, eq_false hi1, r291', f3_has, f3_pageAt, o2, r96', l18', ofN, hx1]
            · generalize X.length = xl at *
              simp (disch := first | with_reducible assumption | omega | (simp only [MI_sai_iff, MI_sfi_iff]; with_reducible assumption)) only [li, ↓lr_, ↓bd_m, ↓oc_m, ↓reduceIte, bi_0, bi_0n, bi_1, bi_1n, not_true_eq_false, not_false_eq_true, Nat.reduceAdd, Nat.reduceMul, nI_mul, nI_add, inb_T, ix_nI, le_T, le_F, lt_T, lt_F, eq_F, and_self, and_true, true_and, false_and, and_false, or_true, true_or, or_false, false_or, bi_eq, x_within, m_in, f10_listed, e2, hd', a1, b6, eq_false hi1, t1, uq, q5, n5, hx2]
          · refine fin (-nI 6) ?_ ?_
            · generalize X.length = xl at *
              rcases int_cases i with q | ⟨z, hz, rfl⟩
              · simp (disch := first | with_reducible assumption | omega | (simp only [MI_sai_iff, MI_sfi_iff]; with_reducible assumption)) only [li, ↓lr_, ↓bd_m, ↓oc_m, ↓reduceIte, bi_0, bi_0n, bi_1, bi_1n, not_true_eq_false, not_false_eq_true, Nat.reduceAdd, Nat.reduceMul, nI_mul, nI_add, inb_T, ix_nI, le_T, le_F, lt_T, lt_F, eq_F, and_self, and_true, true_and, false_and, and_false, or_true, true_or, or_false, false_or, bi_eq, x_within, m_in, f9_listed, r0, e1, b2, eq_false hi1, r291', f3_has, eq_true q, f3_has_b25]
              · have hge : xl ≤ z := by
                  rcases Nat.lt_or_ge z xl with w | w
                  · exact absurd (vl_of w (by omega)) hi
                  · exact w
                simp (disch := first | with_reducible assumption | omega | (simp only [MI_sai_iff, MI_sfi_iff]; with_reducible assumption)) only [li, ↓lr_, ↓bd_m, ↓oc_m, ↓reduceIte, bi_0, bi_0n, bi_1, bi_1n, not_true_eq_false, not_false_eq_true, Nat.reduceAdd, Nat.reduceMul, nI_mul, nI_add, inb_T, ix_nI, le_T, le_F, lt_T, lt_F, eq_F, and_self, and_true, true_and, false_and, and_false, or_true, true_or, or_false, false_or, bi_eq, x_within, m_in, f9_listed, r0, e1, b2, eq_false hi1, r291', f3_has, o2, f3_has_b25]
            · generalize X.length = xl at *
              simp (disch := first | with_reducible assumption | omega | (simp only [MI_sai_iff, MI_sfi_iff]; with_reducible assumption)) only [li, ↓lr_, ↓bd_m, ↓oc_m, ↓reduceIte, bi_0, bi_0n, bi_1, bi_1n, not_true_eq_false, not_false_eq_true, Nat.reduceAdd, Nat.reduceMul, nI_mul, nI_add, inb_T, ix_nI, le_T, le_F, lt_T, lt_F, eq_F, and_self, and_true, true_and, false_and, and_false, or_true, true_or, or_false, false_or, bi_eq, x_within, m_in, f10_listed, e2, hd', a1, b6, eq_false hi1, t1, e3, eq_false hi]
      · rw [if_neg hl] at b2 b6
        have n4 : (-nI 4 = nI 0) = False := neg_eq0 (by omega) (by omega)
        refine ⟨-nI 4, gX', gM', ?_, ?_, hR, by rw [rX.2.2.2.2.1]; omega, by rw [rX.2.2.2.2.2]; omega, b7.1.2.2.2.2.1, b7.1.2.2.2.2.2⟩
        · simp (disch := first | with_reducible assumption | omega | (simp only [MI_sai_iff, MI_sfi_iff]; with_reducible assumption)) only [li, ↓lr_, ↓bd_m, ↓oc_m, ↓reduceIte, bi_0, bi_0n, bi_1, bi_1n, not_true_eq_false, not_false_eq_true, Nat.reduceAdd, Nat.reduceMul, nI_mul, nI_add, inb_T, ix_nI, le_T, le_F, lt_T, lt_F, eq_F, and_self, and_true, true_and, false_and, and_false, or_true, true_or, or_false, false_or, bi_eq, x_within, m_in, f9_listed, r0, e1, b2, n4]
        · simp (disch := first | with_reducible assumption | omega | (simp only [MI_sai_iff, MI_sfi_iff]; with_reducible assumption)) only [li, ↓lr_, ↓bd_m, ↓oc_m, ↓reduceIte, bi_0, bi_0n, bi_1, bi_1n, not_true_eq_false, not_false_eq_true, Nat.reduceAdd, Nat.reduceMul, nI_mul, nI_add, inb_T, ix_nI, le_T, le_F, lt_T, lt_F, eq_F, and_self, and_true, true_and, false_and, and_false, or_true, true_or, or_false, false_or, bi_eq, x_within, m_in, f10_listed, e2, hd', a1, b6]
  · rw [if_neg hd] at e1
    refine op_fin h ?_ ?_ (r := -nI 1)
    · simp (disch := first | with_reducible assumption | omega | (simp only [MI_sai_iff, MI_sfi_iff]; with_reducible assumption)) only [li, ↓lr_, ↓bd_m, ↓oc_m, ↓reduceIte, bi_0, bi_0n, bi_1, bi_1n, not_true_eq_false, not_false_eq_true, Nat.reduceAdd, Nat.reduceMul, nI_mul, nI_add, inb_T, ix_nI, le_T, le_F, lt_T, lt_F, eq_F, and_self, and_true, true_and, false_and, and_false, or_true, true_or, or_false, false_or, bi_eq, x_within, m_in, f9_listed, r0, e1]
    · simp (disch := first | with_reducible assumption | omega | (simp only [MI_sai_iff, MI_sfi_iff]; with_reducible assumption)) only [li, ↓lr_, ↓bd_m, ↓oc_m, ↓reduceIte, bi_0, bi_0n, bi_1, bi_1n, not_true_eq_false, not_false_eq_true, Nat.reduceAdd, Nat.reduceMul, nI_mul, nI_add, inb_T, ix_nI, le_T, le_F, lt_T, lt_F, eq_F, and_self, and_true, true_and, false_and, and_false, or_true, true_or, or_false, false_or, bi_eq, x_within, m_in, f10_listed, e2, eq_false hd, bi_eq]
