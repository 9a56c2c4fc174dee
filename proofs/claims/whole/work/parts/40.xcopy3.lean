/-! the class: a spool copied onto another, all of it -/
theorem x_arr {g : GS_} {S S' c n : Nat} (hS : S < 4) (hS' : S' < 4) (hne : S' ≠ S) (hc : c < 9) : NR g (saw g 20 (bb S + c) (va_cpy (gai g 20 (bb S' + c)) (gai g 20 (bb S + c)) 0 0 n)) ∧ gfi (saw g 20 (bb S + c) (va_cpy (gai g 20 (bb S' + c)) (gai g 20 (bb S + c)) 0 0 n)) = gfi g ∧
    (∀ i, i ≠ bb S + c → gai (saw g 20 (bb S + c) (va_cpy (gai g 20 (bb S' + c)) (gai g 20 (bb S + c)) 0 0 n)) 20 i = gai g 20 i) ∧ ∀ k, k < n → gai (saw g 20 (bb S + c) (va_cpy (gai g 20 (bb S' + c)) (gai g 20 (bb S + c)) 0 0 n)) 20 (bb S + c) k = gai g 20 (bb S' + c) k :=
  ⟨⟨rfl, rfl, rfl, rfl, rfl, rfl⟩, rfl, fun i hi => saw_ne (fun q => hi q.2), fun k hk => by rw [saw_self, cpy0 hk]⟩
theorem x_textCopy {g : GS_} {S S' : Nat} (hX : XSp g S) (hX' : XSp g S') (hS : S < 4) (hS' : S' < 4) (hne : S' ≠ S) : ∃ g', f6_copyFrom S (some S') g = some ((), g') ∧ NR g g' ∧ (∀ f i, gfi g' f i = if f = 193 ∧ i = S then gfi g 193 S' else gfi g f i) ∧ (∀ i, i ≠ bb S → gai g' 20 i = gai g 20 i) ∧ ∀ k, k < 40 → gai g' 20 (bb S) k = gai g 20 (bb S') k := by
  obtain ⟨s1, s2, s3, s4, s5, s6, s7, s8, s9, s10, s11, s12, s13, s14, s15, s16, s17, s18, s19, s20, s21⟩ := hX
  obtain ⟨t1, t2, t3, t4, t5, t6, t7, t8, t9, t10, t11, t12, t13, t14, t15, t16, t17, t18, t19, t20, t21⟩ := hX'
  refine ⟨_, by simp (disch := first | with_reducible assumption | omega | (simp only [MI_sai_iff, MI_sfi_iff]; with_reducible assumption)) only [li, ↓lr_, ↓bd_m, ↓oc_m, ↓reduceIte, bi_0, bi_0n, bi_1, bi_1n, not_true_eq_false, not_false_eq_true, Nat.reduceAdd, Nat.reduceMul, nI_mul, nI_add, inb_T, ix_nI, le_T, le_F, lt_T, lt_F, eq_F, ↓cp_, cpC, ofN, f6_copyFrom, e_gfr_sfi, e_gln_sfi, s8, s9, t8, t9]; rfl, ?_⟩
  refine ⟨⟨rfl, rfl, rfl, rfl, rfl, rfl⟩, fun f i => rfl, fun i hi => ?_, fun k hk => ?_⟩
  · rw [saw_ne (fun q => hi q.2)]
    rfl
  · rw [saw_self, cpy0 hk]
    try rfl
theorem x_logCopy {g : GS_} {S S' : Nat} (hX : XSp g S) (hX' : XSp g S') (hS : S < 4) (hS' : S' < 4) (hne : S' ≠ S) : ∃ g', f2_copyFrom S (some S') g = some ((), g') ∧ NR g g' ∧ (∀ f i, gfi g' f i = if f = 65 ∧ i = S then gfi g 65 S' else gfi g f i) ∧ (∀ i, i ≠ bb S + 4 → gai g' 20 i = gai g 20 i) ∧ ∀ k, k < 400 → gai g' 20 (bb S + 4) k = gai g 20 (bb S' + 4) k := by
  obtain ⟨s1, s2, s3, s4, s5, s6, s7, s8, s9, s10, s11, s12, s13, s14, s15, s16, s17, s18, s19, s20, s21⟩ := hX
  obtain ⟨t1, t2, t3, t4, t5, t6, t7, t8, t9, t10, t11, t12, t13, t14, t15, t16, t17, t18, t19, t20, t21⟩ := hX'
  refine ⟨_, by simp (disch := first | with_reducible assumption | omega | (simp only [MI_sai_iff, MI_sfi_iff]; with_reducible assumption)) only [li, ↓lr_, ↓bd_m, ↓oc_m, ↓reduceIte, bi_0, bi_0n, bi_1, bi_1n, not_true_eq_false, not_false_eq_true, Nat.reduceAdd, Nat.reduceMul, nI_mul, nI_add, inb_T, ix_nI, le_T, le_F, lt_T, lt_F, eq_F, ↓cp_, cpC, ofN, f2_copyFrom, e_gfr_sfi, e_gln_sfi, s17, s18, t17, t18]; rfl, ?_⟩
  refine ⟨⟨rfl, rfl, rfl, rfl, rfl, rfl⟩, fun f i => rfl, fun i hi => ?_, fun k hk => ?_⟩
  · rw [saw_ne (fun q => hi q.2)]
    rfl
  · rw [saw_self, cpy0 hk]
    try rfl
/-- what the last part does -/
def TL (S S' : Nat) (g g' : GS_) : Prop :=
  NR g g' ∧ (∀ f i, ¬ ((f = 193 ∨ f = 65 ∨ (268 ≤ f ∧ f ≤ 271)) ∧ i = S) → gfi g' f i = gfi g f i) ∧ (∀ i, ¬ (bb S ≤ i ∧ i < bb S + 6) → gai g' 20 i = gai g 20 i) ∧
  (gfi g' 193 S = gfi g 193 S' ∧ gfi g' 65 S = gfi g 65 S' ∧ gfi g' 268 S = gfi g 268 S' ∧ gfi g' 269 S = gfi g 269 S' ∧ gfi g' 270 S = gfi g 270 S' ∧ gfi g' 271 S = gfi g 271 S') ∧
  (∀ k, k < 40 → gai g' 20 (bb S) k = gai g 20 (bb S') k) ∧ (∀ k, k < 6 → gai g' 20 (bb S + 1) k = gai g 20 (bb S' + 1) k ∧ gai g' 20 (bb S + 2) k = gai g 20 (bb S' + 2) k ∧ gai g' 20 (bb S + 3) k = gai g 20 (bb S' + 3) k) ∧
  (∀ k, k < 400 → gai g' 20 (bb S + 4) k = gai g 20 (bb S' + 4) k) ∧ ∀ k, k < 24 → gai g' 20 (bb S + 5) k = gai g 20 (bb S' + 5) k
theorem x_copyTail {g2 g3 g4 : GS_} {S S' f : Nat} (hX : XSp g4 S) (hX' : XSp g4 S') (hS : S < 4) (hS' : S' < 4) (hne : S' ≠ S) (h2 : XSp g2 S) (e1 : f8_copyJobs S (some S') g2 = some ((), g3)) (e2 : f8_copyPrinters S (some S') g3 = some ((), g4)) :
    ∃ g', f8_copyFrom_b10 (f + 1) S (some S') (nI 10) g2 = some ((), g') ∧ TL S S' g4 g' := by
  obtain ⟨g5, a1, a2, a3, a4, a5⟩ := x_textCopy hX hX' hS hS' hne
  have x5 := XSp_NR a2 hX
  have x5' := XSp_NR a2 hX'
  obtain ⟨b1, b2, b3, b4⟩ := x_arr (g := g5) (c := 1) (n := 6) hS hS' hne (by omega)
  generalize hg6 : saw g5 20 (bb S + 1) (va_cpy (gai g5 20 (bb S' + 1)) (gai g5 20 (bb S + 1)) 0 0 6) = g6 at *
  have x6 := XSp_NR b1 x5
  have x6' := XSp_NR b1 x5'
  obtain ⟨c1, c2, c3, c4⟩ := x_arr (g := g6) (c := 2) (n := 6) hS hS' hne (by omega)
  generalize hg7 : saw g6 20 (bb S + 2) (va_cpy (gai g6 20 (bb S' + 2)) (gai g6 20 (bb S + 2)) 0 0 6) = g7 at *
  have x7 := XSp_NR c1 x6
  have x7' := XSp_NR c1 x6'
  obtain ⟨d1, d2, d3, d4⟩ := x_arr (g := g7) (c := 3) (n := 6) hS hS' hne (by omega)
  generalize hg8 : saw g7 20 (bb S + 3) (va_cpy (gai g7 20 (bb S' + 3)) (gai g7 20 (bb S + 3)) 0 0 6) = g8 at *
  have x8 := XSp_NR d1 x7
  have x8' := XSp_NR d1 x7'
  obtain ⟨g9, l1, l2, l3, l4, l5⟩ := x_logCopy x8 x8' hS hS' hne
  have x9 := XSp_NR l2 x8
  have x9' := XSp_NR l2 x8'
  obtain ⟨m1, m2, m3, m4⟩ := x_arr (g := g9) (c := 5) (n := 24) hS hS' hne (by omega)
  generalize hg10 : saw g9 20 (bb S + 5) (va_cpy (gai g9 20 (bb S' + 5)) (gai g9 20 (bb S + 5)) 0 0 24) = g10 at *
  have bne : ∀ c k, c < 9 → k < 9 → bb S' + c ≠ bb S + k := fun c k h1 h2 => bb_ne hS hS' h2 h1 hne
  have bne0 : ∀ k, k < 9 → bb S' ≠ bb S + k := fun k h2 => bb_ne (k' := 0) hS hS' h2 (by omega) hne
  have bne1 : ∀ k, k < 9 → bb S' + k ≠ bb S := fun k h2 => bb_ne (k := 0) hS hS' (by omega) h2 hne
  have i4 : ∀ f, ¬ f = 193 → ¬ f = 65 → ∀ i, gfi g10 f i = gfi g4 f i := fun f h1 h2 i => by rw [m2, l3, if_neg (fun q => h2 q.1), d2, c2, b2, a3, if_neg (fun q => h1 q.1)]
  refine ⟨sfi (sfi (sfi (sfi g10 268 S (gfi g4 268 S')) 269 S (gfi g4 269 S')) 270 S (gfi g4 270 S')) 271 S (gfi g4 271 S'), ?_, ?_⟩
  · rw [f8_copyFrom_b10.eq_2]
    have w1 := i4 268 (by omega) (by omega) S'
    have w2 := i4 269 (by omega) (by omega) S'
    have w3 := i4 270 (by omega) (by omega) S'
    have w4 := i4 271 (by omega) (by omega) S'
    simp (disch := first | with_reducible assumption | omega | (simp only [MI_sai_iff, MI_sfi_iff]; with_reducible assumption)) only [li, ↓lr_, ↓bd_m, ↓oc_m, ↓reduceIte, bi_0, bi_0n, bi_1, bi_1n, not_true_eq_false, not_false_eq_true, Nat.reduceAdd, Nat.reduceMul, nI_mul, nI_add, inb_T, ix_nI, le_T, le_F, lt_T, lt_F, eq_F, ↓cp_, cpC, ofN, h2.1, h2.2.1, e1, e2, hX.2.2.2.2.2.2.1, hX'.2.2.2.2.2.2.1, a1, x5.2.2.2.2.2.2.2.2.2.1, x5'.2.2.2.2.2.2.2.2.2.1, x5.2.2.2.2.2.2.2.2.2.2.1, x5'.2.2.2.2.2.2.2.2.2.2.1, hg6, x6.2.2.2.2.2.2.2.2.2.2.2.1, x6'.2.2.2.2.2.2.2.2.2.2.2.1, x6.2.2.2.2.2.2.2.2.2.2.2.2.1, x6'.2.2.2.2.2.2.2.2.2.2.2.2.1, hg7, x7.2.2.2.2.2.2.2.2.2.2.2.2.2.1, x7'.2.2.2.2.2.2.2.2.2.2.2.2.2.1, x7.2.2.2.2.2.2.2.2.2.2.2.2.2.2.1, x7'.2.2.2.2.2.2.2.2.2.2.2.2.2.2.1, hg8, x8.2.2.2.2.2.2.2.2.2.2.2.2.2.2.2.1, x8'.2.2.2.2.2.2.2.2.2.2.2.2.2.2.2.1, l1, x9.2.2.2.2.2.2.2.2.2.2.2.2.2.2.2.2.2.2.1, x9'.2.2.2.2.2.2.2.2.2.2.2.2.2.2.2.2.2.2.1, x9.2.2.2.2.2.2.2.2.2.2.2.2.2.2.2.2.2.2.2.1, x9'.2.2.2.2.2.2.2.2.2.2.2.2.2.2.2.2.2.2.2.1, hg10, e_gfi_sfi, Nat.reduceEqDiff, false_and, w1, w2, w3, w4]
  · refine ⟨NR_tr a2 (NR_tr b1 (NR_tr c1 (NR_tr d1 (NR_tr l2 (NR_tr m1 ⟨rfl, rfl, rfl, rfl, rfl, rfl⟩))))), fun f i q => ?_, fun i q => ?_, ?_, fun k hk => ?_, fun k hk => ?_, fun k hk => ?_, fun k hk => ?_⟩
    · rw [e_gfi_sfi, if_neg (fun w => q ⟨by omega, w.2⟩), e_gfi_sfi, if_neg (fun w => q ⟨by omega, w.2⟩), e_gfi_sfi, if_neg (fun w => q ⟨by omega, w.2⟩), e_gfi_sfi, if_neg (fun w => q ⟨by omega, w.2⟩)]
      rw [m2, l3, if_neg (fun w => q ⟨by omega, w.2⟩), d2, c2, b2, a3, if_neg (fun w => q ⟨by omega, w.2⟩)]
    · simp only [gai_sfi]
      rw [m3 i (by omega), l4 i (by omega), d3 i (by omega), c3 i (by omega), b3 i (by omega), a4 i (by omega)]
    · simp only [e_gfi_sfi, Nat.reduceEqDiff, false_and, and_self, ↓reduceIte]
      refine ⟨?_, ?_, trivial⟩
      · rw [m2, l3, if_neg (by omega), d2, c2, b2, a3, if_pos ⟨rfl, rfl⟩]
      · rw [m2, l3, if_pos ⟨rfl, rfl⟩, d2, c2, b2, a3, if_neg (by omega)]
    · simp only [gai_sfi]
      rw [m3 _ (by omega), l4 _ (by omega), d3 _ (by omega), c3 _ (by omega), b3 _ (by omega), a5 k hk]
    · simp only [gai_sfi]
      refine ⟨?_, ?_, ?_⟩
      · rw [m3 _ (by omega), l4 _ (by omega), d3 _ (by omega), c3 _ (by omega), b4 k hk, a4 _ (bne1 _ (by omega))]
      · rw [m3 _ (by omega), l4 _ (by omega), d3 _ (by omega), c4 k hk, b3 _ (bne _ _ (by omega) (by omega)), a4 _ (bne1 _ (by omega))]
      · rw [m3 _ (by omega), l4 _ (by omega), d4 k hk, c3 _ (bne _ _ (by omega) (by omega)), b3 _ (bne _ _ (by omega) (by omega)), a4 _ (bne1 _ (by omega))]
    · simp only [gai_sfi]
      rw [m3 _ (by omega), l5 k hk, d3 _ (bne _ _ (by omega) (by omega)), c3 _ (bne _ _ (by omega) (by omega)), b3 _ (bne _ _ (by omega) (by omega)), a4 _ (bne1 _ (by omega))]
    · simp only [gai_sfi]
      rw [m4 k hk, l4 _ (bne _ _ (by omega) (by omega)), d3 _ (bne _ _ (by omega) (by omega)), c3 _ (bne _ _ (by omega) (by omega)), b3 _ (bne _ _ (by omega) (by omega)), a4 _ (bne1 _ (by omega))]
/-- a spool is copied onto another -/
theorem x_copyFrom {g : GS_} {S S' : Nat} {a l : Nat → Int32} {F : List Nat} (hX : XS g) (hS : S < 4) (hS' : S' < 4) (hne : S' ≠ S) (h : SpO g S' a l F) (hF : F.length ≤ 24) :
    ∃ g', f8_copyFrom S (some S') g = some ((), g') ∧ GF S g g' ∧ XS g' ∧ SpO g' S a l F ∧ (ghs g' ≤ ghs g + 24 ∧ gsl g' ≤ gsl g + 168) ∧ gfi g' 272 S = gfi g 272 S ∧ (∀ t, t ≠ 1 → gcn g' t = gcn g t) := by
  obtain ⟨-, hX', h0, hT, hD⟩ := h
  have h3 := Iv0_d h0
  have h4 := Iv0_j h0
  have h5 := Iv0_p h0
  have hc41 : 41 ≤ gcn g 20 := by obtain ⟨⟨-, -, -, -, -, -, -, -, -, -, -, -, -, -, -, -, -, -, k, -⟩, -⟩ := hX; exact k
  -- the documents
  have n257 : gfi g 257 S' = nI (tn (a 3)) := hT.1.1.trans (vl_nI h0.1).1
  have T1 : TF S g (sfi g 257 S (nI (tn (a 3)))) := by
    refine ⟨NR_rfl, fun f i q => ?_, fun _ _ => rfl⟩
    rw [e_gfi_sfi, if_neg]
    rintro ⟨rfl, rfl⟩
    exact q (Or.inr (Or.inr ⟨by omega, rfl⟩))
  have hX1 := XS_TF T1 hX
  obtain ⟨g2, f, a1, a2⟩ := x_copyDocs (hX1.2.1 S hS) (hX1.2.1 S' hS') hne h3 (by rw [e_gfi_sfi, if_neg (by omega)]; exact n257) FU_ 0 (sfi g 257 S (nI (tn (a 3)))) (by omega) (by unfold FU_; omega) ⟨rfl, rfl, rfl, rfl, rfl, rfl, rfl, fun _ _ _ => rfl, fun d hd => by omega⟩
  have G2 : GF S g g2 := by
    refine GF_tr (TF_GF T1) ⟨fun f i _ _ => by rw [a2.1], fun f i _ _ => by rw [a2.2.1], fun i _ => by rw [a2.2.2.2.1], fun t i _ => by rw [a2.2.2.2.1], fun i _ _ => by rw [a2.2.2.1], fun t i q => a2.2.2.2.2.2.2.2.1 t i (fun w => q (Or.inr ⟨Or.inl w.1, w.2⟩)), fun t => by rw [a2.2.2.2.2.1]; exact Nat.le_refl _, ⟨by rw [a2.2.2.2.2.1], by rw [a2.2.2.2.2.1]⟩, fun j J hj hJ => Or.inl ⟨j, hj, ?_⟩⟩
    rw [a2.2.2.2.2.2.2.2.1 23 S (by omega)] at hJ
    exact hJ
  have hX2 : XS g2 := XS_GF G2 hX hS (fun j J hj hJ => by
    rw [a2.2.2.2.2.2.2.2.1 23 S (by omega)] at hJ
    have hJ' : gar g 23 S j = some J := hJ
    obtain ⟨b1, b2, b3⟩ := hX.2.2 S j J hS hj hJ'
    refine ⟨by rw [a2.2.2.2.2.1]; exact b1, ?_, fun j' hj' hJj => ?_⟩
    · rw [a2.1, e_gfi_sfi, if_neg (by omega)]
      exact b2
    · rw [a2.2.2.2.2.2.2.2.1 23 S (by omega)] at hJj
      exact (b3 S j' hS hj' hJj).2)
  have T2 := XT0_GF G2 hX hS hS' hne h4 h5 hT
  have D2 := XD_GF G2 hX hS hS' hne h4 h5 hD
  -- the jobs
  have n259 : gfi g2 259 S' = nI (tn (a 4)) := T2.1.2.1.trans (vl_nI h0.2.1).1
  obtain ⟨g3, b1, b2⟩ := x_copyJobs hX2 hS hS' hne h4 n259 (fun j hj => by
    obtain ⟨J, Q, w, -⟩ := T2.2.2.2.2.1 j hj
    exact ⟨J, w⟩)
  have T3 : TF S g2 (sfi g2 259 S (nI (tn (a 4)))) := by
    refine ⟨NR_rfl, fun f i q => ?_, fun _ _ => rfl⟩
    rw [e_gfi_sfi, if_neg]
    rintro ⟨rfl, rfl⟩
    exact q (Or.inr (Or.inr ⟨by omega, rfl⟩))
  have hX2' := XS_TF T3 hX2
  have hX3 : XS g3 := XS_GF b2.1 hX2' hS b2.2.2.2.2.2.2.2.2.2
  have G3 : GF S g g3 := GF_tr G2 (GF_tr (TF_GF T3) b2.1)
  have U3 := XT0_GF G3 hX hS hS' hne h4 h5 hT
  have E3 := XD_GF G3 hX hS hS' hne h4 h5 hD
  -- the printers
  have n261 : gfi g3 261 S' = nI (tn (a 5)) := U3.1.2.2.1.trans (vl_nI h0.2.2.1).1
  obtain ⟨g4, c1, c2⟩ := x_copyPrinters (hX3.2.1 S hS) (hX3.2.1 S' hS') hS hS' hne h5 n261 (fun p hp => by
    rw [(U3.2.2.2.2.2 p hp).2.2]
    have hb := vl_nI (h0.2.2.2.2.2.2 p hp).2.2.2.2
    have hb2 : tn (a (76 + 10 * p + 2)) < 2 := hb.2
    rcases (show tn (a (76 + 10 * p + 2)) = 0 ∨ tn (a (76 + 10 * p + 2)) = 1 by omega) with w | w
    · exact Or.inl (by rw [hb.1, w])
    · exact Or.inr (by rw [hb.1, w]))
  have T4 : TF S g3 (sfi g3 261 S (nI (tn (a 5)))) := by
    refine ⟨NR_rfl, fun f i q => ?_, fun _ _ => rfl⟩
    rw [e_gfi_sfi, if_neg]
    rintro ⟨rfl, rfl⟩
    exact q (Or.inr (Or.inr ⟨by omega, rfl⟩))
  have T5 : TF S (sfi g3 261 S (nI (tn (a 5)))) g4 := ⟨c2.1, fun f i q => c2.2.1 f i (fun w => q (Or.inr (Or.inl w))), fun i q => c2.2.2.1 i (by omega)⟩
  have hX4 := XS_TF T5 (XS_TF T4 hX3)
  have G4 : GF S g g4 := GF_tr G3 (TF_GF (TF_tr T4 T5))
  have U4 := XT0_GF G4 hX hS hS' hne h4 h5 hT
  have E4 := XD_GF G4 hX hS hS' hne h4 h5 hD
  -- the rest
  obtain ⟨g5, d1, d2⟩ := x_copyTail (f := f) (hX4.2.1 S hS) (hX4.2.1 S' hS') hS hS' hne (hX2.2.1 S hS) b1 c1
  have T6 : TF S g4 g5 := ⟨d2.1, fun f i q => d2.2.1 f i (fun w => q (Or.inr (Or.inr ⟨by omega, w.2⟩))), fun i q => d2.2.2.1 i (by omega)⟩
  have hX5 := XS_TF T6 hX4
  have G5 : GF S g g5 := GF_tr G4 (TF_GF T6)
  -- from stage to stage
  have i34 : ∀ f i, f / 32 = 1 → gfi g5 f i = gfi g3 f i := fun f i hf => by
    rw [d2.2.1 f i (by omega), c2.2.1 f i (by omega), e_gfi_sfi, if_neg (by omega)]
  have ip : ∀ f p, 160 ≤ f → f < 168 → gfi g5 f p = gfi g4 f p := fun f p f1 f2 => d2.2.1 f p (by omega)
  have r5 : gfr g5 = gfr g3 := by rw [d2.1.1, c2.1.1]; rfl
  have ga5 : gar g5 = gar g3 := by rw [d2.1.2.2.1, c2.1.2.2.1]; rfl
  have own5 : ∀ f, (f = 257 ∨ f = 272) → gfi g5 f S = gfi g2 f S := fun f hf => by
    rw [d2.2.1 f S (by omega), c2.2.1 f S (by omega), e_gfi_sfi, if_neg (by omega), b2.2.2.2.2.1 f S (by omega), e_gfi_sfi, if_neg (by omega)]
  obtain ⟨⟨k1, k2, k3, k4, k5, k6⟩, k7, k8, k9, k10, k11⟩ := id U4
  obtain ⟨m1, m2, ⟨m3, m4⟩, m5, m6, m7, m8⟩ := id E4
  obtain ⟨v1, v2, v3, v4, v5, v6⟩ := d2.2.2.2.1
  refine ⟨g5, ?_, G5, hX5, ⟨⟨hS, XJ_XS hX5 hS⟩, hX5.2.1 S hS, h0, ⟨⟨?_, ?_, ?_, v4.trans k4, v5.trans k5, v1.trans k6⟩, ?_, ?_, ?_, ?_, ?_⟩, ?_, ?_, ⟨v2.trans m3, ?_⟩, ?_, v6.trans m6, v3.trans m7, ?_⟩, ?_, ?_, ?_⟩
  · simp (disch := first | with_reducible assumption | omega | (simp only [MI_sai_iff, MI_sfi_iff]; with_reducible assumption)) only [li, ↓lr_, ↓bd_m, ↓oc_m, ↓reduceIte, bi_0, bi_0n, bi_1, bi_1n, not_true_eq_false, not_false_eq_true, Nat.reduceAdd, Nat.reduceMul, nI_mul, nI_add, inb_T, ix_nI, le_T, le_F, lt_T, lt_F, eq_F, f8_copyFrom, n257, a1, d1]
  · rw [own5 257 (Or.inl rfl), a2.1, e_gfi_sfi, if_pos ⟨rfl, rfl⟩]
    exact (vl_nI h0.1).1.symm
  · rw [d2.2.1 259 S (by omega), c2.2.1 259 S (by omega), e_gfi_sfi, if_neg (by omega), b2.2.2.2.2.1 259 S (by omega), e_gfi_sfi, if_pos ⟨rfl, rfl⟩]
    exact (vl_nI h0.2.1).1.symm
  · rw [d2.2.1 261 S (by omega), c2.2.1 261 S (by omega), e_gfi_sfi, if_pos ⟨rfl, rfl⟩]
    exact (vl_nI h0.2.2.1).1.symm
  · intro k hk
    rw [d2.2.2.2.2.1 k hk]
    exact k7 k hk
  · intro u hu
    rw [(d2.2.2.2.2.2.1 u hu).1, (d2.2.2.2.2.2.1 u hu).2.1]
    exact k8 u hu
  · intro d hd
    obtain ⟨D, w1, w2⟩ := hT.2.2.2.1 d hd
    refine ⟨D, ?_, DocV_GF G5 w2⟩
    rw [ga5, b2.2.2.2.2.2.2.1 22 S (by omega)]
    show gar g2 22 S d = _
    rw [a2.2.2.2.2.2.2.2.2 d (by omega) hd]
    exact w1
  · intro j hj
    obtain ⟨J0, Q, w1, w2, w3, w4⟩ := T2.2.2.2.2.1 j hj
    obtain ⟨J, J', y1, y2, y3, y4⟩ := b2.2.2.2.2.2.2.2.2.1 j hj
    have y2' : gar g2 23 S' j = some J' := y2
    rw [w1] at y2'
    cases y2'
    obtain ⟨J1, Q1, z1, z2, z3, z4⟩ := hT.2.2.2.2.1 j hj
    have e1 : gar g2 23 S' = gar g 23 S' := G2.2.2.2.2.2.1 23 S' (by omega)
    rw [e1, z1] at w1
    cases w1
    have hQ : PlV g5 Q a l j := PlV_TF T6 (PlV_TF T5 (PlV_TF T4 (PlV_GF b2.1 (PlV_TF T3 w3))))
    refine ⟨J, Q, by rw [ga5]; exact y1, by rw [r5, y3]; exact w2, hQ, ?_⟩
    rw [i34 34 J (by omega), y4 34 (by omega) (by omega), e_gfi_sfi, if_neg (by omega)]
    exact w4
  · intro p hp
    rw [ip _ _ (by omega) (by omega), ip _ _ (by omega) (by omega), ip _ _ (by omega) (by omega)]
    have q := (c2.2.2.2 p hp).1
    rw [q 160 (by omega) (by omega) (by omega), q 161 (by omega) (by omega) (by omega), q 162 (by omega) (by omega) (by omega), e_gfi_sfi, if_neg (by omega), e_gfi_sfi, if_neg (by omega), e_gfi_sfi, if_neg (by omega)]
    exact U3.2.2.2.2.2 p hp
  · intro j J hj hJ
    rw [ga5] at hJ
    obtain ⟨J2, J', y1, y2, y3, y4⟩ := b2.2.2.2.2.2.2.2.2.1 j hj
    rw [hJ] at y1
    cases y1
    have y2' : gar g2 23 S' j = some J' := y2
    rw [i34 35 J (by omega), i34 36 J (by omega), i34 37 J (by omega), i34 38 J (by omega), y4 35 (by omega) (by omega), y4 36 (by omega) (by omega), y4 37 (by omega) (by omega), y4 38 (by omega) (by omega), e_gfi_sfi, if_neg (by omega), e_gfi_sfi, if_neg (by omega), e_gfi_sfi, if_neg (by omega), e_gfi_sfi, if_neg (by omega)]
    exact D2.1 j J' hj y2'
  · intro p hp
    obtain ⟨q, qz⟩ := c2.2.2.2 p hp
    rw [ip _ _ (by omega) (by omega), ip _ _ (by omega) (by omega), ip _ _ (by omega) (by omega), ip _ _ (by omega) (by omega), q 164 (by omega) (by omega) (by omega), q 165 (by omega) (by omega) (by omega), q 166 (by omega) (by omega) (by omega), q 167 (by omega) (by omega) (by omega), e_gfi_sfi, if_neg (by omega), e_gfi_sfi, if_neg (by omega), e_gfi_sfi, if_neg (by omega), e_gfi_sfi, if_neg (by omega)]
    refine ⟨fun z hz => ?_, (E3.2.1 p hp).2⟩
    rw [d2.2.2.1 _ (by omega), qz z hz, gai_sfi]
    exact (E3.2.1 p hp).1 z hz
  · intro k hk
    rw [d2.2.2.2.2.2.2.1 k hk]
    exact m4 k hk
  · intro u hu
    rw [(d2.2.2.2.2.2.1 u hu).2.2]
    exact m5 u hu
  · intro i x hi
    have hil := (List.getElem?_eq_some_iff.mp hi).1
    rw [d2.2.2.2.2.2.2.2 i (by omega)]
    exact m8 i x hi
  · have e1 : ghs g5 = ghs g3 := by rw [d2.1.2.2.2.2.1, c2.1.2.2.2.2.1]; rfl
    have e2 : gsl g5 = gsl g3 := by rw [d2.1.2.2.2.2.2, c2.1.2.2.2.2.2]; rfl
    have e3 : ghs g2 = ghs g := by rw [a2.2.2.2.2.2.1]; rfl
    have e4 : gsl g2 = gsl g := by rw [a2.2.2.2.2.2.2.1]; rfl
    have e5 : ghs (sfi g2 259 S (nI (tn (a 4)))) = ghs g2 := rfl
    have e6 : gsl (sfi g2 259 S (nI (tn (a 4)))) = gsl g2 := rfl
    have b8 := b2.2.2.2.2.2.2.2.1
    rw [e1, e2]
    omega
  · rw [own5 272 (Or.inr rfl), a2.1, e_gfi_sfi, if_neg (by omega)]
  · intro t ht
    rw [d2.1.2.2.2.1, c2.1.2.2.2.1]
    show gcn g3 t = _
    rw [b2.2.2.2.1 t ht]
    show gcn g2 t = _
    rw [a2.2.2.2.2.1]
    rfl
