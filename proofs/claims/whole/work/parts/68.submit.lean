/-! submit -/
theorem Rel_scr0 {gX gX' gM gM' : GS_} {n : Nat} (h : Rel gX gM n) (hX : FX gX gX') (hM : FLi gM gM') : Rel gX' gM' n := by
  obtain ⟨h1, h2, ⟨F, h3, h3', h3''⟩, h4, c, h5, h6⟩ := h
  have e0 : gai gM' 20 0 = gai gM 20 0 := hM.2.2 20 0 (by omega)
  have e2 : gai gM' 20 2 = gai gM 20 2 := hM.2.2 20 2 (by omega)
  have e3 : gai gM' 20 3 = gai gM 20 3 := hM.2.2 20 3 (by omega)
  have e4 : gai gM' 20 4 = gai gM 20 4 := hM.2.2 20 4 (by omega)
  have e5 : gai gM' 21 0 = gai gM 21 0 := hM.2.2 21 0 (by omega)
  refine ⟨XS_FX hX h1, MI_eq h2 hM.1.1 hM.1.2.1, ⟨F, ?_⟩, fun s hs => ?_, c, (hM.2.1 341 (by omega) (by omega)).trans h5, by omega⟩
  · rw [e0, e2]
    exact ⟨SpO_FX hX h1 h3, h3', h3''⟩
  · obtain ⟨k1, k2⟩ := h4 s hs
    have ea : aS gM' s = aS gM s := by funext i; show gai gM' 20 3 _ = _; rw [e3]
    have el : lS gM' s = lS gM s := by funext i; show gai gM' 20 4 _ = _; rw [e4]
    rw [e5, ea, el, FX_f hX (by omega)]
    refine ⟨k1, ?_⟩
    rcases k2 with k2 | ⟨k2, F', k3⟩
    · exact Or.inl k2
    · exact Or.inr ⟨k2, F', SpO_FX hX h1 k3.1, k3.2.1, k3.2.2⟩
theorem KS_KX {y : Nat} {g g' : GS_} (hy : y = 0 ∨ y = 2) (h : KX y g g') : KS g g' := by
  obtain ⟨h1, h2, h3, h4, h5, h6, h7, h8⟩ := h
  refine ⟨h2, h3, h6, h7, h8 20 3 (by omega), h8 20 4 (by omega), ?_⟩
  funext i
  exact h8 21 i (by omega)
theorem m_make {g : GS_} {N d cop col sid lay usr pri : Nat} {X : List Nat} {s0 : Int32} (hM : MI g) (hN : N < 24) (hl : 1 ≤ X.length ∧ X.length ≤ 400) (hd : d < 10) (h4 : gai g 20 0 4 = nI N) (hW : WL g X)
    (w0 : gai g 20 0 8 = nI cop) (w1 : gai g 20 0 9 = nI col) (w3 : gai g 20 0 11 = nI lay) (w4 : gai g 20 0 12 = nI pri) (w5 : gai g 20 0 13 = nI usr) (hs : (s0 = nI 0 ∧ gai g 20 0 10 = nI sid) ∨ (s0 = nI 1 ∧ sid = 0)) (hsid : sid < 3) (hlay : lay < 5) (hcop : cop ≤ 10) :
    ∃ g', f10_submit_b84 0 (nI d) s0 g = some (nI N, g') ∧ KS g g' ∧ NewJob (gai g 20 0) (gai g' 20 0) (gai g 20 2) (gai g' 20 2) N d cop col sid lay usr pri X ∧ gfi g' 341 0 = gfi g 341 0 := by
  have hM1 : MI (sai g 20 0 4 (nI (N + 1))) := MI_sai hM
  obtain ⟨g2, a1, a2, a3, a4⟩ := m_104 (v1 := nI d) (v2 := s0) hN FU_ 0 (sai g 20 0 4 (nI (N + 1))) (by omega) (by unfold FU_; omega) hM1
  have old : ∀ k, k ≠ 4 → gai (sai g 20 0 4 (nI (N + 1))) 20 0 k = gai g 20 0 k := fun k hk => by rw [e_gai_sai, if_neg (by omega)]
  have hM2 : MI g2 := MI_eq hM1 a2.2.1 a2.2.2.1
  have k8 : ∀ u, u < 6 → gai g2 20 0 (106 + 13 * N + u) = gai g 20 0 (8 + u) := fun u hu => by rw [a3 u (by omega) hu, old _ (by omega)]
  have kk : ∀ k, k ≠ 4 → (k < 106 + 13 * N ∨ 106 + 13 * N + 6 ≤ k) → gai g2 20 0 k = gai g 20 0 k := fun k h1 h2 => by rw [a4 k (by omega), old k h1]
  have k4 : gai g2 20 0 4 = nI (N + 1) := by rw [a4 4 (by omega), e_gai_sai, if_pos ⟨rfl, rfl, rfl⟩]
  obtain ⟨g3, b1, ⟨g1, b2, b3⟩, b4, b5, ⟨n2, n6, n7, n8, n9, n10, n11, n12⟩, b7⟩ := m_152 (N := N) (d := d) (sid := sid) (lay := lay) (cop := cop) (len := X.length) hN hM2 hl.2 hd (by rw [a2.1]; exact hW.1) hsid hlay hcop ((k8 3 (by omega)).trans w3) ((kk 8 (by omega) (by omega)).trans w0)
  have w5a : gai g2 20 5 = gai g 20 5 := (a2.2.2.2.2.2.2.2 20 5 (by omega)).trans (by funext i; rw [e_gai_sai, if_neg (by omega)])
  have l2 : gai g2 20 2 = gai g 20 2 := (a2.2.2.2.2.2.2.2 20 2 (by omega)).trans sai_l
  have fin : ∀ k, k ≠ 7 → gai (sai g3 20 0 7 (nI 0)) 20 0 k = gai g3 20 0 k := fun k hk => by rw [e_gai_sai, if_neg (by omega)]
  have fl : gai (sai g3 20 0 7 (nI 0)) 20 2 = gai g3 20 2 := sai_l
  have f7 : gai (sai g3 20 0 7 (nI 0)) 20 0 7 = nI 0 := by rw [e_gai_sai, if_pos ⟨rfl, rfl, rfl⟩]
  have f341 : gfi (sai g3 20 0 7 (nI 0)) 341 0 = gfi g 341 0 := by
    show gfi g3 341 0 = _
    rw [b3.1, b2.1, a2.1]
    rfl
  have hKS : KS g (sai g3 20 0 7 (nI 0)) := KS_tr KS_sai (KS_tr (KS_KX (Or.inl rfl) a2) (KS_tr (KS_KX (Or.inl rfl) b2) (KS_tr (KS_KX (Or.inr rfl) b3) KS_sai)))
  refine ⟨sai g3 20 0 7 (nI 0), ?_, hKS, ⟨⟨?_, f7⟩, ⟨?_, ?_, ?_, ?_, ?_, ?_, ?_, ?_⟩, ⟨?_, ?_, ?_, ?_, ?_⟩, fun k q1 q2 q3 => ?_, fun i x hx => ?_, fun i hi => ?_⟩, f341⟩
  · have e4 : (4 : Int32) = nI 4 := rfl
    have e1 : nI N + (1 : Int32) = nI (N + 1) := nI_add N 1
    rw [f10_submit_b84, m_at hM, m_ib hM (e := (4 : Int32)) (k := 4) rfl (by omega), m_ix (e := (4 : Int32)) (k := 4) rfl (by omega), h4, lr_at, m_at hM, m_ib hM (e := (4 : Int32)) (k := 4) rfl (by omega), m_ib hM (e := (4 : Int32)) (k := 4) rfl (by omega), h4, e1, lr_at]
    have a1' : f10_submit_b104 FU_ 0 (nI d) s0 (nI N) (0 : Int32) (sai g 20 0 4 (nI (N + 1))) = M104 (nI d) s0 (nI N) g2 := a1
    rw [a1', M104]
    rcases hs with ⟨rfl, hs⟩ | ⟨rfl, rfl⟩
    · rw [if_pos (show nI 0 = (0 : Int32) from rfl), m_at hM2, m_ib hM2 (e := (10 : Int32)) (k := 10) rfl (by omega), m_ix (e := (10 : Int32)) (k := 10) rfl (by omega), kk 10 (by omega) (by omega), hs]
      exact b1
    · rw [if_neg (show ¬ nI 1 = (0 : Int32) by decide)]
      exact b1
  · rw [fin _ (by omega), b7 _ (by omega)]; exact k4
  · rw [fin _ (by omega), b7 _ (by omega)]; exact (k8 0 (by omega)).trans w0
  · rw [fin _ (by omega), b7 _ (by omega)]; exact (k8 1 (by omega)).trans w1
  · rw [fin _ (by omega)]; exact n2
  · rw [fin _ (by omega), b7 _ (by omega)]; exact (k8 3 (by omega)).trans w3
  · rw [fin _ (by omega), b7 _ (by omega)]; exact (k8 4 (by omega)).trans w4
  · rw [fin _ (by omega), b7 _ (by omega)]; exact (k8 5 (by omega)).trans w5
  · rw [fin _ (by omega)]; exact n6
  · rw [fin _ (by omega)]; exact n7
  · rw [fin _ (by omega)]; exact n8
  · rw [fin _ (by omega)]; exact n9
  · rw [fin _ (by omega)]; exact n10
  · rw [fin _ (by omega), n11]; exact kk 0 (by omega) (by omega)
  · rw [fin _ (by omega)]; exact n12
  · rw [fin _ q2, b7 _ (by omega)]
    exact kk k q1 (by omega)
  · have hi : i < X.length := by
      rcases Nat.lt_or_ge i X.length with w | w
      · exact w
      · rw [List.getElem?_eq_none w] at hx; cases hx
    rw [fl, b4 i hi, w5a]
    exact hW.2 i x hx
  · rw [fl, b5 i (by omega), l2]
theorem op_submit (d : Int32) : Op (f9_submit 0 d) (f10_submit 0 d) := by
  intro gX gM n hn h
  obtain ⟨F, r0, r1, hX, hS, hP, hE, hM, ⟨d1, d2, d3⟩, ⟨j1, j2, j3⟩, ⟨p1, p2, p3⟩⟩ := ctx h
  have e1 := x_documentAt hX d1 d3 d
  have e2 := m_isDocument hM d2 (by omega) d
  by_cases hd : vl d (tn (gai gM 20 0 3))
  · obtain ⟨k, rfl, hk⟩ := vl_ex hd
    obtain ⟨D, w1, w2, w3⟩ := hS.2.2.2.1.2.2.2.1 k hk
    rw [if_pos hd, tn_nI (by omega), w1] at e1
    have hd' : vl (nI k) (tn (gai gM 20 0 3)) = True := eq_true hd
    have hd0 := hd'
    obtain ⟨gM1, a1, a2, a3⟩ := gather h hk w1
    rcases a3 with ⟨b1, b2⟩ | ⟨b1, gX', gM', X, b2, b3, b4, b5, b6, b7, b8⟩
    · have n3 : (-nI 3 = nI 0) = False := neg_eq0 (by omega) (by omega)
      refine ⟨-nI 3, gX, gM1, ?_, ?_, Rel_scr h FX_rfl (FLi_FRi a2), by omega, by omega, a2.1.2.2.2.2.2.1, a2.1.2.2.2.2.2.2⟩
      · simp (disch := first | with_reducible assumption | omega | (simp only [MI_sai_iff, MI_sfi_iff]; with_reducible assumption)) only [li, ↓lr_, ↓bd_m, ↓oc_m, ↓reduceIte, bi_0, bi_0n, bi_1, bi_1n, not_true_eq_false, not_false_eq_true, Nat.reduceAdd, Nat.reduceMul, nI_mul, nI_add, inb_T, ix_nI, le_T, le_F, lt_T, lt_F, eq_F, and_self, and_true, true_and, false_and, and_false, or_true, true_or, or_false, false_or, bi_eq, x_within, m_in, f9_submit, r0, e1, b2, n3]
      · simp (disch := first | with_reducible assumption | omega | (simp only [MI_sai_iff, MI_sfi_iff]; with_reducible assumption)) only [li, ↓lr_, ↓bd_m, ↓oc_m, ↓reduceIte, bi_0, bi_0n, bi_1, bi_1n, not_true_eq_false, not_false_eq_true, Nat.reduceAdd, Nat.reduceMul, nI_mul, nI_add, inb_T, ix_nI, le_T, le_F, lt_T, lt_F, eq_F, and_self, and_true, true_and, false_and, and_false, or_true, true_or, or_false, false_or, bi_eq, x_within, m_in, f10_submit, e2, hd', a1, eq_false b1]
    · rw [b1] at a1
      have hR := Rel_scr h b3 b7
      have h' := Rel_scr0 h b3 b7
      have rX := b3.1
      by_cases hl : X.length ≤ 400
      · rw [if_pos hl] at b2 b6
        have hW := b8 hl
        have ec0 : gfi gX' 1 D = gai gM 20 0 (26 + 5 * k + 1) := by
          rw [FX_f b3 (by omega)]
          exact w3 1 (by omega)
        have eg : gar gX' 22 0 k = some D := by rw [rX.2.2.1]; exact w1
        have ea : gai gM' 20 0 = gai gM 20 0 := b7.2.2 20 0 (by omega)
        have eh : ghs gX' = ghs gX ∧ gsl gX' = gsl gX := ⟨rX.2.2.2.2.1, rX.2.2.2.2.2⟩
        have ehm : ghs gM' = ghs gM ∧ gsl gM' = gsl gM := ⟨b7.1.2.2.2.2.1, b7.1.2.2.2.2.2⟩
        obtain ⟨F', r0', r1', hX', hS', hP', hE', hM', ⟨d1', d2', d3'⟩, ⟨j1', j2', j3'⟩, -⟩ := ctx h'
        rw [← ea] at ec0 b5 hk
        obtain ⟨⟨-, -, -, -, -, -, r291', -⟩, -, -⟩ := id h'.1
        obtain ⟨-, -, -, -, -, -, -, -, -, s10, s11, -⟩ := id hX'
        obtain ⟨q1, q2, q3⟩ := XT0_parts hS'.2.2.2.1
        have hDoc := hS'.2.2.1.2.2.2.2.1 k hk
        have hN0 : dN (gai gM' 20 0) k 0 ≤ 400 := by have := (vl_nI hDoc.1).2; unfold dN; omega
        have hb5 : ∀ x, x ∈ X → 1 ≤ x ∧ x ≤ 400 := fun x hx => by
          have := b5 x hx
          omega
        obtain ⟨hty, htl⟩ := vl_nI hDoc.2.2.1
        generalize hTY : tn (gai gM' 20 0 (26 + 5 * k + 1)) = ty at *
        rw [hty] at ec0
        have o97 : gfi gX' 97 0 = nI X.length := by
          unfold OV at b4
          rw [if_pos hl] at b4
          exact b4.2.1
        have t333 : gfi gM' 333 0 = nI X.length := hW.1
        have set3 : f8_settingAt 0 (nI 3) gX' = some (gai gM' 20 0 11, gX') := x_set0 ⟨s10, s11⟩ (by omega) (q3 3 (by omega)).1
        have hEI := hE'
        obtain ⟨-, ⟨i8, i8'⟩, i9, i10, ⟨i11, i11'⟩, i12, i13⟩ := hE'
        obtain ⟨v8, v8l⟩ := vl_nI i8
        obtain ⟨v9, v9l⟩ := vl_nI i9
        obtain ⟨v10, v10l⟩ := vl_nI i10
        obtain ⟨v11, v11l⟩ := vl_nI i11
        obtain ⟨v12, v12l⟩ := vl_nI i12
        obtain ⟨v13, v13l⟩ := vl_nI i13
        generalize tn (gai gM' 20 0 8) = cop at *
        generalize tn (gai gM' 20 0 9) = col at *
        generalize tn (gai gM' 20 0 10) = sid0 at *
        generalize tn (gai gM' 20 0 11) = lay at *
        generalize tn (gai gM' 20 0 12) = pri at *
        generalize tn (gai gM' 20 0 13) = usr at *
        generalize hNN : tn (gai gM' 20 0 4) = N at *
        have oD := m_ofDocument hM' (j := k) (w := 1) (by omega) (by omega)
        rw [hty] at oD
        rw [v11] at set3
        by_cases hN24 : N = 24
        · subst hN24
          refine ⟨-nI 4, gX', gM', ?_, ?_, hR, by omega, by omega, ehm.1, ehm.2⟩
          · simp (disch := first | with_reducible assumption | omega | (simp only [MI_sai_iff, MI_sfi_iff]; with_reducible assumption)) only [li, ↓lr_, ↓bd_m, ↓oc_m, ↓reduceIte, bi_0, bi_0n, bi_1, bi_1n, not_true_eq_false, not_false_eq_true, Nat.reduceAdd, Nat.reduceMul, nI_mul, nI_add, inb_T, ix_nI, le_T, le_F, lt_T, lt_F, eq_F, and_self, and_true, true_and, false_and, and_false, or_true, true_or, or_false, false_or, bi_eq, x_within, m_in, f9_submit, r0, e1, b2, r0', j1']
          · simp (disch := first | with_reducible assumption | omega | (simp only [MI_sai_iff, MI_sfi_iff]; with_reducible assumption)) only [li, ↓lr_, ↓bd_m, ↓oc_m, ↓reduceIte, bi_0, bi_0n, bi_1, bi_1n, not_true_eq_false, not_false_eq_true, Nat.reduceAdd, Nat.reduceMul, nI_mul, nI_add, inb_T, ix_nI, le_T, le_F, lt_T, lt_F, eq_F, and_self, and_true, true_and, false_and, and_false, or_true, true_or, or_false, false_or, bi_eq, x_within, m_in, f10_submit, e2, hd0, a1, b6, MI_a hM', MI_n hM', j2']
        · have hN : N < 24 := by omega
          -- the class's and the reference's last step
          have clsA : ∀ r g', (∀ s, (s = nI 1 ∧ lay = 0 ∧ ty = 2) ∨ (s = nI 0 ∧ ¬ (lay = 0 ∧ ty = 2)) → f9_submit_b66 0 (nI k) (some D) s gX' = some (r, g')) → f9_submit 0 (nI k) gX = some (r, g') := by
            intro r g' hcl
            by_cases c1 : lay = 0
            · by_cases c2 : ty = 2
              · have := hcl (nI 1) (Or.inl ⟨rfl, c1, c2⟩)
                subst c1 c2
                simp (disch := first | with_reducible assumption | omega | (simp only [MI_sai_iff, MI_sfi_iff]; with_reducible assumption)) only [li, ↓lr_, ↓bd_m, ↓oc_m, ↓reduceIte, bi_0, bi_0n, bi_1, bi_1n, not_true_eq_false, not_false_eq_true, Nat.reduceAdd, Nat.reduceMul, nI_mul, nI_add, inb_T, ix_nI, le_T, le_F, lt_T, lt_F, eq_F, and_self, and_true, true_and, false_and, and_false, or_true, true_or, or_false, false_or, bi_eq, x_within, m_in, f9_submit, r0, e1, b2, r0', j1', set3, ec0, this]
              · have := hcl (nI 0) (Or.inr ⟨rfl, fun q => c2 q.2⟩)
                subst c1
                simp (disch := first | with_reducible assumption | omega | (simp only [MI_sai_iff, MI_sfi_iff]; with_reducible assumption)) only [li, ↓lr_, ↓bd_m, ↓oc_m, ↓reduceIte, bi_0, bi_0n, bi_1, bi_1n, not_true_eq_false, not_false_eq_true, Nat.reduceAdd, Nat.reduceMul, nI_mul, nI_add, inb_T, ix_nI, le_T, le_F, lt_T, lt_F, eq_F, and_self, and_true, true_and, false_and, and_false, or_true, true_or, or_false, false_or, bi_eq, x_within, m_in, f9_submit, f9_submit_b65, r0, e1, b2, r0', j1', set3, ec0, this]
            · have := hcl (nI 0) (Or.inr ⟨rfl, fun q => c1 q.1⟩)
              simp (disch := first | with_reducible assumption | omega | (simp only [MI_sai_iff, MI_sfi_iff]; with_reducible assumption)) only [li, ↓lr_, ↓bd_m, ↓oc_m, ↓reduceIte, bi_0, bi_0n, bi_1, bi_1n, not_true_eq_false, not_false_eq_true, Nat.reduceAdd, Nat.reduceMul, nI_mul, nI_add, inb_T, ix_nI, le_T, le_F, lt_T, lt_F, eq_F, and_self, and_true, true_and, false_and, and_false, or_true, true_or, or_false, false_or, bi_eq, x_within, m_in, f9_submit, f9_submit_b65, r0, e1, b2, r0', j1', set3, this]
          have modA : ∀ r g', (∀ s, (s = nI 1 ∧ ty = 2) ∨ (s = nI 0 ∧ ¬ ty = 2) → f10_submit_b59 0 (nI k) s gM' = some (r, g')) → f10_submit 0 (nI k) gM = some (r, g') := by
            intro r g' hmo
            by_cases c2 : ty = 2
            · have := hmo (nI 1) (Or.inl ⟨rfl, c2⟩)
              subst c2
              simp (disch := first | with_reducible assumption | omega | (simp only [MI_sai_iff, MI_sfi_iff]; with_reducible assumption)) only [li, ↓lr_, ↓bd_m, ↓oc_m, ↓reduceIte, bi_0, bi_0n, bi_1, bi_1n, not_true_eq_false, not_false_eq_true, Nat.reduceAdd, Nat.reduceMul, nI_mul, nI_add, inb_T, ix_nI, le_T, le_F, lt_T, lt_F, eq_F, and_self, and_true, true_and, false_and, and_false, or_true, true_or, or_false, false_or, bi_eq, x_within, m_in, f10_submit, e2, hd0, a1, b6, MI_a hM', MI_n hM', j2', oD, this]
            · have := hmo (nI 0) (Or.inr ⟨rfl, c2⟩)
              simp (disch := first | with_reducible assumption | omega | (simp only [MI_sai_iff, MI_sfi_iff]; with_reducible assumption)) only [li, ↓lr_, ↓bd_m, ↓oc_m, ↓reduceIte, bi_0, bi_0n, bi_1, bi_1n, not_true_eq_false, not_false_eq_true, Nat.reduceAdd, Nat.reduceMul, nI_mul, nI_add, inb_T, ix_nI, le_T, le_F, lt_T, lt_F, eq_F, and_self, and_true, true_and, false_and, and_false, or_true, true_or, or_false, false_or, bi_eq, x_within, m_in, f10_submit, e2, hd0, a1, b6, MI_a hM', MI_n hM', j2', oD, this]
          by_cases hX0 : X.length = 0
          · have o97' : gfi gX' 97 0 = (0 : Int32) := by rw [o97, hX0]; rfl
            have t333' : gfi gM' 333 0 = (0 : Int32) := by rw [t333, hX0]; rfl
            refine ⟨-nI 5, gX', gM', clsA _ _ (fun s _ => ?_), modA _ _ (fun s _ => ?_), hR, by omega, by omega, ehm.1, ehm.2⟩
            · rw [f9_submit_b66, r291', lr_at, oc_some, o97', if_pos rfl]
              rfl
            · rw [f10_submit_b59, t333', if_pos rfl]
              rfl
          · have o97' : ¬ gfi gX' 97 0 = (0 : Int32) := by rw [o97]; exact fun q => hX0 ((eq_nI (b := 0) (by omega) (by omega)).mp q)
            have t333' : ¬ gfi gM' 333 0 = (0 : Int32) := by rw [t333]; exact fun q => hX0 ((eq_nI (b := 0) (by omega) (by omega)).mp q)
            by_cases hbad : lay = 0 ∧ ty = 2
            · refine ⟨-nI 5, gX', gM', clsA _ _ (fun s hs => ?_), modA _ _ (fun s hs => ?_), hR, by omega, by omega, ehm.1, ehm.2⟩
              · rcases hs with ⟨rfl, -⟩ | ⟨-, q⟩
                · rw [f9_submit_b66, r291', lr_at, oc_some, if_neg o97', if_neg (show ¬ nI 1 = (0 : Int32) by decide)]
                  rfl
                · exact absurd hbad q
              · rcases hs with ⟨rfl, -⟩ | ⟨-, q⟩
                · rw [f10_submit_b59, if_neg t333', if_neg (show ¬ nI 1 = (0 : Int32) by decide), m_at hM', m_ib hM' (e := (11 : Int32)) (k := 11) rfl (by omega), m_ix (e := (11 : Int32)) (k := 11) rfl (by omega), v11, hbad.1, if_pos (show nI 0 = (0 : Int32) from rfl)]
                  rfl
                · exact absurd hbad.2 q
            · -- a job is made
              have hsid : ∃ sid, sid < 3 ∧ ((ty = 2 ∧ sid = 0) ∨ (ty ≠ 2 ∧ sid = sid0)) := by
                by_cases c : ty = 2
                · exact ⟨0, by omega, Or.inl ⟨c, rfl⟩⟩
                · exact ⟨sid0, by omega, Or.inr ⟨c, rfl⟩⟩
              obtain ⟨sid, hs3, hsid⟩ := hsid
              have hXl : 1 ≤ X.length ∧ X.length ≤ 400 := ⟨by omega, hl⟩
              obtain ⟨gF, f1, f2, f3, f4⟩ := m_make (N := N) (d := k) (cop := cop) (col := col) (sid := sid) (lay := lay) (usr := usr) (pri := pri) (s0 := if ty = 2 then nI 1 else nI 0) hM' hN hXl (by omega) j2' hW v8 v9 v11 v12 v13 (by
                rcases hsid with ⟨c, rfl⟩ | ⟨c, rfl⟩
                · rw [if_pos c]; exact Or.inr ⟨rfl, rfl⟩
                · rw [if_neg c]; exact Or.inl ⟨rfl, v10⟩) hs3 v11l (by omega)
              have hB : JBd (gai gM' 20 0) k cop col sid lay usr pri X := ⟨⟨i8', by omega⟩, v9l, hs3, ⟨v11l, i11'⟩, v13l, v12l, hk, hXl, hb5⟩
              obtain ⟨g5, m1, m2, m3⟩ := x_make h'.1 hS' b4 hN f3 hB v8 v9 (by
                rcases hsid with ⟨c, rfl⟩ | ⟨c, rfl⟩
                · rw [hty, c]; exact Or.inl ⟨rfl, rfl⟩
                · rw [hty]; exact Or.inr ⟨fun q => c ((eq_nI (by omega) (by omega)).mp q), v10⟩) v11 v13 eg
              obtain ⟨J, g6, c1, c2, c3, c4, c5⟩ := x_keep (pri := nI pri) (t0 := gai gM' 20 0 0) h'.1 m2 hN j1' ((q3 4 (by omega)).1.trans v12) hS'.2.2.2.2.2.2.2.2.1
              have hXS := MJ_XS hN c2 h'.1
              obtain ⟨T1, T2⟩ := MJ_T hN hNN c2 h'.1 hS' f3 hB rfl (c3 _ _ _ m3)
              have hPI := NJ_PI f3 hB hN hNN hP'
              have hE2 := NJ_IvE f3 hEI
              have hRel : Rel g6 gF (n + 1) := by
                refine Rel_step h' (MJ_GF hN c2) hXS f2 ⟨F', ⟨⟨by omega, XJ_XS hXS (by omega)⟩, hXS.2.1 0 (by omega), hPI.1, T1, T2⟩, PI_mono hPI (by omega), hE2⟩ ?_
                obtain ⟨-, -, -, -, c, k1, k2⟩ := h'
                exact ⟨c, f4.trans k1, by omega⟩
              obtain ⟨-, -, -, -, -, -, mh, ms⟩ := m2
              refine ⟨nI N, g6, gF, clsA _ _ (fun s hs => ?_), modA _ _ (fun s hs => ?_), hRel, by omega, by omega, f2.2.2.1.trans ehm.1, f2.2.2.2.1.trans ehm.2⟩
              · rcases hs with ⟨-, q1, q2⟩ | ⟨rfl, -⟩
                · exact absurd ⟨q1, q2⟩ hbad
                · rw [m1, c1, bd_some]
              · rcases hs with ⟨rfl, c⟩ | ⟨rfl, c⟩
                · rw [if_pos c] at f1
                  have nl0 : ¬ nI lay = (0 : Int32) := fun q => hbad ⟨(eq_nI (b := 0) (by omega) (by omega)).mp q, c⟩
                  rw [f10_submit_b59, if_neg t333', if_neg (show ¬ nI 1 = (0 : Int32) by decide), m_at hM', m_ib hM' (e := (11 : Int32)) (k := 11) rfl (by omega), m_ix (e := (11 : Int32)) (k := 11) rfl (by omega), v11, if_neg nl0]
                  exact f1
                · rw [if_neg c] at f1
                  rw [f10_submit_b59, if_neg t333', if_pos (show nI 0 = (0 : Int32) from rfl)]
                  exact f1
      · rw [if_neg hl] at b2 b6
        have n4 : (-nI 4 = nI 0) = False := neg_eq0 (by omega) (by omega)
        refine ⟨-nI 4, gX', gM', ?_, ?_, hR, by rw [rX.2.2.2.2.1]; omega, by rw [rX.2.2.2.2.2]; omega, b7.1.2.2.2.2.1, b7.1.2.2.2.2.2⟩
        · simp (disch := first | with_reducible assumption | omega | (simp only [MI_sai_iff, MI_sfi_iff]; with_reducible assumption)) only [li, ↓lr_, ↓bd_m, ↓oc_m, ↓reduceIte, bi_0, bi_0n, bi_1, bi_1n, not_true_eq_false, not_false_eq_true, Nat.reduceAdd, Nat.reduceMul, nI_mul, nI_add, inb_T, ix_nI, le_T, le_F, lt_T, lt_F, eq_F, and_self, and_true, true_and, false_and, and_false, or_true, true_or, or_false, false_or, bi_eq, x_within, m_in, f9_submit, r0, e1, b2, n4]
        · simp (disch := first | with_reducible assumption | omega | (simp only [MI_sai_iff, MI_sfi_iff]; with_reducible assumption)) only [li, ↓lr_, ↓bd_m, ↓oc_m, ↓reduceIte, bi_0, bi_0n, bi_1, bi_1n, not_true_eq_false, not_false_eq_true, Nat.reduceAdd, Nat.reduceMul, nI_mul, nI_add, inb_T, ix_nI, le_T, le_F, lt_T, lt_F, eq_F, and_self, and_true, true_and, false_and, and_false, or_true, true_or, or_false, false_or, bi_eq, x_within, m_in, f10_submit, e2, hd', a1, b6]
  · rw [if_neg hd] at e1
    refine op_fin h ?_ ?_ (r := -nI 1)
    · simp (disch := first | with_reducible assumption | omega | (simp only [MI_sai_iff, MI_sfi_iff]; with_reducible assumption)) only [li, ↓lr_, ↓bd_m, ↓oc_m, ↓reduceIte, bi_0, bi_0n, bi_1, bi_1n, not_true_eq_false, not_false_eq_true, Nat.reduceAdd, Nat.reduceMul, nI_mul, nI_add, inb_T, ix_nI, le_T, le_F, lt_T, lt_F, eq_F, and_self, and_true, true_and, false_and, and_false, or_true, true_or, or_false, false_or, bi_eq, x_within, m_in, f9_submit, r0, e1]
    · simp (disch := first | with_reducible assumption | omega | (simp only [MI_sai_iff, MI_sfi_iff]; with_reducible assumption)) only [li, ↓lr_, ↓bd_m, ↓oc_m, ↓reduceIte, bi_0, bi_0n, bi_1, bi_1n, not_true_eq_false, not_false_eq_true, Nat.reduceAdd, Nat.reduceMul, nI_mul, nI_add, inb_T, ix_nI, le_T, le_F, lt_T, lt_F, eq_F, and_self, and_true, true_and, false_and, and_false, or_true, true_or, or_false, false_or, bi_eq, x_within, m_in, f10_submit, e2, eq_false hd, bi_eq]
