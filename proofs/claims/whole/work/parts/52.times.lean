/-! advance, finish, save, restore -/
theorem op_advance (v : Int32) : Op (f9_advance 0 v) (f10_advance 0 v) := by
  intro gX gM n hn h
  obtain ⟨F, r0, r1, hX, hS, hP, hE, hM, ⟨d1, d2, d3⟩, ⟨j1, j2, j3⟩, ⟨p1, p2, p3⟩⟩ := ctx h
  by_cases hv : nI 1 ≤ v ∧ v ≤ nI 1000
  · obtain ⟨r, hr1, hr2, rfl⟩ := (in_ex (by omega) (by omega)).mp hv
    obtain ⟨c, hc1, hc2⟩ := h.2.2.2.2
    obtain ⟨gX', a1, a2, a3⟩ := x_pass (s := (gai gM 20 0, F)) FU_ r gX (3000 * n) (by unfold FU_; omega) hS hP (by omega)
    obtain ⟨gM', b1, b2⟩ := m_advLoop hM hP hr2 (by omega) (show c < 8000000 by omega) FU_ 0 gM (by omega) (by unfold FU_; omega) (MAt_0 hc1)
    obtain ⟨i1, i2⟩ := PI_it hP r
    have ea := MAt_a b2 F
    have hl : gai gM' 20 2 = gai gM 20 2 := b2.1.2.2.2.2.2.2.1 2 (by omega) (by omega)
    have hXS := XS_TF (TT_TF a2) h.1
    have hR : Rel gX' gM' (n + 1) := by
      refine Rel_step h (TF_GF (TT_TF a2)) hXS (KS_KA (KA_MS b2.1)) ?_ ?_
      · rw [hl, ea]
        exact ⟨_, a3, PI_mono i1 (by omega), IvE_keys (fun k k1 k2 => sta_sc i2 (by omega)) hE⟩
      · obtain ⟨c', c1, c2⟩ := b2.2.1
        exact ⟨c', c1, by omega⟩
    have n271 : gfi gX' 271 0 = gai gM' 20 0 0 := by
      rw [ea]
      exact a3.2.2.2.2.2.2.2.2.1
    have r0' : gfr gX' 288 0 = some 0 := by rw [a2.1.1]; exact r0
    refine op_wr (r := gai gM' 20 0 0) hR ?_ ?_ a2.1.2.2.2.2.1 a2.1.2.2.2.2.2 b2.1.2.2.2.2.1 b2.1.2.2.2.2.2.1
    · simp (disch := first | with_reducible assumption | omega | (simp only [MI_sai_iff, MI_sfi_iff]; with_reducible assumption)) only [li, ↓lr_, ↓bd_m, ↓oc_m, ↓reduceIte, bi_0, bi_0n, bi_1, bi_1n, not_true_eq_false, not_false_eq_true, Nat.reduceAdd, Nat.reduceMul, nI_mul, nI_add, inb_T, ix_nI, le_T, le_F, lt_T, lt_F, eq_F, and_self, and_true, true_and, false_and, and_false, or_true, true_or, or_false, false_or, bi_eq, x_within, m_in, f9_advance, eq_true hv, r0, f8_pass, a1, r0', n271]
    · simp (disch := first | with_reducible assumption | omega | (simp only [MI_sai_iff, MI_sfi_iff]; with_reducible assumption)) only [li, ↓lr_, ↓bd_m, ↓oc_m, ↓reduceIte, bi_0, bi_0n, bi_1, bi_1n, not_true_eq_false, not_false_eq_true, Nat.reduceAdd, Nat.reduceMul, nI_mul, nI_add, inb_T, ix_nI, le_T, le_F, lt_T, lt_F, eq_F, and_self, and_true, true_and, false_and, and_false, or_true, true_or, or_false, false_or, bi_eq, x_within, m_in, f10_advance, eq_true hv, b1]
  · refine op_fin h ?_ ?_ (r := -nI 2)
    · simp (disch := first | with_reducible assumption | omega | (simp only [MI_sai_iff, MI_sfi_iff]; with_reducible assumption)) only [li, ↓lr_, ↓bd_m, ↓oc_m, ↓reduceIte, bi_0, bi_0n, bi_1, bi_1n, not_true_eq_false, not_false_eq_true, Nat.reduceAdd, Nat.reduceMul, nI_mul, nI_add, inb_T, ix_nI, le_T, le_F, lt_T, lt_F, eq_F, and_self, and_true, true_and, false_and, and_false, or_true, true_or, or_false, false_or, bi_eq, x_within, m_in, f9_advance, eq_false hv]
    · simp (disch := first | with_reducible assumption | omega | (simp only [MI_sai_iff, MI_sfi_iff]; with_reducible assumption)) only [li, ↓lr_, ↓bd_m, ↓oc_m, ↓reduceIte, bi_0, bi_0n, bi_1, bi_1n, not_true_eq_false, not_false_eq_true, Nat.reduceAdd, Nat.reduceMul, nI_mul, nI_add, inb_T, ix_nI, le_T, le_F, lt_T, lt_F, eq_F, and_self, and_true, true_and, false_and, and_false, or_true, true_or, or_false, false_or, bi_eq, x_within, m_in, f10_advance, eq_false hv]
/-- what is said of at's first 858 -/
theorem SpK_858 {g : GS_} {S : Nat} {a b l : Nat → Int32} {F : List Nat} {n : Nat} (h : ∀ k, k < 858 → b k = a k) (hK : SpK g S a l F n) : SpK g S b l F n := by
  obtain ⟨⟨h1, h2, h3, h4, h5⟩, h6, h7⟩ := hK
  have j4 := Iv0_j h3
  have j5 := Iv0_p h3
  exact ⟨⟨h1, h2, Iv0_keys (fun k hk => h k (by omega)) h3, XT0_keys h3 (fun k hk => h k (by omega)) h4, XD_congr j4 j5 h h5⟩, PI_keys (fun k hk => h k (by omega)) h6, IvE_keys (fun k k1 k2 => h k (by omega)) h7⟩
theorem JobPl_l {a l m : Nat → Int32} {j : Nat} (hj : j < 24) (h : ∀ i, i < 9600 → m i = l i) (hJ : JobPl a l j) : JobPl a m j := by
  have h7 := (Jn hJ).2.2.2.2.2.2.1.2.2
  obtain ⟨q0, q1, q2, q3, q4, q5, q6, q7, q8, q9, q10, q11⟩ := hJ
  refine ⟨q0, q1, q2, q3, q4, q5, q6, q7, q8, q9, q10, fun i hi => ?_⟩
  rw [h _ (by omega)]
  exact q11 i hi
theorem Iv0_l {a l m : Nat → Int32} (h : ∀ i, i < 9600 → m i = l i) (h0 : Iv0 a l) : Iv0 a m := by
  have h4 := Iv0_j h0
  obtain ⟨i1, i2, i3, i4, i5, i6, i7⟩ := h0
  exact ⟨i1, i2, i3, i4, i5, fun j hj => JobPl_l (by omega) h (i6 j hj), i7⟩
theorem PlV_l {g : GS_} {Q : Nat} {a l m : Nat → Int32} {j : Nat} (hj : j < 24) (h7 : jN a j 7 ≤ 400) (h : ∀ i, i < 9600 → m i = l i) (hP : PlV g Q a l j) : PlV g Q a m j := by
  have hpg : sPGc a m j = sPGc a l j := by
    funext t side pos
    unfold sPGc
    by_cases c : sEL a j t side pos < jN a j 7
    · rw [if_pos c, if_pos c, h _ (by omega)]
    · rw [if_neg c, if_neg c]
  have hcl : cLV a m j = cLV a l j := by
    funext t side
    unfold cLV cLD
    rw [hpg]
  unfold PlV at hP ⊢
  rw [hcl]
  obtain ⟨p1, p2, p3, ⟨A, a1, a2, a3, a4, a5⟩, p4⟩ := hP
  refine ⟨p1, p2, p3, ⟨A, a1, a2, a3, a4, fun i hi => ?_⟩, p4⟩
  rw [h _ (by omega)]
  exact a5 i hi
theorem XT0_l {g : GS_} {S : Nat} {a l m : Nat → Int32} (h0 : Iv0 a l) (h : ∀ i, i < 9600 → m i = l i) (hT : XT0 g S a l) : XT0 g S a m := by
  have h4 := Iv0_j h0
  obtain ⟨t1, t2, t3, t4, t5, t6⟩ := hT
  refine ⟨t1, t2, t3, t4, fun j hj => ?_, t6⟩
  obtain ⟨J, Q, q1, q2, q3, q4⟩ := t5 j hj
  exact ⟨J, Q, q1, q2, PlV_l (by omega) (Jn (h0.2.2.2.2.2.1 j hj)).2.2.2.2.2.2.1.2.2 h q3, q4⟩
theorem SpK_l {g : GS_} {S : Nat} {a l m : Nat → Int32} {F : List Nat} {n : Nat} (h : ∀ i, i < 9600 → m i = l i) (hK : SpK g S a l F n) : SpK g S a m F n := by
  obtain ⟨⟨h1, h2, h3, h4, h5⟩, h6, h7⟩ := hK
  exact ⟨⟨h1, h2, Iv0_l h h3, XT0_l h3 h h4, h5⟩, ⟨Iv0_l h h6.1, h6.2⟩, h7⟩
/-- the trial moves, and the reference's scratch -/
theorem Rel_oth {gX gX' gM gM' : GS_} {n m : Nat} (h : Rel gX gM n) (hm : n ≤ m) (hG : GF 1 gX gX') (hX : XS gX') (hK : KS gM gM') (h0 : ∀ k, k < 858 → gai gM' 20 0 k = gai gM 20 0 k) (h2 : gai gM' 20 2 = gai gM 20 2) (hc : ∃ c, gfi gM' 341 0 = nI c ∧ c ≤ 10000 + 3000 * m) : Rel gX' gM' m := by
  obtain ⟨h1, hM, ⟨F, hS⟩, h4, -⟩ := h
  refine ⟨hX, MI_eq hM hK.1 hK.2.1, ⟨F, ?_⟩, fun s hs => ?_, hc⟩
  · rw [h2]
    refine SpK_858 h0 ⟨SpO_GF hG h1 hX (by omega) (by omega) (by omega) hS.1, PI_mono hS.2.1 (by omega), hS.2.2⟩
  · obtain ⟨k1, k2⟩ := h4 s hs
    have e21 : gai gM' 21 0 s = gai gM 21 0 s := by rw [hK.2.2.2.2.2.2]
    have ea : aS gM' s = aS gM s := by funext i; show gai gM' 20 3 _ = _; rw [hK.2.2.2.2.1]
    have el : lS gM' s = lS gM s := by funext i; show gai gM' 20 4 _ = _; rw [hK.2.2.2.2.2.1]
    rw [e21, ea, el, hG.1 272 (2 + s) (by unfold nwF; omega) (by unfold oF; omega)]
    refine ⟨k1, ?_⟩
    rcases k2 with k2 | ⟨k2, F', k3⟩
    · exact Or.inl k2
    · exact Or.inr ⟨k2, F', SpO_GF hG h1 hX (by omega) (by omega) (by omega) k3.1, PI_mono k3.2.1 (by omega), k3.2.2⟩
theorem DN_24 {l a : Nat → Int32} {F : List Nat} {n : Nat} (hP : PI l (a, F) n) : F.length ≤ 24 := DN_len hP.2.2.1 (Iv0_j hP.1)
theorem op_finish (j v : Int32) : Op (f9_finish 0 j v) (f10_finish 0 j v) := by
  intro gX gM n hn h
  obtain ⟨F, r0, r1, hX, hS, hP, hE, hM, ⟨d1, d2, d3⟩, ⟨j1, j2, j3⟩, ⟨p1, p2, p3⟩⟩ := ctx h
  have e1 := x_jobAt hX j1 j3 j
  have e2 := m_isJob hM j2 (by omega) j
  by_cases hj : vl j (tn (gai gM 20 0 4))
  · obtain ⟨k, rfl, hk⟩ := vl_ex hj
    obtain ⟨J, Q, w1, w2, w3, w4⟩ := hS.2.2.2.1.2.2.2.2.1 k hk
    rw [if_pos hj, tn_nI (by omega), w1] at e1
    have hj' := eq_true hj
    have k24 : k < 24 := by omega
    by_cases hv : nI 1 ≤ v ∧ v ≤ nI 3000
    · obtain ⟨L, hL1, hL2, rfl⟩ := (in_ex (by omega) (by omega)).mp hv
      obtain ⟨g1, a1, a2, a3, a4, ⟨a5, a6⟩, a7, a8⟩ := x_copyFrom (S := 1) (S' := 0) h.1 (by omega) (by omega) (by omega) hS (DN_24 hP)
      obtain ⟨r, g2, b1, b2, b3⟩ := x_ticksUntilDone (s := (gai gM 20 0, F)) (L := L) a4 hP (by omega) (by omega) hk
      obtain ⟨m1, c1, c2, c3, c4, c5⟩ := m_putAside hM
      have hM1 := MI_KA hM c2
      have cl : gai m1 20 2 = gai gM 20 2 := c2.2.2.2.2.2.2.1 2 (by omega) (by omega)
      have hP1 : PI (gai m1 20 2) (gai m1 20 0, F) (3000 * n) := by rw [cl, c3]; exact hP
      obtain ⟨r', m2, f1, ⟨x, f2, f3⟩, f4⟩ := m_finLoop hM1 hP1 hL2 (by omega) (show 0 < 8000000 by omega) k24 FU_ 0 m1 (by omega) (by unfold FU_; omega) (MAt_0 c5) (fun i hi => by omega)
      rw [cl, c3] at f4
      have er := FirstDone_uq b3 f4
      have hM2 := MI_MS hM1 f3.1
      obtain ⟨m3, y1, y2, y3, y4⟩ := m_putBack hM2
      have hR : Rel g2 m3 (n + 1) := by
        refine Rel_oth h (by omega) (GF_tr a2 (TF_GF (TT_TF b2))) (XS_TF (TT_TF b2) a3) (KS_tr (KS_KA c2) (KS_tr (KS_KA (KA_MS f3.1)) (KS_KA y2))) (fun i hi => ?_) ?_ ?_
        · rw [y4 i hi, f3.1.2.2.2.2.2.2.1 1 (by omega) (by omega), c4 i hi]
        · rw [y2.2.2.2.2.2.2.1 2 (by omega) (by omega), f3.1.2.2.2.2.2.2.1 2 (by omega) (by omega), cl]
        · obtain ⟨c', z1, z2⟩ := f3.2.1
          exact ⟨c', y3.1.trans z1, by omega⟩
      have g0 : gfr g1 289 0 = some 1 := a3.1.2.1
      refine ⟨r, g2, m3, ?_, ?_, hR, ?_, ?_, ?_, ?_⟩
      · simp (disch := first | with_reducible assumption | omega | (simp only [MI_sai_iff, MI_sfi_iff]; with_reducible assumption)) only [li, ↓lr_, ↓bd_m, ↓oc_m, ↓reduceIte, bi_0, bi_0n, bi_1, bi_1n, not_true_eq_false, not_false_eq_true, Nat.reduceAdd, Nat.reduceMul, nI_mul, nI_add, inb_T, ix_nI, le_T, le_F, lt_T, lt_F, eq_F, and_self, and_true, true_and, false_and, and_false, or_true, true_or, or_false, false_or, bi_eq, x_within, m_in, f9_finish, r0, r1, e1, eq_true hv, a1, g0, b1]
      · rw [er]
        simp (disch := first | with_reducible assumption | omega | (simp only [MI_sai_iff, MI_sfi_iff]; with_reducible assumption)) only [li, ↓lr_, ↓bd_m, ↓oc_m, ↓reduceIte, bi_0, bi_0n, bi_1, bi_1n, not_true_eq_false, not_false_eq_true, Nat.reduceAdd, Nat.reduceMul, nI_mul, nI_add, inb_T, ix_nI, le_T, le_F, lt_T, lt_F, eq_F, and_self, and_true, true_and, false_and, and_false, or_true, true_or, or_false, false_or, bi_eq, x_within, m_in, f10_finish, e2, hj', eq_true hv, c1, f1, f10_finish_b73, y1]
      · rw [b2.1.2.2.2.2.1]
        omega
      · rw [b2.1.2.2.2.2.2]
        omega
      · rw [y2.2.2.2.2.1, f3.1.2.2.2.2.1, c2.2.2.2.2.1]
      · rw [y2.2.2.2.2.2.1, f3.1.2.2.2.2.2.1, c2.2.2.2.2.2.1]
    · refine op_fin h ?_ ?_ (r := -nI 2)
      · simp (disch := first | with_reducible assumption | omega | (simp only [MI_sai_iff, MI_sfi_iff]; with_reducible assumption)) only [li, ↓lr_, ↓bd_m, ↓oc_m, ↓reduceIte, bi_0, bi_0n, bi_1, bi_1n, not_true_eq_false, not_false_eq_true, Nat.reduceAdd, Nat.reduceMul, nI_mul, nI_add, inb_T, ix_nI, le_T, le_F, lt_T, lt_F, eq_F, and_self, and_true, true_and, false_and, and_false, or_true, true_or, or_false, false_or, bi_eq, x_within, m_in, f9_finish, r0, e1, eq_false hv]
      · simp (disch := first | with_reducible assumption | omega | (simp only [MI_sai_iff, MI_sfi_iff]; with_reducible assumption)) only [li, ↓lr_, ↓bd_m, ↓oc_m, ↓reduceIte, bi_0, bi_0n, bi_1, bi_1n, not_true_eq_false, not_false_eq_true, Nat.reduceAdd, Nat.reduceMul, nI_mul, nI_add, inb_T, ix_nI, le_T, le_F, lt_T, lt_F, eq_F, and_self, and_true, true_and, false_and, and_false, or_true, true_or, or_false, false_or, bi_eq, x_within, m_in, f10_finish, e2, hj', eq_false hv]
  · rw [if_neg hj] at e1
    refine op_fin h ?_ ?_ (r := -nI 1)
    · simp (disch := first | with_reducible assumption | omega | (simp only [MI_sai_iff, MI_sfi_iff]; with_reducible assumption)) only [li, ↓lr_, ↓bd_m, ↓oc_m, ↓reduceIte, bi_0, bi_0n, bi_1, bi_1n, not_true_eq_false, not_false_eq_true, Nat.reduceAdd, Nat.reduceMul, nI_mul, nI_add, inb_T, ix_nI, le_T, le_F, lt_T, lt_F, eq_F, and_self, and_true, true_and, false_and, and_false, or_true, true_or, or_false, false_or, bi_eq, x_within, m_in, f9_finish, r0, e1]
    · simp (disch := first | with_reducible assumption | omega | (simp only [MI_sai_iff, MI_sfi_iff]; with_reducible assumption)) only [li, ↓lr_, ↓bd_m, ↓oc_m, ↓reduceIte, bi_0, bi_0n, bi_1, bi_1n, not_true_eq_false, not_false_eq_true, Nat.reduceAdd, Nat.reduceMul, nI_mul, nI_add, inb_T, ix_nI, le_T, le_F, lt_T, lt_F, eq_F, and_self, and_true, true_and, false_and, and_false, or_true, true_or, or_false, false_or, bi_eq, x_within, m_in, f10_finish, e2, eq_false hj]
theorem x_slotAt {g : GS_} (hX : XS g) {v : Int32} : f9_slotAt 0 v g = some (if nI 0 ≤ v ∧ v ≤ nI 1 then some (2 + tn v) else none, g) := by
  obtain ⟨⟨s0, s1, s2, s3, s4, s5, -⟩, -⟩ := hX
  by_cases hv : nI 0 ≤ v ∧ v ≤ nI 1
  · rw [if_pos hv]
    obtain ⟨s, -, hs, rfl⟩ := (in_ex (by omega) (by omega)).mp hv
    rw [tn_nI (by omega)]
    rcases (show s = 0 ∨ s = 1 by omega) with rfl | rfl
    · simp (disch := first | with_reducible assumption | omega | (simp only [MI_sai_iff, MI_sfi_iff]; with_reducible assumption)) only [li, ↓lr_, ↓bd_m, ↓oc_m, ↓reduceIte, bi_0, bi_0n, bi_1, bi_1n, not_true_eq_false, not_false_eq_true, Nat.reduceAdd, Nat.reduceMul, nI_mul, nI_add, inb_T, ix_nI, le_T, le_F, lt_T, lt_F, eq_F, and_self, and_true, true_and, false_and, and_false, or_true, true_or, or_false, false_or, bi_eq, x_within, m_in, f9_slotAt, eq_true hv, s2, s5, s3]
    · simp (disch := first | with_reducible assumption | omega | (simp only [MI_sai_iff, MI_sfi_iff]; with_reducible assumption)) only [li, ↓lr_, ↓bd_m, ↓oc_m, ↓reduceIte, bi_0, bi_0n, bi_1, bi_1n, not_true_eq_false, not_false_eq_true, Nat.reduceAdd, Nat.reduceMul, nI_mul, nI_add, inb_T, ix_nI, le_T, le_F, lt_T, lt_F, eq_F, and_self, and_true, true_and, false_and, and_false, or_true, true_or, or_false, false_or, bi_eq, x_within, m_in, f9_slotAt, eq_true hv, s2, s5, s4]
  · rw [if_neg hv]
    simp (disch := first | with_reducible assumption | omega | (simp only [MI_sai_iff, MI_sfi_iff]; with_reducible assumption)) only [li, ↓lr_, ↓bd_m, ↓oc_m, ↓reduceIte, bi_0, bi_0n, bi_1, bi_1n, not_true_eq_false, not_false_eq_true, Nat.reduceAdd, Nat.reduceMul, nI_mul, nI_add, inb_T, ix_nI, le_T, le_F, lt_T, lt_F, eq_F, and_self, and_true, true_and, false_and, and_false, or_true, true_or, or_false, false_or, bi_eq, x_within, m_in, f9_slotAt, eq_false hv]
theorem op_save (v : Int32) : Op (f9_save 0 v) (f10_save 0 v) := by
  intro gX gM n hn h
  obtain ⟨F, r0, r1, hX, hS, hP, hE, hM, ⟨d1, d2, d3⟩, ⟨j1, j2, j3⟩, ⟨p1, p2, p3⟩⟩ := ctx h
  have e1 := x_slotAt h.1 (v := v)
  by_cases hv : nI 0 ≤ v ∧ v ≤ nI 1
  · rw [if_pos hv] at e1
    obtain ⟨s, -, hs, rfl⟩ := (in_ex (by omega) (by omega)).mp hv
    rw [tn_nI (by omega)] at e1
    have hs2 : s < 2 := by omega
    obtain ⟨g1, a1, a2, a3, a4, ⟨a5, a6⟩, a7, a8⟩ := x_copyFrom (S := 2 + s) (S' := 0) h.1 (by omega) (by omega) (by omega) hS (DN_24 hP)
    obtain ⟨m1, b1, b2, b3, b4⟩ := m_save1 hs2 FU_ 0 gM (by omega) (by unfold FU_; omega) hM
    have hM1 := MI_eq hM b2.2.1 b2.2.2.1
    obtain ⟨m2, c1, c2, c3, c4⟩ := m_save2 hs2 FU_ 0 m1 (by omega) (by unfold FU_; omega) hM1
    have k20 : ∀ i, i ≠ 3 → i ≠ 4 → gai m2 20 i = gai gM 20 i := fun i q1 q2 => (c2.2.2.2.2.2.2.2 20 i (by omega)).trans (b2.2.2.2.2.2.2.2 20 i (by omega))
    have k21 : gai m2 21 0 = gai gM 21 0 := (c2.2.2.2.2.2.2.2 21 0 (by omega)).trans (b2.2.2.2.2.2.2.2 21 0 (by omega))
    have tf : TF (2 + s) g1 (sfi g1 272 (2 + s) (nI 1)) := TF_sfi (Or.inr (Or.inr ⟨by omega, rfl⟩))
    have hG : GF (2 + s) gX (sfi g1 272 (2 + s) (nI 1)) := GF_tr a2 (TF_GF tf)
    have hXS := XS_TF tf a3
    have hM2 : MI (sai m2 21 0 s (nI 1)) := MI_sai_iff.mpr (MI_eq hM1 c2.2.1 c2.2.2.1)
    have g20 : ∀ i, gai (sai m2 21 0 s (nI 1)) 20 i = gai m2 20 i := by
      intro i
      funext k
      rw [e_gai_sai, if_neg (by omega)]
    have hF272 : ∀ f i, f ≠ 272 → gfi (sfi g1 272 (2 + s) (nI 1)) f i = gfi g1 f i := fun f i q => by rw [e_gfi_sfi, if_neg (by omega)]
    have hSp : SpO (sfi g1 272 (2 + s) (nI 1)) (2 + s) (gai gM 20 0) (gai gM 20 2) F := by
      obtain ⟨z1, z2, z3, z4, z5⟩ := a4
      obtain ⟨q1, q2, q3⟩ := XT0_parts z4
      refine ⟨⟨by omega, XJ_XS hXS (by omega)⟩, hXS.2.1 _ (by omega), z3, XT0_w tf z4 z3 (fun _ _ => rfl) (fun f hf => hF272 f _ (by omega)) ?_ q2 q3 (fun i I _ _ q4 => by rw [hF272 _ _ (by omega)]; exact q4) (fun f i _ _ => hF272 f i (by omega)), XD_frame (g := g1) rfl (fun f i hf => hF272 f i (by omega)) (fun _ _ _ => rfl) (Iv0_p z3) z5⟩
      rw [hF272 _ _ (by omega), hF272 _ _ (by omega), hF272 _ _ (by omega)]
      exact q1
    have hR : Rel (sfi g1 272 (2 + s) (nI 1)) (sai m2 21 0 s (nI 1)) (n + 1) := by
      obtain ⟨h1, -, -, h4, c, q1, q2⟩ := h
      refine ⟨hXS, hM2, ⟨F, ?_⟩, fun s' hs' => ?_, c, ?_, by omega⟩
      · rw [g20, g20, k20 0 (by omega) (by omega), k20 2 (by omega) (by omega)]
        exact ⟨SpO_GF hG h1 hXS (by omega) (by omega) (by omega) hS, PI_mono hP (by omega), hE⟩
      · by_cases ce : s' = s
        · subst ce
          refine ⟨?_, Or.inr ⟨?_, F, ?_⟩⟩
          · rw [e_gfi_sfi, if_pos ⟨rfl, rfl⟩, e_gai_sai, if_pos ⟨rfl, rfl, rfl⟩]
          · rw [e_gai_sai, if_pos ⟨rfl, rfl, rfl⟩]
          · have ka : ∀ k, k < 858 → aS (sai m2 21 0 s' (nI 1)) s' k = gai gM 20 0 k := by
              intro k hk
              show gai (sai m2 21 0 s' (nI 1)) 20 3 (858 * s' + k) = _
              rw [g20, c2.2.2.2.2.2.2.2 20 3 (by omega)]
              exact b3 k (by omega) hk
            have kl : ∀ k, k < 9600 → lS (sai m2 21 0 s' (nI 1)) s' k = gai gM 20 2 k := by
              intro k hk
              show gai (sai m2 21 0 s' (nI 1)) 20 4 (9600 * s' + k) = _
              rw [g20, c3 k (by omega) hk, b2.2.2.2.2.2.2.2 20 2 (by omega)]
            exact SpK_858 ka (SpK_l kl ⟨hSp, PI_mono hP (by omega), hE⟩)
        · obtain ⟨k1, k2⟩ := h4 s' hs'
          have e21 : gai (sai m2 21 0 s (nI 1)) 21 0 s' = gai gM 21 0 s' := by
            rw [e_gai_sai, if_neg (by omega), k21]
          rw [e21, hG.1 272 (2 + s') (by unfold nwF; omega) (by unfold oF; omega)]
          refine ⟨k1, ?_⟩
          rcases k2 with k2 | ⟨k2, F', k3⟩
          · exact Or.inl k2
          · refine Or.inr ⟨k2, F', ?_⟩
            have ka : ∀ k, k < 858 → aS (sai m2 21 0 s (nI 1)) s' k = aS gM s' k := by
              intro k hk
              show gai (sai m2 21 0 s (nI 1)) 20 3 (858 * s' + k) = gai gM 20 3 (858 * s' + k)
              rw [g20, c2.2.2.2.2.2.2.2 20 3 (by omega)]
              exact b4 _ (by omega)
            have kl : ∀ k, k < 9600 → lS (sai m2 21 0 s (nI 1)) s' k = lS gM s' k := by
              intro k hk
              show gai (sai m2 21 0 s (nI 1)) 20 4 (9600 * s' + k) = gai gM 20 4 (9600 * s' + k)
              rw [g20, c4 _ (by omega), b2.2.2.2.2.2.2.2 20 4 (by omega)]
            exact SpK_858 ka (SpK_l kl ⟨SpO_GF hG h1 hXS (by omega) (by omega) (by omega) k3.1, PI_mono k3.2.1 (by omega), k3.2.2⟩)
      · show gfi m2 341 0 = _
        rw [c2.1, b2.1]
        exact q1
    have n271 : gfi (sfi g1 272 (2 + s) (nI 1)) 271 0 = gai gM 20 0 0 := by
      rw [hF272 _ _ (by omega), a2.1 271 0 (by unfold nwF; omega) (by unfold oF; omega)]
      exact hS.2.2.2.2.2.2.2.2.1
    have r0' : gfr (sfi g1 272 (2 + s) (nI 1)) 288 0 = some 0 := a3.1.1
    have m0 : gai m2 20 0 0 = gai gM 20 0 0 := by rw [k20 0 (by omega) (by omega)]
    have es : ghs (sfi g1 272 (2 + s) (nI 1)) = ghs g1 := rfl
    have es2 : gsl (sfi g1 272 (2 + s) (nI 1)) = gsl g1 := rfl
    have es3 : ghs (sai m2 21 0 s (nI 1)) = ghs m2 := rfl
    have es4 : gsl (sai m2 21 0 s (nI 1)) = gsl m2 := rfl
    refine ⟨gai gM 20 0 0, sfi g1 272 (2 + s) (nI 1), sai m2 21 0 s (nI 1), ?_, ?_, hR, by omega, by omega, ?_, ?_⟩
    · simp (disch := first | with_reducible assumption | omega | (simp only [MI_sai_iff, MI_sfi_iff]; with_reducible assumption)) only [li, ↓lr_, ↓bd_m, ↓oc_m, ↓reduceIte, bi_0, bi_0n, bi_1, bi_1n, not_true_eq_false, not_false_eq_true, Nat.reduceAdd, Nat.reduceMul, nI_mul, nI_add, inb_T, ix_nI, le_T, le_F, lt_T, lt_F, eq_F, and_self, and_true, true_and, false_and, and_false, or_true, true_or, or_false, false_or, bi_eq, x_within, m_in, f9_save, e1, r0, a1, r0', n271]
    · rw [m0] at c1
      simp (disch := first | with_reducible assumption | omega | (simp only [MI_sai_iff, MI_sfi_iff]; with_reducible assumption)) only [li, ↓lr_, ↓bd_m, ↓oc_m, ↓reduceIte, bi_0, bi_0n, bi_1, bi_1n, not_true_eq_false, not_false_eq_true, Nat.reduceAdd, Nat.reduceMul, nI_mul, nI_add, inb_T, ix_nI, le_T, le_F, lt_T, lt_F, eq_F, and_self, and_true, true_and, false_and, and_false, or_true, true_or, or_false, false_or, bi_eq, x_within, m_in, f10_save, eq_true hv, b1, c1]
    · rw [es3, c2.2.2.2.2.2.1, b2.2.2.2.2.2.1]
    · rw [es4, c2.2.2.2.2.2.2.1, b2.2.2.2.2.2.2.1]
  · rw [if_neg hv] at e1
    refine op_fin h ?_ ?_ (r := -nI 2)
    · simp (disch := first | with_reducible assumption | omega | (simp only [MI_sai_iff, MI_sfi_iff]; with_reducible assumption)) only [li, ↓lr_, ↓bd_m, ↓oc_m, ↓reduceIte, bi_0, bi_0n, bi_1, bi_1n, not_true_eq_false, not_false_eq_true, Nat.reduceAdd, Nat.reduceMul, nI_mul, nI_add, inb_T, ix_nI, le_T, le_F, lt_T, lt_F, eq_F, and_self, and_true, true_and, false_and, and_false, or_true, true_or, or_false, false_or, bi_eq, x_within, m_in, f9_save, e1]
    · simp (disch := first | with_reducible assumption | omega | (simp only [MI_sai_iff, MI_sfi_iff]; with_reducible assumption)) only [li, ↓lr_, ↓bd_m, ↓oc_m, ↓reduceIte, bi_0, bi_0n, bi_1, bi_1n, not_true_eq_false, not_false_eq_true, Nat.reduceAdd, Nat.reduceMul, nI_mul, nI_add, inb_T, ix_nI, le_T, le_F, lt_T, lt_F, eq_F, and_self, and_true, true_and, false_and, and_false, or_true, true_or, or_false, false_or, bi_eq, x_within, m_in, f10_save, eq_false hv]
theorem op_restore (v : Int32) : Op (f9_restore 0 v) (f10_restore 0 v) := by
  intro gX gM n hn h
  obtain ⟨F, r0, r1, hX, hS, hP, hE, hM, ⟨d1, d2, d3⟩, ⟨j1, j2, j3⟩, ⟨p1, p2, p3⟩⟩ := ctx h
  have e1 := x_slotAt h.1 (v := v)
  obtain ⟨⟨-, -, -, -, -, q25, -⟩, -, -, -, -, -, -, n21⟩ := MI_all hM
  by_cases hv : nI 0 ≤ v ∧ v ≤ nI 1
  · rw [if_pos hv] at e1
    obtain ⟨s, -, hs, rfl⟩ := (in_ex (by omega) (by omega)).mp hv
    rw [tn_nI (by omega)] at e1
    have hs2 : s < 2 := by omega
    obtain ⟨k1, k2⟩ := h.2.2.2.1 s hs2
    rcases k2 with k2 | ⟨k2, F', k3⟩
    · rw [k2] at k1
      refine op_fin h ?_ ?_ (r := -nI 5)
      · simp (disch := first | with_reducible assumption | omega | (simp only [MI_sai_iff, MI_sfi_iff]; with_reducible assumption)) only [li, ↓lr_, ↓bd_m, ↓oc_m, ↓reduceIte, bi_0, bi_0n, bi_1, bi_1n, not_true_eq_false, not_false_eq_true, Nat.reduceAdd, Nat.reduceMul, nI_mul, nI_add, inb_T, ix_nI, le_T, le_F, lt_T, lt_F, eq_F, and_self, and_true, true_and, false_and, and_false, or_true, true_or, or_false, false_or, bi_eq, x_within, m_in, f9_restore, e1, k1]
      · simp (disch := first | with_reducible assumption | omega | (simp only [MI_sai_iff, MI_sfi_iff]; with_reducible assumption)) only [li, ↓lr_, ↓bd_m, ↓oc_m, ↓reduceIte, bi_0, bi_0n, bi_1, bi_1n, not_true_eq_false, not_false_eq_true, Nat.reduceAdd, Nat.reduceMul, nI_mul, nI_add, inb_T, ix_nI, le_T, le_F, lt_T, lt_F, eq_F, and_self, and_true, true_and, false_and, and_false, or_true, true_or, or_false, false_or, bi_eq, x_within, m_in, f10_restore, eq_true hv, q25, n21, k2]
    · rw [k2] at k1
      obtain ⟨g1, a1, a2, a3, a4, ⟨a5, a6⟩, a7, a8⟩ := x_copyFrom (S := 0) (S' := 2 + s) h.1 (by omega) (by omega) (by omega) k3.1 (DN_24 k3.2.1)
      obtain ⟨m1, b1, b2, b3, b4⟩ := m_rest1 hs2 FU_ 0 gM (by omega) (by unfold FU_; omega) hM
      have hM1 := MI_eq hM b2.2.1 b2.2.2.1
      obtain ⟨m2, c1, c2, c3, c4⟩ := m_rest2 hs2 FU_ 0 m1 (by omega) (by unfold FU_; omega) hM1
      have k20 : ∀ i, i ≠ 0 → i ≠ 2 → gai m2 20 i = gai gM 20 i := fun i q1 q2 => (c2.2.2.2.2.2.2.2 20 i (by omega)).trans (b2.2.2.2.2.2.2.2 20 i (by omega))
      have ka : ∀ k, k < 858 → gai m2 20 0 k = aS gM s k := by
        intro k hk
        rw [c2.2.2.2.2.2.2.2 20 0 (by omega)]
        exact b3 k (by omega) hk
      have kl : ∀ k, k < 9600 → gai m2 20 2 k = lS gM s k := by
        intro k hk
        rw [c3 k (by omega) hk, b2.2.2.2.2.2.2.2 20 4 (by omega)]
      have hR : Rel g1 m2 (n + 1) := by
        refine Rel_step h a2 a3 ⟨c2.2.1.trans b2.2.1, c2.2.2.1.trans b2.2.2.1, c2.2.2.2.2.2.1.trans b2.2.2.2.2.2.1, c2.2.2.2.2.2.2.1.trans b2.2.2.2.2.2.2.1, k20 3 (by omega) (by omega), k20 4 (by omega) (by omega), ?_⟩ ?_ ?_
        · funext i
          exact (c2.2.2.2.2.2.2.2 21 i (by omega)).trans (b2.2.2.2.2.2.2.2 21 i (by omega))
        · exact ⟨F', SpK_858 ka (SpK_l kl ⟨a4, PI_mono k3.2.1 (by omega), k3.2.2⟩)⟩
        · obtain ⟨-, -, -, -, c, q1, q2⟩ := h
          exact ⟨c, by rw [c2.1, b2.1]; exact q1, by omega⟩
      have n271 : gfi g1 271 0 = gai m2 20 0 0 := by
        rw [ka 0 (by omega)]
        exact a4.2.2.2.2.2.2.2.2.1
      have r0' : gfr g1 288 0 = some 0 := a3.1.1
      refine ⟨gai m2 20 0 0, g1, m2, ?_, ?_, hR, by omega, by omega, ?_, ?_⟩
      · simp (disch := first | with_reducible assumption | omega | (simp only [MI_sai_iff, MI_sfi_iff]; with_reducible assumption)) only [li, ↓lr_, ↓bd_m, ↓oc_m, ↓reduceIte, bi_0, bi_0n, bi_1, bi_1n, not_true_eq_false, not_false_eq_true, Nat.reduceAdd, Nat.reduceMul, nI_mul, nI_add, inb_T, ix_nI, le_T, le_F, lt_T, lt_F, eq_F, and_self, and_true, true_and, false_and, and_false, or_true, true_or, or_false, false_or, bi_eq, x_within, m_in, f9_restore, e1, k1, r0, a1, r0', n271]
      · simp (disch := first | with_reducible assumption | omega | (simp only [MI_sai_iff, MI_sfi_iff]; with_reducible assumption)) only [li, ↓lr_, ↓bd_m, ↓oc_m, ↓reduceIte, bi_0, bi_0n, bi_1, bi_1n, not_true_eq_false, not_false_eq_true, Nat.reduceAdd, Nat.reduceMul, nI_mul, nI_add, inb_T, ix_nI, le_T, le_F, lt_T, lt_F, eq_F, and_self, and_true, true_and, false_and, and_false, or_true, true_or, or_false, false_or, bi_eq, x_within, m_in, f10_restore, eq_true hv, q25, n21, k2, b1, c1]
      · rw [c2.2.2.2.2.2.1, b2.2.2.2.2.2.1]
      · rw [c2.2.2.2.2.2.2.1, b2.2.2.2.2.2.2.1]
  · rw [if_neg hv] at e1
    refine op_fin h ?_ ?_ (r := -nI 2)
    · simp (disch := first | with_reducible assumption | omega | (simp only [MI_sai_iff, MI_sfi_iff]; with_reducible assumption)) only [li, ↓lr_, ↓bd_m, ↓oc_m, ↓reduceIte, bi_0, bi_0n, bi_1, bi_1n, not_true_eq_false, not_false_eq_true, Nat.reduceAdd, Nat.reduceMul, nI_mul, nI_add, inb_T, ix_nI, le_T, le_F, lt_T, lt_F, eq_F, and_self, and_true, true_and, false_and, and_false, or_true, true_or, or_false, false_or, bi_eq, x_within, m_in, f9_restore, e1]
    · simp (disch := first | with_reducible assumption | omega | (simp only [MI_sai_iff, MI_sfi_iff]; with_reducible assumption)) only [li, ↓lr_, ↓bd_m, ↓oc_m, ↓reduceIte, bi_0, bi_0n, bi_1, bi_1n, not_true_eq_false, not_false_eq_true, Nat.reduceAdd, Nat.reduceMul, nI_mul, nI_add, inb_T, ix_nI, le_T, le_F, lt_T, lt_F, eq_F, and_self, and_true, true_and, false_and, and_false, or_true, true_or, or_false, false_or, bi_eq, x_within, m_in, f10_restore, eq_false hv]
