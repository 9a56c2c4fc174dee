/-! calls that only read -/
def Op (x m : GS_ → Option (Int32 × GS_)) : Prop := ∀ gX gM n, n < 600 → Rel gX gM n → ∃ r gX' gM', x gX = some (r, gX') ∧ m gM = some (r, gM') ∧ Rel gX' gM' (n + 1) ∧ ghs gX' ≤ ghs gX + 1000 ∧ gsl gX' ≤ gsl gX + 14000 ∧ ghs gM' = ghs gM ∧ gsl gM' = gsl gM
theorem x_within (v lo hi : Int32) (g : GS_) : f9_within v lo hi g = some (bi (lo ≤ v ∧ v ≤ hi), g) := by
  unfold f9_within f9_within_b14
  by_cases h1 : v < lo
  · rw [if_pos h1]
    have : ¬ (lo ≤ v ∧ v ≤ hi) := by rw [leI, leI]; rw [ltI] at h1; omega
    unfold bi
    rw [if_neg this]
  · rw [if_neg h1]
    by_cases h2 : hi < v
    · rw [if_pos h2]
      have : ¬ (lo ≤ v ∧ v ≤ hi) := by rw [leI, leI]; rw [ltI] at h2; omega
      unfold bi
      rw [if_neg this]
    · rw [if_neg h2]
      have : (lo ≤ v ∧ v ≤ hi) := by rw [leI, leI]; rw [ltI] at h1 h2; omega
      unfold bi
      rw [if_pos this]
theorem in_ex {lo hi : Nat} {v : Int32} (hh : hi < 1000000) (hl : lo ≤ hi) : (nI lo ≤ v ∧ v ≤ nI hi) ↔ ∃ k : Nat, lo ≤ k ∧ k ≤ hi ∧ v = nI k := by
  constructor
  · rintro ⟨h1, h2⟩
    rw [leI, toIntI (by omega)] at h1 h2
    exact ⟨tn v, by unfold tn; omega, by unfold tn; omega, of_tn (by omega)⟩
  · rintro ⟨k, h1, h2, rfl⟩
    exact ⟨(le_nI (by omega) (by omega)).mpr h1, (le_nI (by omega) (by omega)).mpr h2⟩
theorem ctx {gX gM : GS_} {n : Nat} (h : Rel gX gM n) : ∃ F, gfr gX 288 0 = some 0 ∧ gfr gX 289 0 = some 1 ∧ XSp gX 0 ∧ SpO gX 0 (gai gM 20 0) (gai gM 20 2) F ∧ PI (gai gM 20 2) (gai gM 20 0, F) (3000 * n) ∧ IvE (gai gM 20 0) ∧ MI gM ∧
    (gfi gX 257 0 = nI (tn (gai gM 20 0 3)) ∧ gai gM 20 0 3 = nI (tn (gai gM 20 0 3)) ∧ tn (gai gM 20 0 3) ≤ 10) ∧ (gfi gX 259 0 = nI (tn (gai gM 20 0 4)) ∧ gai gM 20 0 4 = nI (tn (gai gM 20 0 4)) ∧ tn (gai gM 20 0 4) ≤ 24) ∧ (gfi gX 261 0 = nI (tn (gai gM 20 0 5)) ∧ gai gM 20 0 5 = nI (tn (gai gM 20 0 5)) ∧ tn (gai gM 20 0 5) ≤ 3) := by
  obtain ⟨h1, h2, ⟨F, h3, h4, h5⟩, -⟩ := h
  have hI := h3.2.2.1
  exact ⟨F, h1.1.1, h1.1.2.1, h1.2.1 0 (by omega), h3, h4, h5, h2, ⟨h3.2.2.2.1.1.1.trans (vl_nI hI.1).1, (vl_nI hI.1).1, Iv0_d hI⟩, ⟨(SpO_n4 h3).1, (vl_nI hI.2.1).1, Iv0_j hI⟩, (SpO_n5 h3).1, (vl_nI hI.2.2.1).1, Iv0_p hI⟩
theorem op_fin {gX gM : GS_} {n : Nat} {x m : GS_ → Option (Int32 × GS_)} {r : Int32} (h : Rel gX gM n) (hx : x gX = some (r, gX)) (hm : m gM = some (r, gM)) : ∃ r gX' gM', x gX = some (r, gX') ∧ m gM = some (r, gM') ∧ Rel gX' gM' (n + 1) ∧ ghs gX' ≤ ghs gX + 1000 ∧ gsl gX' ≤ gsl gX + 14000 ∧ ghs gM' = ghs gM ∧ gsl gM' = gsl gM :=
  ⟨r, gX, gM, hx, hm, Rel_id h KS_rfl rfl rfl rfl, by omega, by omega, rfl, rfl⟩
theorem opt_if {α : Type} {c : Prop} [Decidable c] (x y : α) (h : c) : (if c then x else y) = x := if_pos h
theorem op_weight (d p : Int32) : Op (f9_weight 0 d p) (f10_weight 0 d p) := by
  intro gX gM n hn h
  obtain ⟨F, r0, r1, hX, hS, hP, hE, hM, ⟨d1, d2, d3⟩, ⟨j1, j2, j3⟩, ⟨p1, p2, p3⟩⟩ := ctx h
  have e1 := x_documentAt hX d1 d3 d
  have e2 := m_isDocument hM d2 (by omega) d
  by_cases hd : vl d (tn (gai gM 20 0 3))
  · obtain ⟨k, rfl, hk⟩ := vl_ex hd
    obtain ⟨D, w1, w2, w3⟩ := hS.2.2.2.1.2.2.2.1 k hk
    have hDoc := hS.2.2.1.2.2.2.2.1 k hk
    rw [if_pos hd, tn_nI (by omega), w1] at e1
    have hd' : vl (nI k) (tn (gai gM 20 0 3)) = True := eq_true hd
    have g0 : gfi gX 0 D = nI (dN (gai gM 20 0) k 0) := (w3 0 (by omega)).trans (vl_nI hDoc.1).1
    have g2 : gfi gX 2 D = nI (dN (gai gM 20 0) k 2) := (w3 2 (by omega)).trans (vl_nI hDoc.2.2.2.1).1
    have g3 : gfi gX 3 D = nI (dN (gai gM 20 0) k 3) := (w3 3 (by omega)).trans (vl_nI hDoc.2.2.2.2.1).1
    have g4 : gfi gX 4 D = nI (dN (gai gM 20 0) k 4) := (w3 4 (by omega)).trans (vl_nI hDoc.2.2.2.2.2.1).1
    have m0 : gai gM 20 0 (26 + 5 * k + 0) = nI (dN (gai gM 20 0) k 0) := (vl_nI hDoc.1).1
    have b0 : dN (gai gM 20 0) k 0 < 401 := (vl_nI hDoc.1).2
    have b3 : dN (gai gM 20 0) k 3 < 51 := (vl_nI hDoc.2.2.2.2.1).2
    have b4 : dN (gai gM 20 0) k 4 < 501 := (vl_nI hDoc.2.2.2.2.2.1).2
    have b4' := hDoc.2.2.2.2.2.2
    have k10 : k < 10 := by omega
    by_cases hp : nI 1 ≤ p ∧ p ≤ nI (dN (gai gM 20 0) k 0)
    · obtain ⟨q, q1, q2, rfl⟩ := (in_ex (by omega) hDoc.2.1).mp hp
      have e3 := m_weightOf hM k10 (show q < 1000 by omega) hDoc
      have e4 : jrem (nI (q * dN (gai gM 20 0) k 3)) (nI (dN (gai gM 20 0) k 4)) = nI (q * dN (gai gM 20 0) k 3 % dN (gai gM 20 0) k 4) := by
        have := Nat.mul_le_mul (show q ≤ 1000 by omega) (show dN (gai gM 20 0) k 3 ≤ 50 by omega)
        exact rem_nI (by omega) (by omega) (by omega)
      refine op_fin h ?_ ?_ (r := nI (wgt (gai gM 20 0) k q))
      · simp (disch := first | with_reducible assumption | omega | (simp only [MI_sai_iff, MI_sfi_iff]; with_reducible assumption)) only [li, ↓lr_, ↓bd_m, ↓oc_m, ↓reduceIte, bi_0, bi_0n, bi_1, bi_1n, not_true_eq_false, not_false_eq_true, Nat.reduceAdd, Nat.reduceMul, nI_mul, nI_add, inb_T, ix_nI, le_T, le_F, lt_T, lt_F, eq_F, and_self, and_true, true_and, false_and, and_false, or_true, true_or, or_false, false_or, bi_eq, x_within, m_in, f9_weight, r0, e1, x_within, g0, bi_eq, eq_true hp, f0_weightOf, g2, g3, g4, e4, wgt]
      · simp (disch := first | with_reducible assumption | omega | (simp only [MI_sai_iff, MI_sfi_iff]; with_reducible assumption)) only [li, ↓lr_, ↓bd_m, ↓oc_m, ↓reduceIte, bi_0, bi_0n, bi_1, bi_1n, not_true_eq_false, not_false_eq_true, Nat.reduceAdd, Nat.reduceMul, nI_mul, nI_add, inb_T, ix_nI, le_T, le_F, lt_T, lt_F, eq_F, and_self, and_true, true_and, false_and, and_false, or_true, true_or, or_false, false_or, bi_eq, x_within, m_in, f10_weight, e2, hd', bi_eq, m_ofDocument, m0, m_in, eq_true hp, e3]
    · refine op_fin h ?_ ?_ (r := -nI 2)
      · simp (disch := first | with_reducible assumption | omega | (simp only [MI_sai_iff, MI_sfi_iff]; with_reducible assumption)) only [li, ↓lr_, ↓bd_m, ↓oc_m, ↓reduceIte, bi_0, bi_0n, bi_1, bi_1n, not_true_eq_false, not_false_eq_true, Nat.reduceAdd, Nat.reduceMul, nI_mul, nI_add, inb_T, ix_nI, le_T, le_F, lt_T, lt_F, eq_F, and_self, and_true, true_and, false_and, and_false, or_true, true_or, or_false, false_or, bi_eq, x_within, m_in, f9_weight, r0, e1, x_within, g0, bi_eq, eq_false hp]
      · simp (disch := first | with_reducible assumption | omega | (simp only [MI_sai_iff, MI_sfi_iff]; with_reducible assumption)) only [li, ↓lr_, ↓bd_m, ↓oc_m, ↓reduceIte, bi_0, bi_0n, bi_1, bi_1n, not_true_eq_false, not_false_eq_true, Nat.reduceAdd, Nat.reduceMul, nI_mul, nI_add, inb_T, ix_nI, le_T, le_F, lt_T, lt_F, eq_F, and_self, and_true, true_and, false_and, and_false, or_true, true_or, or_false, false_or, bi_eq, x_within, m_in, f10_weight, e2, hd', bi_eq, m_ofDocument, m0, m_in, eq_false hp]
  · rw [if_neg hd] at e1
    refine op_fin h ?_ ?_ (r := -nI 1)
    · simp (disch := first | with_reducible assumption | omega | (simp only [MI_sai_iff, MI_sfi_iff]; with_reducible assumption)) only [li, ↓lr_, ↓bd_m, ↓oc_m, ↓reduceIte, bi_0, bi_0n, bi_1, bi_1n, not_true_eq_false, not_false_eq_true, Nat.reduceAdd, Nat.reduceMul, nI_mul, nI_add, inb_T, ix_nI, le_T, le_F, lt_T, lt_F, eq_F, and_self, and_true, true_and, false_and, and_false, or_true, true_or, or_false, false_or, bi_eq, x_within, m_in, f9_weight, r0, e1]
    · simp (disch := first | with_reducible assumption | omega | (simp only [MI_sai_iff, MI_sfi_iff]; with_reducible assumption)) only [li, ↓lr_, ↓bd_m, ↓oc_m, ↓reduceIte, bi_0, bi_0n, bi_1, bi_1n, not_true_eq_false, not_false_eq_true, Nat.reduceAdd, Nat.reduceMul, nI_mul, nI_add, inb_T, ix_nI, le_T, le_F, lt_T, lt_F, eq_F, and_self, and_true, true_and, false_and, and_false, or_true, true_or, or_false, false_or, bi_eq, x_within, m_in, f10_weight, e2, eq_false hd, bi_eq]
theorem op_printed (u : Int32) : Op (f9_printed 0 u) (f10_printed 0 u) := by
  intro gX gM n hn h
  obtain ⟨F, r0, r1, hX, hS, hP, hE, hM, ⟨d1, d2, d3⟩, ⟨j1, j2, j3⟩, ⟨p1, p2, p3⟩⟩ := ctx h
  have e0 : (nI 0 ≤ u ∧ u ≤ nI 5) = vl u 6 := propext (in_lit (k := 5) (by omega) u)
  by_cases hu : vl u 6
  · obtain ⟨k, rfl, hk⟩ := vl_ex hu
    have e1 := x_printedFor hX hk
    rw [hS.2.2.2.2.2.2.2.1 k hk] at e1
    refine op_fin h ?_ ?_ (r := gai gM 20 0 (20 + k))
    · simp (disch := first | with_reducible assumption | omega | (simp only [MI_sai_iff, MI_sfi_iff]; with_reducible assumption)) only [li, ↓lr_, ↓bd_m, ↓oc_m, ↓reduceIte, bi_0, bi_0n, bi_1, bi_1n, not_true_eq_false, not_false_eq_true, Nat.reduceAdd, Nat.reduceMul, nI_mul, nI_add, inb_T, ix_nI, le_T, le_F, lt_T, lt_F, eq_F, and_self, and_true, true_and, false_and, and_false, or_true, true_or, or_false, false_or, bi_eq, x_within, m_in, f9_printed, x_within, e0, eq_true hu, bi_eq, r0, e1]
    · simp (disch := first | with_reducible assumption | omega | (simp only [MI_sai_iff, MI_sfi_iff]; with_reducible assumption)) only [li, ↓lr_, ↓bd_m, ↓oc_m, ↓reduceIte, bi_0, bi_0n, bi_1, bi_1n, not_true_eq_false, not_false_eq_true, Nat.reduceAdd, Nat.reduceMul, nI_mul, nI_add, inb_T, ix_nI, le_T, le_F, lt_T, lt_F, eq_F, and_self, and_true, true_and, false_and, and_false, or_true, true_or, or_false, false_or, bi_eq, x_within, m_in, f10_printed, m_isUser, eq_true hu, bi_eq, MI_a hM, MI_n hM]
  · refine op_fin h ?_ ?_ (r := -nI 1)
    · simp (disch := first | with_reducible assumption | omega | (simp only [MI_sai_iff, MI_sfi_iff]; with_reducible assumption)) only [li, ↓lr_, ↓bd_m, ↓oc_m, ↓reduceIte, bi_0, bi_0n, bi_1, bi_1n, not_true_eq_false, not_false_eq_true, Nat.reduceAdd, Nat.reduceMul, nI_mul, nI_add, inb_T, ix_nI, le_T, le_F, lt_T, lt_F, eq_F, and_self, and_true, true_and, false_and, and_false, or_true, true_or, or_false, false_or, bi_eq, x_within, m_in, f9_printed, x_within, e0, eq_false hu, bi_eq]
    · simp (disch := first | with_reducible assumption | omega | (simp only [MI_sai_iff, MI_sfi_iff]; with_reducible assumption)) only [li, ↓lr_, ↓bd_m, ↓oc_m, ↓reduceIte, bi_0, bi_0n, bi_1, bi_1n, not_true_eq_false, not_false_eq_true, Nat.reduceAdd, Nat.reduceMul, nI_mul, nI_add, inb_T, ix_nI, le_T, le_F, lt_T, lt_F, eq_F, and_self, and_true, true_and, false_and, and_false, or_true, true_or, or_false, false_or, bi_eq, x_within, m_in, f10_printed, m_isUser, eq_false hu, bi_eq]
theorem not_in {lo hi : Nat} {v : Int32} (hh : hi < 1000000) (h : ¬ (nI lo ≤ v ∧ v ≤ nI hi)) (k : Nat) (h1 : lo ≤ k) (h2 : k ≤ hi) : (v = nI k) = False := eq_false fun e => h (by rw [e]; exact ⟨(le_nI (by omega) (by omega)).mpr h1, (le_nI (by omega) (by omega)).mpr h2⟩)
theorem op_about (j w : Int32) : Op (f9_about 0 j w) (f10_about 0 j w) := by
  intro gX gM n hn h
  obtain ⟨F, r0, r1, hX, hS, hP, hE, hM, ⟨d1, d2, d3⟩, ⟨j1, j2, j3⟩, ⟨p1, p2, p3⟩⟩ := ctx h
  have e1 := x_jobAt hX j1 j3 j
  have e2 := m_isJob hM j2 (by omega) j
  by_cases hj : vl j (tn (gai gM 20 0 4))
  · obtain ⟨k, rfl, hk⟩ := vl_ex hj
    obtain ⟨J, Q, w1, w2, w3, w4⟩ := hS.2.2.2.1.2.2.2.2.1 k hk
    have hJ := hS.2.2.1.2.2.2.2.2.1 k hk
    obtain ⟨s1, s2, s3, s4⟩ := hS.2.2.2.2.1 k J hk w1
    rw [if_pos hj, tn_nI (by omega), w1] at e1
    have hj' := eq_true hj
    have k24 : k < 24 := by omega
    have e3 := x_sheets w3 hJ
    have e4 := x_rankAt hS hk w1
    have e5 := m_rankOf hM k24 (Iv0_1 hS.2.2.1)
    have h8 := hJ.2.2.2.2.2.2.2.2.2.2.1
    have h7 := (Jn hJ).2.2.2.2.2.2.1.1
    obtain ⟨-, -, q9, ⟨A, qa, -, -, qb, -⟩, q1, q2, q3, q4, q5, -⟩ := w3
    have tt : (gai gM 20 0 (106 + 13 * k + 9) = nI 0) ∨ ¬ (gai gM 20 0 (106 + 13 * k + 9) = nI 0) := Classical.em _
    by_cases hw : nI 0 ≤ w ∧ w ≤ nI 11
    · obtain ⟨q, -, q0, rfl⟩ := (in_ex (by omega) (by omega)).mp hw
      by_cases h11 : q = 11
      · subst h11
        rcases tt with t | t
        · refine op_fin h ?_ ?_ (r := rk (gai gM 20 0) k)
          · simp (disch := first | with_reducible assumption | omega | (simp only [MI_sai_iff, MI_sfi_iff]; with_reducible assumption)) only [li, ↓lr_, ↓bd_m, ↓oc_m, ↓reduceIte, bi_0, bi_0n, bi_1, bi_1n, not_true_eq_false, not_false_eq_true, Nat.reduceAdd, Nat.reduceMul, nI_mul, nI_add, inb_T, ix_nI, le_T, le_F, lt_T, lt_F, eq_F, and_self, and_true, true_and, false_and, and_false, or_true, true_or, or_false, false_or, bi_eq, x_within, m_in, f9_about, r0, e1, w2, s1, t, e4]
          · simp (disch := first | with_reducible assumption | omega | (simp only [MI_sai_iff, MI_sfi_iff]; with_reducible assumption)) only [li, ↓lr_, ↓bd_m, ↓oc_m, ↓reduceIte, bi_0, bi_0n, bi_1, bi_1n, not_true_eq_false, not_false_eq_true, Nat.reduceAdd, Nat.reduceMul, nI_mul, nI_add, inb_T, ix_nI, le_T, le_F, lt_T, lt_F, eq_F, and_self, and_true, true_and, false_and, and_false, or_true, true_or, or_false, false_or, bi_eq, x_within, m_in, f10_about, e2, hj', m_ofJob, t, e5]
        · refine op_fin h ?_ ?_ (r := -nI 6)
          · simp (disch := first | with_reducible assumption | omega | (simp only [MI_sai_iff, MI_sfi_iff]; with_reducible assumption)) only [li, ↓lr_, ↓bd_m, ↓oc_m, ↓reduceIte, bi_0, bi_0n, bi_1, bi_1n, not_true_eq_false, not_false_eq_true, Nat.reduceAdd, Nat.reduceMul, nI_mul, nI_add, inb_T, ix_nI, le_T, le_F, lt_T, lt_F, eq_F, and_self, and_true, true_and, false_and, and_false, or_true, true_or, or_false, false_or, bi_eq, x_within, m_in, f9_about, r0, e1, w2, s1, eq_false t]
          · simp (disch := first | with_reducible assumption | omega | (simp only [MI_sai_iff, MI_sfi_iff]; with_reducible assumption)) only [li, ↓lr_, ↓bd_m, ↓oc_m, ↓reduceIte, bi_0, bi_0n, bi_1, bi_1n, not_true_eq_false, not_false_eq_true, Nat.reduceAdd, Nat.reduceMul, nI_mul, nI_add, inb_T, ix_nI, le_T, le_F, lt_T, lt_F, eq_F, and_self, and_true, true_and, false_and, and_false, or_true, true_or, or_false, false_or, bi_eq, x_within, m_in, f10_about, e2, hj', m_ofJob, eq_false t]
      · refine op_fin h ?_ ?_ (r := gai gM 20 0 (106 + 13 * k + q))
        · rcases (show q = 0 ∨ q = 1 ∨ q = 2 ∨ q = 3 ∨ q = 4 ∨ q = 5 ∨ q = 6 ∨ q = 7 ∨ q = 8 ∨ q = 9 ∨ q = 10 by omega) with rfl | rfl | rfl | rfl | rfl | rfl | rfl | rfl | rfl | rfl | rfl
          all_goals simp (disch := first | with_reducible assumption | omega | (simp only [MI_sai_iff, MI_sfi_iff]; with_reducible assumption)) only [li, ↓lr_, ↓bd_m, ↓oc_m, ↓reduceIte, bi_0, bi_0n, bi_1, bi_1n, not_true_eq_false, not_false_eq_true, Nat.reduceAdd, Nat.reduceMul, nI_mul, nI_add, inb_T, ix_nI, le_T, le_F, lt_T, lt_F, eq_F, and_self, and_true, true_and, false_and, and_false, or_true, true_or, or_false, false_or, bi_eq, x_within, m_in, f9_about, r0, e1, w2, q1, q2, q3, q4, q5, q9, w4, qa, qb, ofN, h7, h8, e3, s1, s2]
        · simp (disch := first | with_reducible assumption | omega | (simp only [MI_sai_iff, MI_sfi_iff]; with_reducible assumption)) only [li, ↓lr_, ↓bd_m, ↓oc_m, ↓reduceIte, bi_0, bi_0n, bi_1, bi_1n, not_true_eq_false, not_false_eq_true, Nat.reduceAdd, Nat.reduceMul, nI_mul, nI_add, inb_T, ix_nI, le_T, le_F, lt_T, lt_F, eq_F, and_self, and_true, true_and, false_and, and_false, or_true, true_or, or_false, false_or, bi_eq, x_within, m_in, f10_about, e2, hj', m_ofJob]
    · have hne := not_in (by omega) hw
      refine op_fin h ?_ ?_ (r := -nI 2)
      · simp (disch := first | with_reducible assumption | omega | (simp only [MI_sai_iff, MI_sfi_iff]; with_reducible assumption)) only [li, ↓lr_, ↓bd_m, ↓oc_m, ↓reduceIte, bi_0, bi_0n, bi_1, bi_1n, not_true_eq_false, not_false_eq_true, Nat.reduceAdd, Nat.reduceMul, nI_mul, nI_add, inb_T, ix_nI, le_T, le_F, lt_T, lt_F, eq_F, and_self, and_true, true_and, false_and, and_false, or_true, true_or, or_false, false_or, bi_eq, x_within, m_in, f9_about, r0, e1, w2, hne]
      · simp (disch := first | with_reducible assumption | omega | (simp only [MI_sai_iff, MI_sfi_iff]; with_reducible assumption)) only [li, ↓lr_, ↓bd_m, ↓oc_m, ↓reduceIte, bi_0, bi_0n, bi_1, bi_1n, not_true_eq_false, not_false_eq_true, Nat.reduceAdd, Nat.reduceMul, nI_mul, nI_add, inb_T, ix_nI, le_T, le_F, lt_T, lt_F, eq_F, and_self, and_true, true_and, false_and, and_false, or_true, true_or, or_false, false_or, bi_eq, x_within, m_in, f10_about, e2, hj', eq_false hw]
  · rw [if_neg hj] at e1
    refine op_fin h ?_ ?_ (r := -nI 1)
    · simp (disch := first | with_reducible assumption | omega | (simp only [MI_sai_iff, MI_sfi_iff]; with_reducible assumption)) only [li, ↓lr_, ↓bd_m, ↓oc_m, ↓reduceIte, bi_0, bi_0n, bi_1, bi_1n, not_true_eq_false, not_false_eq_true, Nat.reduceAdd, Nat.reduceMul, nI_mul, nI_add, inb_T, ix_nI, le_T, le_F, lt_T, lt_F, eq_F, and_self, and_true, true_and, false_and, and_false, or_true, true_or, or_false, false_or, bi_eq, x_within, m_in, f9_about, r0, e1]
    · simp (disch := first | with_reducible assumption | omega | (simp only [MI_sai_iff, MI_sfi_iff]; with_reducible assumption)) only [li, ↓lr_, ↓bd_m, ↓oc_m, ↓reduceIte, bi_0, bi_0n, bi_1, bi_1n, not_true_eq_false, not_false_eq_true, Nat.reduceAdd, Nat.reduceMul, nI_mul, nI_add, inb_T, ix_nI, le_T, le_F, lt_T, lt_F, eq_F, and_self, and_true, true_and, false_and, and_false, or_true, true_or, or_false, false_or, bi_eq, x_within, m_in, f10_about, e2, eq_false hj]
theorem op_turned (j s : Int32) : Op (f9_turned 0 j s) (f10_turned 0 j s) := by
  intro gX gM n hn h
  obtain ⟨F, r0, r1, hX, hS, hP, hE, hM, ⟨d1, d2, d3⟩, ⟨j1, j2, j3⟩, ⟨p1, p2, p3⟩⟩ := ctx h
  have e1 := x_jobAt hX j1 j3 j
  have e2 := m_isJob hM j2 (by omega) j
  by_cases hj : vl j (tn (gai gM 20 0 4))
  · obtain ⟨k, rfl, hk⟩ := vl_ex hj
    obtain ⟨J, Q, w1, w2, w3, w4⟩ := hS.2.2.2.1.2.2.2.2.1 k hk
    have hJ := hS.2.2.1.2.2.2.2.2.1 k hk
    rw [if_pos hj, tn_nI (by omega), w1] at e1
    have hj' := eq_true hj
    have k24 : k < 24 := by omega
    have e3 := x_hasSide w3 s
    have e4 := m_sidesOf hM k24 hJ
    have hsd := sdz_pos (jN (gai gM 20 0) k 3) (jN (gai gM 20 0) k 2)
    have e5 : (nI 0 ≤ s ∧ s ≤ nI (sdz (jN (gai gM 20 0) k 3) (jN (gai gM 20 0) k 2)) - nI 1) = vl s (sdz (jN (gai gM 20 0) k 3) (jN (gai gM 20 0) k 2)) := propext (in_vl (by omega) s)
    have e6 := m_isBooklet hM k24
    obtain ⟨-, -, q9, -, q1, q2, q3, q4, q5, q6, -⟩ := w3
    by_cases hs : vl s (sdz (jN (gai gM 20 0) k 3) (jN (gai gM 20 0) k 2))
    · by_cases hs1 : s = nI 1
      · have hb : ∀ c : Prop, [Decidable c] → (nI 1 = bi c) = c := fun c _ => by
          unfold bi
          split
          · rename_i hc; exact propext ⟨fun _ => hc, fun _ => rfl⟩
          · rename_i hc; exact propext ⟨fun q => by exact absurd q (by decide), fun q => absurd q hc⟩
        have hb0 : ∀ c : Prop, [Decidable c] → (nI 0 = bi c) = ¬ c := fun c _ => by
          unfold bi
          split
          · rename_i hc; exact propext ⟨fun q => by exact absurd q (by decide), fun q => absurd hc q⟩
          · rename_i hc; exact propext ⟨fun _ => hc, fun _ => rfl⟩
        by_cases c1 : gai gM 20 0 (106 + 13 * k + 2) = nI 2
        · by_cases c2 : gai gM 20 0 (106 + 13 * k + 3) = nI 0
          · refine op_fin h ?_ ?_ (r := nI 0)
            · simp (disch := first | with_reducible assumption | omega | (simp only [MI_sai_iff, MI_sfi_iff]; with_reducible assumption)) only [li, ↓lr_, ↓bd_m, ↓oc_m, ↓reduceIte, bi_0, bi_0n, bi_1, bi_1n, not_true_eq_false, not_false_eq_true, Nat.reduceAdd, Nat.reduceMul, nI_mul, nI_add, inb_T, ix_nI, le_T, le_F, lt_T, lt_F, eq_F, and_self, and_true, true_and, false_and, and_false, or_true, true_or, or_false, false_or, bi_eq, x_within, m_in, f9_turned, r0, e1, w2, e3, eq_true hs, eq_true hs1, f4_turnsBacks, q3, eq_true c1, f4_turnsBacks_b13, q6, hb, eq_true c2, f9_turned_b50]
            · simp (disch := first | with_reducible assumption | omega | (simp only [MI_sai_iff, MI_sfi_iff]; with_reducible assumption)) only [li, ↓lr_, ↓bd_m, ↓oc_m, ↓reduceIte, bi_0, bi_0n, bi_1, bi_1n, not_true_eq_false, not_false_eq_true, Nat.reduceAdd, Nat.reduceMul, nI_mul, nI_add, inb_T, ix_nI, le_T, le_F, lt_T, lt_F, eq_F, and_self, and_true, true_and, false_and, and_false, or_true, true_or, or_false, false_or, bi_eq, x_within, m_in, f10_turned, e2, hj', e4, e5, eq_true hs, eq_true hs1, m_ofJob, eq_true c1, f10_turned_b48, e6, hb, eq_true c2, f10_turned_b62]
          · refine op_fin h ?_ ?_ (r := nI 180)
            · simp (disch := first | with_reducible assumption | omega | (simp only [MI_sai_iff, MI_sfi_iff]; with_reducible assumption)) only [li, ↓lr_, ↓bd_m, ↓oc_m, ↓reduceIte, bi_0, bi_0n, bi_1, bi_1n, not_true_eq_false, not_false_eq_true, Nat.reduceAdd, Nat.reduceMul, nI_mul, nI_add, inb_T, ix_nI, le_T, le_F, lt_T, lt_F, eq_F, and_self, and_true, true_and, false_and, and_false, or_true, true_or, or_false, false_or, bi_eq, x_within, m_in, f9_turned, r0, e1, w2, e3, eq_true hs, eq_true hs1, f4_turnsBacks, q3, eq_true c1, f4_turnsBacks_b13, q6, hb, eq_false c2]
            · simp (disch := first | with_reducible assumption | omega | (simp only [MI_sai_iff, MI_sfi_iff]; with_reducible assumption)) only [li, ↓lr_, ↓bd_m, ↓oc_m, ↓reduceIte, bi_0, bi_0n, bi_1, bi_1n, not_true_eq_false, not_false_eq_true, Nat.reduceAdd, Nat.reduceMul, nI_mul, nI_add, inb_T, ix_nI, le_T, le_F, lt_T, lt_F, eq_F, and_self, and_true, true_and, false_and, and_false, or_true, true_or, or_false, false_or, bi_eq, x_within, m_in, f10_turned, e2, hj', e4, e5, eq_true hs, eq_true hs1, m_ofJob, eq_true c1, f10_turned_b48, e6, hb, eq_false c2]
        · by_cases c2 : gai gM 20 0 (106 + 13 * k + 3) = nI 0
          · refine op_fin h ?_ ?_ (r := nI 180)
            · simp (disch := first | with_reducible assumption | omega | (simp only [MI_sai_iff, MI_sfi_iff]; with_reducible assumption)) only [li, ↓lr_, ↓bd_m, ↓oc_m, ↓reduceIte, bi_0, bi_0n, bi_1, bi_1n, not_true_eq_false, not_false_eq_true, Nat.reduceAdd, Nat.reduceMul, nI_mul, nI_add, inb_T, ix_nI, le_T, le_F, lt_T, lt_F, eq_F, and_self, and_true, true_and, false_and, and_false, or_true, true_or, or_false, false_or, bi_eq, x_within, m_in, f9_turned, r0, e1, w2, e3, eq_true hs, eq_true hs1, f4_turnsBacks, q3, eq_false c1, f4_turnsBacks_b13, q6, hb0, eq_true c2]
            · simp (disch := first | with_reducible assumption | omega | (simp only [MI_sai_iff, MI_sfi_iff]; with_reducible assumption)) only [li, ↓lr_, ↓bd_m, ↓oc_m, ↓reduceIte, bi_0, bi_0n, bi_1, bi_1n, not_true_eq_false, not_false_eq_true, Nat.reduceAdd, Nat.reduceMul, nI_mul, nI_add, inb_T, ix_nI, le_T, le_F, lt_T, lt_F, eq_F, and_self, and_true, true_and, false_and, and_false, or_true, true_or, or_false, false_or, bi_eq, x_within, m_in, f10_turned, e2, hj', e4, e5, eq_true hs, eq_true hs1, m_ofJob, eq_false c1, f10_turned_b48, e6, hb0, eq_true c2]
          · refine op_fin h ?_ ?_ (r := nI 0)
            · simp (disch := first | with_reducible assumption | omega | (simp only [MI_sai_iff, MI_sfi_iff]; with_reducible assumption)) only [li, ↓lr_, ↓bd_m, ↓oc_m, ↓reduceIte, bi_0, bi_0n, bi_1, bi_1n, not_true_eq_false, not_false_eq_true, Nat.reduceAdd, Nat.reduceMul, nI_mul, nI_add, inb_T, ix_nI, le_T, le_F, lt_T, lt_F, eq_F, and_self, and_true, true_and, false_and, and_false, or_true, true_or, or_false, false_or, bi_eq, x_within, m_in, f9_turned, r0, e1, w2, e3, eq_true hs, eq_true hs1, f4_turnsBacks, q3, eq_false c1, f4_turnsBacks_b13, q6, hb0, eq_false c2, f9_turned_b50]
            · simp (disch := first | with_reducible assumption | omega | (simp only [MI_sai_iff, MI_sfi_iff]; with_reducible assumption)) only [li, ↓lr_, ↓bd_m, ↓oc_m, ↓reduceIte, bi_0, bi_0n, bi_1, bi_1n, not_true_eq_false, not_false_eq_true, Nat.reduceAdd, Nat.reduceMul, nI_mul, nI_add, inb_T, ix_nI, le_T, le_F, lt_T, lt_F, eq_F, and_self, and_true, true_and, false_and, and_false, or_true, true_or, or_false, false_or, bi_eq, x_within, m_in, f10_turned, e2, hj', e4, e5, eq_true hs, eq_true hs1, m_ofJob, eq_false c1, f10_turned_b48, e6, hb0, eq_false c2, f10_turned_b62]
      · refine op_fin h ?_ ?_ (r := nI 0)
        · simp (disch := first | with_reducible assumption | omega | (simp only [MI_sai_iff, MI_sfi_iff]; with_reducible assumption)) only [li, ↓lr_, ↓bd_m, ↓oc_m, ↓reduceIte, bi_0, bi_0n, bi_1, bi_1n, not_true_eq_false, not_false_eq_true, Nat.reduceAdd, Nat.reduceMul, nI_mul, nI_add, inb_T, ix_nI, le_T, le_F, lt_T, lt_F, eq_F, and_self, and_true, true_and, false_and, and_false, or_true, true_or, or_false, false_or, bi_eq, x_within, m_in, f9_turned, r0, e1, w2, e3, eq_true hs, eq_false hs1, f9_turned_b50]
        · simp (disch := first | with_reducible assumption | omega | (simp only [MI_sai_iff, MI_sfi_iff]; with_reducible assumption)) only [li, ↓lr_, ↓bd_m, ↓oc_m, ↓reduceIte, bi_0, bi_0n, bi_1, bi_1n, not_true_eq_false, not_false_eq_true, Nat.reduceAdd, Nat.reduceMul, nI_mul, nI_add, inb_T, ix_nI, le_T, le_F, lt_T, lt_F, eq_F, and_self, and_true, true_and, false_and, and_false, or_true, true_or, or_false, false_or, bi_eq, x_within, m_in, f10_turned, e2, hj', e4, e5, eq_true hs, eq_false hs1, f10_turned_b62]
    · refine op_fin h ?_ ?_ (r := -nI 2)
      · simp (disch := first | with_reducible assumption | omega | (simp only [MI_sai_iff, MI_sfi_iff]; with_reducible assumption)) only [li, ↓lr_, ↓bd_m, ↓oc_m, ↓reduceIte, bi_0, bi_0n, bi_1, bi_1n, not_true_eq_false, not_false_eq_true, Nat.reduceAdd, Nat.reduceMul, nI_mul, nI_add, inb_T, ix_nI, le_T, le_F, lt_T, lt_F, eq_F, and_self, and_true, true_and, false_and, and_false, or_true, true_or, or_false, false_or, bi_eq, x_within, m_in, f9_turned, r0, e1, w2, e3, eq_false hs]
      · simp (disch := first | with_reducible assumption | omega | (simp only [MI_sai_iff, MI_sfi_iff]; with_reducible assumption)) only [li, ↓lr_, ↓bd_m, ↓oc_m, ↓reduceIte, bi_0, bi_0n, bi_1, bi_1n, not_true_eq_false, not_false_eq_true, Nat.reduceAdd, Nat.reduceMul, nI_mul, nI_add, inb_T, ix_nI, le_T, le_F, lt_T, lt_F, eq_F, and_self, and_true, true_and, false_and, and_false, or_true, true_or, or_false, false_or, bi_eq, x_within, m_in, f10_turned, e2, hj', e4, e5, eq_false hs]
  · rw [if_neg hj] at e1
    refine op_fin h ?_ ?_ (r := -nI 1)
    · simp (disch := first | with_reducible assumption | omega | (simp only [MI_sai_iff, MI_sfi_iff]; with_reducible assumption)) only [li, ↓lr_, ↓bd_m, ↓oc_m, ↓reduceIte, bi_0, bi_0n, bi_1, bi_1n, not_true_eq_false, not_false_eq_true, Nat.reduceAdd, Nat.reduceMul, nI_mul, nI_add, inb_T, ix_nI, le_T, le_F, lt_T, lt_F, eq_F, and_self, and_true, true_and, false_and, and_false, or_true, true_or, or_false, false_or, bi_eq, x_within, m_in, f9_turned, r0, e1]
    · simp (disch := first | with_reducible assumption | omega | (simp only [MI_sai_iff, MI_sfi_iff]; with_reducible assumption)) only [li, ↓lr_, ↓bd_m, ↓oc_m, ↓reduceIte, bi_0, bi_0n, bi_1, bi_1n, not_true_eq_false, not_false_eq_true, Nat.reduceAdd, Nat.reduceMul, nI_mul, nI_add, inb_T, ix_nI, le_T, le_F, lt_T, lt_F, eq_F, and_self, and_true, true_and, false_and, and_false, or_true, true_or, or_false, false_or, bi_eq, x_within, m_in, f10_turned, e2, eq_false hj]
theorem op_blanks (j : Int32) : Op (f9_blanks 0 j) (f10_blanks 0 j) := by
  intro gX gM n hn h
  obtain ⟨F, r0, r1, hX, hS, hP, hE, hM, ⟨d1, d2, d3⟩, ⟨j1, j2, j3⟩, ⟨p1, p2, p3⟩⟩ := ctx h
  have e1 := x_jobAt hX j1 j3 j
  have e2 := m_isJob hM j2 (by omega) j
  by_cases hj : vl j (tn (gai gM 20 0 4))
  · obtain ⟨k, rfl, hk⟩ := vl_ex hj
    obtain ⟨J, Q, w1, w2, w3, w4⟩ := hS.2.2.2.1.2.2.2.2.1 k hk
    have hJ := hS.2.2.1.2.2.2.2.2.1 k hk
    rw [if_pos hj, tn_nI (by omega), w1] at e1
    have hj' := eq_true hj
    have k24 : k < 24 := by omega
    have e4 := m_sidesOf hM k24 hJ
    have e5 := m_perSide hM k24 hJ
    have e6 := m_sheetsOfCopy hM k24 hJ
    have hsd := sdz_pos (jN (gai gM 20 0) k 3) (jN (gai gM 20 0) k 2)
    obtain ⟨-, -, q9, ⟨A, qa, -, -, qb, -⟩, q1, q2, q3, q4, q5, q6, q7, q8, q10, -⟩ := w3
    have h7 := (Jn hJ).2.2.2.2.2.2.1.1
    refine op_fin h ?_ ?_ (r := gai gM 20 0 (106 + 13 * k + 0) * (nI (sSC (gai gM 20 0) k * sdz (jN (gai gM 20 0) k 3) (jN (gai gM 20 0) k 2) * psz (jN (gai gM 20 0) k 3)) - nI (jN (gai gM 20 0) k 7)))
    · rcases (show sdz (jN (gai gM 20 0) k 3) (jN (gai gM 20 0) k 2) = 1 ∨ sdz (jN (gai gM 20 0) k 3) (jN (gai gM 20 0) k 2) = 2 by omega) with c | c
      · have q7' : gfi gX 137 Q = nI 0 := by rw [q7]; unfold bi; rw [if_neg (by omega)]; rfl
        rw [c]
        simp (disch := first | with_reducible assumption | omega | (simp only [MI_sai_iff, MI_sfi_iff]; with_reducible assumption)) only [li, ↓lr_, ↓bd_m, ↓oc_m, ↓reduceIte, bi_0, bi_0n, bi_1, bi_1n, not_true_eq_false, not_false_eq_true, Nat.reduceAdd, Nat.reduceMul, nI_mul, nI_add, inb_T, ix_nI, le_T, le_F, lt_T, lt_F, eq_F, and_self, and_true, true_and, false_and, and_false, or_true, true_or, or_false, false_or, bi_eq, x_within, m_in, f9_blanks, r0, e1, w2, f4_blankPositions, q7', q10, f4_blankPositions_b16, qa, qb, ofN, q8, q1]
      · have q7' : gfi gX 137 Q = nI 1 := by rw [q7]; unfold bi; rw [if_pos (by omega)]; rfl
        rw [c]
        simp (disch := first | with_reducible assumption | omega | (simp only [MI_sai_iff, MI_sfi_iff]; with_reducible assumption)) only [li, ↓lr_, ↓bd_m, ↓oc_m, ↓reduceIte, bi_0, bi_0n, bi_1, bi_1n, not_true_eq_false, not_false_eq_true, Nat.reduceAdd, Nat.reduceMul, nI_mul, nI_add, inb_T, ix_nI, le_T, le_F, lt_T, lt_F, eq_F, and_self, and_true, true_and, false_and, and_false, or_true, true_or, or_false, false_or, bi_eq, x_within, m_in, f9_blanks, r0, e1, w2, f4_blankPositions, q7', q10, f4_blankPositions_b16, qa, qb, ofN, q8, q1]
    · simp (disch := first | with_reducible assumption | omega | (simp only [MI_sai_iff, MI_sfi_iff]; with_reducible assumption)) only [li, ↓lr_, ↓bd_m, ↓oc_m, ↓reduceIte, bi_0, bi_0n, bi_1, bi_1n, not_true_eq_false, not_false_eq_true, Nat.reduceAdd, Nat.reduceMul, nI_mul, nI_add, inb_T, ix_nI, le_T, le_F, lt_T, lt_F, eq_F, and_self, and_true, true_and, false_and, and_false, or_true, true_or, or_false, false_or, bi_eq, x_within, m_in, f10_blanks, e2, hj', e4, e5, e6, m_ofJob, h7]
  · rw [if_neg hj] at e1
    refine op_fin h ?_ ?_ (r := -nI 1)
    · simp (disch := first | with_reducible assumption | omega | (simp only [MI_sai_iff, MI_sfi_iff]; with_reducible assumption)) only [li, ↓lr_, ↓bd_m, ↓oc_m, ↓reduceIte, bi_0, bi_0n, bi_1, bi_1n, not_true_eq_false, not_false_eq_true, Nat.reduceAdd, Nat.reduceMul, nI_mul, nI_add, inb_T, ix_nI, le_T, le_F, lt_T, lt_F, eq_F, and_self, and_true, true_and, false_and, and_false, or_true, true_or, or_false, false_or, bi_eq, x_within, m_in, f9_blanks, r0, e1]
    · simp (disch := first | with_reducible assumption | omega | (simp only [MI_sai_iff, MI_sfi_iff]; with_reducible assumption)) only [li, ↓lr_, ↓bd_m, ↓oc_m, ↓reduceIte, bi_0, bi_0n, bi_1, bi_1n, not_true_eq_false, not_false_eq_true, Nat.reduceAdd, Nat.reduceMul, nI_mul, nI_add, inb_T, ix_nI, le_T, le_F, lt_T, lt_F, eq_F, and_self, and_true, true_and, false_and, and_false, or_true, true_or, or_false, false_or, bi_eq, x_within, m_in, f10_blanks, e2, eq_false hj]
theorem op_printer (p w : Int32) : Op (f9_printer 0 p w) (f10_printer 0 p w) := by
  intro gX gM n hn h
  obtain ⟨F, r0, r1, hX, hS, hP, hE, hM, ⟨d1, d2, d3⟩, ⟨j1, j2, j3⟩, ⟨p1, p2, p3⟩⟩ := ctx h
  have e1 := x_printerAt hX p1 p3 p
  have e2 := m_isPrinter hM p2 (by omega) p
  by_cases hp : vl p (tn (gai gM 20 0 5))
  · obtain ⟨k, rfl, hk⟩ := vl_ex hp
    rw [if_pos hp, tn_nI (by omega)] at e1
    have hp' := eq_true hp
    have k3 : k < 3 := by omega
    obtain ⟨b1, b2, b3, b4⟩ := hS.2.2.2.2.2.1 k hk
    have e3 : ∀ z, z < 3 → f5_sheetsIn (3 * 0 + k) (nI z) gX = some (gai gM 20 0 (76 + 10 * k + (3 + z)), gX) := fun z hz => by
      rw [x_sheetsIn hX k3 hz, b1 z hz]
    have e10 : (nI 1 = nI 0) = False := by decide
    by_cases hst : gai gM 20 0 (76 + 10 * k + 6) = nI 1
    · obtain ⟨c1, c2⟩ := b3 hst
      by_cases hw : nI 0 ≤ w ∧ w ≤ nI 6
      · obtain ⟨q, -, q0, rfl⟩ := (in_ex (by omega) (by omega)).mp hw
        refine op_fin h ?_ ?_ (r := gai gM 20 0 (76 + 10 * k + (3 + q)))
        · rcases (show q = 0 ∨ q = 1 ∨ q = 2 ∨ q = 3 ∨ q = 4 ∨ q = 5 ∨ q = 6 by omega) with rfl | rfl | rfl | rfl | rfl | rfl | rfl
          all_goals simp (disch := first | with_reducible assumption | omega | (simp only [MI_sai_iff, MI_sfi_iff]; with_reducible assumption)) only [li, ↓lr_, ↓bd_m, ↓oc_m, ↓reduceIte, bi_0, bi_0n, bi_1, bi_1n, not_true_eq_false, not_false_eq_true, Nat.reduceAdd, Nat.reduceMul, nI_mul, nI_add, inb_T, ix_nI, le_T, le_F, lt_T, lt_F, eq_F, and_self, and_true, true_and, false_and, and_false, or_true, true_or, or_false, false_or, bi_eq, x_within, m_in, f9_printer, r0, e1, b2, hst, f9_printer_b28, f9_printer_b72, e3, c1, c2, b4, e10]
        · rcases (show q = 0 ∨ q = 1 ∨ q = 2 ∨ q = 3 ∨ q = 4 ∨ q = 5 ∨ q = 6 by omega) with rfl | rfl | rfl | rfl | rfl | rfl | rfl
          all_goals simp (disch := first | with_reducible assumption | omega | (simp only [MI_sai_iff, MI_sfi_iff]; with_reducible assumption)) only [li, ↓lr_, ↓bd_m, ↓oc_m, ↓reduceIte, bi_0, bi_0n, bi_1, bi_1n, not_true_eq_false, not_false_eq_true, Nat.reduceAdd, Nat.reduceMul, nI_mul, nI_add, inb_T, ix_nI, le_T, le_F, lt_T, lt_F, eq_F, and_self, and_true, true_and, false_and, and_false, or_true, true_or, or_false, false_or, bi_eq, x_within, m_in, f10_printer, e2, hp', m_ofPrinter, hst, f10_printer_b26, f10_printer_b72, e10]
      · have hne := not_in (by omega) hw
        refine op_fin h ?_ ?_ (r := -nI 2)
        · simp (disch := first | with_reducible assumption | omega | (simp only [MI_sai_iff, MI_sfi_iff]; with_reducible assumption)) only [li, ↓lr_, ↓bd_m, ↓oc_m, ↓reduceIte, bi_0, bi_0n, bi_1, bi_1n, not_true_eq_false, not_false_eq_true, Nat.reduceAdd, Nat.reduceMul, nI_mul, nI_add, inb_T, ix_nI, le_T, le_F, lt_T, lt_F, eq_F, and_self, and_true, true_and, false_and, and_false, or_true, true_or, or_false, false_or, bi_eq, x_within, m_in, f9_printer, r0, e1, b2, hst, f9_printer_b28, hne]
        · simp (disch := first | with_reducible assumption | omega | (simp only [MI_sai_iff, MI_sfi_iff]; with_reducible assumption)) only [li, ↓lr_, ↓bd_m, ↓oc_m, ↓reduceIte, bi_0, bi_0n, bi_1, bi_1n, not_true_eq_false, not_false_eq_true, Nat.reduceAdd, Nat.reduceMul, nI_mul, nI_add, inb_T, ix_nI, le_T, le_F, lt_T, lt_F, eq_F, and_self, and_true, true_and, false_and, and_false, or_true, true_or, or_false, false_or, bi_eq, x_within, m_in, f10_printer, e2, hp', m_ofPrinter, hst, f10_printer_b26, hne]
    · by_cases hw : nI 0 ≤ w ∧ w ≤ nI 6
      · obtain ⟨q, -, q0, rfl⟩ := (in_ex (by omega) (by omega)).mp hw
        refine op_fin h ?_ ?_ (r := if q = 4 ∨ q = 5 then -nI 6 else gai gM 20 0 (76 + 10 * k + (3 + q)))
        · rcases (show q = 0 ∨ q = 1 ∨ q = 2 ∨ q = 3 ∨ q = 4 ∨ q = 5 ∨ q = 6 by omega) with rfl | rfl | rfl | rfl | rfl | rfl | rfl
          all_goals simp (disch := first | with_reducible assumption | omega | (simp only [MI_sai_iff, MI_sfi_iff]; with_reducible assumption)) only [li, ↓lr_, ↓bd_m, ↓oc_m, ↓reduceIte, bi_0, bi_0n, bi_1, bi_1n, not_true_eq_false, not_false_eq_true, Nat.reduceAdd, Nat.reduceMul, nI_mul, nI_add, inb_T, ix_nI, le_T, le_F, lt_T, lt_F, eq_F, and_self, and_true, true_and, false_and, and_false, or_true, true_or, or_false, false_or, bi_eq, x_within, m_in, f9_printer, r0, e1, b2, eq_false hst, f9_printer_b28, f9_printer_b72, e3, b4, Nat.reduceEqDiff]
        · rcases (show q = 0 ∨ q = 1 ∨ q = 2 ∨ q = 3 ∨ q = 4 ∨ q = 5 ∨ q = 6 by omega) with rfl | rfl | rfl | rfl | rfl | rfl | rfl
          all_goals simp (disch := first | with_reducible assumption | omega | (simp only [MI_sai_iff, MI_sfi_iff]; with_reducible assumption)) only [li, ↓lr_, ↓bd_m, ↓oc_m, ↓reduceIte, bi_0, bi_0n, bi_1, bi_1n, not_true_eq_false, not_false_eq_true, Nat.reduceAdd, Nat.reduceMul, nI_mul, nI_add, inb_T, ix_nI, le_T, le_F, lt_T, lt_F, eq_F, and_self, and_true, true_and, false_and, and_false, or_true, true_or, or_false, false_or, bi_eq, x_within, m_in, f10_printer, e2, hp', m_ofPrinter, eq_false hst, f10_printer_b26, f10_printer_b72, Nat.reduceEqDiff]
      · have hne := not_in (by omega) hw
        refine op_fin h ?_ ?_ (r := -nI 2)
        · simp (disch := first | with_reducible assumption | omega | (simp only [MI_sai_iff, MI_sfi_iff]; with_reducible assumption)) only [li, ↓lr_, ↓bd_m, ↓oc_m, ↓reduceIte, bi_0, bi_0n, bi_1, bi_1n, not_true_eq_false, not_false_eq_true, Nat.reduceAdd, Nat.reduceMul, nI_mul, nI_add, inb_T, ix_nI, le_T, le_F, lt_T, lt_F, eq_F, and_self, and_true, true_and, false_and, and_false, or_true, true_or, or_false, false_or, bi_eq, x_within, m_in, f9_printer, r0, e1, b2, eq_false hst, f9_printer_b28, hne]
        · simp (disch := first | with_reducible assumption | omega | (simp only [MI_sai_iff, MI_sfi_iff]; with_reducible assumption)) only [li, ↓lr_, ↓bd_m, ↓oc_m, ↓reduceIte, bi_0, bi_0n, bi_1, bi_1n, not_true_eq_false, not_false_eq_true, Nat.reduceAdd, Nat.reduceMul, nI_mul, nI_add, inb_T, ix_nI, le_T, le_F, lt_T, lt_F, eq_F, and_self, and_true, true_and, false_and, and_false, or_true, true_or, or_false, false_or, bi_eq, x_within, m_in, f10_printer, e2, hp', m_ofPrinter, eq_false hst, f10_printer_b26, hne]
  · rw [if_neg hp] at e1
    refine op_fin h ?_ ?_ (r := -nI 1)
    · simp (disch := first | with_reducible assumption | omega | (simp only [MI_sai_iff, MI_sfi_iff]; with_reducible assumption)) only [li, ↓lr_, ↓bd_m, ↓oc_m, ↓reduceIte, bi_0, bi_0n, bi_1, bi_1n, not_true_eq_false, not_false_eq_true, Nat.reduceAdd, Nat.reduceMul, nI_mul, nI_add, inb_T, ix_nI, le_T, le_F, lt_T, lt_F, eq_F, and_self, and_true, true_and, false_and, and_false, or_true, true_or, or_false, false_or, bi_eq, x_within, m_in, f9_printer, r0, e1]
    · simp (disch := first | with_reducible assumption | omega | (simp only [MI_sai_iff, MI_sfi_iff]; with_reducible assumption)) only [li, ↓lr_, ↓bd_m, ↓oc_m, ↓reduceIte, bi_0, bi_0n, bi_1, bi_1n, not_true_eq_false, not_false_eq_true, Nat.reduceAdd, Nat.reduceMul, nI_mul, nI_add, inb_T, ix_nI, le_T, le_F, lt_T, lt_F, eq_F, and_self, and_true, true_and, false_and, and_false, or_true, true_or, or_false, false_or, bi_eq, x_within, m_in, f10_printer, e2, eq_false hp]
