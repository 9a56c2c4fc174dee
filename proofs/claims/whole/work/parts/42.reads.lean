/-! calls that only read -/
def Op (x m : GS_ → Option (Int32 × GS_)) : Prop := ∀ gX gM n, n < 600 → Rel gX gM n → ∃ r gX' gM', x gX = some (r, gX') ∧ m gM = some (r, gM') ∧ Rel gX' gM' (n + 1) ∧ ghs gX' ≤ ghs gX + 1000 ∧ gsl gX' ≤ gsl gX + 14000 ∧ ghs gM' = ghs gM ∧ gsl gM' = gsl gM
theorem x_within (v lo hi : Int32) (g : GS_) : f9_within v lo hi g = some (bi (lo ≤ v ∧ v ≤ hi), g) := by
  unfold f9_within f9_within_b14
  by_cases h1 : v < lo
  · rw [if_pos h1]
    have : ¬ (lo ≤ v ∧ v ≤ hi) := by rw [leI, leI]; rw [ltI] at h1; omega
    unfold bi
    rw [if_neg this]
  · rw [if_neg h1]
    by_cases h2 : hi < v
    · rw [if_pos h2]
      have : ¬ (lo ≤ v ∧ v ≤ hi) := by rw [leI, leI]; rw [ltI] at h2; omega
      unfold bi
      rw [if_neg this]
    · rw [if_neg h2]
      have : (lo ≤ v ∧ v ≤ hi) := by rw [leI, leI]; rw [ltI] at h1 h2; omega
      unfold bi
      rw [if_pos this]
theorem in_ex {lo hi : Nat} {v : Int32} (hh : hi < 1000000) (hl : lo ≤ hi) : (nI lo ≤ v ∧ v ≤ nI hi) ↔ ∃ k : Nat, lo ≤ k ∧ k ≤ hi ∧ v = nI k := by
  constructor
  · rintro ⟨h1, h2⟩
    rw [leI, toIntI (by omega)] at h1 h2
    exact ⟨tn v, by unfold tn; omega, by unfold tn; omega, of_tn (by omega)⟩
  · rintro ⟨k, h1, h2, rfl⟩
    exact ⟨(le_nI (by omega) (by omega)).mpr h1, (le_nI (by omega) (by omega)).mpr h2⟩
theorem ctx {gX gM : GS_} {n : Nat} (h : Rel gX gM n) : ∃ F, gfr gX 288 0 = some 0 ∧ gfr gX 289 0 = some 1 ∧ XSp gX 0 ∧ SpO gX 0 (gai gM 20 0) (gai gM 20 2) F ∧ PI (gai gM 20 2) (gai gM 20 0, F) (3000 * n) ∧ IvE (gai gM 20 0) ∧ MI gM ∧
    (gfi gX 257 0 = nI (tn (gai gM 20 0 3)) ∧ gai gM 20 0 3 = nI (tn (gai gM 20 0 3)) ∧ tn (gai gM 20 0 3) ≤ 10) ∧ (gfi gX 259 0 = nI (tn (gai gM 20 0 4)) ∧ gai gM 20 0 4 = nI (tn (gai gM 20 0 4)) ∧ tn (gai gM 20 0 4) ≤ 24) ∧ (gfi gX 261 0 = nI (tn (gai gM 20 0 5)) ∧ gai gM 20 0 5 = nI (tn (gai gM 20 0 5)) ∧ tn (gai gM 20 0 5) ≤ 3) := by
  obtain ⟨h1, h2, ⟨F, h3, h4, h5⟩, -⟩ := h
  have hI := h3.2.2.1
  exact ⟨F, h1.1.1, h1.1.2.1, h1.2.1 0 (by omega), h3, h4, h5, h2, ⟨h3.2.2.2.1.1.1.trans (vl_nI hI.1).1, (vl_nI hI.1).1, Iv0_d hI⟩, ⟨(SpO_n4 h3).1, (vl_nI hI.2.1).1, Iv0_j hI⟩, (SpO_n5 h3).1, (vl_nI hI.2.2.1).1, Iv0_p hI⟩
theorem op_fin {gX gM : GS_} {n : Nat} {x m : GS_ → Option (Int32 × GS_)} {r : Int32} (h : Rel gX gM n) (hx : x gX = some (r, gX)) (hm : m gM = some (r, gM)) : ∃ r gX' gM', x gX = some (r, gX') ∧ m gM = some (r, gM') ∧ Rel gX' gM' (n + 1) ∧ ghs gX' ≤ ghs gX + 1000 ∧ gsl gX' ≤ gsl gX + 14000 ∧ ghs gM' = ghs gM ∧ gsl gM' = gsl gM :=
  ⟨r, gX, gM, hx, hm, Rel_id h KS_rfl rfl rfl rfl, by omega, by omega, rfl, rfl⟩
theorem opt_if {α : Type} {c : Prop} [Decidable c] (x y : α) (h : c) : (if c then x else y) = x := if_pos h
theorem op_weight (d p : Int32) : Op (f9_weight 0 d p) (f10_weight 0 d p) := by
  intro gX gM n hn h
  obtain ⟨F, r0, r1, hX, hS, hP, hE, hM, ⟨d1, d2, d3⟩, ⟨j1, j2, j3⟩, ⟨p1, p2, p3⟩⟩ := ctx h
  have e1 := x_documentAt hX d1 d3 d
  have e2 := m_isDocument hM d2 (by omega) d
  by_cases hd : vl d (tn (gai gM 20 0 3))
  · obtain ⟨k, rfl, hk⟩ := vl_ex hd
    obtain ⟨D, w1, w2, w3⟩ := hS.2.2.2.1.2.2.2.1 k hk
    have hDoc := hS.2.2.1.2.2.2.2.1 k hk
    rw [if_pos hd, tn_nI (by omega), w1] at e1
    have hd' : vl (nI k) (tn (gai gM 20 0 3)) = True := eq_true hd
    have g0 : gfi gX 0 D = nI (dN (gai gM 20 0) k 0) := (w3 0 (by omega)).trans (vl_nI hDoc.1).1
    have g2 : gfi gX 2 D = nI (dN (gai gM 20 0) k 2) := (w3 2 (by omega)).trans (vl_nI hDoc.2.2.2.1).1
    have g3 : gfi gX 3 D = nI (dN (gai gM 20 0) k 3) := (w3 3 (by omega)).trans (vl_nI hDoc.2.2.2.2.1).1
    have g4 : gfi gX 4 D = nI (dN (gai gM 20 0) k 4) := (w3 4 (by omega)).trans (vl_nI hDoc.2.2.2.2.2.1).1
    have m0 : gai gM 20 0 (26 + 5 * k + 0) = nI (dN (gai gM 20 0) k 0) := (vl_nI hDoc.1).1
    have b0 : dN (gai gM 20 0) k 0 < 401 := (vl_nI hDoc.1).2
    have b3 : dN (gai gM 20 0) k 3 < 51 := (vl_nI hDoc.2.2.2.2.1).2
    have b4 : dN (gai gM 20 0) k 4 < 501 := (vl_nI hDoc.2.2.2.2.2.1).2
    have b4' := hDoc.2.2.2.2.2.2
    have k10 : k < 10 := by omega
    by_cases hp : nI 1 ≤ p ∧ p ≤ nI (dN (gai gM 20 0) k 0)
    · obtain ⟨q, q1, q2, rfl⟩ := (in_ex (by omega) hDoc.2.1).mp hp
      have e3 := m_weightOf hM k10 (show q < 1000 by omega) hDoc
      have e4 : jrem (nI (q * dN (gai gM 20 0) k 3)) (nI (dN (gai gM 20 0) k 4)) = nI (q * dN (gai gM 20 0) k 3 % dN (gai gM 20 0) k 4) := by
        have := Nat.mul_le_mul (show q ≤ 1000 by omega) (show dN (gai gM 20 0) k 3 ≤ 50 by omega)
        exact rem_nI (by omega) (by omega) (by omega)
      refine op_fin h ?_ ?_ (r := nI (wgt (gai gM 20 0) k q))
      · simp (disch := first | with_reducible assumption | omega | (simp only [MI_sai_iff, MI_sfi_iff]; with_reducible assumption)) only [li, ↓lr_, ↓bd_m, ↓oc_m, ↓reduceIte, bi_0, bi_0n, bi_1, bi_1n, not_true_eq_false, not_false_eq_true, Nat.reduceAdd, Nat.reduceMul, nI_mul, nI_add, inb_T, ix_nI, le_T, le_F, lt_T, lt_F, eq_F, and_self, and_true, true_and, false_and, and_false, or_true, true_or, or_false, false_or, bi_eq, x_within, m_in, f9_weight, r0, e1, x_within, g0, bi_eq, eq_true hp, f0_weightOf, g2, g3, g4, e4, wgt]
      · simp (disch := first | with_reducible assumption | omega | (simp only [MI_sai_iff, MI_sfi_iff]; with_reducible assumption)) only [li, ↓lr_, ↓bd_m, ↓oc_m, ↓reduceIte, bi_0, bi_0n, bi_1, bi_1n, not_true_eq_false, not_false_eq_true, Nat.reduceAdd, Nat.reduceMul, nI_mul, nI_add, inb_T, ix_nI, le_T, le_F, lt_T, lt_F, eq_F, and_self, and_true, true_and, false_and, and_false, or_true, true_or, or_false, false_or, bi_eq, x_within, m_in, f10_weight, e2, hd', bi_eq, m_ofDocument, m0, m_in, eq_true hp, e3]
    · refine op_fin h ?_ ?_ (r := -nI 2)
      · simp (disch := first | with_reducible assumption | omega | (simp only [MI_sai_iff, MI_sfi_iff]; with_reducible assumption)) only [li, ↓lr_, ↓bd_m, ↓oc_m, ↓reduceIte, bi_0, bi_0n, bi_1, bi_1n, not_true_eq_false, not_false_eq_true, Nat.reduceAdd, Nat.reduceMul, nI_mul, nI_add, inb_T, ix_nI, le_T, le_F, lt_T, lt_F, eq_F, and_self, and_true, true_and, false_and, and_false, or_true, true_or, or_false, false_or, bi_eq, x_within, m_in, f9_weight, r0, e1, x_within, g0, bi_eq, eq_false hp]
      · simp (disch := first | with_reducible assumption | omega | (simp only [MI_sai_iff, MI_sfi_iff]; with_reducible assumption)) only [li, ↓lr_, ↓bd_m, ↓oc_m, ↓reduceIte, bi_0, bi_0n, bi_1, bi_1n, not_true_eq_false, not_false_eq_true, Nat.reduceAdd, Nat.reduceMul, nI_mul, nI_add, inb_T, ix_nI, le_T, le_F, lt_T, lt_F, eq_F, and_self, and_true, true_and, false_and, and_false, or_true, true_or, or_false, false_or, bi_eq, x_within, m_in, f10_weight, e2, hd', bi_eq, m_ofDocument, m0, m_in, eq_false hp]
  · rw [if_neg hd] at e1
    refine op_fin h ?_ ?_ (r := -nI 1)
    · simp (disch := first | with_reducible assumption | omega | (simp only [MI_sai_iff, MI_sfi_iff]; with_reducible assumption)) only [li, ↓lr_, ↓bd_m, ↓oc_m, ↓reduceIte, bi_0, bi_0n, bi_1, bi_1n, not_true_eq_false, not_false_eq_true, Nat.reduceAdd, Nat.reduceMul, nI_mul, nI_add, inb_T, ix_nI, le_T, le_F, lt_T, lt_F, eq_F, and_self, and_true, true_and, false_and, and_false, or_true, true_or, or_false, false_or, bi_eq, x_within, m_in, f9_weight, r0, e1]
    · simp (disch := first | with_reducible assumption | omega | (simp only [MI_sai_iff, MI_sfi_iff]; with_reducible assumption)) only [li, ↓lr_, ↓bd_m, ↓oc_m, ↓reduceIte, bi_0, bi_0n, bi_1, bi_1n, not_true_eq_false, not_false_eq_true, Nat.reduceAdd, Nat.reduceMul, nI_mul, nI_add, inb_T, ix_nI, le_T, le_F, lt_T, lt_F, eq_F, and_self, and_true, true_and, false_and, and_false, or_true, true_or, or_false, false_or, bi_eq, x_within, m_in, f10_weight, e2, eq_false hd, bi_eq]
theorem op_printed (u : Int32) : Op (f9_printed 0 u) (f10_printed 0 u) := by
  intro gX gM n hn h
  obtain ⟨F, r0, r1, hX, hS, hP, hE, hM, ⟨d1, d2, d3⟩, ⟨j1, j2, j3⟩, ⟨p1, p2, p3⟩⟩ := ctx h
  have e0 : (nI 0 ≤ u ∧ u ≤ nI 5) = vl u 6 := propext (in_lit (k := 5) (by omega) u)
  by_cases hu : vl u 6
  · obtain ⟨k, rfl, hk⟩ := vl_ex hu
    have e1 := x_printedFor hX hk
    rw [hS.2.2.2.2.2.2.2.1 k hk] at e1
    refine op_fin h ?_ ?_ (r := gai gM 20 0 (20 + k))
    · simp (disch := first | with_reducible assumption | omega | (simp only [MI_sai_iff, MI_sfi_iff]; with_reducible assumption)) only [li, ↓lr_, ↓bd_m, ↓oc_m, ↓reduceIte, bi_0, bi_0n, bi_1, bi_1n, not_true_eq_false, not_false_eq_true, Nat.reduceAdd, Nat.reduceMul, nI_mul, nI_add, inb_T, ix_nI, le_T, le_F, lt_T, lt_F, eq_F, and_self, and_true, true_and, false_and, and_false, or_true, true_or, or_false, false_or, bi_eq, x_within, m_in, f9_printed, x_within, e0, eq_true hu, bi_eq, r0, e1]
    · simp (disch := first | with_reducible assumption | omega | (simp only [MI_sai_iff, MI_sfi_iff]; with_reducible assumption)) only [li, ↓lr_, ↓bd_m, ↓oc_m, ↓reduceIte, bi_0, bi_0n, bi_1, bi_1n, not_true_eq_false, not_false_eq_true, Nat.reduceAdd, Nat.reduceMul, nI_mul, nI_add, inb_T, ix_nI, le_T, le_F, lt_T, lt_F, eq_F, and_self, and_true, true_and, false_and, and_false, or_true, true_or, or_false, false_or, bi_eq, x_within, m_in, f10_printed, m_isUser, eq_true hu, bi_eq, MI_a hM, MI_n hM]
  · refine op_fin h ?_ ?_ (r := -nI 1)
    · simp (disch := first | with_reducible assumption | omega | (simp only [MI_sai_iff, MI_sfi_iff]; with_reducible assumption)) only [li, ↓lr_, ↓bd_m, ↓oc_m, ↓reduceIte, bi_0, bi_0n, bi_1, bi_1n, not_true_eq_false, not_false_eq_true, Nat.reduceAdd, Nat.reduceMul, nI_mul, nI_add, inb_T, ix_nI, le_T, le_F, lt_T, lt_F, eq_F, and_self, and_true, true_and, false_and, and_false, or_true, true_or, or_false, false_or, bi_eq, x_within, m_in, f9_printed, x_within, e0, eq_false hu, bi_eq]
    · simp (disch := first | with_reducible assumption | omega | (simp only [MI_sai_iff, MI_sfi_iff]; with_reducible assumption)) only [li, ↓lr_, ↓bd_m, ↓oc_m, ↓reduceIte, bi_0, bi_0n, bi_1, bi_1n, not_true_eq_false, not_false_eq_true, Nat.reduceAdd, Nat.reduceMul, nI_mul, nI_add, inb_T, ix_nI, le_T, le_F, lt_T, lt_F, eq_F, and_self, and_true, true_and, false_and, and_false, or_true, true_or, or_false, false_or, bi_eq, x_within, m_in, f10_printed, m_isUser, eq_false hu, bi_eq]
