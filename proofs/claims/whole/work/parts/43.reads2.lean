/-! calls that only read: the log, counts, pages, sides -/
theorem in_vlb {n : Nat} (hn : n < 2000000000) (v : Int32) : (nI 0 ≤ v ∧ v ≤ nI n - nI 1) = vl v n := by
  have h1 : (nI n - nI 1).toInt = (n : Int) - 1 := by
    rw [Int32.toInt_sub, toIntI (by omega), toIntI (by omega)]
    rw [Int.bmod_eq_of_le (by omega) (by omega)]
    omega
  unfold vl
  rw [leI, leI, h1, toIntI (by omega)]
  exact propext ⟨fun q => by omega, fun q => by omega⟩
theorem lt_not (x y : Int32) : (x < y) = ¬ (y ≤ x) := by
  rw [ltI, leI]
  exact propext ⟨fun q => by omega, fun q => by omega⟩
theorem op_log (v w : Int32) : Op (f9_log 0 v w) (f10_log 0 v w) := by
  intro gX gM n hn h
  obtain ⟨F, r0, r1, hX, hS, hP, hE, hM, ⟨d1, d2, d3⟩, ⟨j1, j2, j3⟩, ⟨p1, p2, p3⟩⟩ := ctx h
  obtain ⟨m, hm, hml⟩ := hP.2.2.2
  dsimp only at hm
  have n65 : gfi gX 65 0 = nI m := hS.2.2.2.2.2.2.1.1.trans hm
  have hrow := hS.2.2.2.2.2.2.1.2
  obtain ⟨s1, s2, s3, s4, s5, s6, s7, s8, s9, s10, s11, s12, s13, s14, s15, s16, s17, s18, s19, s20, s21⟩ := hX
  by_cases hw : nI 0 ≤ w ∧ w ≤ nI 3
  · obtain ⟨c, -, c3, rfl⟩ := (in_ex (by omega) (by omega)).mp hw
    have e1 : (nI 0 ≤ v ∧ v ≤ nI m - nI 1) = vl v m := in_vlb (by omega) v
    by_cases hv : vl v m
    · obtain ⟨k, rfl, hk⟩ := vl_ex hv
      have hc := x_cell (g := gX) (m := k) (c := c) (by omega) (by omega)
      have ej : jrem (nI k) (nI 100) = nI (k % 100) := rem_nI (by omega) (by omega) (by omega)
      have hr : k % 100 < 100 := Nat.mod_lt _ (by omega)
      have hrow' := hrow (4 * (k % 100) + c) (by omega)
      have eadd : 458 + 4 * (k % 100) + c = 458 + (4 * (k % 100) + c) := by omega
      have u : (nI k ≤ nI m - nI 1) = True := eq_true (show nI 0 ≤ nI k ∧ nI k ≤ nI m - nI 1 by rw [e1]; exact hv).2
      by_cases hx : nI m - nI 100 ≤ nI k
      · refine op_fin h ?_ ?_ (r := gai gM 20 0 (458 + (4 * (k % 100) + c)))
        · generalize k % 100 = q at *
          simp (disch := first | with_reducible assumption | omega | (simp only [MI_sai_iff, MI_sfi_iff]; with_reducible assumption)) only [li, ↓lr_, ↓bd_m, ↓oc_m, ↓reduceIte, bi_0, bi_0n, bi_1, bi_1n, not_true_eq_false, not_false_eq_true, Nat.reduceAdd, Nat.reduceMul, nI_mul, nI_add, inb_T, ix_nI, le_T, le_F, lt_T, lt_F, eq_F, and_self, and_true, true_and, false_and, and_false, or_true, true_or, or_false, false_or, bi_eq, x_within, m_in, f9_log, r0, s16, f2_has, n65, lt_not, eq_true hx, not_true_eq_false, f2_read, hc, s17, s18, ofN, hrow']
        · generalize k % 100 = q at *
          simp (disch := first | with_reducible assumption | omega | (simp only [MI_sai_iff, MI_sfi_iff]; with_reducible assumption)) only [li, ↓lr_, ↓bd_m, ↓oc_m, ↓reduceIte, bi_0, bi_0n, bi_1, bi_1n, not_true_eq_false, not_false_eq_true, Nat.reduceAdd, Nat.reduceMul, nI_mul, nI_add, inb_T, ix_nI, le_T, le_F, lt_T, lt_F, eq_F, and_self, and_true, true_and, false_and, and_false, or_true, true_or, or_false, false_or, bi_eq, x_within, m_in, f10_log, MI_a hM, MI_n hM, hm, u, eq_true hx, ej, eadd]
      · refine op_fin h ?_ ?_ (r := -nI 6)
        · simp (disch := first | with_reducible assumption | omega | (simp only [MI_sai_iff, MI_sfi_iff]; with_reducible assumption)) only [li, ↓lr_, ↓bd_m, ↓oc_m, ↓reduceIte, bi_0, bi_0n, bi_1, bi_1n, not_true_eq_false, not_false_eq_true, Nat.reduceAdd, Nat.reduceMul, nI_mul, nI_add, inb_T, ix_nI, le_T, le_F, lt_T, lt_F, eq_F, and_self, and_true, true_and, false_and, and_false, or_true, true_or, or_false, false_or, bi_eq, x_within, m_in, f9_log, r0, s16, f2_has, n65, lt_not, eq_false hx, f2_has_b27]
        · simp (disch := first | with_reducible assumption | omega | (simp only [MI_sai_iff, MI_sfi_iff]; with_reducible assumption)) only [li, ↓lr_, ↓bd_m, ↓oc_m, ↓reduceIte, bi_0, bi_0n, bi_1, bi_1n, not_true_eq_false, not_false_eq_true, Nat.reduceAdd, Nat.reduceMul, nI_mul, nI_add, inb_T, ix_nI, le_T, le_F, lt_T, lt_F, eq_F, and_self, and_true, true_and, false_and, and_false, or_true, true_or, or_false, false_or, bi_eq, x_within, m_in, f10_log, MI_a hM, MI_n hM, hm, u, eq_false hx]
    · refine op_fin h ?_ ?_ (r := -nI 6)
      · rcases int_cases v with q | ⟨k, hk, rfl⟩
        · simp (disch := first | with_reducible assumption | omega | (simp only [MI_sai_iff, MI_sfi_iff]; with_reducible assumption)) only [li, ↓lr_, ↓bd_m, ↓oc_m, ↓reduceIte, bi_0, bi_0n, bi_1, bi_1n, not_true_eq_false, not_false_eq_true, Nat.reduceAdd, Nat.reduceMul, nI_mul, nI_add, inb_T, ix_nI, le_T, le_F, lt_T, lt_F, eq_F, and_self, and_true, true_and, false_and, and_false, or_true, true_or, or_false, false_or, bi_eq, x_within, m_in, f9_log, r0, s16, f2_has, eq_true q, f2_has_b27]
        · have hmk : m ≤ k := by
            rcases Nat.lt_or_ge k m with w | w
            · exact absurd (vl_of w (by omega)) hv
            · exact w
          simp (disch := first | with_reducible assumption | omega | (simp only [MI_sai_iff, MI_sfi_iff]; with_reducible assumption)) only [li, ↓lr_, ↓bd_m, ↓oc_m, ↓reduceIte, bi_0, bi_0n, bi_1, bi_1n, not_true_eq_false, not_false_eq_true, Nat.reduceAdd, Nat.reduceMul, nI_mul, nI_add, inb_T, ix_nI, le_T, le_F, lt_T, lt_F, eq_F, and_self, and_true, true_and, false_and, and_false, or_true, true_or, or_false, false_or, bi_eq, x_within, m_in, f9_log, r0, s16, f2_has, n65, f2_has_b27]
      · simp (disch := first | with_reducible assumption | omega | (simp only [MI_sai_iff, MI_sfi_iff]; with_reducible assumption)) only [li, ↓lr_, ↓bd_m, ↓oc_m, ↓reduceIte, bi_0, bi_0n, bi_1, bi_1n, not_true_eq_false, not_false_eq_true, Nat.reduceAdd, Nat.reduceMul, nI_mul, nI_add, inb_T, ix_nI, le_T, le_F, lt_T, lt_F, eq_F, and_self, and_true, true_and, false_and, and_false, or_true, true_or, or_false, false_or, bi_eq, x_within, m_in, f10_log, MI_a hM, MI_n hM, hm, e1, eq_false hv]
  · refine op_fin h ?_ ?_ (r := -nI 2)
    · simp (disch := first | with_reducible assumption | omega | (simp only [MI_sai_iff, MI_sfi_iff]; with_reducible assumption)) only [li, ↓lr_, ↓bd_m, ↓oc_m, ↓reduceIte, bi_0, bi_0n, bi_1, bi_1n, not_true_eq_false, not_false_eq_true, Nat.reduceAdd, Nat.reduceMul, nI_mul, nI_add, inb_T, ix_nI, le_T, le_F, lt_T, lt_F, eq_F, and_self, and_true, true_and, false_and, and_false, or_true, true_or, or_false, false_or, bi_eq, x_within, m_in, f9_log, eq_false hw]
    · simp (disch := first | with_reducible assumption | omega | (simp only [MI_sai_iff, MI_sfi_iff]; with_reducible assumption)) only [li, ↓lr_, ↓bd_m, ↓oc_m, ↓reduceIte, bi_0, bi_0n, bi_1, bi_1n, not_true_eq_false, not_false_eq_true, Nat.reduceAdd, Nat.reduceMul, nI_mul, nI_add, inb_T, ix_nI, le_T, le_F, lt_T, lt_F, eq_F, and_self, and_true, true_and, false_and, and_false, or_true, true_or, or_false, false_or, bi_eq, x_within, m_in, f10_log, eq_false hw]
/-- so many jobs wait -/
def wtn (a : Nat → Int32) (k : Nat) : Nat := match k with
  | 0 => 0
  | k + 1 => wtn a k + (if a (106 + 13 * k + 9) = nI 0 then 1 else 0)
theorem wtn_s (a : Nat → Int32) (k : Nat) : wtn a (k + 1) = wtn a k + (if a (106 + 13 * k + 9) = nI 0 then 1 else 0) := rfl
theorem x_waiting {g : GS_} {S : Nat} {a l : Nat → Int32} {F : List Nat} (h : SpO g S a l F) : f8_waitingJobs S g = some (nI (wtn a (tn (a 4))), g) := by
  obtain ⟨n4, h4⟩ := SpO_n4 h
  have key : ∀ fuel k, k ≤ tn (a 4) → tn (a 4) - k < fuel → f8_waitingJobs_b4 fuel S (nI (wtn a k)) (nI k) g = some (nI (wtn a (tn (a 4))), g) := by
    intro fuel
    induction fuel with
    | zero => intro k _ h2; omega
    | succ fuel ih =>
      intro k hk hf
      rw [f8_waitingJobs_b4.eq_2]
      by_cases he : k = tn (a 4)
      · subst he
        simp (disch := first | with_reducible assumption | omega | (simp only [MI_sai_iff, MI_sfi_iff]; with_reducible assumption)) only [li, ↓lr_, ↓bd_m, ↓oc_m, ↓reduceIte, bi_0, bi_0n, bi_1, bi_1n, not_true_eq_false, not_false_eq_true, Nat.reduceAdd, Nat.reduceMul, nI_mul, nI_add, inb_T, ix_nI, le_T, le_F, lt_T, lt_F, eq_F, and_self, and_true, true_and, false_and, and_false, or_true, true_or, or_false, false_or, bi_eq, x_within, m_in, n4, Nat.le_refl]
      · have hkl : k < tn (a 4) := by omega
        obtain ⟨J, Q, q1, -⟩ := h.2.2.2.1.2.2.2.2.1 k hkl
        have e1 := x_jobAt h.2.1 n4 h4 (nI k)
        rw [if_pos (vl_of hkl (by omega)), tn_nI (by omega), q1] at e1
        have n35 := (h.2.2.2.2.1 k J hkl q1).1
        have nx := ih (k + 1) (by omega) (by omega)
        rw [wtn_s] at nx
        by_cases c : a (106 + 13 * k + 9) = nI 0
        · rw [if_pos c] at nx
          simp (disch := first | with_reducible assumption | omega | (simp only [MI_sai_iff, MI_sfi_iff]; with_reducible assumption)) only [li, ↓lr_, ↓bd_m, ↓oc_m, ↓reduceIte, bi_0, bi_0n, bi_1, bi_1n, not_true_eq_false, not_false_eq_true, Nat.reduceAdd, Nat.reduceMul, nI_mul, nI_add, inb_T, ix_nI, le_T, le_F, lt_T, lt_F, eq_F, and_self, and_true, true_and, false_and, and_false, or_true, true_or, or_false, false_or, bi_eq, x_within, m_in, n4, e1, n35, c, f8_waitingJobs_b32, nx]
        · rw [if_neg c, Nat.add_zero] at nx
          simp (disch := first | with_reducible assumption | omega | (simp only [MI_sai_iff, MI_sfi_iff]; with_reducible assumption)) only [li, ↓lr_, ↓bd_m, ↓oc_m, ↓reduceIte, bi_0, bi_0n, bi_1, bi_1n, not_true_eq_false, not_false_eq_true, Nat.reduceAdd, Nat.reduceMul, nI_mul, nI_add, inb_T, ix_nI, le_T, le_F, lt_T, lt_F, eq_F, and_self, and_true, true_and, false_and, and_false, or_true, true_or, or_false, false_or, bi_eq, x_within, m_in, n4, e1, n35, eq_false c, f8_waitingJobs_b32, nx]
  exact key FU_ 0 (by omega) (by unfold FU_; omega)
theorem m_waiting {g : GS_} (hM : MI g) (hn : gai g 20 0 4 = nI (tn (gai g 20 0 4))) (h4 : tn (gai g 20 0 4) ≤ 24) : f10_waiting 0 g = some (nI (wtn (gai g 20 0) (tn (gai g 20 0 4))), g) := by
  generalize hN : tn (gai g 20 0 4) = N at *
  have key : ∀ fuel k, k ≤ N → N - k < fuel → f10_waiting_b4 fuel 0 (nI (wtn (gai g 20 0) k)) (nI k) g = some (nI (wtn (gai g 20 0) N), g) := by
    intro fuel
    induction fuel with
    | zero => intro k _ h2; omega
    | succ fuel ih =>
      intro k hk hf
      rw [f10_waiting_b4.eq_2]
      by_cases he : k = N
      · subst he
        simp (disch := first | with_reducible assumption | omega | (simp only [MI_sai_iff, MI_sfi_iff]; with_reducible assumption)) only [li, ↓lr_, ↓bd_m, ↓oc_m, ↓reduceIte, bi_0, bi_0n, bi_1, bi_1n, not_true_eq_false, not_false_eq_true, Nat.reduceAdd, Nat.reduceMul, nI_mul, nI_add, inb_T, ix_nI, le_T, le_F, lt_T, lt_F, eq_F, and_self, and_true, true_and, false_and, and_false, or_true, true_or, or_false, false_or, bi_eq, x_within, m_in, MI_a hM, MI_n hM, hn, Nat.le_refl]
      · have nx := ih (k + 1) (by omega) (by omega)
        rw [wtn_s] at nx
        by_cases c : gai g 20 0 (106 + 13 * k + 9) = nI 0
        · rw [if_pos c] at nx
          simp (disch := first | with_reducible assumption | omega | (simp only [MI_sai_iff, MI_sfi_iff]; with_reducible assumption)) only [li, ↓lr_, ↓bd_m, ↓oc_m, ↓reduceIte, bi_0, bi_0n, bi_1, bi_1n, not_true_eq_false, not_false_eq_true, Nat.reduceAdd, Nat.reduceMul, nI_mul, nI_add, inb_T, ix_nI, le_T, le_F, lt_T, lt_F, eq_F, and_self, and_true, true_and, false_and, and_false, or_true, true_or, or_false, false_or, bi_eq, x_within, m_in, MI_a hM, MI_n hM, hn, m_ofJob, c, f10_waiting_b30, nx]
        · rw [if_neg c] at nx
          simp (disch := first | with_reducible assumption | omega | (simp only [MI_sai_iff, MI_sfi_iff]; with_reducible assumption)) only [li, ↓lr_, ↓bd_m, ↓oc_m, ↓reduceIte, bi_0, bi_0n, bi_1, bi_1n, not_true_eq_false, not_false_eq_true, Nat.reduceAdd, Nat.reduceMul, nI_mul, nI_add, inb_T, ix_nI, le_T, le_F, lt_T, lt_F, eq_F, and_self, and_true, true_and, false_and, and_false, or_true, true_or, or_false, false_or, bi_eq, x_within, m_in, MI_a hM, MI_n hM, hn, m_ofJob, eq_false c, f10_waiting_b30, nx]
  exact key FU_ 0 (by omega) (by unfold FU_; omega)
theorem op_count (w : Int32) : Op (f9_count 0 w) (f10_count 0 w) := by
  intro gX gM n hn h
  obtain ⟨F, r0, r1, hX, hS, hP, hE, hM, ⟨d1, d2, d3⟩, ⟨j1, j2, j3⟩, ⟨p1, p2, p3⟩⟩ := ctx h
  have n65 : gfi gX 65 0 = gai gM 20 0 6 := hS.2.2.2.2.2.2.1.1
  have n271 : gfi gX 271 0 = gai gM 20 0 0 := hS.2.2.2.2.2.2.2.2.1
  have n193 : gfi gX 193 0 = gai gM 20 0 7 := hS.2.2.2.1.1.2.2.2.2.2
  have e6 := x_waiting hS
  have e7 := m_waiting hM j2 j3
  obtain ⟨s1, s2, s3, s4, s5, s6, s7, s8, s9, s10, s11, s12, s13, s14, s15, s16, s17, s18, s19, s20, s21⟩ := id hX
  by_cases hw : nI 0 ≤ w ∧ w ≤ nI 6
  · obtain ⟨q, -, q0, rfl⟩ := (in_ex (by omega) (by omega)).mp hw
    have z3 : gfi gX 257 0 = gai gM 20 0 3 := d1.trans d2.symm
    have z4 : gfi gX 259 0 = gai gM 20 0 4 := j1.trans j2.symm
    have z5 : gfi gX 261 0 = gai gM 20 0 5 := p1.trans p2.symm
    rcases (show q = 0 ∨ q = 1 ∨ q = 2 ∨ q = 3 ∨ q = 4 ∨ q = 5 ∨ q = 6 by omega) with rfl | rfl | rfl | rfl | rfl | rfl | rfl
    · refine op_fin h ?_ ?_ (r := gai gM 20 0 3)
      · simp (disch := first | with_reducible assumption | omega | (simp only [MI_sai_iff, MI_sfi_iff]; with_reducible assumption)) only [li, ↓lr_, ↓bd_m, ↓oc_m, ↓reduceIte, bi_0, bi_0n, bi_1, bi_1n, not_true_eq_false, not_false_eq_true, Nat.reduceAdd, Nat.reduceMul, nI_mul, nI_add, inb_T, ix_nI, le_T, le_F, lt_T, lt_F, eq_F, and_self, and_true, true_and, false_and, and_false, or_true, true_or, or_false, false_or, bi_eq, x_within, m_in, f9_count, r0, z3]
      · simp (disch := first | with_reducible assumption | omega | (simp only [MI_sai_iff, MI_sfi_iff]; with_reducible assumption)) only [li, ↓lr_, ↓bd_m, ↓oc_m, ↓reduceIte, bi_0, bi_0n, bi_1, bi_1n, not_true_eq_false, not_false_eq_true, Nat.reduceAdd, Nat.reduceMul, nI_mul, nI_add, inb_T, ix_nI, le_T, le_F, lt_T, lt_F, eq_F, and_self, and_true, true_and, false_and, and_false, or_true, true_or, or_false, false_or, bi_eq, x_within, m_in, f10_count, MI_a hM, MI_n hM]
    · refine op_fin h ?_ ?_ (r := gai gM 20 0 4)
      · simp (disch := first | with_reducible assumption | omega | (simp only [MI_sai_iff, MI_sfi_iff]; with_reducible assumption)) only [li, ↓lr_, ↓bd_m, ↓oc_m, ↓reduceIte, bi_0, bi_0n, bi_1, bi_1n, not_true_eq_false, not_false_eq_true, Nat.reduceAdd, Nat.reduceMul, nI_mul, nI_add, inb_T, ix_nI, le_T, le_F, lt_T, lt_F, eq_F, and_self, and_true, true_and, false_and, and_false, or_true, true_or, or_false, false_or, bi_eq, x_within, m_in, f9_count, r0, z4]
      · simp (disch := first | with_reducible assumption | omega | (simp only [MI_sai_iff, MI_sfi_iff]; with_reducible assumption)) only [li, ↓lr_, ↓bd_m, ↓oc_m, ↓reduceIte, bi_0, bi_0n, bi_1, bi_1n, not_true_eq_false, not_false_eq_true, Nat.reduceAdd, Nat.reduceMul, nI_mul, nI_add, inb_T, ix_nI, le_T, le_F, lt_T, lt_F, eq_F, and_self, and_true, true_and, false_and, and_false, or_true, true_or, or_false, false_or, bi_eq, x_within, m_in, f10_count, MI_a hM, MI_n hM]
    · refine op_fin h ?_ ?_ (r := gai gM 20 0 5)
      · simp (disch := first | with_reducible assumption | omega | (simp only [MI_sai_iff, MI_sfi_iff]; with_reducible assumption)) only [li, ↓lr_, ↓bd_m, ↓oc_m, ↓reduceIte, bi_0, bi_0n, bi_1, bi_1n, not_true_eq_false, not_false_eq_true, Nat.reduceAdd, Nat.reduceMul, nI_mul, nI_add, inb_T, ix_nI, le_T, le_F, lt_T, lt_F, eq_F, and_self, and_true, true_and, false_and, and_false, or_true, true_or, or_false, false_or, bi_eq, x_within, m_in, f9_count, r0, z5]
      · simp (disch := first | with_reducible assumption | omega | (simp only [MI_sai_iff, MI_sfi_iff]; with_reducible assumption)) only [li, ↓lr_, ↓bd_m, ↓oc_m, ↓reduceIte, bi_0, bi_0n, bi_1, bi_1n, not_true_eq_false, not_false_eq_true, Nat.reduceAdd, Nat.reduceMul, nI_mul, nI_add, inb_T, ix_nI, le_T, le_F, lt_T, lt_F, eq_F, and_self, and_true, true_and, false_and, and_false, or_true, true_or, or_false, false_or, bi_eq, x_within, m_in, f10_count, MI_a hM, MI_n hM]
    · refine op_fin h ?_ ?_ (r := gai gM 20 0 0)
      · simp (disch := first | with_reducible assumption | omega | (simp only [MI_sai_iff, MI_sfi_iff]; with_reducible assumption)) only [li, ↓lr_, ↓bd_m, ↓oc_m, ↓reduceIte, bi_0, bi_0n, bi_1, bi_1n, not_true_eq_false, not_false_eq_true, Nat.reduceAdd, Nat.reduceMul, nI_mul, nI_add, inb_T, ix_nI, le_T, le_F, lt_T, lt_F, eq_F, and_self, and_true, true_and, false_and, and_false, or_true, true_or, or_false, false_or, bi_eq, x_within, m_in, f9_count, r0, n271]
      · simp (disch := first | with_reducible assumption | omega | (simp only [MI_sai_iff, MI_sfi_iff]; with_reducible assumption)) only [li, ↓lr_, ↓bd_m, ↓oc_m, ↓reduceIte, bi_0, bi_0n, bi_1, bi_1n, not_true_eq_false, not_false_eq_true, Nat.reduceAdd, Nat.reduceMul, nI_mul, nI_add, inb_T, ix_nI, le_T, le_F, lt_T, lt_F, eq_F, and_self, and_true, true_and, false_and, and_false, or_true, true_or, or_false, false_or, bi_eq, x_within, m_in, f10_count, MI_a hM, MI_n hM]
    · refine op_fin h ?_ ?_ (r := gai gM 20 0 6)
      · simp (disch := first | with_reducible assumption | omega | (simp only [MI_sai_iff, MI_sfi_iff]; with_reducible assumption)) only [li, ↓lr_, ↓bd_m, ↓oc_m, ↓reduceIte, bi_0, bi_0n, bi_1, bi_1n, not_true_eq_false, not_false_eq_true, Nat.reduceAdd, Nat.reduceMul, nI_mul, nI_add, inb_T, ix_nI, le_T, le_F, lt_T, lt_F, eq_F, and_self, and_true, true_and, false_and, and_false, or_true, true_or, or_false, false_or, bi_eq, x_within, m_in, f9_count, r0, s16, n65]
      · simp (disch := first | with_reducible assumption | omega | (simp only [MI_sai_iff, MI_sfi_iff]; with_reducible assumption)) only [li, ↓lr_, ↓bd_m, ↓oc_m, ↓reduceIte, bi_0, bi_0n, bi_1, bi_1n, not_true_eq_false, not_false_eq_true, Nat.reduceAdd, Nat.reduceMul, nI_mul, nI_add, inb_T, ix_nI, le_T, le_F, lt_T, lt_F, eq_F, and_self, and_true, true_and, false_and, and_false, or_true, true_or, or_false, false_or, bi_eq, x_within, m_in, f10_count, MI_a hM, MI_n hM]
    · refine op_fin h ?_ ?_ (r := gai gM 20 0 7)
      · simp (disch := first | with_reducible assumption | omega | (simp only [MI_sai_iff, MI_sfi_iff]; with_reducible assumption)) only [li, ↓lr_, ↓bd_m, ↓oc_m, ↓reduceIte, bi_0, bi_0n, bi_1, bi_1n, not_true_eq_false, not_false_eq_true, Nat.reduceAdd, Nat.reduceMul, nI_mul, nI_add, inb_T, ix_nI, le_T, le_F, lt_T, lt_F, eq_F, and_self, and_true, true_and, false_and, and_false, or_true, true_or, or_false, false_or, bi_eq, x_within, m_in, f9_count, r0, s7, n193]
      · simp (disch := first | with_reducible assumption | omega | (simp only [MI_sai_iff, MI_sfi_iff]; with_reducible assumption)) only [li, ↓lr_, ↓bd_m, ↓oc_m, ↓reduceIte, bi_0, bi_0n, bi_1, bi_1n, not_true_eq_false, not_false_eq_true, Nat.reduceAdd, Nat.reduceMul, nI_mul, nI_add, inb_T, ix_nI, le_T, le_F, lt_T, lt_F, eq_F, and_self, and_true, true_and, false_and, and_false, or_true, true_or, or_false, false_or, bi_eq, x_within, m_in, f10_count, MI_a hM, MI_n hM]
    · refine op_fin h ?_ ?_ (r := nI (wtn (gai gM 20 0) (tn (gai gM 20 0 4))))
      · simp (disch := first | with_reducible assumption | omega | (simp only [MI_sai_iff, MI_sfi_iff]; with_reducible assumption)) only [li, ↓lr_, ↓bd_m, ↓oc_m, ↓reduceIte, bi_0, bi_0n, bi_1, bi_1n, not_true_eq_false, not_false_eq_true, Nat.reduceAdd, Nat.reduceMul, nI_mul, nI_add, inb_T, ix_nI, le_T, le_F, lt_T, lt_F, eq_F, and_self, and_true, true_and, false_and, and_false, or_true, true_or, or_false, false_or, bi_eq, x_within, m_in, f9_count, r0, e6]
      · simp (disch := first | with_reducible assumption | omega | (simp only [MI_sai_iff, MI_sfi_iff]; with_reducible assumption)) only [li, ↓lr_, ↓bd_m, ↓oc_m, ↓reduceIte, bi_0, bi_0n, bi_1, bi_1n, not_true_eq_false, not_false_eq_true, Nat.reduceAdd, Nat.reduceMul, nI_mul, nI_add, inb_T, ix_nI, le_T, le_F, lt_T, lt_F, eq_F, and_self, and_true, true_and, false_and, and_false, or_true, true_or, or_false, false_or, bi_eq, x_within, m_in, f10_count, e7]
  · have hne := not_in (by omega) hw
    refine op_fin h ?_ ?_ (r := -nI 2)
    · simp (disch := first | with_reducible assumption | omega | (simp only [MI_sai_iff, MI_sfi_iff]; with_reducible assumption)) only [li, ↓lr_, ↓bd_m, ↓oc_m, ↓reduceIte, bi_0, bi_0n, bi_1, bi_1n, not_true_eq_false, not_false_eq_true, Nat.reduceAdd, Nat.reduceMul, nI_mul, nI_add, inb_T, ix_nI, le_T, le_F, lt_T, lt_F, eq_F, and_self, and_true, true_and, false_and, and_false, or_true, true_or, or_false, false_or, bi_eq, x_within, m_in, f9_count, hne]
    · simp (disch := first | with_reducible assumption | omega | (simp only [MI_sai_iff, MI_sfi_iff]; with_reducible assumption)) only [li, ↓lr_, ↓bd_m, ↓oc_m, ↓reduceIte, bi_0, bi_0n, bi_1, bi_1n, not_true_eq_false, not_false_eq_true, Nat.reduceAdd, Nat.reduceMul, nI_mul, nI_add, inb_T, ix_nI, le_T, le_F, lt_T, lt_F, eq_F, and_self, and_true, true_and, false_and, and_false, or_true, true_or, or_false, false_or, bi_eq, x_within, m_in, f10_count, hne]
-- pages
theorem x_indexOn {g : GS_} {Q : Nat} {a l : Nat → Int32} {j t s pos : Nat} (hP : PlV g Q a l j) (hJ : JobPl a l j) (ht : t < sSC a j) (hs : s < sdz (jN a j 3) (jN a j 2)) (hp : pos < psz (jN a j 3)) : f4_indexOn Q (nI t) (nI s) (nI pos) g = some (nI (sEL a j t s pos), g) := by
  obtain ⟨-, -, -, ⟨y1, y2, y3⟩, -, -, ⟨m1, m2, m3⟩, c1, c2, -⟩ := Jn hJ
  obtain ⟨-, -, q9, -, q1, q2, q3, q4, q5, q6, q7, q8, q10, -⟩ := hP
  have hsd := sdz_pos (jN a j 3) (jN a j 2)
  unfold sEL elz
  have hSC : scz (jN a j 3) (jN a j 2) (jN a j 7) = sSC a j := rfl
  rw [hSC]
  generalize hS : sSC a j = S at *
  by_cases h0 : jN a j 3 = 0
  · have q6' : gfi g 136 Q = nI 1 := by rw [q6]; unfold bi; rw [if_pos (by rw [y1, h0])]; rfl
    have hp2 : pos < 2 := by have : psz (jN a j 3) = 2 := if_pos h0; omega
    have e1 : nI (4 * S) - nI 1 = nI (4 * S - 1) := nI_sub (by omega)
    rw [if_pos h0]
    rcases (show s = 0 ∨ s = 1 by omega) with rfl | rfl
    · have e2 : nI (4 * S - 1) - nI (2 * t + 0) = nI (4 * S - 1 - (2 * t + 0)) := nI_sub (by omega)
      rcases (show pos = 0 ∨ pos = 1 by omega) with rfl | rfl
      · simp (disch := first | with_reducible assumption | omega | (simp only [MI_sai_iff, MI_sfi_iff]; with_reducible assumption)) only [li, ↓lr_, ↓bd_m, ↓oc_m, ↓reduceIte, bi_0, bi_0n, bi_1, bi_1n, not_true_eq_false, not_false_eq_true, Nat.reduceAdd, Nat.reduceMul, nI_mul, nI_add, inb_T, ix_nI, le_T, le_F, lt_T, lt_F, eq_F, and_self, and_true, true_and, false_and, and_false, or_true, true_or, or_false, false_or, bi_eq, x_within, m_in, f4_indexOn, q6', f4_indexOn_b48, f4_indexOn_b57, f4_indexOn_b65, q10, e1, e2]
        try rfl
      · simp (disch := first | with_reducible assumption | omega | (simp only [MI_sai_iff, MI_sfi_iff]; with_reducible assumption)) only [li, ↓lr_, ↓bd_m, ↓oc_m, ↓reduceIte, bi_0, bi_0n, bi_1, bi_1n, not_true_eq_false, not_false_eq_true, Nat.reduceAdd, Nat.reduceMul, nI_mul, nI_add, inb_T, ix_nI, le_T, le_F, lt_T, lt_F, eq_F, and_self, and_true, true_and, false_and, and_false, or_true, true_or, or_false, false_or, bi_eq, x_within, m_in, f4_indexOn, q6', f4_indexOn_b48, f4_indexOn_b57, f4_indexOn_b65, Nat.add_zero]
        try rfl
    · have e2 : nI (4 * S - 1) - nI (2 * t + 1) = nI (4 * S - 1 - (2 * t + 1)) := nI_sub (by omega)
      rcases (show pos = 0 ∨ pos = 1 by omega) with rfl | rfl
      · simp (disch := first | with_reducible assumption | omega | (simp only [MI_sai_iff, MI_sfi_iff]; with_reducible assumption)) only [li, ↓lr_, ↓bd_m, ↓oc_m, ↓reduceIte, bi_0, bi_0n, bi_1, bi_1n, not_true_eq_false, not_false_eq_true, Nat.reduceAdd, Nat.reduceMul, nI_mul, nI_add, inb_T, ix_nI, le_T, le_F, lt_T, lt_F, eq_F, and_self, and_true, true_and, false_and, and_false, or_true, true_or, or_false, false_or, bi_eq, x_within, m_in, f4_indexOn, q6', f4_indexOn_b48, f4_indexOn_b57, f4_indexOn_b65]
        try rfl
      · simp (disch := first | with_reducible assumption | omega | (simp only [MI_sai_iff, MI_sfi_iff]; with_reducible assumption)) only [li, ↓lr_, ↓bd_m, ↓oc_m, ↓reduceIte, bi_0, bi_0n, bi_1, bi_1n, not_true_eq_false, not_false_eq_true, Nat.reduceAdd, Nat.reduceMul, nI_mul, nI_add, inb_T, ix_nI, le_T, le_F, lt_T, lt_F, eq_F, and_self, and_true, true_and, false_and, and_false, or_true, true_or, or_false, false_or, bi_eq, x_within, m_in, f4_indexOn, q6', f4_indexOn_b48, f4_indexOn_b57, f4_indexOn_b65, q10, e1, e2]
        rw [if_neg (by omega), if_neg (by omega)]
        congr 3
        omega
  · have q6' : gfi g 136 Q = nI 0 := by rw [q6]; unfold bi; rw [if_neg (by rw [y1, eq_nI (by omega) (by omega)]; exact h0)]; rfl
    rw [if_neg h0]
    rcases (show sdz (jN a j 3) (jN a j 2) = 1 ∨ sdz (jN a j 3) (jN a j 2) = 2 by omega) with c | c
    · have q7' : gfi g 137 Q = nI 0 := by rw [q7]; unfold bi; rw [if_neg (by omega)]; rfl
      rw [c] at hs ⊢
      have : s = 0 := by omega
      subst this
      simp (disch := first | with_reducible assumption | omega | (simp only [MI_sai_iff, MI_sfi_iff]; with_reducible assumption)) only [li, ↓lr_, ↓bd_m, ↓oc_m, ↓reduceIte, bi_0, bi_0n, bi_1, bi_1n, not_true_eq_false, not_false_eq_true, Nat.reduceAdd, Nat.reduceMul, nI_mul, nI_add, inb_T, ix_nI, le_T, le_F, lt_T, lt_F, eq_F, and_self, and_true, true_and, false_and, and_false, or_true, true_or, or_false, false_or, bi_eq, x_within, m_in, f4_indexOn, q6', q7', f4_indexOn_b23, q8]
      congr 3
      rw [Nat.one_mul, Nat.add_zero, Nat.mul_comm]
    · have q7' : gfi g 137 Q = nI 1 := by rw [q7]; unfold bi; rw [if_pos (by omega)]; rfl
      rw [c] at hs ⊢
      simp (disch := first | with_reducible assumption | omega | (simp only [MI_sai_iff, MI_sfi_iff]; with_reducible assumption)) only [li, ↓lr_, ↓bd_m, ↓oc_m, ↓reduceIte, bi_0, bi_0n, bi_1, bi_1n, not_true_eq_false, not_false_eq_true, Nat.reduceAdd, Nat.reduceMul, nI_mul, nI_add, inb_T, ix_nI, le_T, le_F, lt_T, lt_F, eq_F, and_self, and_true, true_and, false_and, and_false, or_true, true_or, or_false, false_or, bi_eq, x_within, m_in, f4_indexOn, q6', q7', f4_indexOn_b23, q8]
      congr 3
      rw [Nat.mul_comm]
theorem x_pageOn {g : GS_} {Q : Nat} {a l : Nat → Int32} {j t s pos : Nat} (hP : PlV g Q a l j) (hJ : JobPl a l j) (ht : t < sSC a j) (hs : s < sdz (jN a j 3) (jN a j 2)) (hp : pos < psz (jN a j 3)) : f4_pageOn Q (nI t) (nI s) (nI pos) g = some (nI (sPGc a l j t s pos), g) := by
  have e1 := x_indexOn hP hJ ht hs hp
  have hsd := sdz_pos (jN a j 3) (jN a j 2)
  obtain ⟨-, -, -, ⟨y1, y2, y3⟩, -, -, ⟨m1, m2, m3⟩, c1, c2, -⟩ := Jn hJ
  obtain ⟨-, -, -, ⟨A, a1, a2, a3, a4, a5⟩, -⟩ := hP
  have hel : sEL a j t s pos < 4000 := elz_le (by omega) (by omega) ht (by omega) hp
  unfold sPGc
  by_cases hc : sEL a j t s pos < jN a j 7
  · have hl := vl_nI (hJ.2.2.2.2.2.2.2.2.2.2.2 _ hc).1
    have e2 : gai g 20 A (sEL a j t s pos) = nI (tn (l (400 * j + sEL a j t s pos))) := (a5 _ hc).trans hl.1
    rw [if_pos hc]
    generalize sEL a j t s pos = e at *
    simp (disch := first | with_reducible assumption | omega | (simp only [MI_sai_iff, MI_sfi_iff]; with_reducible assumption)) only [li, ↓lr_, ↓bd_m, ↓oc_m, ↓reduceIte, bi_0, bi_0n, bi_1, bi_1n, not_true_eq_false, not_false_eq_true, Nat.reduceAdd, Nat.reduceMul, nI_mul, nI_add, inb_T, ix_nI, le_T, le_F, lt_T, lt_F, eq_F, and_self, and_true, true_and, false_and, and_false, or_true, true_or, or_false, false_or, bi_eq, x_within, m_in, f4_pageOn, e1, a1, a4, ofN, e2]
  · rw [if_neg hc]
    generalize sEL a j t s pos = e at *
    simp (disch := first | with_reducible assumption | omega | (simp only [MI_sai_iff, MI_sfi_iff]; with_reducible assumption)) only [li, ↓lr_, ↓bd_m, ↓oc_m, ↓reduceIte, bi_0, bi_0n, bi_1, bi_1n, not_true_eq_false, not_false_eq_true, Nat.reduceAdd, Nat.reduceMul, nI_mul, nI_add, inb_T, ix_nI, le_T, le_F, lt_T, lt_F, eq_F, and_self, and_true, true_and, false_and, and_false, or_true, true_or, or_false, false_or, bi_eq, x_within, m_in, f4_pageOn, e1, a1, a4, ofN, f4_pageOn_b34]
theorem x_hasSheet {g : GS_} {Q : Nat} {a l : Nat → Int32} {j : Nat} (hP : PlV g Q a l j) (hJ : JobPl a l j) (v : Int32) : f4_hasSheet Q v g = some (bi (vl v (sSH a j)), g) := by
  have e1 := x_sheets hP hJ
  have hl := SH_le hJ
  rcases int_cases v with q | ⟨k, hk, rfl⟩
  · unfold bi
    rw [if_neg (by rw [vl_neg q]; exact id)]
    simp (disch := first | with_reducible assumption | omega | (simp only [MI_sai_iff, MI_sfi_iff]; with_reducible assumption)) only [li, ↓lr_, ↓bd_m, ↓oc_m, ↓reduceIte, bi_0, bi_0n, bi_1, bi_1n, not_true_eq_false, not_false_eq_true, Nat.reduceAdd, Nat.reduceMul, nI_mul, nI_add, inb_T, ix_nI, le_T, le_F, lt_T, lt_F, eq_F, and_self, and_true, true_and, false_and, and_false, or_true, true_or, or_false, false_or, bi_eq, x_within, m_in, f4_hasSheet, eq_true q, f4_hasSheet_b16]
  · unfold bi
    by_cases h : k < sSH a j
    · rw [if_pos (vl_of h (by omega))]
      simp (disch := first | with_reducible assumption | omega | (simp only [MI_sai_iff, MI_sfi_iff]; with_reducible assumption)) only [li, ↓lr_, ↓bd_m, ↓oc_m, ↓reduceIte, bi_0, bi_0n, bi_1, bi_1n, not_true_eq_false, not_false_eq_true, Nat.reduceAdd, Nat.reduceMul, nI_mul, nI_add, inb_T, ix_nI, le_T, le_F, lt_T, lt_F, eq_F, and_self, and_true, true_and, false_and, and_false, or_true, true_or, or_false, false_or, bi_eq, x_within, m_in, f4_hasSheet, e1]
    · rw [if_neg (by rw [vl_F (by omega) hk]; exact id)]
      simp (disch := first | with_reducible assumption | omega | (simp only [MI_sai_iff, MI_sfi_iff]; with_reducible assumption)) only [li, ↓lr_, ↓bd_m, ↓oc_m, ↓reduceIte, bi_0, bi_0n, bi_1, bi_1n, not_true_eq_false, not_false_eq_true, Nat.reduceAdd, Nat.reduceMul, nI_mul, nI_add, inb_T, ix_nI, le_T, le_F, lt_T, lt_F, eq_F, and_self, and_true, true_and, false_and, and_false, or_true, true_or, or_false, false_or, bi_eq, x_within, m_in, f4_hasSheet, e1, f4_hasSheet_b16]
theorem m_isSheet {g : GS_} (hM : MI g) {k : Nat} (hn : gai g 20 0 4 = nI (tn (gai g 20 0 4))) (h4 : tn (gai g 20 0 4) ≤ 24) (hk : k < tn (gai g 20 0 4)) {l : Nat → Int32} (hJ : JobPl (gai g 20 0) l k) (v : Int32) : f10_isSheet 0 (nI k) v g = some (bi (vl v (sSH (gai g 20 0) k)), g) := by
  have e2 := m_isJob hM hn (by omega) (nI k)
  have hl := SH_le hJ
  have h8 := hJ.2.2.2.2.2.2.2.2.2.2.1
  have e3 := in_vlb (n := sSH (gai g 20 0) k) (by omega) v
  have hv : vl (nI k) (tn (gai g 20 0 4)) = True := vl_T hk (by omega)
  unfold bi
  by_cases c : vl v (sSH (gai g 20 0) k)
  · rw [if_pos c]
    simp (disch := first | with_reducible assumption | omega | (simp only [MI_sai_iff, MI_sfi_iff]; with_reducible assumption)) only [li, ↓lr_, ↓bd_m, ↓oc_m, ↓reduceIte, bi_0, bi_0n, bi_1, bi_1n, not_true_eq_false, not_false_eq_true, Nat.reduceAdd, Nat.reduceMul, nI_mul, nI_add, inb_T, ix_nI, le_T, le_F, lt_T, lt_F, eq_F, and_self, and_true, true_and, false_and, and_false, or_true, true_or, or_false, false_or, bi_eq, x_within, m_in, f10_isSheet, e2, hv, m_ofJob, h8, e3, eq_true c]
  · rw [if_neg c]
    simp (disch := first | with_reducible assumption | omega | (simp only [MI_sai_iff, MI_sfi_iff]; with_reducible assumption)) only [li, ↓lr_, ↓bd_m, ↓oc_m, ↓reduceIte, bi_0, bi_0n, bi_1, bi_1n, not_true_eq_false, not_false_eq_true, Nat.reduceAdd, Nat.reduceMul, nI_mul, nI_add, inb_T, ix_nI, le_T, le_F, lt_T, lt_F, eq_F, and_self, and_true, true_and, false_and, and_false, or_true, true_or, or_false, false_or, bi_eq, x_within, m_in, f10_isSheet, e2, hv, m_ofJob, h8, e3, eq_false c, f10_isSheet_b29]
theorem m_isSheetF {g : GS_} (hM : MI g) {v j : Int32} (hn : gai g 20 0 4 = nI (tn (gai g 20 0 4))) (h4 : tn (gai g 20 0 4) ≤ 24) (hj : ¬ vl j (tn (gai g 20 0 4))) : f10_isSheet 0 j v g = some (nI 0, g) := by
  have e2 := m_isJob hM hn (by omega) j
  simp (disch := first | with_reducible assumption | omega | (simp only [MI_sai_iff, MI_sfi_iff]; with_reducible assumption)) only [li, ↓lr_, ↓bd_m, ↓oc_m, ↓reduceIte, bi_0, bi_0n, bi_1, bi_1n, not_true_eq_false, not_false_eq_true, Nat.reduceAdd, Nat.reduceMul, nI_mul, nI_add, inb_T, ix_nI, le_T, le_F, lt_T, lt_F, eq_F, and_self, and_true, true_and, false_and, and_false, or_true, true_or, or_false, false_or, bi_eq, x_within, m_in, f10_isSheet, e2, eq_false hj, f10_isSheet_b29]
theorem op_page (j x s q : Int32) : Op (f9_page 0 j x s q) (f10_page 0 j x s q) := by
  intro gX gM n hn h
  obtain ⟨F, r0, r1, hX, hS, hP, hE, hM, ⟨d1, d2, d3⟩, ⟨j1, j2, j3⟩, ⟨p1, p2, p3⟩⟩ := ctx h
  have e1 := x_jobAt hX j1 j3 j
  by_cases hj : vl j (tn (gai gM 20 0 4))
  · obtain ⟨k, rfl, hk⟩ := vl_ex hj
    obtain ⟨J, Q, w1, w2, w3, w4⟩ := hS.2.2.2.1.2.2.2.2.1 k hk
    have hJ := hS.2.2.1.2.2.2.2.2.1 k hk
    rw [if_pos hj, tn_nI (by omega), w1] at e1
    have k24 : k < 24 := by omega
    have e2 := m_isSheet hM j2 j3 hk hJ x
    have e3 := x_hasSheet w3 hJ x
    have hSH := SH_le hJ
    by_cases hx : vl x (sSH (gai gM 20 0) k)
    · obtain ⟨y, rfl, hy⟩ := vl_ex hx
      have e4 := x_hasSide w3 s
      have e5 := m_sidesOf hM k24 hJ
      have hsd := sdz_pos (jN (gai gM 20 0) k 3) (jN (gai gM 20 0) k 2)
      have e6 := in_vlb (n := sdz (jN (gai gM 20 0) k 3) (jN (gai gM 20 0) k 2)) (by omega) s
      have hpz : psz (jN (gai gM 20 0) k 3) ≤ 4 := by
        have := (Jn hJ).2.2.2.1.2
        unfold psz
        split <;> omega
      have e7 := m_perSide hM k24 hJ
      have e8 := in_vlb (n := psz (jN (gai gM 20 0) k 3)) (by omega) q
      have q8 : gfi gX 138 Q = nI (psz (jN (gai gM 20 0) k 3)) := by obtain ⟨-, -, -, -, -, -, -, -, -, -, -, u, -⟩ := w3; exact u
      by_cases hs : vl s (sdz (jN (gai gM 20 0) k 3) (jN (gai gM 20 0) k 2))
      · by_cases hq : vl q (psz (jN (gai gM 20 0) k 3))
        · obtain ⟨z, rfl, hz⟩ := vl_ex hs
          obtain ⟨u, rfl, hu⟩ := vl_ex hq
          have uz : (nI z ≤ nI (sdz (jN (gai gM 20 0) k 3) (jN (gai gM 20 0) k 2)) - nI 1) = True := eq_true (show nI 0 ≤ nI z ∧ _ by rw [e6]; exact hs).2
          have uu : (nI u ≤ nI (psz (jN (gai gM 20 0) k 3)) - nI 1) = True := eq_true (show nI 0 ≤ nI u ∧ _ by rw [e8]; exact hq).2
          have e9 := x_sheetOfCopy w3 hJ (x := y) (by omega)
          have e10 := x_pageOn w3 hJ (sT_lt hJ hy) hz hu
          have e11 := m_pageAt hM k24 hJ hy (show z < 2 by omega) hu
          refine op_fin h ?_ ?_ (r := nI (sPGc (gai gM 20 0) (gai gM 20 2) k (sT (gai gM 20 0) k y) z u))
          · simp (disch := first | with_reducible assumption | omega | (simp only [MI_sai_iff, MI_sfi_iff]; with_reducible assumption)) only [li, ↓lr_, ↓bd_m, ↓oc_m, ↓reduceIte, bi_0, bi_0n, bi_1, bi_1n, not_true_eq_false, not_false_eq_true, Nat.reduceAdd, Nat.reduceMul, nI_mul, nI_add, inb_T, ix_nI, le_T, le_F, lt_T, lt_F, eq_F, and_self, and_true, true_and, false_and, and_false, or_true, true_or, or_false, false_or, bi_eq, x_within, m_in, f9_page, r0, e1, w2, e3, eq_true hx, e4, eq_true hs, q8, uu, e9, e10]
          · simp (disch := first | with_reducible assumption | omega | (simp only [MI_sai_iff, MI_sfi_iff]; with_reducible assumption)) only [li, ↓lr_, ↓bd_m, ↓oc_m, ↓reduceIte, bi_0, bi_0n, bi_1, bi_1n, not_true_eq_false, not_false_eq_true, Nat.reduceAdd, Nat.reduceMul, nI_mul, nI_add, inb_T, ix_nI, le_T, le_F, lt_T, lt_F, eq_F, and_self, and_true, true_and, false_and, and_false, or_true, true_or, or_false, false_or, bi_eq, x_within, m_in, f10_page, e2, eq_true hx, e5, uz, e7, uu, e11]
            rfl
        · refine op_fin h ?_ ?_ (r := -nI 2)
          · simp (disch := first | with_reducible assumption | omega | (simp only [MI_sai_iff, MI_sfi_iff]; with_reducible assumption)) only [li, ↓lr_, ↓bd_m, ↓oc_m, ↓reduceIte, bi_0, bi_0n, bi_1, bi_1n, not_true_eq_false, not_false_eq_true, Nat.reduceAdd, Nat.reduceMul, nI_mul, nI_add, inb_T, ix_nI, le_T, le_F, lt_T, lt_F, eq_F, and_self, and_true, true_and, false_and, and_false, or_true, true_or, or_false, false_or, bi_eq, x_within, m_in, f9_page, r0, e1, w2, e3, eq_true hx, e4, eq_true hs, q8, e8, eq_false hq]
          · simp (disch := first | with_reducible assumption | omega | (simp only [MI_sai_iff, MI_sfi_iff]; with_reducible assumption)) only [li, ↓lr_, ↓bd_m, ↓oc_m, ↓reduceIte, bi_0, bi_0n, bi_1, bi_1n, not_true_eq_false, not_false_eq_true, Nat.reduceAdd, Nat.reduceMul, nI_mul, nI_add, inb_T, ix_nI, le_T, le_F, lt_T, lt_F, eq_F, and_self, and_true, true_and, false_and, and_false, or_true, true_or, or_false, false_or, bi_eq, x_within, m_in, f10_page, e2, eq_true hx, e5, e6, eq_true hs, e7, e8, eq_false hq]
      · refine op_fin h ?_ ?_ (r := -nI 2)
        · simp (disch := first | with_reducible assumption | omega | (simp only [MI_sai_iff, MI_sfi_iff]; with_reducible assumption)) only [li, ↓lr_, ↓bd_m, ↓oc_m, ↓reduceIte, bi_0, bi_0n, bi_1, bi_1n, not_true_eq_false, not_false_eq_true, Nat.reduceAdd, Nat.reduceMul, nI_mul, nI_add, inb_T, ix_nI, le_T, le_F, lt_T, lt_F, eq_F, and_self, and_true, true_and, false_and, and_false, or_true, true_or, or_false, false_or, bi_eq, x_within, m_in, f9_page, r0, e1, w2, e3, eq_true hx, e4, eq_false hs]
        · simp (disch := first | with_reducible assumption | omega | (simp only [MI_sai_iff, MI_sfi_iff]; with_reducible assumption)) only [li, ↓lr_, ↓bd_m, ↓oc_m, ↓reduceIte, bi_0, bi_0n, bi_1, bi_1n, not_true_eq_false, not_false_eq_true, Nat.reduceAdd, Nat.reduceMul, nI_mul, nI_add, inb_T, ix_nI, le_T, le_F, lt_T, lt_F, eq_F, and_self, and_true, true_and, false_and, and_false, or_true, true_or, or_false, false_or, bi_eq, x_within, m_in, f10_page, e2, eq_true hx, e5, e6, eq_false hs]
    · refine op_fin h ?_ ?_ (r := -nI 1)
      · simp (disch := first | with_reducible assumption | omega | (simp only [MI_sai_iff, MI_sfi_iff]; with_reducible assumption)) only [li, ↓lr_, ↓bd_m, ↓oc_m, ↓reduceIte, bi_0, bi_0n, bi_1, bi_1n, not_true_eq_false, not_false_eq_true, Nat.reduceAdd, Nat.reduceMul, nI_mul, nI_add, inb_T, ix_nI, le_T, le_F, lt_T, lt_F, eq_F, and_self, and_true, true_and, false_and, and_false, or_true, true_or, or_false, false_or, bi_eq, x_within, m_in, f9_page, r0, e1, w2, e3, eq_false hx]
      · simp (disch := first | with_reducible assumption | omega | (simp only [MI_sai_iff, MI_sfi_iff]; with_reducible assumption)) only [li, ↓lr_, ↓bd_m, ↓oc_m, ↓reduceIte, bi_0, bi_0n, bi_1, bi_1n, not_true_eq_false, not_false_eq_true, Nat.reduceAdd, Nat.reduceMul, nI_mul, nI_add, inb_T, ix_nI, le_T, le_F, lt_T, lt_F, eq_F, and_self, and_true, true_and, false_and, and_false, or_true, true_or, or_false, false_or, bi_eq, x_within, m_in, f10_page, e2, eq_false hx]
  · rw [if_neg hj] at e1
    have e2 := m_isSheetF (v := x) hM j2 j3 hj
    refine op_fin h ?_ ?_ (r := -nI 1)
    · simp (disch := first | with_reducible assumption | omega | (simp only [MI_sai_iff, MI_sfi_iff]; with_reducible assumption)) only [li, ↓lr_, ↓bd_m, ↓oc_m, ↓reduceIte, bi_0, bi_0n, bi_1, bi_1n, not_true_eq_false, not_false_eq_true, Nat.reduceAdd, Nat.reduceMul, nI_mul, nI_add, inb_T, ix_nI, le_T, le_F, lt_T, lt_F, eq_F, and_self, and_true, true_and, false_and, and_false, or_true, true_or, or_false, false_or, bi_eq, x_within, m_in, f9_page, r0, e1]
    · simp (disch := first | with_reducible assumption | omega | (simp only [MI_sai_iff, MI_sfi_iff]; with_reducible assumption)) only [li, ↓lr_, ↓bd_m, ↓oc_m, ↓reduceIte, bi_0, bi_0n, bi_1, bi_1n, not_true_eq_false, not_false_eq_true, Nat.reduceAdd, Nat.reduceMul, nI_mul, nI_add, inb_T, ix_nI, le_T, le_F, lt_T, lt_F, eq_F, and_self, and_true, true_and, false_and, and_false, or_true, true_or, or_false, false_or, bi_eq, x_within, m_in, f10_page, e2]
