/-! addDocument: the reference's side, and both -/
theorem lr_at {α β : Type} (x : α) (f : α → β) : lr_ x f = f x := rfl
theorem m_at {β : Type} {g : GS_} (hM : MI g) (f : Nat → Option β) : (lr_ (gfr g 320 0) fun x => oc_ x none fun a => f a) = f 0 := by
  simp (disch := first | with_reducible assumption | omega | (simp only [MI_sai_iff, MI_sfi_iff]; with_reducible assumption)) only [li, ↓lr_, ↓bd_m, ↓oc_m, ↓reduceIte, bi_0, bi_0n, bi_1, bi_1n, not_true_eq_false, not_false_eq_true, Nat.reduceAdd, Nat.reduceMul, nI_mul, nI_add, inb_T, ix_nI, le_T, le_F, lt_T, lt_F, eq_F, and_self, and_true, true_and, false_and, and_false, or_true, true_or, or_false, false_or, bi_eq, x_within, m_in, MI_a hM]
theorem m_ib {β : Type} {g : GS_} (hM : MI g) {e : Int32} {k : Nat} (he : e = nI k) (hk : k < 858) (t : Option β) : (if inb e (gln g 20 0) then t else none) = t := by
  subst he
  rw [MI_n hM, if_pos ((inb_nI (by omega)).mpr hk)]
theorem m_ix {e : Int32} {k : Nat} (he : e = nI k) (hk : k < 858) : e.toInt.toNat = k := by
  subst he
  exact ix_nI (by omega)
theorem m_addDoc {gM : GS_} {N : Nat} {u v w x y : Int32} (hM : MI gM) (d2 : gai gM 20 0 3 = nI N) (hNl : N < 10) (hu : nI 1 ≤ u ∧ u ≤ nI 400) (hv : nI 0 ≤ v ∧ v ≤ nI 2) (hw : nI 1 ≤ w ∧ w ≤ nI 500) (hx : nI 0 ≤ x ∧ x ≤ nI 50) (hy : nI 1 ≤ y ∧ y ≤ nI 500) : f10_addDocument 0 u v w x y gM = some (nI N, docM gM N u v w x y) := by
  have tu : bi (nI 1 ≤ u ∧ u ≤ nI 400) = nI 1 := bi_t hu
  have tv : bi (nI 0 ≤ v ∧ v ≤ nI 2) = nI 1 := bi_t hv
  have tw : bi (nI 1 ≤ w ∧ w ≤ nI 500) = nI 1 := bi_t hw
  have tx : bi (nI 0 ≤ x ∧ x ≤ nI 50) = nI 1 := bi_t hx
  have ty : bi (nI 1 ≤ y ∧ y ≤ nI 500) = nI 1 := bi_t hy
  have z : (nI 1 = nI 0) = False := by decide
  have z10 : (nI N = nI 10) = False := nI_ne (by omega) (by omega) (by omega)
  unfold f10_addDocument docM
  simp only [li, m_in, bd_some, tu, tv, tw, tx, ty, z, if_false]
  rw [m_at hM, m_ib hM (k := 3) rfl (by omega), m_ix (e := nI 3) (k := 3) rfl (by omega), d2]
  simp only [z10, if_false]
  rw [m_at hM, m_ib hM (k := 3) rfl (by omega), d2, lr_at]
  have ei : ∀ k : Nat, nI 26 + nI 5 * nI N + nI k = nI (26 + 5 * N + k) := fun k => by rw [nI_mul, nI_add, nI_add]
  have ei0 : nI 26 + nI 5 * nI N = nI (26 + 5 * N + 0) := by rw [nI_mul, nI_add, Nat.add_zero]
  rw [m_at hM, m_ib hM ei0 (by omega), m_ix ei0 (by omega), lr_at]
  have M1 : MI (sai gM 20 0 (26 + 5 * N + 0) u) := MI_sai_iff.mpr hM
  have c1 : gai (sai gM 20 0 (26 + 5 * N + 0) u) 20 0 3 = nI N := by rw [e_gai_sai, if_neg (by omega)]; exact d2
  generalize sai gM 20 0 (26 + 5 * N + 0) u = g1 at *
  rw [m_at M1, m_ib M1 (ei 1) (by omega), m_ix (ei 1) (by omega), lr_at]
  have M2 : MI (sai g1 20 0 (26 + 5 * N + 1) v) := MI_sai_iff.mpr M1
  have c2 : gai (sai g1 20 0 (26 + 5 * N + 1) v) 20 0 3 = nI N := by rw [e_gai_sai, if_neg (by omega)]; exact c1
  generalize sai g1 20 0 (26 + 5 * N + 1) v = g2 at *
  rw [m_at M2, m_ib M2 (ei 2) (by omega), m_ix (ei 2) (by omega), lr_at]
  have M3 : MI (sai g2 20 0 (26 + 5 * N + 2) w) := MI_sai_iff.mpr M2
  have c3 : gai (sai g2 20 0 (26 + 5 * N + 2) w) 20 0 3 = nI N := by rw [e_gai_sai, if_neg (by omega)]; exact c2
  generalize sai g2 20 0 (26 + 5 * N + 2) w = g3 at *
  rw [m_at M3, m_ib M3 (ei 3) (by omega), m_ix (ei 3) (by omega), lr_at]
  have M4 : MI (sai g3 20 0 (26 + 5 * N + 3) x) := MI_sai_iff.mpr M3
  have c4 : gai (sai g3 20 0 (26 + 5 * N + 3) x) 20 0 3 = nI N := by rw [e_gai_sai, if_neg (by omega)]; exact c3
  generalize sai g3 20 0 (26 + 5 * N + 3) x = g4 at *
  rw [m_at M4, m_ib M4 (ei 4) (by omega), m_ix (ei 4) (by omega), lr_at]
  have M5 : MI (sai g4 20 0 (26 + 5 * N + 4) y) := MI_sai_iff.mpr M4
  have c5 : gai (sai g4 20 0 (26 + 5 * N + 4) y) 20 0 3 = nI N := by rw [e_gai_sai, if_neg (by omega)]; exact c4
  rw [m_at M5, m_ib M5 (e := nI 3) (k := 3) rfl (by omega), m_ib M5 (e := nI 3) (k := 3) rfl (by omega), c5, lr_at, nI_add]
  have M6 : MI (sai (sai g4 20 0 (26 + 5 * N + 4) y) 20 0 3 (nI (N + 1))) := MI_sai_iff.mpr M5
  have c6 : gai (sai (sai g4 20 0 (26 + 5 * N + 4) y) 20 0 3 (nI (N + 1))) 20 0 3 = nI (N + 1) := by rw [e_gai_sai, if_pos ⟨rfl, rfl, rfl⟩]
  rw [m_at M6, m_ib M6 (e := nI 3) (k := 3) rfl (by omega), c6, nI_sub (by omega), Nat.add_sub_cancel]
theorem op_addDocument (u v w x y : Int32) : Op (f9_addDocument 0 u v w x y) (f10_addDocument 0 u v w x y) := by
  intro gX gM n hn h
  obtain ⟨F, r0, r1, hX, hS, hP, hE, hM, ⟨d1, d2, d3⟩, ⟨j1, j2, j3⟩, ⟨p1, p2, p3⟩⟩ := ctx h
  have h4 := Iv0_j hS.2.2.1
  have h5 := Iv0_p hS.2.2.1
  obtain ⟨s1, s2, s3, s4, s5, s6, s7, s8, s9, s10, s11, s12, s13, s14, s15, s16, s17, s18, s19, s20, s21⟩ := id hX
  by_cases hu : nI 1 ≤ u ∧ u ≤ nI 400
  · by_cases hv : nI 0 ≤ v ∧ v ≤ nI 2
    · by_cases hw : nI 1 ≤ w ∧ w ≤ nI 500
      · by_cases hx : nI 0 ≤ x ∧ x ≤ nI 50
        · by_cases hy : nI 1 ≤ y ∧ y ≤ nI 500
          · generalize hN : tn (gai gM 20 0 3) = N at *
            by_cases hN3 : N = 10
            · subst hN3
              refine op_fin h ?_ ?_ (r := -nI 4)
              · simp (disch := first | with_reducible assumption | omega | (simp only [MI_sai_iff, MI_sfi_iff]; with_reducible assumption)) only [li, ↓lr_, ↓bd_m, ↓oc_m, ↓reduceIte, bi_0, bi_0n, bi_1, bi_1n, not_true_eq_false, not_false_eq_true, Nat.reduceAdd, Nat.reduceMul, nI_mul, nI_add, inb_T, ix_nI, le_T, le_F, lt_T, lt_F, eq_F, and_self, and_true, true_and, false_and, and_false, or_true, true_or, or_false, false_or, bi_eq, x_within, m_in, f9_addDocument, eq_true hu, eq_true hv, eq_true hw, eq_true hx, eq_true hy, r0, d1]
              · simp (disch := first | with_reducible assumption | omega | (simp only [MI_sai_iff, MI_sfi_iff]; with_reducible assumption)) only [li, ↓lr_, ↓bd_m, ↓oc_m, ↓reduceIte, bi_0, bi_0n, bi_1, bi_1n, not_true_eq_false, not_false_eq_true, Nat.reduceAdd, Nat.reduceMul, nI_mul, nI_add, inb_T, ix_nI, le_T, le_F, lt_T, lt_F, eq_F, and_self, and_true, true_and, false_and, and_false, or_true, true_or, or_false, false_or, bi_eq, x_within, m_in, f10_addDocument, eq_true hu, eq_true hv, eq_true hw, eq_true hx, eq_true hy, MI_a hM, MI_n hM, d2]
            · have hNl : N < 10 := by omega
              refine ⟨nI N, docX gX N u v w x y, docM gM N u v w x y, ?_, ?_, docR h hN hNl hu hv hw hx hy, ?_, ?_, rfl, rfl⟩
              · exact x_addDoc r0 hX d1 hNl hu hv hw hx hy
              · exact m_addDoc hM d2 hNl hu hv hw hx hy
              · rw [docX_l.2.2.1]
                omega
              · rw [docX_l.2.2.2]
                omega
          · refine op_fin h ?_ ?_ (r := -nI 2)
            · simp (disch := first | with_reducible assumption | omega | (simp only [MI_sai_iff, MI_sfi_iff]; with_reducible assumption)) only [li, ↓lr_, ↓bd_m, ↓oc_m, ↓reduceIte, bi_0, bi_0n, bi_1, bi_1n, not_true_eq_false, not_false_eq_true, Nat.reduceAdd, Nat.reduceMul, nI_mul, nI_add, inb_T, ix_nI, le_T, le_F, lt_T, lt_F, eq_F, and_self, and_true, true_and, false_and, and_false, or_true, true_or, or_false, false_or, bi_eq, x_within, m_in, f9_addDocument, eq_true hu, eq_true hv, eq_true hw, eq_true hx, eq_false hy]
            · simp (disch := first | with_reducible assumption | omega | (simp only [MI_sai_iff, MI_sfi_iff]; with_reducible assumption)) only [li, ↓lr_, ↓bd_m, ↓oc_m, ↓reduceIte, bi_0, bi_0n, bi_1, bi_1n, not_true_eq_false, not_false_eq_true, Nat.reduceAdd, Nat.reduceMul, nI_mul, nI_add, inb_T, ix_nI, le_T, le_F, lt_T, lt_F, eq_F, and_self, and_true, true_and, false_and, and_false, or_true, true_or, or_false, false_or, bi_eq, x_within, m_in, f10_addDocument, eq_true hu, eq_true hv, eq_true hw, eq_true hx, eq_false hy]
        · refine op_fin h ?_ ?_ (r := -nI 2)
          · simp (disch := first | with_reducible assumption | omega | (simp only [MI_sai_iff, MI_sfi_iff]; with_reducible assumption)) only [li, ↓lr_, ↓bd_m, ↓oc_m, ↓reduceIte, bi_0, bi_0n, bi_1, bi_1n, not_true_eq_false, not_false_eq_true, Nat.reduceAdd, Nat.reduceMul, nI_mul, nI_add, inb_T, ix_nI, le_T, le_F, lt_T, lt_F, eq_F, and_self, and_true, true_and, false_and, and_false, or_true, true_or, or_false, false_or, bi_eq, x_within, m_in, f9_addDocument, eq_true hu, eq_true hv, eq_true hw, eq_false hx]
          · simp (disch := first | with_reducible assumption | omega | (simp only [MI_sai_iff, MI_sfi_iff]; with_reducible assumption)) only [li, ↓lr_, ↓bd_m, ↓oc_m, ↓reduceIte, bi_0, bi_0n, bi_1, bi_1n, not_true_eq_false, not_false_eq_true, Nat.reduceAdd, Nat.reduceMul, nI_mul, nI_add, inb_T, ix_nI, le_T, le_F, lt_T, lt_F, eq_F, and_self, and_true, true_and, false_and, and_false, or_true, true_or, or_false, false_or, bi_eq, x_within, m_in, f10_addDocument, eq_true hu, eq_true hv, eq_true hw, eq_false hx]
      · refine op_fin h ?_ ?_ (r := -nI 2)
        · simp (disch := first | with_reducible assumption | omega | (simp only [MI_sai_iff, MI_sfi_iff]; with_reducible assumption)) only [li, ↓lr_, ↓bd_m, ↓oc_m, ↓reduceIte, bi_0, bi_0n, bi_1, bi_1n, not_true_eq_false, not_false_eq_true, Nat.reduceAdd, Nat.reduceMul, nI_mul, nI_add, inb_T, ix_nI, le_T, le_F, lt_T, lt_F, eq_F, and_self, and_true, true_and, false_and, and_false, or_true, true_or, or_false, false_or, bi_eq, x_within, m_in, f9_addDocument, eq_true hu, eq_true hv, eq_false hw]
        · simp (disch := first | with_reducible assumption | omega | (simp only [MI_sai_iff, MI_sfi_iff]; with_reducible assumption)) only [li, ↓lr_, ↓bd_m, ↓oc_m, ↓reduceIte, bi_0, bi_0n, bi_1, bi_1n, not_true_eq_false, not_false_eq_true, Nat.reduceAdd, Nat.reduceMul, nI_mul, nI_add, inb_T, ix_nI, le_T, le_F, lt_T, lt_F, eq_F, and_self, and_true, true_and, false_and, and_false, or_true, true_or, or_false, false_or, bi_eq, x_within, m_in, f10_addDocument, eq_true hu, eq_true hv, eq_false hw]
    · refine op_fin h ?_ ?_ (r := -nI 2)
      · simp (disch := first | with_reducible assumption | omega | (simp only [MI_sai_iff, MI_sfi_iff]; with_reducible assumption)) only [li, ↓lr_, ↓bd_m, ↓oc_m, ↓reduceIte, bi_0, bi_0n, bi_1, bi_1n, not_true_eq_false, not_false_eq_true, Nat.reduceAdd, Nat.reduceMul, nI_mul, nI_add, inb_T, ix_nI, le_T, le_F, lt_T, lt_F, eq_F, and_self, and_true, true_and, false_and, and_false, or_true, true_or, or_false, false_or, bi_eq, x_within, m_in, f9_addDocument, eq_true hu, eq_false hv]
      · simp (disch := first | with_reducible assumption | omega | (simp only [MI_sai_iff, MI_sfi_iff]; with_reducible assumption)) only [li, ↓lr_, ↓bd_m, ↓oc_m, ↓reduceIte, bi_0, bi_0n, bi_1, bi_1n, not_true_eq_false, not_false_eq_true, Nat.reduceAdd, Nat.reduceMul, nI_mul, nI_add, inb_T, ix_nI, le_T, le_F, lt_T, lt_F, eq_F, and_self, and_true, true_and, false_and, and_false, or_true, true_or, or_false, false_or, bi_eq, x_within, m_in, f10_addDocument, eq_true hu, eq_false hv]
  · refine op_fin h ?_ ?_ (r := -nI 2)
    · simp (disch := first | with_reducible assumption | omega | (simp only [MI_sai_iff, MI_sfi_iff]; with_reducible assumption)) only [li, ↓lr_, ↓bd_m, ↓oc_m, ↓reduceIte, bi_0, bi_0n, bi_1, bi_1n, not_true_eq_false, not_false_eq_true, Nat.reduceAdd, Nat.reduceMul, nI_mul, nI_add, inb_T, ix_nI, le_T, le_F, lt_T, lt_F, eq_F, and_self, and_true, true_and, false_and, and_false, or_true, true_or, or_false, false_or, bi_eq, x_within, m_in, f9_addDocument, eq_false hu]
    · simp (disch := first | with_reducible assumption | omega | (simp only [MI_sai_iff, MI_sfi_iff]; with_reducible assumption)) only [li, ↓lr_, ↓bd_m, ↓oc_m, ↓reduceIte, bi_0, bi_0n, bi_1, bi_1n, not_true_eq_false, not_false_eq_true, Nat.reduceAdd, Nat.reduceMul, nI_mul, nI_add, inb_T, ix_nI, le_T, le_F, lt_T, lt_F, eq_F, and_self, and_true, true_and, false_and, and_false, or_true, true_or, or_false, false_or, bi_eq, x_within, m_in, f10_addDocument, eq_false hu]
