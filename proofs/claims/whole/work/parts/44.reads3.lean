/-! calls that only read: side, duration, where -/
theorem ldp_blk {f w : Nat → Nat} {per : Nat} : ∀ n, blk f n → ldp f w per n = 0
  | 0, _ => rfl
  | n + 1, h => by
    have h' := (blk_s f n).mp h
    rw [ldp_s, ldp_blk n h'.1, if_pos h'.2]
theorem sLD_lt {a l : Nat → Int32} {j x s : Nat} (hJ : JobPl a l j) (hD : DocOk a (jN a j 6)) : sLD a l j x s < 100000 := by
  have h1 : ∀ q, wgt a (jN a j 6) q ≤ 1000 := fun q => wgt_le hD
  have h2 := ldp_le (f := sPG a l j x s) (per := psz (jN a j 3)) h1 (psz (jN a j 3))
  have h3 : psz (jN a j 3) ≤ 4 := by
    have := (Jn hJ).2.2.2.1.2
    unfold psz
    split <;> omega
  unfold sLD
  omega
theorem op_side (j x s p w : Int32) : Op (f9_side 0 j x s p w) (f10_side 0 j x s p w) := by
  intro gX gM n hn h
  obtain ⟨F, r0, r1, hX, hS, hP, hE, hM, ⟨d1, d2, d3⟩, ⟨j1, j2, j3⟩, ⟨p1, p2, p3⟩⟩ := ctx h
  have e1 := x_jobAt hX j1 j3 j
  have e1p := x_printerAt hX p1 p3 p
  have m1p := m_isPrinter hM p2 (by omega) p
  by_cases hj : vl j (tn (gai gM 20 0 4))
  · obtain ⟨k, rfl, hk⟩ := vl_ex hj
    obtain ⟨J, Q, w1, w2, w3, w4⟩ := hS.2.2.2.1.2.2.2.2.1 k hk
    have hJ := hS.2.2.1.2.2.2.2.2.1 k hk
    rw [if_pos hj, tn_nI (by omega), w1] at e1
    have k24 : k < 24 := by omega
    have e2 := m_isSheet hM j2 j3 hk hJ x
    have e3 := x_hasSheet w3 hJ x
    have hSH := SH_le hJ
    by_cases hx : vl x (sSH (gai gM 20 0) k)
    · obtain ⟨y, rfl, hy⟩ := vl_ex hx
      by_cases hp : vl p (tn (gai gM 20 0 5))
      · obtain ⟨P, rfl, hP'⟩ := vl_ex hp
        rw [if_pos hp, tn_nI (by omega)] at e1p
        have e4 := x_hasSide w3 s
        have e5 := m_sidesOf hM k24 hJ
        have hsd := sdz_pos (jN (gai gM 20 0) k 3) (jN (gai gM 20 0) k 2)
        have e6 := in_vlb (n := sdz (jN (gai gM 20 0) k 3) (jN (gai gM 20 0) k 2)) (by omega) s
        by_cases hs : vl s (sdz (jN (gai gM 20 0) k 3) (jN (gai gM 20 0) k 2))
        · by_cases hw : nI 0 ≤ w ∧ w ≤ nI 2
          · obtain ⟨q, -, hq, rfl⟩ := (in_ex (by omega) (by omega)).mp hw
            obtain ⟨z, rfl, hz⟩ := vl_ex hs
            have uz : (nI z ≤ nI (sdz (jN (gai gM 20 0) k 3) (jN (gai gM 20 0) k 2)) - nI 1) = True := eq_true (show nI 0 ≤ nI z ∧ _ by rw [e6]; exact hs).2
            have hdj := Iv0_dj hS.2.2.1 hk
            have hD := hdj.1
            have hPr := hS.2.2.1.2.2.2.2.2.2 P hP'
            have e9 := x_sheetOfCopy w3 hJ (x := y) (by omega)
            have e10 := x_loadOn w3 hJ (sT_lt hJ hy) (show z < 2 by omega)
            rw [if_pos hz] at e10
            obtain ⟨gM', f1, f2, f3, f4, f5, f6⟩ := m_laySide hM k24 (show P < 3 by omega) hJ hD hdj.2 hPr hy (show z < 2 by omega)
            have hKS : KS gM gM' := ⟨f2.1, f2.2.2.2.1, f2.2.2.2.2.2.1, f2.2.2.2.2.2.2, by rw [f2.2.1], by rw [f2.2.1], by rw [f2.2.1]⟩
            have hRel : Rel gX gM' (n + 1) := Rel_id h hKS (by rw [f2.2.1]) (by rw [f2.2.1]) (f3 341 (by omega))
            have h161 : gfi gX 161 (3 * 0 + P) = nI (pN (gai gM 20 0) P 1) := (hS.2.2.2.1.2.2.2.2.2 P hP').2.1.trans (vl_nI hPr.2.2.1).1
            have hmem : pN (gai gM 20 0) P 1 < 100000 := by have := (vl_nI hPr.2.2.1).2; unfold pN; omega
            have hL := sLD_lt (x := y) (s := z) hJ hD
            have e11 := x_bandsFor h161 hL hmem
            have e12 := x_isCoarse h161 hL hmem
            have eB : sBL (gai gM 20 0) (gai gM 20 2) k y z = blb (sPGc (gai gM 20 0) (gai gM 20 2) k (sT (gai gM 20 0) k y) z) (psz (jN (gai gM 20 0) k 3)) := rfl
            have eL : sLD (gai gM 20 0) (gai gM 20 2) k y z = cLD (gai gM 20 0) (gai gM 20 2) k (sT (gai gM 20 0) k y) z := rfl
            have hcl : cLV (gai gM 20 0) (gai gM 20 2) k (sT (gai gM 20 0) k y) z = if sBL (gai gM 20 0) (gai gM 20 2) k y z = 0 then nI (sLD (gai gM 20 0) (gai gM 20 2) k y z) else -nI 1 := rfl
            have hb := blb_iff (sPG (gai gM 20 0) (gai gM 20 2) k y z) (psz (jN (gai gM 20 0) k 3))
            have fin : ∀ r, f9_side 0 (nI k) (nI y) (nI z) (nI P) (nI q) gX = some (r, gX) → f10_side 0 (nI k) (nI y) (nI z) (nI P) (nI q) gM = some (r, gM') → ∃ r gX' gM', f9_side 0 (nI k) (nI y) (nI z) (nI P) (nI q) gX = some (r, gX') ∧ f10_side 0 (nI k) (nI y) (nI z) (nI P) (nI q) gM = some (r, gM') ∧ Rel gX' gM' (n + 1) ∧ ghs gX' ≤ ghs gX + 1000 ∧ gsl gX' ≤ gsl gX + 14000 ∧ ghs gM' = ghs gM ∧ gsl gM' = gsl gM :=
              fun r hx hm => ⟨r, gX, gM', hx, hm, hRel, by omega, by omega, f2.2.2.2.2.2.1, f2.2.2.2.2.2.2⟩
            have neg : (-nI 1 = nI 0) = False := by decide
            by_cases hb0 : sBL (gai gM 20 0) (gai gM 20 2) k y z = 0
            · rw [if_pos hb0] at hcl
              rw [hcl] at e10
              have hn1 : (nI (sLD (gai gM 20 0) (gai gM 20 2) k y z) = -nI 1) = False := neg_eq (by omega) (by omega) (by omega)
              have hBD : sBD (gai gM 20 0) (gai gM 20 2) k y z P = bz (sLD (gai gM 20 0) (gai gM 20 2) k y z) (pN (gai gM 20 0) P 1) := if_pos hb0
              have hCO : sCO (gai gM 20 0) (gai gM 20 2) k y z P = bi (bdz (sLD (gai gM 20 0) (gai gM 20 2) k y z) (pN (gai gM 20 0) P 1) = 0) := if_pos hb0
              rcases (show q = 0 ∨ q = 1 ∨ q = 2 by omega) with rfl | rfl | rfl
              · refine fin (nI (sLD (gai gM 20 0) (gai gM 20 2) k y z)) ?_ ?_
                · simp (disch := first | with_reducible assumption | omega | (simp only [MI_sai_iff, MI_sfi_iff]; with_reducible assumption)) only [li, ↓lr_, ↓bd_m, ↓oc_m, ↓reduceIte, bi_0, bi_0n, bi_1, bi_1n, not_true_eq_false, not_false_eq_true, Nat.reduceAdd, Nat.reduceMul, nI_mul, nI_add, inb_T, ix_nI, le_T, le_F, lt_T, lt_F, eq_F, and_self, and_true, true_and, false_and, and_false, or_true, true_or, or_false, false_or, bi_eq, x_within, m_in, f9_side, r0, e1, e1p, w2, e3, eq_true hx, e4, eq_true hs, e9, e10, hn1]
                · simp (disch := first | with_reducible assumption | omega | (simp only [MI_sai_iff, MI_sfi_iff]; with_reducible assumption)) only [li, ↓lr_, ↓bd_m, ↓oc_m, ↓reduceIte, bi_0, bi_0n, bi_1, bi_1n, not_true_eq_false, not_false_eq_true, Nat.reduceAdd, Nat.reduceMul, nI_mul, nI_add, inb_T, ix_nI, le_T, le_F, lt_T, lt_F, eq_F, and_self, and_true, true_and, false_and, and_false, or_true, true_or, or_false, false_or, bi_eq, x_within, m_in, f10_side, e2, eq_true hx, m1p, eq_true hp, e5, uz, f1, f4]
              · refine fin (nI (sBD (gai gM 20 0) (gai gM 20 2) k y z P)) ?_ ?_
                · simp (disch := first | with_reducible assumption | omega | (simp only [MI_sai_iff, MI_sfi_iff]; with_reducible assumption)) only [li, ↓lr_, ↓bd_m, ↓oc_m, ↓reduceIte, bi_0, bi_0n, bi_1, bi_1n, not_true_eq_false, not_false_eq_true, Nat.reduceAdd, Nat.reduceMul, nI_mul, nI_add, inb_T, ix_nI, le_T, le_F, lt_T, lt_F, eq_F, and_self, and_true, true_and, false_and, and_false, or_true, true_or, or_false, false_or, bi_eq, x_within, m_in, f9_side, r0, e1, e1p, w2, e3, eq_true hx, e4, eq_true hs, e9, e10, e11, hBD]
                · simp (disch := first | with_reducible assumption | omega | (simp only [MI_sai_iff, MI_sfi_iff]; with_reducible assumption)) only [li, ↓lr_, ↓bd_m, ↓oc_m, ↓reduceIte, bi_0, bi_0n, bi_1, bi_1n, not_true_eq_false, not_false_eq_true, Nat.reduceAdd, Nat.reduceMul, nI_mul, nI_add, inb_T, ix_nI, le_T, le_F, lt_T, lt_F, eq_F, and_self, and_true, true_and, false_and, and_false, or_true, true_or, or_false, false_or, bi_eq, x_within, m_in, f10_side, e2, eq_true hx, m1p, eq_true hp, e5, uz, f1, f5]
              · by_cases hc : bdz (sLD (gai gM 20 0) (gai gM 20 2) k y z) (pN (gai gM 20 0) P 1) = 0
                · rw [bi_t hc] at e12 hCO
                  refine fin 1 ?_ ?_
                  · simp (disch := first | with_reducible assumption | omega | (simp only [MI_sai_iff, MI_sfi_iff]; with_reducible assumption)) only [li, ↓lr_, ↓bd_m, ↓oc_m, ↓reduceIte, bi_0, bi_0n, bi_1, bi_1n, not_true_eq_false, not_false_eq_true, Nat.reduceAdd, Nat.reduceMul, nI_mul, nI_add, inb_T, ix_nI, le_T, le_F, lt_T, lt_F, eq_F, and_self, and_true, true_and, false_and, and_false, or_true, true_or, or_false, false_or, bi_eq, x_within, m_in, f9_side, r0, e1, e1p, w2, e3, eq_true hx, e4, eq_true hs, e9, e10, e12]
                  · simp (disch := first | with_reducible assumption | omega | (simp only [MI_sai_iff, MI_sfi_iff]; with_reducible assumption)) only [li, ↓lr_, ↓bd_m, ↓oc_m, ↓reduceIte, bi_0, bi_0n, bi_1, bi_1n, not_true_eq_false, not_false_eq_true, Nat.reduceAdd, Nat.reduceMul, nI_mul, nI_add, inb_T, ix_nI, le_T, le_F, lt_T, lt_F, eq_F, and_self, and_true, true_and, false_and, and_false, or_true, true_or, or_false, false_or, bi_eq, x_within, m_in, f10_side, e2, eq_true hx, m1p, eq_true hp, e5, uz, f1, f6, hCO]
                · rw [bi_f hc] at e12 hCO
                  refine fin 0 ?_ ?_
                  · simp (disch := first | with_reducible assumption | omega | (simp only [MI_sai_iff, MI_sfi_iff]; with_reducible assumption)) only [li, ↓lr_, ↓bd_m, ↓oc_m, ↓reduceIte, bi_0, bi_0n, bi_1, bi_1n, not_true_eq_false, not_false_eq_true, Nat.reduceAdd, Nat.reduceMul, nI_mul, nI_add, inb_T, ix_nI, le_T, le_F, lt_T, lt_F, eq_F, and_self, and_true, true_and, false_and, and_false, or_true, true_or, or_false, false_or, bi_eq, x_within, m_in, f9_side, r0, e1, e1p, w2, e3, eq_true hx, e4, eq_true hs, e9, e10, e12]
                  · simp (disch := first | with_reducible assumption | omega | (simp only [MI_sai_iff, MI_sfi_iff]; with_reducible assumption)) only [li, ↓lr_, ↓bd_m, ↓oc_m, ↓reduceIte, bi_0, bi_0n, bi_1, bi_1n, not_true_eq_false, not_false_eq_true, Nat.reduceAdd, Nat.reduceMul, nI_mul, nI_add, inb_T, ix_nI, le_T, le_F, lt_T, lt_F, eq_F, and_self, and_true, true_and, false_and, and_false, or_true, true_or, or_false, false_or, bi_eq, x_within, m_in, f10_side, e2, eq_true hx, m1p, eq_true hp, e5, uz, f1, f6, hCO]
            · rw [if_neg hb0] at hcl
              rw [hcl] at e10
              have hbk : blk (sPG (gai gM 20 0) (gai gM 20 2) k y z) (psz (jN (gai gM 20 0) k 3)) := by
                rcases hb with ⟨b1, b2⟩ | ⟨b1, b2⟩
                · exact absurd b1 hb0
                · exact b2
              have hL0 : sLD (gai gM 20 0) (gai gM 20 2) k y z = 0 := ldp_blk _ hbk
              have hBD : sBD (gai gM 20 0) (gai gM 20 2) k y z P = 0 := if_neg hb0
              have hCO : sCO (gai gM 20 0) (gai gM 20 2) k y z P = 0 := if_neg hb0
              refine fin (nI 0) ?_ ?_
              · rcases (show q = 0 ∨ q = 1 ∨ q = 2 by omega) with rfl | rfl | rfl
                all_goals simp (disch := first | with_reducible assumption | omega | (simp only [MI_sai_iff, MI_sfi_iff]; with_reducible assumption)) only [li, ↓lr_, ↓bd_m, ↓oc_m, ↓reduceIte, bi_0, bi_0n, bi_1, bi_1n, not_true_eq_false, not_false_eq_true, Nat.reduceAdd, Nat.reduceMul, nI_mul, nI_add, inb_T, ix_nI, le_T, le_F, lt_T, lt_F, eq_F, and_self, and_true, true_and, false_and, and_false, or_true, true_or, or_false, false_or, bi_eq, x_within, m_in, f9_side, r0, e1, e1p, w2, e3, eq_true hx, e4, eq_true hs, e9, e10, f5_bandsFor, f5_isCoarse, f5_isCoarse_b27]
              · rcases (show q = 0 ∨ q = 1 ∨ q = 2 by omega) with rfl | rfl | rfl
                · simp (disch := first | with_reducible assumption | omega | (simp only [MI_sai_iff, MI_sfi_iff]; with_reducible assumption)) only [li, ↓lr_, ↓bd_m, ↓oc_m, ↓reduceIte, bi_0, bi_0n, bi_1, bi_1n, not_true_eq_false, not_false_eq_true, Nat.reduceAdd, Nat.reduceMul, nI_mul, nI_add, inb_T, ix_nI, le_T, le_F, lt_T, lt_F, eq_F, and_self, and_true, true_and, false_and, and_false, or_true, true_or, or_false, false_or, bi_eq, x_within, m_in, f10_side, e2, eq_true hx, m1p, eq_true hp, e5, uz, f1, f4, hL0]
                · simp (disch := first | with_reducible assumption | omega | (simp only [MI_sai_iff, MI_sfi_iff]; with_reducible assumption)) only [li, ↓lr_, ↓bd_m, ↓oc_m, ↓reduceIte, bi_0, bi_0n, bi_1, bi_1n, not_true_eq_false, not_false_eq_true, Nat.reduceAdd, Nat.reduceMul, nI_mul, nI_add, inb_T, ix_nI, le_T, le_F, lt_T, lt_F, eq_F, and_self, and_true, true_and, false_and, and_false, or_true, true_or, or_false, false_or, bi_eq, x_within, m_in, f10_side, e2, eq_true hx, m1p, eq_true hp, e5, uz, f1, f5, hBD]
                · simp (disch := first | with_reducible assumption | omega | (simp only [MI_sai_iff, MI_sfi_iff]; with_reducible assumption)) only [li, ↓lr_, ↓bd_m, ↓oc_m, ↓reduceIte, bi_0, bi_0n, bi_1, bi_1n, not_true_eq_false, not_false_eq_true, Nat.reduceAdd, Nat.reduceMul, nI_mul, nI_add, inb_T, ix_nI, le_T, le_F, lt_T, lt_F, eq_F, and_self, and_true, true_and, false_and, and_false, or_true, true_or, or_false, false_or, bi_eq, x_within, m_in, f10_side, e2, eq_true hx, m1p, eq_true hp, e5, uz, f1, f6, hCO]
          · refine op_fin h ?_ ?_ (r := -nI 2)
            · simp (disch := first | with_reducible assumption | omega | (simp only [MI_sai_iff, MI_sfi_iff]; with_reducible assumption)) only [li, ↓lr_, ↓bd_m, ↓oc_m, ↓reduceIte, bi_0, bi_0n, bi_1, bi_1n, not_true_eq_false, not_false_eq_true, Nat.reduceAdd, Nat.reduceMul, nI_mul, nI_add, inb_T, ix_nI, le_T, le_F, lt_T, lt_F, eq_F, and_self, and_true, true_and, false_and, and_false, or_true, true_or, or_false, false_or, bi_eq, x_within, m_in, f9_side, r0, e1, e1p, w2, e3, eq_true hx, e4, eq_true hs, eq_false hw]
            · simp (disch := first | with_reducible assumption | omega | (simp only [MI_sai_iff, MI_sfi_iff]; with_reducible assumption)) only [li, ↓lr_, ↓bd_m, ↓oc_m, ↓reduceIte, bi_0, bi_0n, bi_1, bi_1n, not_true_eq_false, not_false_eq_true, Nat.reduceAdd, Nat.reduceMul, nI_mul, nI_add, inb_T, ix_nI, le_T, le_F, lt_T, lt_F, eq_F, and_self, and_true, true_and, false_and, and_false, or_true, true_or, or_false, false_or, bi_eq, x_within, m_in, f10_side, e2, eq_true hx, m1p, eq_true hp, e5, e6, eq_true hs, eq_false hw]
        · refine op_fin h ?_ ?_ (r := -nI 2)
          · simp (disch := first | with_reducible assumption | omega | (simp only [MI_sai_iff, MI_sfi_iff]; with_reducible assumption)) only [li, ↓lr_, ↓bd_m, ↓oc_m, ↓reduceIte, bi_0, bi_0n, bi_1, bi_1n, not_true_eq_false, not_false_eq_true, Nat.reduceAdd, Nat.reduceMul, nI_mul, nI_add, inb_T, ix_nI, le_T, le_F, lt_T, lt_F, eq_F, and_self, and_true, true_and, false_and, and_false, or_true, true_or, or_false, false_or, bi_eq, x_within, m_in, f9_side, r0, e1, e1p, w2, e3, eq_true hx, e4, eq_false hs]
          · simp (disch := first | with_reducible assumption | omega | (simp only [MI_sai_iff, MI_sfi_iff]; with_reducible assumption)) only [li, ↓lr_, ↓bd_m, ↓oc_m, ↓reduceIte, bi_0, bi_0n, bi_1, bi_1n, not_true_eq_false, not_false_eq_true, Nat.reduceAdd, Nat.reduceMul, nI_mul, nI_add, inb_T, ix_nI, le_T, le_F, lt_T, lt_F, eq_F, and_self, and_true, true_and, false_and, and_false, or_true, true_or, or_false, false_or, bi_eq, x_within, m_in, f10_side, e2, eq_true hx, m1p, eq_true hp, e5, e6, eq_false hs]
      · rw [if_neg hp] at e1p
        refine op_fin h ?_ ?_ (r := -nI 1)
        · simp (disch := first | with_reducible assumption | omega | (simp only [MI_sai_iff, MI_sfi_iff]; with_reducible assumption)) only [li, ↓lr_, ↓bd_m, ↓oc_m, ↓reduceIte, bi_0, bi_0n, bi_1, bi_1n, not_true_eq_false, not_false_eq_true, Nat.reduceAdd, Nat.reduceMul, nI_mul, nI_add, inb_T, ix_nI, le_T, le_F, lt_T, lt_F, eq_F, and_self, and_true, true_and, false_and, and_false, or_true, true_or, or_false, false_or, bi_eq, x_within, m_in, f9_side, r0, e1, e1p, w2, e3, eq_true hx]
        · simp (disch := first | with_reducible assumption | omega | (simp only [MI_sai_iff, MI_sfi_iff]; with_reducible assumption)) only [li, ↓lr_, ↓bd_m, ↓oc_m, ↓reduceIte, bi_0, bi_0n, bi_1, bi_1n, not_true_eq_false, not_false_eq_true, Nat.reduceAdd, Nat.reduceMul, nI_mul, nI_add, inb_T, ix_nI, le_T, le_F, lt_T, lt_F, eq_F, and_self, and_true, true_and, false_and, and_false, or_true, true_or, or_false, false_or, bi_eq, x_within, m_in, f10_side, e2, eq_true hx, m1p, eq_false hp]
    · refine op_fin h ?_ ?_ (r := -nI 1)
      · by_cases hp : vl p (tn (gai gM 20 0 5))
        · rw [if_pos hp] at e1p
          simp (disch := first | with_reducible assumption | omega | (simp only [MI_sai_iff, MI_sfi_iff]; with_reducible assumption)) only [li, ↓lr_, ↓bd_m, ↓oc_m, ↓reduceIte, bi_0, bi_0n, bi_1, bi_1n, not_true_eq_false, not_false_eq_true, Nat.reduceAdd, Nat.reduceMul, nI_mul, nI_add, inb_T, ix_nI, le_T, le_F, lt_T, lt_F, eq_F, and_self, and_true, true_and, false_and, and_false, or_true, true_or, or_false, false_or, bi_eq, x_within, m_in, f9_side, r0, e1, e1p, w2, e3, eq_false hx]
        · rw [if_neg hp] at e1p
          simp (disch := first | with_reducible assumption | omega | (simp only [MI_sai_iff, MI_sfi_iff]; with_reducible assumption)) only [li, ↓lr_, ↓bd_m, ↓oc_m, ↓reduceIte, bi_0, bi_0n, bi_1, bi_1n, not_true_eq_false, not_false_eq_true, Nat.reduceAdd, Nat.reduceMul, nI_mul, nI_add, inb_T, ix_nI, le_T, le_F, lt_T, lt_F, eq_F, and_self, and_true, true_and, false_and, and_false, or_true, true_or, or_false, false_or, bi_eq, x_within, m_in, f9_side, r0, e1, e1p, w2, e3, eq_false hx]
      · simp (disch := first | with_reducible assumption | omega | (simp only [MI_sai_iff, MI_sfi_iff]; with_reducible assumption)) only [li, ↓lr_, ↓bd_m, ↓oc_m, ↓reduceIte, bi_0, bi_0n, bi_1, bi_1n, not_true_eq_false, not_false_eq_true, Nat.reduceAdd, Nat.reduceMul, nI_mul, nI_add, inb_T, ix_nI, le_T, le_F, lt_T, lt_F, eq_F, and_self, and_true, true_and, false_and, and_false, or_true, true_or, or_false, false_or, bi_eq, x_within, m_in, f10_side, e2, eq_false hx]
  · rw [if_neg hj] at e1
    have e2 := m_isSheetF (v := x) hM j2 j3 hj
    refine op_fin h ?_ ?_ (r := -nI 1)
    · by_cases hp : vl p (tn (gai gM 20 0 5))
      · rw [if_pos hp] at e1p
        simp (disch := first | with_reducible assumption | omega | (simp only [MI_sai_iff, MI_sfi_iff]; with_reducible assumption)) only [li, ↓lr_, ↓bd_m, ↓oc_m, ↓reduceIte, bi_0, bi_0n, bi_1, bi_1n, not_true_eq_false, not_false_eq_true, Nat.reduceAdd, Nat.reduceMul, nI_mul, nI_add, inb_T, ix_nI, le_T, le_F, lt_T, lt_F, eq_F, and_self, and_true, true_and, false_and, and_false, or_true, true_or, or_false, false_or, bi_eq, x_within, m_in, f9_side, r0, e1, e1p]
      · rw [if_neg hp] at e1p
        simp (disch := first | with_reducible assumption | omega | (simp only [MI_sai_iff, MI_sfi_iff]; with_reducible assumption)) only [li, ↓lr_, ↓bd_m, ↓oc_m, ↓reduceIte, bi_0, bi_0n, bi_1, bi_1n, not_true_eq_false, not_false_eq_true, Nat.reduceAdd, Nat.reduceMul, nI_mul, nI_add, inb_T, ix_nI, le_T, le_F, lt_T, lt_F, eq_F, and_self, and_true, true_and, false_and, and_false, or_true, true_or, or_false, false_or, bi_eq, x_within, m_in, f9_side, r0, e1, e1p]
    · simp (disch := first | with_reducible assumption | omega | (simp only [MI_sai_iff, MI_sfi_iff]; with_reducible assumption)) only [li, ↓lr_, ↓bd_m, ↓oc_m, ↓reduceIte, bi_0, bi_0n, bi_1, bi_1n, not_true_eq_false, not_false_eq_true, Nat.reduceAdd, Nat.reduceMul, nI_mul, nI_add, inb_T, ix_nI, le_T, le_F, lt_T, lt_F, eq_F, and_self, and_true, true_and, false_and, and_false, or_true, true_or, or_false, false_or, bi_eq, x_within, m_in, f10_side, e2]
-- sums
def sm (f : Nat → Nat) (n : Nat) : Nat := match n with
  | 0 => 0
  | n + 1 => sm f n + f n
theorem sm_s (f : Nat → Nat) (n : Nat) : sm f (n + 1) = sm f n + f n := rfl
theorem sm_add (f : Nat → Nat) (n : Nat) : ∀ m, sm f (n + m) = sm f n + sm (fun i => f (n + i)) m
  | 0 => rfl
  | m + 1 => by
    show sm f (n + m) + f (n + m) = sm f n + (sm (fun i => f (n + i)) m + f (n + m))
    rw [sm_add f n m, Nat.add_assoc]
theorem sm_congr {f f' : Nat → Nat} : ∀ n, (∀ i, i < n → f i = f' i) → sm f n = sm f' n
  | 0, _ => rfl
  | n + 1, h => by rw [sm_s, sm_s, sm_congr n (fun i hi => h i (by omega)), h n (by omega)]
theorem sm_const (c : Nat) : ∀ n, sm (fun _ => c) n = n * c
  | 0 => (Nat.zero_mul c).symm
  | n + 1 => by rw [sm_s, sm_const c n, Nat.succ_mul]
theorem sm_le {f : Nat → Nat} {b : Nat} (h : ∀ i, f i ≤ b) : ∀ n, sm f n ≤ n * b
  | 0 => Nat.zero_le _
  | n + 1 => by
    have h1 := sm_le h n
    have h2 := h n
    rw [sm_s, Nat.succ_mul]
    omega
theorem sm_mod (f : Nat → Nat) (S : Nat) : ∀ c, sm (fun x => f (x % S)) (c * S) = c * sm f S
  | 0 => by rw [Nat.zero_mul, Nat.zero_mul]; rfl
  | c + 1 => by
    rw [Nat.succ_mul, sm_add, sm_mod f S c, Nat.succ_mul]
    congr 1
    refine sm_congr S fun i hi => ?_
    show f ((c * S + i) % S) = f i
    rw [Nat.mul_comm, Nat.mul_add_mod, Nat.mod_eq_of_lt hi]
theorem sm_div (f : Nat → Nat) (c : Nat) (hc : 1 ≤ c) : ∀ S, sm (fun x => f (x / c)) (S * c) = c * sm f S
  | 0 => by rw [Nat.zero_mul]; rfl
  | S + 1 => by
    rw [Nat.succ_mul, sm_add, sm_div f c hc S, sm_s, Nat.mul_add]
    congr 1
    rw [← sm_const (f S) c]
    refine sm_congr c fun i hi => ?_
    show f ((S * c + i) / c) = f S
    rw [Nat.mul_comm, Nat.mul_add_div (by omega), Nat.div_eq_of_lt hi, Nat.add_zero]
theorem op_duration (j p : Int32) : Op (f9_duration 0 j p) (f10_duration 0 j p) := by
  intro gX gM n hn h
  obtain ⟨F, r0, r1, hX, hS, hP, hE, hM, ⟨d1, d2, d3⟩, ⟨j1, j2, j3⟩, ⟨p1, p2, p3⟩⟩ := ctx h
  have e1 := x_jobAt hX j1 j3 j
  have e1p := x_printerAt hX p1 p3 p
  have m1p := m_isPrinter hM p2 (by omega) p
  have m1j := m_isJob hM j2 (by omega) j
  by_cases hj : vl j (tn (gai gM 20 0 4))
  · obtain ⟨k, rfl, hk⟩ := vl_ex hj
    obtain ⟨J, Q, w1, w2, w3, w4⟩ := hS.2.2.2.1.2.2.2.2.1 k hk
    have hJ := hS.2.2.1.2.2.2.2.2.1 k hk
    rw [if_pos hj, tn_nI (by omega), w1] at e1
    have k24 : k < 24 := by omega
    have hSH := SH_le hJ
    by_cases hp : vl p (tn (gai gM 20 0 5))
    · obtain ⟨P, rfl, hP'⟩ := vl_ex hp
      rw [if_pos hp, tn_nI (by omega)] at e1p
      have hdj := Iv0_dj hS.2.2.1 hk
      have hD := hdj.1
      have hPr := hS.2.2.1.2.2.2.2.2.2 P hP'
      have h8 := hJ.2.2.2.2.2.2.2.2.2.2.1
      generalize ha : gai gM 20 0 = a at *
      generalize hl : gai gM 20 2 = l at *
      -- the reference
      have mkey : ∀ fuel x g1, x ≤ sSH a k → sSH a k - x < fuel → SC gM g1 → (∀ f, f < 337 ∨ 339 < f → gfi g1 f 0 = gfi gM f 0) → ∃ g2, f10_duration_b23 fuel 0 (nI k) (nI P) (nI (sm (fun y => sTK a l k y P) x)) (nI x) g1 = some (nI (sm (fun y => sTK a l k y P) (sSH a k)), g2) ∧ SC gM g2 ∧ (∀ f, f < 337 ∨ 339 < f → gfi g2 f 0 = gfi gM f 0) := by
        intro fuel
        induction fuel with
        | zero => intro x g1 _ h2; omega
        | succ fuel ih =>
          intro x g1 hx hf hsc hoth
          have hM1 := MI_SC hM hsc
          have hg0 : gai g1 20 0 = a := by rw [hsc.2.1, ha]
          have hg2 : gai g1 20 2 = l := by rw [hsc.2.1, hl]
          have u1 := m_ofJob hM1 k24 (w := 8) (by omega)
          rw [hg0, h8] at u1
          rw [f10_duration_b23.eq_2]
          by_cases he : x = sSH a k
          · subst he
            refine ⟨g1, ?_, hsc, hoth⟩
            simp (disch := first | with_reducible assumption | omega | (simp only [MI_sai_iff, MI_sfi_iff]; with_reducible assumption)) only [li, ↓lr_, ↓bd_m, ↓oc_m, ↓reduceIte, bi_0, bi_0n, bi_1, bi_1n, not_true_eq_false, not_false_eq_true, Nat.reduceAdd, Nat.reduceMul, nI_mul, nI_add, inb_T, ix_nI, le_T, le_F, lt_T, lt_F, eq_F, and_self, and_true, true_and, false_and, and_false, or_true, true_or, or_false, false_or, bi_eq, x_within, m_in, u1, Nat.le_refl]
          · obtain ⟨g2, u2, u3, u4⟩ := m_ticksFor hM1 k24 (show P < 3 by omega) (x := x) (by rw [hg0, hg2]; exact hJ) (by rw [hg0]; exact hD) (by rw [hg0]; exact hdj.2) (by rw [hg0]; exact hPr) (by rw [hg0]; omega)
            rw [hg0, hg2] at u2
            obtain ⟨g3, v1, v2, v3⟩ := ih (x + 1) g2 (by omega) (by omega) (SC_tr hsc u3) (fun f hf => (u4 f hf).trans (hoth f hf))
            refine ⟨g3, ?_, v2, v3⟩
            rw [sm_s] at v1
            simp (disch := first | with_reducible assumption | omega | (simp only [MI_sai_iff, MI_sfi_iff]; with_reducible assumption)) only [li, ↓lr_, ↓bd_m, ↓oc_m, ↓reduceIte, bi_0, bi_0n, bi_1, bi_1n, not_true_eq_false, not_false_eq_true, Nat.reduceAdd, Nat.reduceMul, nI_mul, nI_add, inb_T, ix_nI, le_T, le_F, lt_T, lt_F, eq_F, and_self, and_true, true_and, false_and, and_false, or_true, true_or, or_false, false_or, bi_eq, x_within, m_in, u1, u2, v1]
      have h8' : gai gM 20 0 (106 + 13 * k + 8) = nI (sSH a k) := by rw [ha]; exact h8
      obtain ⟨gM', f1, f2, f3⟩ := mkey FU_ 0 gM (by omega) (by unfold FU_; omega) SC_rfl (fun f _ => rfl)
      have hKS : KS gM gM' := ⟨f2.1, f2.2.2.2.1, f2.2.2.2.2.2.1, f2.2.2.2.2.2.2, by rw [f2.2.1], by rw [f2.2.1], by rw [f2.2.1]⟩
      have hRel : Rel gX gM' (n + 1) := Rel_id h hKS (by rw [f2.2.1]) (by rw [f2.2.1]) (f3 341 (by omega))
      -- the class
      have h160 : gfi gX 160 (3 * 0 + P) = nI (pN a P 0) := (hS.2.2.2.1.2.2.2.2.2 P hP').1.trans (vl_nI hPr.1).1
      have h161 : gfi gX 161 (3 * 0 + P) = nI (pN a P 1) := (hS.2.2.2.1.2.2.2.2.2 P hP').2.1.trans (vl_nI hPr.2.2.1).1
      have hmem : pN a P 1 < 100000 := by have := (vl_nI hPr.2.2.1).2; unfold pN; omega
      have hsd := sdz_pos (jN a k 3) (jN a k 2)
      obtain ⟨⟨c1, c2, c3⟩, ⟨c4, c5⟩, -, -, -, -, -, s1, s2, -⟩ := Jn hJ
      let τ : Nat → Nat := fun t => tkV (pN a P 0) (pN a P 1) (cLV a l k t 0) + tkV (pN a P 0) (pN a P 1) (if 1 < sdz (jN a k 3) (jN a k 2) then cLV a l k t 1 else -nI 1)
      have hτ : ∀ x, τ (sT a k x) = sTK a l k x P := fun x => x_ticks hJ hD
      have hqs : gfi gX 139 Q = nI (sSC a k) := by obtain ⟨-, -, -, -, -, -, -, -, -, -, -, -, u, -⟩ := w3; exact u
      have hqc : gfi gX 131 Q = nI (jN a k 0) := by obtain ⟨-, -, -, -, u, -⟩ := w3; exact u.trans c1
      have tkle : ∀ v, tkV (pN a P 0) (pN a P 1) v ≤ 66 := by
        intro v
        have hp0 : pN a P 0 ≤ 50 := by have := (vl_nI hPr.1).2; unfold pN; omega
        have := bz_le (tn v) (pN a P 1)
        unfold tkV
        split <;> omega
      have τle : ∀ t, τ t ≤ 132 := by
        intro t
        have v1 := tkle (cLV a l k t 0)
        have v2 := tkle (if 1 < sdz (jN a k 3) (jN a k 2) then cLV a l k t 1 else -nI 1)
        show _ + _ ≤ 132
        omega
      have xkey : ∀ fuel t, t ≤ sSC a k → sSC a k - t < fuel → f9_duration_b42 fuel (some (3 * 0 + P)) (some Q) (nI (sm τ t)) (nI t) gX = some (nI (jN a k 0) * nI (sm τ (sSC a k)), gX) := by
        intro fuel
        induction fuel with
        | zero => intro t _ h2; omega
        | succ fuel ih =>
          intro t ht hf
          rw [f9_duration_b42.eq_2]
          by_cases he : t = sSC a k
          · subst he
            simp (disch := first | with_reducible assumption | omega | (simp only [MI_sai_iff, MI_sfi_iff]; with_reducible assumption)) only [li, ↓lr_, ↓bd_m, ↓oc_m, ↓reduceIte, bi_0, bi_0n, bi_1, bi_1n, not_true_eq_false, not_false_eq_true, Nat.reduceAdd, Nat.reduceMul, nI_mul, nI_add, inb_T, ix_nI, le_T, le_F, lt_T, lt_F, eq_F, and_self, and_true, true_and, false_and, and_false, or_true, true_or, or_false, false_or, bi_eq, x_within, m_in, hqs, hqc, Nat.le_refl]
          · have t1 := x_loadOn w3 hJ (show t < sSC a k by omega) (show 0 < 2 by omega)
            have t2 := x_loadOn w3 hJ (show t < sSC a k by omega) (show 1 < 2 by omega)
            rw [if_pos (by omega)] at t1
            have t3 := x_ticksFor h160 h161 hmem (cLV_cases (t := t) (s := 0) hJ hD)
            have t4 := x_ticksFor h160 h161 hmem (v := if 1 < sdz (jN a k 3) (jN a k 2) then cLV a l k t 1 else -nI 1) (by
              split
              · exact cLV_cases hJ hD
              · exact Or.inl rfl)
            have nx := ih (t + 1) (by omega) (by omega)
            rw [sm_s] at nx
            have nx' : f9_duration_b42 fuel (some (3 * 0 + P)) (some Q) (nI (sm τ t + (tkV (pN a P 0) (pN a P 1) (cLV a l k t 0) + tkV (pN a P 0) (pN a P 1) (if 1 < sdz (jN a k 3) (jN a k 2) then cLV a l k t 1 else -nI 1)))) (nI (t + 1)) gX = some (nI (jN a k 0) * nI (sm τ (sSC a k)), gX) := nx
            generalize (if 1 < sdz (jN a k 3) (jN a k 2) then cLV a l k t 1 else -nI 1) = q2 at *
            simp (disch := first | with_reducible assumption | omega | (simp only [MI_sai_iff, MI_sfi_iff]; with_reducible assumption)) only [li, ↓lr_, ↓bd_m, ↓oc_m, ↓reduceIte, bi_0, bi_0n, bi_1, bi_1n, not_true_eq_false, not_false_eq_true, Nat.reduceAdd, Nat.reduceMul, nI_mul, nI_add, inb_T, ix_nI, le_T, le_F, lt_T, lt_F, eq_F, and_self, and_true, true_and, false_and, and_false, or_true, true_or, or_false, false_or, bi_eq, x_within, m_in, hqs, t1, t2, t3, t4, nx']
      have hsum : sm (fun y => sTK a l k y P) (sSH a k) = jN a k 0 * sm τ (sSC a k) := by
        rw [← sm_congr (f := fun y => τ (sT a k y)) (sSH a k) (fun i _ => hτ i)]
        unfold sSH sT tz
        by_cases hc : jN a k 1 = 1
        · rw [sm_congr (f' := fun y => τ (y % sSC a k)) _ (fun i _ => by rw [if_pos hc]), sm_mod]
        · rw [sm_congr (f' := fun y => τ (y / jN a k 0)) _ (fun i _ => by rw [if_neg hc]), Nat.mul_comm (jN a k 0) (sSC a k), sm_div _ _ (by omega)]
      have hx := xkey FU_ 0 (by omega) (by unfold FU_; omega)
      refine ⟨nI (sm (fun y => sTK a l k y P) (sSH a k)), gX, gM', ?_, ?_, hRel, by omega, by omega, f2.2.2.2.2.2.1, f2.2.2.2.2.2.2⟩
      · rw [hsum, ← nI_mul]
        have hx' : f9_duration_b42 FU_ (some (3 * 0 + P)) (some Q) (nI 0) (nI 0) gX = some (nI (jN a k 0) * nI (sm τ (sSC a k)), gX) := hx
        simp (disch := first | with_reducible assumption | omega | (simp only [MI_sai_iff, MI_sfi_iff]; with_reducible assumption)) only [li, ↓lr_, ↓bd_m, ↓oc_m, ↓reduceIte, bi_0, bi_0n, bi_1, bi_1n, not_true_eq_false, not_false_eq_true, Nat.reduceAdd, Nat.reduceMul, nI_mul, nI_add, inb_T, ix_nI, le_T, le_F, lt_T, lt_F, eq_F, and_self, and_true, true_and, false_and, and_false, or_true, true_or, or_false, false_or, bi_eq, x_within, m_in, f9_duration, r0, e1, e1p, w2, hx']
      · have f1' : f10_duration_b23 FU_ 0 (nI k) (nI P) (nI 0) (nI 0) gM = some (nI (sm (fun y => sTK a l k y P) (sSH a k)), gM') := f1
        simp (disch := first | with_reducible assumption | omega | (simp only [MI_sai_iff, MI_sfi_iff]; with_reducible assumption)) only [li, ↓lr_, ↓bd_m, ↓oc_m, ↓reduceIte, bi_0, bi_0n, bi_1, bi_1n, not_true_eq_false, not_false_eq_true, Nat.reduceAdd, Nat.reduceMul, nI_mul, nI_add, inb_T, ix_nI, le_T, le_F, lt_T, lt_F, eq_F, and_self, and_true, true_and, false_and, and_false, or_true, true_or, or_false, false_or, bi_eq, x_within, m_in, f10_duration, m1j, eq_true hj, m1p, eq_true hp, f1']
    · rw [if_neg hp] at e1p
      refine op_fin h ?_ ?_ (r := -nI 1)
      · simp (disch := first | with_reducible assumption | omega | (simp only [MI_sai_iff, MI_sfi_iff]; with_reducible assumption)) only [li, ↓lr_, ↓bd_m, ↓oc_m, ↓reduceIte, bi_0, bi_0n, bi_1, bi_1n, not_true_eq_false, not_false_eq_true, Nat.reduceAdd, Nat.reduceMul, nI_mul, nI_add, inb_T, ix_nI, le_T, le_F, lt_T, lt_F, eq_F, and_self, and_true, true_and, false_and, and_false, or_true, true_or, or_false, false_or, bi_eq, x_within, m_in, f9_duration, r0, e1, e1p]
      · simp (disch := first | with_reducible assumption | omega | (simp only [MI_sai_iff, MI_sfi_iff]; with_reducible assumption)) only [li, ↓lr_, ↓bd_m, ↓oc_m, ↓reduceIte, bi_0, bi_0n, bi_1, bi_1n, not_true_eq_false, not_false_eq_true, Nat.reduceAdd, Nat.reduceMul, nI_mul, nI_add, inb_T, ix_nI, le_T, le_F, lt_T, lt_F, eq_F, and_self, and_true, true_and, false_and, and_false, or_true, true_or, or_false, false_or, bi_eq, x_within, m_in, f10_duration, m1j, eq_true hj, m1p, eq_false hp]
  · rw [if_neg hj] at e1
    refine op_fin h ?_ ?_ (r := -nI 1)
    · by_cases hp : vl p (tn (gai gM 20 0 5))
      · rw [if_pos hp] at e1p
        simp (disch := first | with_reducible assumption | omega | (simp only [MI_sai_iff, MI_sfi_iff]; with_reducible assumption)) only [li, ↓lr_, ↓bd_m, ↓oc_m, ↓reduceIte, bi_0, bi_0n, bi_1, bi_1n, not_true_eq_false, not_false_eq_true, Nat.reduceAdd, Nat.reduceMul, nI_mul, nI_add, inb_T, ix_nI, le_T, le_F, lt_T, lt_F, eq_F, and_self, and_true, true_and, false_and, and_false, or_true, true_or, or_false, false_or, bi_eq, x_within, m_in, f9_duration, r0, e1, e1p]
      · rw [if_neg hp] at e1p
        simp (disch := first | with_reducible assumption | omega | (simp only [MI_sai_iff, MI_sfi_iff]; with_reducible assumption)) only [li, ↓lr_, ↓bd_m, ↓oc_m, ↓reduceIte, bi_0, bi_0n, bi_1, bi_1n, not_true_eq_false, not_false_eq_true, Nat.reduceAdd, Nat.reduceMul, nI_mul, nI_add, inb_T, ix_nI, le_T, le_F, lt_T, lt_F, eq_F, and_self, and_true, true_and, false_and, and_false, or_true, true_or, or_false, false_or, bi_eq, x_within, m_in, f9_duration, r0, e1, e1p]
    · simp (disch := first | with_reducible assumption | omega | (simp only [MI_sai_iff, MI_sfi_iff]; with_reducible assumption)) only [li, ↓lr_, ↓bd_m, ↓oc_m, ↓reduceIte, bi_0, bi_0n, bi_1, bi_1n, not_true_eq_false, not_false_eq_true, Nat.reduceAdd, Nat.reduceMul, nI_mul, nI_add, inb_T, ix_nI, le_T, le_F, lt_T, lt_F, eq_F, and_self, and_true, true_and, false_and, and_false, or_true, true_or, or_false, false_or, bi_eq, x_within, m_in, f10_duration, m1j, eq_false hj]
