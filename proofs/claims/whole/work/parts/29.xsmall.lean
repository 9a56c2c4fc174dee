/-! the class's small methods -/
theorem neg_eq {n k : Nat} (hn : n < 2147483648) (hk : 0 < k) (hk2 : k < 1000) : (nI n = -nI k) = False := by
  refine eq_false fun e => ?_
  have h := congrArg Int32.toInt e
  rw [toIntI hn, Int32.toInt_neg, toIntI (by omega)] at h
  rw [Int.bmod_def] at h
  omega
theorem neg_eq0 {k : Nat} (hk : 0 < k) (hk2 : k < 1000) : (-nI k = nI 0) = False := by
  exact (propext ⟨Eq.symm, Eq.symm⟩ : (-nI k = nI 0) = (nI 0 = -nI k)).trans (neg_eq (by omega) hk hk2)
theorem Jn {a l : Nat → Int32} {j : Nat} (hJ : JobPl a l j) :
    (a (106 + 13 * j + 0) = nI (jN a j 0) ∧ 1 ≤ jN a j 0 ∧ jN a j 0 ≤ 10) ∧ (a (106 + 13 * j + 1) = nI (jN a j 1) ∧ jN a j 1 < 2) ∧ (a (106 + 13 * j + 2) = nI (jN a j 2) ∧ jN a j 2 < 3) ∧ (a (106 + 13 * j + 3) = nI (jN a j 3) ∧ jN a j 3 < 5 ∧ jN a j 3 ≠ 3) ∧
    (a (106 + 13 * j + 5) = nI (jN a j 5) ∧ jN a j 5 < 6) ∧ (a (106 + 13 * j + 6) = nI (jN a j 6) ∧ jN a j 6 < tn (a 3)) ∧ (a (106 + 13 * j + 7) = nI (jN a j 7) ∧ 1 ≤ jN a j 7 ∧ jN a j 7 ≤ 400) ∧ 1 ≤ sSC a j ∧ sSC a j ≤ 400 ∧ sSH a j ≤ 4000 := by
  obtain ⟨h0, h0', h1, h2, h3, h3', h5, h6, h7, h7', h8, h9⟩ := hJ
  have b7 : jN a j 7 ≤ 400 := by have := (vl_nI h7).2; unfold jN; omega
  refine ⟨⟨(vl_nI h0).1, h0', ?_⟩, ⟨(vl_nI h1).1, (vl_nI h1).2⟩, ⟨(vl_nI h2).1, (vl_nI h2).2⟩, ⟨(vl_nI h3).1, (vl_nI h3).2, h3'⟩, ⟨(vl_nI h5).1, (vl_nI h5).2⟩, ⟨(vl_nI h6).1, (vl_nI h6).2⟩, ⟨(vl_nI h7).1, h7', b7⟩, scz_pos h7', scz_le b7, ?_⟩
  · have := (vl_nI h0).2
    unfold jN; omega
  · exact SH_le ⟨h0, h0', h1, h2, h3, h3', h5, h6, h7, h7', h8, h9⟩
-- a printer's bands
def b16 (L mem : Nat) : Nat := if bdz L mem ≠ 0 then bdz L mem else 16
theorem bdz_16 {L mem : Nat} : bdz L mem = 0 ↔ ¬ 2 * ((L + 16 - 1) / 16) ≤ mem := by
  unfold bdz
  have h1 : (L + 16 - 1) / 16 ≤ (L + 8 - 1) / 8 := by omega
  have h2 : (L + 8 - 1) / 8 ≤ (L + 4 - 1) / 4 := by omega
  have h3 : (L + 4 - 1) / 4 ≤ (L + 2 - 1) / 2 := by omega
  have h4 : (L + 2 - 1) / 2 ≤ (L + 1 - 1) / 1 := by omega
  split
  · constructor <;> intro q <;> omega
  · split
    · constructor <;> intro q <;> omega
    · split
      · constructor <;> intro q <;> omega
      · split
        · constructor <;> intro q <;> omega
        · split
          · constructor <;> intro q <;> omega
          · constructor <;> intro q
            · assumption
            · rfl
theorem bz_b16 (L mem : Nat) : bz L mem = b16 (if bdz L mem = 0 then L / 4 else L) mem := by
  unfold bz b16
  by_cases h : bdz L mem = 0
  · rw [if_pos h, if_neg (by simp [h])]
  · rw [if_neg h, if_pos h, if_pos h]
theorem x_isCoarse {g : GS_} {P L mem : Nat} (hm : gfi g 161 P = nI mem) (hl : L < 100000) (hml : mem < 100000) : f5_isCoarse P (nI L) g = some (bi (bdz L mem = 0), g) := by
  have e1 : nI (L + 16) - nI 1 = nI (L + 16 - 1) := nI_sub (by omega)
  have e2 : nI (L + 16 - 1) / nI 16 = nI ((L + 16 - 1) / 16) := div_nI (by omega) (by omega) (by omega)
  by_cases h : 2 * ((L + 16 - 1) / 16) ≤ mem
  · have h2 : (bdz L mem = 0) = False := eq_false fun q => bdz_16.mp q h
    simp (disch := first | with_reducible assumption | omega | (simp only [MI_sai_iff, MI_sfi_iff]; with_reducible assumption)) only [li, ↓lr_, ↓bd_m, ↓oc_m, ↓reduceIte, bi_0, bi_0n, bi_1, bi_1n, not_true_eq_false, not_false_eq_true, Nat.reduceAdd, Nat.reduceMul, nI_mul, nI_add, inb_T, ix_nI, le_T, le_F, lt_T, lt_F, eq_F, f5_isCoarse, neg_eq, e1, e2, hm, f5_isCoarse_b27, h2, bi]
  · have h2 : (bdz L mem = 0) = True := eq_true (bdz_16.mpr h)
    simp (disch := first | with_reducible assumption | omega | (simp only [MI_sai_iff, MI_sfi_iff]; with_reducible assumption)) only [li, ↓lr_, ↓bd_m, ↓oc_m, ↓reduceIte, bi_0, bi_0n, bi_1, bi_1n, not_true_eq_false, not_false_eq_true, Nat.reduceAdd, Nat.reduceMul, nI_mul, nI_add, inb_T, ix_nI, le_T, le_F, lt_T, lt_F, eq_F, f5_isCoarse, neg_eq, e1, e2, hm, f5_isCoarse_b27, h2, bi]
theorem x_bandsLoop {g : GS_} {P L mem : Nat} (hm : gfi g 161 P = nI mem) (hl : L < 100000) (hml : mem < 100000) (n : Nat) : f5_bandsFor_b25 (n + 5) P (nI L) (nI 1) g = some (nI (b16 L mem), g) := by
  have hb : ∀ b, 0 < b → b < 32 → nI (L + b) - nI 1 = nI (L + b - 1) ∧ nI (L + b - 1) / nI b = nI ((L + b - 1) / b) := fun b h1 h2 => ⟨nI_sub (by omega), div_nI (by omega) h1 (by omega)⟩
  have step : ∀ k b, 0 < b → b < 16 → f5_bandsFor_b25 (k + 1) P (nI L) (nI b) g = if 2 * ((L + b - 1) / b) ≤ mem then some (nI b, g) else f5_bandsFor_b25 k P (nI L) (nI (b * 2)) g := by
    intro k b h1 h2
    have h3 : (L + b - 1) / b ≤ L + b - 1 := Nat.div_le_self _ _
    obtain ⟨e1, e2⟩ := hb b h1 (by omega)
    rw [f5_bandsFor_b25.eq_2]
    generalize (L + b - 1) / b = q at *
    by_cases h : 2 * q ≤ mem
    · simp (disch := first | with_reducible assumption | omega | (simp only [MI_sai_iff, MI_sfi_iff]; with_reducible assumption)) only [li, ↓lr_, ↓bd_m, ↓oc_m, ↓reduceIte, bi_0, bi_0n, bi_1, bi_1n, not_true_eq_false, not_false_eq_true, Nat.reduceAdd, Nat.reduceMul, nI_mul, nI_add, inb_T, ix_nI, le_T, le_F, lt_T, lt_F, eq_F, e1, e2, hm, h]
    · simp (disch := first | with_reducible assumption | omega | (simp only [MI_sai_iff, MI_sfi_iff]; with_reducible assumption)) only [li, ↓lr_, ↓bd_m, ↓oc_m, ↓reduceIte, bi_0, bi_0n, bi_1, bi_1n, not_true_eq_false, not_false_eq_true, Nat.reduceAdd, Nat.reduceMul, nI_mul, nI_add, inb_T, ix_nI, le_T, le_F, lt_T, lt_F, eq_F, e1, e2, hm, h]
  have last : ∀ k, f5_bandsFor_b25 (k + 1) P (nI L) (nI 16) g = some (nI 16, g) := by
    intro k
    rw [f5_bandsFor_b25.eq_2]
    simp (disch := first | with_reducible assumption | omega | (simp only [MI_sai_iff, MI_sfi_iff]; with_reducible assumption)) only [li, ↓lr_, ↓bd_m, ↓oc_m, ↓reduceIte, bi_0, bi_0n, bi_1, bi_1n, not_true_eq_false, not_false_eq_true, Nat.reduceAdd, Nat.reduceMul, nI_mul, nI_add, inb_T, ix_nI, le_T, le_F, lt_T, lt_F, eq_F, hm]
  rw [show n + 5 = (n + 4) + 1 from rfl, step _ 1 (by omega) (by omega), show n + 4 = (n + 3) + 1 from rfl, step _ (1 * 2) (by omega) (by omega), show n + 3 = (n + 2) + 1 from rfl, step _ (1 * 2 * 2) (by omega) (by omega), show n + 2 = (n + 1) + 1 from rfl, step _ (1 * 2 * 2 * 2) (by omega) (by omega), show 1 * 2 * 2 * 2 * 2 = 16 from rfl, last]
  unfold b16 bdz
  simp only [Nat.reduceMul]
  split
  · rw [if_pos (by omega)]
  · split
    · rw [if_pos (by omega)]
    · split
      · rw [if_pos (by omega)]
      · split
        · rw [if_pos (by omega)]
        · split
          · rw [if_pos (by omega)]
          · rw [if_neg (by omega)]
theorem x_bandsFor {g : GS_} {P L mem : Nat} (hm : gfi g 161 P = nI mem) (hl : L < 100000) (hml : mem < 100000) : f5_bandsFor P (nI L) g = some (nI (bz L mem), g) := by
  have e1 := x_isCoarse hm hl hml
  have e2 : nI L / nI 4 = nI (L / 4) := div_nI (by omega) (by omega) (by omega)
  have hf : FU_ = 19995 + 5 := rfl
  rw [bz_b16]
  by_cases h : bdz L mem = 0
  · have e3 := x_bandsLoop hm (L := L / 4) (by omega) hml 19995
    rw [if_pos h]
    simp (disch := first | with_reducible assumption | omega | (simp only [MI_sai_iff, MI_sfi_iff]; with_reducible assumption)) only [li, ↓lr_, ↓bd_m, ↓oc_m, ↓reduceIte, bi_0, bi_0n, bi_1, bi_1n, not_true_eq_false, not_false_eq_true, Nat.reduceAdd, Nat.reduceMul, nI_mul, nI_add, inb_T, ix_nI, le_T, le_F, lt_T, lt_F, eq_F, f5_bandsFor, neg_eq, e1, bi, eq_true h, f5_bandsFor_b22, e2, hf, e3]
  · have e3 := x_bandsLoop hm (L := L) (by omega) hml 19995
    rw [if_neg h]
    simp (disch := first | with_reducible assumption | omega | (simp only [MI_sai_iff, MI_sfi_iff]; with_reducible assumption)) only [li, ↓lr_, ↓bd_m, ↓oc_m, ↓reduceIte, bi_0, bi_0n, bi_1, bi_1n, not_true_eq_false, not_false_eq_true, Nat.reduceAdd, Nat.reduceMul, nI_mul, nI_add, inb_T, ix_nI, le_T, le_F, lt_T, lt_F, eq_F, f5_bandsFor, neg_eq, e1, bi, eq_false h, f5_bandsFor_b22, hf, e3]
def tkV (sp mem : Nat) (v : Int32) : Nat := if v = -nI 1 then 0 else sp + bz (tn v) mem
theorem x_ticksFor {g : GS_} {P sp mem : Nat} (hs : gfi g 160 P = nI sp) (hm : gfi g 161 P = nI mem) (hml : mem < 100000) {v : Int32} (hv : v = -nI 1 ∨ ∃ L, L < 100000 ∧ v = nI L) : f5_ticksFor P v g = some (nI (tkV sp mem v), g) := by
  unfold tkV
  rcases hv with rfl | ⟨L, hL, rfl⟩
  · rw [if_pos rfl]
    simp (disch := first | with_reducible assumption | omega | (simp only [MI_sai_iff, MI_sfi_iff]; with_reducible assumption)) only [li, ↓lr_, ↓bd_m, ↓oc_m, ↓reduceIte, bi_0, bi_0n, bi_1, bi_1n, not_true_eq_false, not_false_eq_true, Nat.reduceAdd, Nat.reduceMul, nI_mul, nI_add, inb_T, ix_nI, le_T, le_F, lt_T, lt_F, eq_F, f5_ticksFor]
  · have e := x_bandsFor hm hL hml
    have hn := neg_eq (n := L) (k := 1) (by omega) (by omega) (by omega)
    rw [if_neg (by rw [hn]; exact id), tn_nI (by omega)]
    simp (disch := first | with_reducible assumption | omega | (simp only [MI_sai_iff, MI_sfi_iff]; with_reducible assumption)) only [li, ↓lr_, ↓bd_m, ↓oc_m, ↓reduceIte, bi_0, bi_0n, bi_1, bi_1n, not_true_eq_false, not_false_eq_true, Nat.reduceAdd, Nat.reduceMul, nI_mul, nI_add, inb_T, ix_nI, le_T, le_F, lt_T, lt_F, eq_F, f5_ticksFor, neg_eq, e, hs]
theorem x_sheetOfCopy {g : GS_} {Q : Nat} {a l : Nat → Int32} {j x : Nat} (hP : PlV g Q a l j) (hJ : JobPl a l j) (hx : x < 1000000) : f4_sheetOfCopy Q (nI x) g = some (nI (sT a j x), g) := by
  obtain ⟨⟨c1, c2, c3⟩, ⟨d1, d2⟩, -, -, -, -, -, s1, s2, -⟩ := Jn hJ
  obtain ⟨-, -, -, -, q1, q2, q3, q4, q5, q6, q7, q8, q9, -⟩ := hP
  rw [c1] at q1
  rw [d1] at q2
  unfold sT tz
  by_cases h : jN a j 1 = 1
  · rw [h] at q2
    have e : jrem (nI x) (nI (sSC a j)) = nI (x % sSC a j) := rem_nI (by omega) (by omega) (by omega)
    rw [if_pos h]
    simp (disch := first | with_reducible assumption | omega | (simp only [MI_sai_iff, MI_sfi_iff]; with_reducible assumption)) only [li, ↓lr_, ↓bd_m, ↓oc_m, ↓reduceIte, bi_0, bi_0n, bi_1, bi_1n, not_true_eq_false, not_false_eq_true, Nat.reduceAdd, Nat.reduceMul, nI_mul, nI_add, inb_T, ix_nI, le_T, le_F, lt_T, lt_F, eq_F, f4_sheetOfCopy, q9, q1, q2, e]
  · have e : nI x / nI (jN a j 0) = nI (x / jN a j 0) := div_nI (by omega) (by omega) (by omega)
    rw [if_neg h]
    simp (disch := first | with_reducible assumption | omega | (simp only [MI_sai_iff, MI_sfi_iff]; with_reducible assumption)) only [li, ↓lr_, ↓bd_m, ↓oc_m, ↓reduceIte, bi_0, bi_0n, bi_1, bi_1n, not_true_eq_false, not_false_eq_true, Nat.reduceAdd, Nat.reduceMul, nI_mul, nI_add, inb_T, ix_nI, le_T, le_F, lt_T, lt_F, eq_F, f4_sheetOfCopy, q9, q1, q2, e]
theorem x_sheets {g : GS_} {Q : Nat} {a l : Nat → Int32} {j : Nat} (hP : PlV g Q a l j) (hJ : JobPl a l j) : f4_sheets Q g = some (nI (sSH a j), g) := by
  obtain ⟨⟨c1, c2, c3⟩, -⟩ := Jn hJ
  obtain ⟨-, -, -, -, q1, q2, q3, q4, q5, q6, q7, q8, q9, -⟩ := hP
  rw [c1] at q1
  simp (disch := first | with_reducible assumption | omega | (simp only [MI_sai_iff, MI_sfi_iff]; with_reducible assumption)) only [li, ↓lr_, ↓bd_m, ↓oc_m, ↓reduceIte, bi_0, bi_0n, bi_1, bi_1n, not_true_eq_false, not_false_eq_true, Nat.reduceAdd, Nat.reduceMul, nI_mul, nI_add, inb_T, ix_nI, le_T, le_F, lt_T, lt_F, eq_F, f4_sheets, q1, q9]
  rfl
theorem x_hasSide {g : GS_} {Q : Nat} {a l : Nat → Int32} {j : Nat} (hP : PlV g Q a l j) (v : Int32) : f4_hasSide Q v g = some (bi (vl v (sdz (jN a j 3) (jN a j 2))), g) := by
  obtain ⟨-, -, -, -, q1, q2, q3, q4, q5, q6, q7, q8, q9, -⟩ := hP
  have hs := sdz_pos (jN a j 3) (jN a j 2)
  by_cases h0 : v = nI 0
  · subst h0
    have e : vl (nI 0) (sdz (jN a j 3) (jN a j 2)) = True := eq_true (vl_of (by omega) (by omega))
    simp (disch := first | with_reducible assumption | omega | (simp only [MI_sai_iff, MI_sfi_iff]; with_reducible assumption)) only [li, ↓lr_, ↓bd_m, ↓oc_m, ↓reduceIte, bi_0, bi_0n, bi_1, bi_1n, not_true_eq_false, not_false_eq_true, Nat.reduceAdd, Nat.reduceMul, nI_mul, nI_add, inb_T, ix_nI, le_T, le_F, lt_T, lt_F, eq_F, f4_hasSide, f4_hasSide_b16, e, bi]
  · by_cases h1 : v = nI 1
    · subst h1
      by_cases h2 : sdz (jN a j 3) (jN a j 2) = 1
      · have e : vl (nI 1) (sdz (jN a j 3) (jN a j 2)) = False := eq_false (fun q => by
          have := (vl_nI q).2
          rw [tn_nI (by omega)] at this
          omega)
        simp (disch := first | with_reducible assumption | omega | (simp only [MI_sai_iff, MI_sfi_iff]; with_reducible assumption)) only [li, ↓lr_, ↓bd_m, ↓oc_m, ↓reduceIte, bi_0, bi_0n, bi_1, bi_1n, not_true_eq_false, not_false_eq_true, Nat.reduceAdd, Nat.reduceMul, nI_mul, nI_add, inb_T, ix_nI, le_T, le_F, lt_T, lt_F, eq_F, f4_hasSide, eq_false h0, q7, h2, f4_hasSide_b20, e, bi]
        rw [h2] at e
        rw [if_neg (by rw [e]; exact id)]
      · have e : vl (nI 1) (sdz (jN a j 3) (jN a j 2)) = True := eq_true (vl_of (by omega) (by omega))
        simp (disch := first | with_reducible assumption | omega | (simp only [MI_sai_iff, MI_sfi_iff]; with_reducible assumption)) only [li, ↓lr_, ↓bd_m, ↓oc_m, ↓reduceIte, bi_0, bi_0n, bi_1, bi_1n, not_true_eq_false, not_false_eq_true, Nat.reduceAdd, Nat.reduceMul, nI_mul, nI_add, inb_T, ix_nI, le_T, le_F, lt_T, lt_F, eq_F, f4_hasSide, eq_false h0, q7, eq_false h2, f4_hasSide_b16, e, bi]
    · have e : vl v (sdz (jN a j 3) (jN a j 2)) = False := eq_false (fun q => by
        obtain ⟨w1, w2⟩ := vl_nI q
        rcases (show tn v = 0 ∨ tn v = 1 by omega) with w | w
        · exact h0 (by rw [w1, w])
        · exact h1 (by rw [w1, w]))
      simp (disch := first | with_reducible assumption | omega | (simp only [MI_sai_iff, MI_sfi_iff]; with_reducible assumption)) only [li, ↓lr_, ↓bd_m, ↓oc_m, ↓reduceIte, bi_0, bi_0n, bi_1, bi_1n, not_true_eq_false, not_false_eq_true, Nat.reduceAdd, Nat.reduceMul, nI_mul, nI_add, inb_T, ix_nI, le_T, le_F, lt_T, lt_F, eq_F, f4_hasSide, eq_false h0, eq_false h1, f4_hasSide_b20, e, bi]
theorem cLV_cases {a l : Nat → Int32} {j t s : Nat} (hJ : JobPl a l j) (hD : DocOk a (jN a j 6)) : cLV a l j t s = -nI 1 ∨ ∃ L, L < 100000 ∧ cLV a l j t s = nI L := by
  unfold cLV
  split
  · refine Or.inr ⟨_, ?_, rfl⟩
    have h1 : ∀ q, wgt a (jN a j 6) q ≤ 1000 := fun q => wgt_le hD
    have h2 := ldp_le (f := sPGc a l j t s) (per := psz (jN a j 3)) h1 (psz (jN a j 3))
    have h3 : psz (jN a j 3) ≤ 4 := by
      have := (Jn hJ).2.2.2.1.2
      unfold psz
      split <;> omega
    unfold cLD
    omega
  · exact Or.inl rfl
theorem x_loadOn {g : GS_} {Q : Nat} {a l : Nat → Int32} {j t s : Nat} (hP : PlV g Q a l j) (hJ : JobPl a l j) (ht : t < sSC a j) (hs : s < 2) : f4_loadOn Q (nI t) (nI s) g = some (if s < sdz (jN a j 3) (jN a j 2) then cLV a l j t s else -nI 1, g) := by
  have e0 := x_hasSide hP (nI s)
  have hsd := sdz_pos (jN a j 3) (jN a j 2)
  have hsc := (Jn hJ).2.2.2.2.2.2.2.2.1
  obtain ⟨-, -, -, -, q1, q2, q3, q4, q5, q6, q7, q8, q9, A, r1, r2, r3, r4, r5⟩ := hP
  by_cases h : s < sdz (jN a j 3) (jN a j 2)
  · have e1 : vl (nI s) (sdz (jN a j 3) (jN a j 2)) = True := eq_true (vl_of h (by omega))
    have r6 := r5 t s ht h
    rw [if_pos h]
    by_cases h2 : sdz (jN a j 3) (jN a j 2) = 1
    · rw [h2] at r6 r4 h e0
      have hs0 : s = 0 := by omega
      subst hs0
      have e1' : vl (nI 0) 1 = True := eq_true (vl_of (by omega) (by omega))
      have r6' : gai g 20 A t = cLV a l j t 0 := by rw [← r6]; congr 1; omega
      simp (disch := first | with_reducible assumption | omega | (simp only [MI_sai_iff, MI_sfi_iff]; with_reducible assumption)) only [li, ↓lr_, ↓bd_m, ↓oc_m, ↓reduceIte, bi_0, bi_0n, bi_1, bi_1n, not_true_eq_false, not_false_eq_true, Nat.reduceAdd, Nat.reduceMul, nI_mul, nI_add, inb_T, ix_nI, le_T, le_F, lt_T, lt_F, eq_F, f4_loadOn, e0, e1', bi, q7, h2, f4_loadOn_b26, r1, r4, ofN, r6', not_true_eq_false]
    · have h3 : sdz (jN a j 3) (jN a j 2) = 2 := by omega
      rw [h3] at r6 r4 e0
      have e1' : vl (nI s) 2 = True := eq_true (vl_of (by omega) (by omega))
      have q7' : gfi g 137 Q = nI 1 := by
        rw [q7]
        unfold bi
        rw [if_pos (by omega)]
        rfl
      simp (disch := first | with_reducible assumption | omega | (simp only [MI_sai_iff, MI_sfi_iff]; with_reducible assumption)) only [li, ↓lr_, ↓bd_m, ↓oc_m, ↓reduceIte, bi_0, bi_0n, bi_1, bi_1n, not_true_eq_false, not_false_eq_true, Nat.reduceAdd, Nat.reduceMul, nI_mul, nI_add, inb_T, ix_nI, le_T, le_F, lt_T, lt_F, eq_F, f4_loadOn, e0, e1', bi, q7', f4_loadOn_b26, r1, r4, ofN, r6]
  · have e1 : vl (nI s) (sdz (jN a j 3) (jN a j 2)) = False := eq_false (fun q => by
      have := (vl_nI q).2
      rw [tn_nI (by omega)] at this
      omega)
    rw [if_neg h]
    simp (disch := first | with_reducible assumption | omega | (simp only [MI_sai_iff, MI_sfi_iff]; with_reducible assumption)) only [li, ↓lr_, ↓bd_m, ↓oc_m, ↓reduceIte, bi_0, bi_0n, bi_1, bi_1n, not_true_eq_false, not_false_eq_true, Nat.reduceAdd, Nat.reduceMul, nI_mul, nI_add, inb_T, ix_nI, le_T, le_F, lt_T, lt_F, eq_F, f4_loadOn, e0, e1, bi]
/-- the ticks of a sheet -/
theorem x_ticks {P : Nat} {a l : Nat → Int32} {j x : Nat} (hJ : JobPl a l j) (hD : DocOk a (jN a j 6)) :
    (tkV (pN a P 0) (pN a P 1) (cLV a l j (sT a j x) 0) + tkV (pN a P 0) (pN a P 1) (if 1 < sdz (jN a j 3) (jN a j 2) then cLV a l j (sT a j x) 1 else -nI 1)) = sTK a l j x P := by
  have hsd := sdz_pos (jN a j 3) (jN a j 2)
  have one : ∀ s, (if sBD a l j x s P = 0 then 0 else pN a P 0 + sBD a l j x s P) = tkV (pN a P 0) (pN a P 1) (cLV a l j (sT a j x) s) := by
    intro s
    have e : sBL a l j x s = blb (sPGc a l j (sT a j x) s) (psz (jN a j 3)) := rfl
    have e2 : sLD a l j x s = cLD a l j (sT a j x) s := rfl
    have hc := cLV_cases (t := sT a j x) (s := s) hJ hD
    unfold sBD
    rw [e, e2]
    unfold tkV
    unfold cLV at hc ⊢
    by_cases hb : blb (sPGc a l j (sT a j x) s) (psz (jN a j 3)) = 0
    · rw [if_pos hb, if_pos hb] at *
      have hL : cLD a l j (sT a j x) s < 2147483648 := by
        have h1 : ∀ q, wgt a (jN a j 6) q ≤ 1000 := fun q => wgt_le hD
        have h2 := ldp_le (f := sPGc a l j (sT a j x) s) (per := psz (jN a j 3)) h1 (psz (jN a j 3))
        have h3 : psz (jN a j 3) ≤ 4 := by
          have := (Jn hJ).2.2.2.1.2
          unfold psz
          split <;> omega
        unfold cLD
        omega
      have hz := bz_le (cLD a l j (sT a j x) s) (pN a P 1)
      rw [if_neg (by omega), if_neg (by rw [neg_eq hL (by omega) (by omega)]; exact id), tn_nI hL]
    · rw [if_neg hb, if_pos rfl, if_neg hb, if_pos rfl]
  unfold sTK
  rcases (show sdz (jN a j 3) (jN a j 2) = 1 ∨ sdz (jN a j 3) (jN a j 2) = 2 by omega) with h | h
  · have z : tkV (pN a P 0) (pN a P 1) (-nI 1) = 0 := if_pos rfl
    rw [h, if_neg (by omega), tkp_s, tkp_0, ← one 0, z]
    simp only [Nat.zero_add, Nat.add_zero]
  · rw [h, if_pos (by omega), tkp_s, tkp_s, tkp_0, ← one 0, ← one 1]
    simp only [Nat.zero_add, Nat.add_zero]
