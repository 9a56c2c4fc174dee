/-! the class: jobs, printers, supply, the best job -/
theorem bi_eq {c : Prop} [Decidable c] : (bi c = nI 0) = ¬ c := by
  unfold bi
  split
  · rename_i h
    exact propext ⟨fun e => by exact absurd e (by decide), fun e => absurd h e⟩
  · rename_i h
    exact propext ⟨fun _ => h, fun _ => rfl⟩
theorem vl_T {k n : Nat} (h : k < n) (hn : n ≤ 2147483648) : vl (nI k) n = True := eq_true (vl_of h hn)
theorem vl_F {k n : Nat} (h : n ≤ k) (hk : k < 2147483648) : vl (nI k) n = False := eq_false fun q => by
  have := (vl_nI q).2
  rw [tn_nI hk] at this
  omega
/-- a number below nought, or a natural one -/
theorem int_cases (v : Int32) : (v < nI 0) ∨ ∃ k : Nat, k < 2147483648 ∧ v = nI k := by
  by_cases h : 0 ≤ v.toInt
  · exact Or.inr ⟨tn v, tn_lt, of_tn h⟩
  · refine Or.inl ?_
    rw [ltI, toIntI (by omega)]
    omega
theorem vl_neg {v : Int32} {n : Nat} (h : v < nI 0) : vl v n = False := eq_false fun q => by
  rw [ltI, toIntI (by omega)] at h
  have := q.1
  omega
theorem x_jobAt {g : GS_} {S n : Nat} (hX : XSp g S) (hn : gfi g 259 S = nI n) (hl : n ≤ 24) (v : Int32) : f8_jobAt S v g = some (if vl v n then gar g 23 S (tn v) else none, g) := by
  obtain ⟨s1, s2, s3, s4, -⟩ := hX
  rcases int_cases v with h | ⟨k, hk, rfl⟩
  · rw [if_neg (by rw [vl_neg h]; exact id)]
    simp (disch := first | with_reducible assumption | omega | (simp only [MI_sai_iff, MI_sfi_iff]; with_reducible assumption)) only [li, ↓lr_, ↓bd_m, ↓oc_m, ↓reduceIte, bi_0, bi_0n, bi_1, bi_1n, not_true_eq_false, not_false_eq_true, Nat.reduceAdd, Nat.reduceMul, nI_mul, nI_add, inb_T, ix_nI, le_T, le_F, lt_T, lt_F, eq_F, f8_jobAt, eq_true h, f8_jobAt_b30]
  · by_cases h : k < n
    · rw [if_pos (vl_of h (by omega)), tn_nI hk]
      simp (disch := first | with_reducible assumption | omega | (simp only [MI_sai_iff, MI_sfi_iff]; with_reducible assumption)) only [li, ↓lr_, ↓bd_m, ↓oc_m, ↓reduceIte, bi_0, bi_0n, bi_1, bi_1n, not_true_eq_false, not_false_eq_true, Nat.reduceAdd, Nat.reduceMul, nI_mul, nI_add, inb_T, ix_nI, le_T, le_F, lt_T, lt_F, eq_F, f8_jobAt, hn, s3, s4, ofN]
    · rw [if_neg (by rw [vl_F (by omega) hk]; exact id)]
      simp (disch := first | with_reducible assumption | omega | (simp only [MI_sai_iff, MI_sfi_iff]; with_reducible assumption)) only [li, ↓lr_, ↓bd_m, ↓oc_m, ↓reduceIte, bi_0, bi_0n, bi_1, bi_1n, not_true_eq_false, not_false_eq_true, Nat.reduceAdd, Nat.reduceMul, nI_mul, nI_add, inb_T, ix_nI, le_T, le_F, lt_T, lt_F, eq_F, f8_jobAt, hn, f8_jobAt_b30]
theorem x_printerAt {g : GS_} {S n : Nat} (hX : XSp g S) (hn : gfi g 261 S = nI n) (hl : n ≤ 3) (v : Int32) : f8_printerAt S v g = some (if vl v n then some (3 * S + tn v) else none, g) := by
  obtain ⟨s1, s2, s3, s4, s5, s6, s7, s8, s9, s10, s11, s12, s13, s14, s15, s16, s17, s18, s19, s20, s21⟩ := hX
  rcases int_cases v with h | ⟨k, hk, rfl⟩
  · rw [if_neg (by rw [vl_neg h]; exact id)]
    simp (disch := first | with_reducible assumption | omega | (simp only [MI_sai_iff, MI_sfi_iff]; with_reducible assumption)) only [li, ↓lr_, ↓bd_m, ↓oc_m, ↓reduceIte, bi_0, bi_0n, bi_1, bi_1n, not_true_eq_false, not_false_eq_true, Nat.reduceAdd, Nat.reduceMul, nI_mul, nI_add, inb_T, ix_nI, le_T, le_F, lt_T, lt_F, eq_F, f8_printerAt, eq_true h, f8_printerAt_b25, f8_printerAt_b26]
  · by_cases h : k < n
    · have e := (s21 k (by omega)).1
      rw [if_pos (vl_of h (by omega)), tn_nI hk]
      have e1 : (nI 1 = nI 0) = False := by decide
      simp (disch := first | with_reducible assumption | omega | (simp only [MI_sai_iff, MI_sfi_iff]; with_reducible assumption)) only [li, ↓lr_, ↓bd_m, ↓oc_m, ↓reduceIte, bi_0, bi_0n, bi_1, bi_1n, not_true_eq_false, not_false_eq_true, Nat.reduceAdd, Nat.reduceMul, nI_mul, nI_add, inb_T, ix_nI, le_T, le_F, lt_T, lt_F, eq_F, f8_printerAt, hn, s5, s6, ofN, f8_printerAt_b26, e1, e]
    · rw [if_neg (by rw [vl_F (by omega) hk]; exact id)]
      simp (disch := first | with_reducible assumption | omega | (simp only [MI_sai_iff, MI_sfi_iff]; with_reducible assumption)) only [li, ↓lr_, ↓bd_m, ↓oc_m, ↓reduceIte, bi_0, bi_0n, bi_1, bi_1n, not_true_eq_false, not_false_eq_true, Nat.reduceAdd, Nat.reduceMul, nI_mul, nI_add, inb_T, ix_nI, le_T, le_F, lt_T, lt_F, eq_F, f8_printerAt, hn, f8_printerAt_b25, f8_printerAt_b26]
theorem x_sheetsIn {g : GS_} {S p : Nat} (hX : XSp g S) (hp : p < 3) {z : Nat} (hz : z < 3) : f5_sheetsIn (3 * S + p) (nI z) g = some (gai g 20 (bb S + (6 + p)) z, g) := by
  obtain ⟨s1, s2, s3, s4, s5, s6, s7, s8, s9, s10, s11, s12, s13, s14, s15, s16, s17, s18, s19, s20, s21⟩ := hX
  obtain ⟨e1, e2, e3⟩ := s21 p hp
  simp (disch := first | with_reducible assumption | omega | (simp only [MI_sai_iff, MI_sfi_iff]; with_reducible assumption)) only [li, ↓lr_, ↓bd_m, ↓oc_m, ↓reduceIte, bi_0, bi_0n, bi_1, bi_1n, not_true_eq_false, not_false_eq_true, Nat.reduceAdd, Nat.reduceMul, nI_mul, nI_add, inb_T, ix_nI, le_T, le_F, lt_T, lt_F, eq_F, f5_sheetsIn, e2, e3, ofN]
theorem x_changeTray {g : GS_} {S p : Nat} (hX : XSp g S) (hp : p < 3) {z : Nat} (hz : z < 3) (v : Int32) : f5_changeTray (3 * S + p) (nI z) v g = some ((), sai g 20 (bb S + (6 + p)) z v) := by
  obtain ⟨s1, s2, s3, s4, s5, s6, s7, s8, s9, s10, s11, s12, s13, s14, s15, s16, s17, s18, s19, s20, s21⟩ := hX
  obtain ⟨e1, e2, e3⟩ := s21 p hp
  simp (disch := first | with_reducible assumption | omega | (simp only [MI_sai_iff, MI_sfi_iff]; with_reducible assumption)) only [li, ↓lr_, ↓bd_m, ↓oc_m, ↓reduceIte, bi_0, bi_0n, bi_1, bi_1n, not_true_eq_false, not_false_eq_true, Nat.reduceAdd, Nat.reduceMul, nI_mul, nI_add, inb_T, ix_nI, le_T, le_F, lt_T, lt_F, eq_F, f5_changeTray, e2, e3, ofN]
theorem x_printedFor {g : GS_} {S u : Nat} (hX : XSp g S) (hu : u < 6) : f8_printedFor S (nI u) g = some (gai g 20 (bb S + 3) u, g) := by
  obtain ⟨s1, s2, s3, s4, s5, s6, s7, s8, s9, s10, s11, s12, s13, s14, s15, s16, s17, s18, s19, s20, s21⟩ := hX
  simp (disch := first | with_reducible assumption | omega | (simp only [MI_sai_iff, MI_sfi_iff]; with_reducible assumption)) only [li, ↓lr_, ↓bd_m, ↓oc_m, ↓reduceIte, bi_0, bi_0n, bi_1, bi_1n, not_true_eq_false, not_false_eq_true, Nat.reduceAdd, Nat.reduceMul, nI_mul, nI_add, inb_T, ix_nI, le_T, le_F, lt_T, lt_F, eq_F, f8_printedFor, s14, s15, ofN]
theorem x_quotaOf {g : GS_} {S u : Nat} (hX : XSp g S) (hu : u < 6) : f8_quotaOf S (nI u) g = some (gai g 20 (bb S + 2) u, g) := by
  obtain ⟨s1, s2, s3, s4, s5, s6, s7, s8, s9, s10, s11, s12, s13, s14, s15, s16, s17, s18, s19, s20, s21⟩ := hX
  simp (disch := first | with_reducible assumption | omega | (simp only [MI_sai_iff, MI_sfi_iff]; with_reducible assumption)) only [li, ↓lr_, ↓bd_m, ↓oc_m, ↓reduceIte, bi_0, bi_0n, bi_1, bi_1n, not_true_eq_false, not_false_eq_true, Nat.reduceAdd, Nat.reduceMul, nI_mul, nI_add, inb_T, ix_nI, le_T, le_F, lt_T, lt_F, eq_F, f8_quotaOf, s12, s13, ofN]
def XJ (g : GS_) (S : Nat) : Prop := ∀ j J, j < 24 → gar g 23 S j = some J → gfi g 32 J = nI j ∧ ∀ j', j' < 24 → gar g 23 S j' = some J → j' = j
theorem XJ_XS {g : GS_} (h : XS g) {S : Nat} (hS : S < 4) : XJ g S := fun j J hj hJ => ⟨(h.2.2 S j J hS hj hJ).2.1, fun j' hj' hJ' => ((h.2.2 S j J hS hj hJ).2.2 S j' hS hj' hJ').2⟩
/-- all that is known of a spool and the numbers that it says -/
def SpO (g : GS_) (S : Nat) (a l : Nat → Int32) (F : List Nat) : Prop := (S < 4 ∧ XJ g S) ∧ XSp g S ∧ Iv0 a l ∧ XT0 g S a l ∧ XD g S a F
theorem SpO_n4 {g : GS_} {S : Nat} {a l : Nat → Int32} {F : List Nat} (h : SpO g S a l F) : gfi g 259 S = nI (tn (a 4)) ∧ tn (a 4) ≤ 24 := ⟨h.2.2.2.1.1.2.1.trans (vl_nI h.2.2.1.2.1).1, Iv0_j h.2.2.1⟩
theorem SpO_n5 {g : GS_} {S : Nat} {a l : Nat → Int32} {F : List Nat} (h : SpO g S a l F) : gfi g 261 S = nI (tn (a 5)) ∧ tn (a 5) ≤ 3 := ⟨h.2.2.2.1.1.2.2.1.trans (vl_nI h.2.2.1.2.2.1).1, Iv0_p h.2.2.1⟩
theorem x_rankAt {g : GS_} {S : Nat} {a l : Nat → Int32} {F : List Nat} (h : SpO g S a l F) {j J : Nat} (hj : j < tn (a 4)) (hJ : gar g 23 S j = some J) : f1_rankAt J (gfi g 271 S) (gfi g 269 S) g = some (rk a j, g) := by
  obtain ⟨hS, hX, h0, hT, hD⟩ := h
  obtain ⟨J', Q, q1, q2, q3, q4⟩ := hT.2.2.2.2.1 j hj
  rw [hJ] at q1
  cases q1
  obtain ⟨d1, d2, d3, d4⟩ := hD.1 j J hj hJ
  have t1 : gfi g 269 S = a 1 := hT.1.2.2.2.1
  have t2 : gfi g 271 S = a 0 := hD.2.2.2.2.1
  have k1 : (nI 1 ≤ a 1) = True := eq_true (by rw [leI, toIntI (by omega)]; have := h0.2.2.2.1.1; omega)
  have k2 : (a 1 = nI 0) = False := eq_false (Iv0_1 h0)
  simp (disch := first | with_reducible assumption | omega | (simp only [MI_sai_iff, MI_sfi_iff]; with_reducible assumption)) only [li, ↓lr_, ↓bd_m, ↓oc_m, ↓reduceIte, bi_0, bi_0n, bi_1, bi_1n, not_true_eq_false, not_false_eq_true, Nat.reduceAdd, Nat.reduceMul, nI_mul, nI_add, inb_T, ix_nI, le_T, le_F, lt_T, lt_F, eq_F, f1_rankAt, t1, t2, k1, k2, f1_rankAt_b17, q4, d3, rk]
theorem x_hasSupply {g : GS_} {S : Nat} {a l : Nat → Int32} {F : List Nat} (h : SpO g S a l F) {j p Q : Nat} (hj : j < tn (a 4)) (hp : p < tn (a 5)) (hQ : PlV g Q a l j) :
    f8_hasSupply S (some (3 * S + p)) (some Q) g = some (bi (¬ a (76 + 10 * p + (3 + dN a (jN a j 6) 1)) ≤ nI 0 ∧ ¬ a (14 + jN a j 5) ≤ a (20 + jN a j 5)), g) := by
  obtain ⟨hS, hX, h0, hT, hD⟩ := h
  have hp3 : p < 3 := by have := Iv0_p h0; omega
  have hJ := h0.2.2.2.2.2.1 j hj
  have hDoc := Iv0_dj h0 hj
  obtain ⟨-, -, -, -, ⟨u1, u2⟩, -⟩ := Jn hJ
  obtain ⟨q1, ⟨D, p2, p3, p4⟩, -, -, -, -, -, -, p5, -⟩ := hQ
  have z1 := vl_nI hDoc.1.2.2.1
  have e1 : gfi g 1 D = nI (dN a (jN a j 6) 1) := (p4 1 (by omega)).trans z1.1
  have hz : dN a (jN a j 6) 1 < 3 := z1.2
  rw [u1] at p5
  have e2 := x_sheetsIn hX hp3 hz
  have e3 := x_printedFor hX u2
  have e4 := x_quotaOf hX u2
  rw [(hD.2.1 p hp).1 _ hz] at e2
  rw [hD.2.2.2.1 _ u2] at e3
  rw [(hT.2.2.1 _ u2).2] at e4
  by_cases c1 : a (76 + 10 * p + (3 + dN a (jN a j 6) 1)) ≤ nI 0
  · simp (disch := first | with_reducible assumption | omega | (simp only [MI_sai_iff, MI_sfi_iff]; with_reducible assumption)) only [li, ↓lr_, ↓bd_m, ↓oc_m, ↓reduceIte, bi_0, bi_0n, bi_1, bi_1n, not_true_eq_false, not_false_eq_true, Nat.reduceAdd, Nat.reduceMul, nI_mul, nI_add, inb_T, ix_nI, le_T, le_F, lt_T, lt_F, eq_F, f8_hasSupply, p2, e1, e2, eq_true c1, f8_hasSupply_b37, bi, false_and]
  · by_cases c2 : a (14 + jN a j 5) ≤ a (20 + jN a j 5)
    · simp (disch := first | with_reducible assumption | omega | (simp only [MI_sai_iff, MI_sfi_iff]; with_reducible assumption)) only [li, ↓lr_, ↓bd_m, ↓oc_m, ↓reduceIte, bi_0, bi_0n, bi_1, bi_1n, not_true_eq_false, not_false_eq_true, Nat.reduceAdd, Nat.reduceMul, nI_mul, nI_add, inb_T, ix_nI, le_T, le_F, lt_T, lt_F, eq_F, f8_hasSupply, p2, e1, e2, eq_false c1, p5, e3, e4, eq_true c2, f8_hasSupply_b37, bi, and_false]
    · simp (disch := first | with_reducible assumption | omega | (simp only [MI_sai_iff, MI_sfi_iff]; with_reducible assumption)) only [li, ↓lr_, ↓bd_m, ↓oc_m, ↓reduceIte, bi_0, bi_0n, bi_1, bi_1n, not_true_eq_false, not_false_eq_true, Nat.reduceAdd, Nat.reduceMul, nI_mul, nI_add, inb_T, ix_nI, le_T, le_F, lt_T, lt_F, eq_F, f8_hasSupply, p2, e1, e2, eq_false c1, p5, e3, e4, eq_false c2, bi, and_self]
theorem x_isPrintable {g : GS_} {S : Nat} {a l : Nat → Int32} {F : List Nat} (h : SpO g S a l F) {j p J : Nat} (hj : j < tn (a 4)) (hp : p < tn (a 5)) (hJ : gar g 23 S j = some J) :
    f8_isPrintable S (some (3 * S + p)) (some J) g = some (bi (prt a j p), g) := by
  obtain ⟨J', Q, q1, q2, q3, q4⟩ := h.2.2.2.1.2.2.2.2.1 j hj
  rw [hJ] at q1
  cases q1
  have e := x_hasSupply h hj hp q3
  obtain ⟨hS, hX, h0, hT, hD⟩ := h
  obtain ⟨d1, d2, d3, d4⟩ := hD.1 j J hj hJ
  have b1 : gfi g 162 (3 * S + p) = a (76 + 10 * p + 2) := (hT.2.2.2.2.2 p hp).2.2
  have hb := vl_nI (h0.2.2.2.2.2.2 p hp).2.2.2.2
  have hb2 : tn (a (76 + 10 * p + 2)) < 2 := hb.2
  have p7 : gfi g 137 Q = bi (¬ sdz (jN a j 3) (jN a j 2) = 1) := by obtain ⟨-, -, -, -, -, -, -, -, -, -, p7, -⟩ := q3; exact p7
  have fin : f8_isPrintable_b24 S (some (3 * S + p)) (some J) g = some (bi (¬ a (76 + 10 * p + (3 + dN a (jN a j 6) 1)) ≤ nI 0 ∧ ¬ a (14 + jN a j 5) ≤ a (20 + jN a j 5)), g) := by
    simp (disch := first | with_reducible assumption | omega | (simp only [MI_sai_iff, MI_sfi_iff]; with_reducible assumption)) only [li, ↓lr_, ↓bd_m, ↓oc_m, ↓reduceIte, bi_0, bi_0n, bi_1, bi_1n, not_true_eq_false, not_false_eq_true, Nat.reduceAdd, Nat.reduceMul, nI_mul, nI_add, inb_T, ix_nI, le_T, le_F, lt_T, lt_F, eq_F, f8_isPrintable_b24, q2, e, bi_eq, f8_isPrintable_b40]
    by_cases c : (¬ a (76 + 10 * p + (3 + dN a (jN a j 6) 1)) ≤ nI 0 ∧ ¬ a (14 + jN a j 5) ≤ a (20 + jN a j 5))
    · rw [if_neg (fun q => q c)]
      unfold bi
      rw [if_pos c]
      rfl
    · rw [if_pos c]
      unfold bi
      rw [if_neg c]
      rfl
  have e10 : (nI 1 = nI 0) = False := by decide
  by_cases c1 : a (106 + 13 * j + 9) = nI 0
  · by_cases c2 : a (76 + 10 * p + 2) = nI 1
    · have : (prt a j p) = (¬ a (76 + 10 * p + (3 + dN a (jN a j 6) 1)) ≤ nI 0 ∧ ¬ a (14 + jN a j 5) ≤ a (20 + jN a j 5)) := by simp only [prt, c1, c2, true_or, true_and]
      simp (disch := first | with_reducible assumption | omega | (simp only [MI_sai_iff, MI_sfi_iff]; with_reducible assumption)) only [li, ↓lr_, ↓bd_m, ↓oc_m, ↓reduceIte, bi_0, bi_0n, bi_1, bi_1n, not_true_eq_false, not_false_eq_true, Nat.reduceAdd, Nat.reduceMul, nI_mul, nI_add, inb_T, ix_nI, le_T, le_F, lt_T, lt_F, eq_F, f8_isPrintable, d1, c1, b1, c2, e10, fin, this]
    · have c2' : a (76 + 10 * p + 2) = nI 0 := by
        rcases (show tn (a (76 + 10 * p + 2)) = 0 ∨ tn (a (76 + 10 * p + 2)) = 1 by omega) with w | w
        · rw [hb.1, w]
        · exact absurd (by rw [hb.1, w]) c2
      by_cases c3 : sdz (jN a j 3) (jN a j 2) = 1
      · have : (prt a j p) = (¬ a (76 + 10 * p + (3 + dN a (jN a j 6) 1)) ≤ nI 0 ∧ ¬ a (14 + jN a j 5) ≤ a (20 + jN a j 5)) := by simp only [prt, c1, c3, or_true, true_and]
        simp (disch := first | with_reducible assumption | omega | (simp only [MI_sai_iff, MI_sfi_iff]; with_reducible assumption)) only [li, ↓lr_, ↓bd_m, ↓oc_m, ↓reduceIte, bi_0, bi_0n, bi_1, bi_1n, not_true_eq_false, not_false_eq_true, Nat.reduceAdd, Nat.reduceMul, nI_mul, nI_add, inb_T, ix_nI, le_T, le_F, lt_T, lt_F, eq_F, f8_isPrintable, d1, c1, b1, c2', q2, p7, bi_eq, eq_true c3, fin, this]
      · have : (prt a j p) = False := eq_false (fun q => by rcases q.1 with w | w; exact c2 w; exact c3 w)
        simp (disch := first | with_reducible assumption | omega | (simp only [MI_sai_iff, MI_sfi_iff]; with_reducible assumption)) only [li, ↓lr_, ↓bd_m, ↓oc_m, ↓reduceIte, bi_0, bi_0n, bi_1, bi_1n, not_true_eq_false, not_false_eq_true, Nat.reduceAdd, Nat.reduceMul, nI_mul, nI_add, inb_T, ix_nI, le_T, le_F, lt_T, lt_F, eq_F, f8_isPrintable, d1, c1, b1, c2', q2, p7, bi_eq, eq_false c3, f8_isPrintable_b40, this, bi]
  · have : (prt a j p) = False := eq_false (fun q => c1 q.2.1)
    simp (disch := first | with_reducible assumption | omega | (simp only [MI_sai_iff, MI_sfi_iff]; with_reducible assumption)) only [li, ↓lr_, ↓bd_m, ↓oc_m, ↓reduceIte, bi_0, bi_0n, bi_1, bi_1n, not_true_eq_false, not_false_eq_true, Nat.reduceAdd, Nat.reduceMul, nI_mul, nI_add, inb_T, ix_nI, le_T, le_F, lt_T, lt_F, eq_F, f8_isPrintable, d1, eq_false c1, f8_isPrintable_b40, this, bi]
/-- the class's job of a number -/
def jr (g : GS_) (S : Nat) (o : Option Nat) : Option Nat := match o with
  | none => none
  | some b => gar g 23 S b
def rr (a : Nat → Int32) (o : Option Nat) : Int32 := match o with
  | none => nI 0
  | some b => rk a b
theorem x_bestFor {g : GS_} {S : Nat} {a l : Nat → Int32} {F : List Nat} (h : SpO g S a l F) {p : Nat} (hp : p < tn (a 5)) : f8_bestFor S (some (3 * S + p)) g = some (jr g S (sBF a p), g) := by
  obtain ⟨n1, n2⟩ := SpO_n4 h
  have key : ∀ (f k : Nat), k ≤ tn (a 4) → tn (a 4) - k < f → f8_bestFor_b7 f S (some (3 * S + p)) (jr g S (bst (fun j => decide (prt a j p)) (rk a) k)) (rr a (bst (fun j => decide (prt a j p)) (rk a) k)) (nI k) g = some (jr g S (sBF a p), g) := by
    intro f
    induction f with
    | zero => intro k _ h2; omega
    | succ f ih =>
      intro k hk hf
      rw [f8_bestFor_b7.eq_2]
      by_cases he : k = tn (a 4)
      · subst he
        simp (disch := first | with_reducible assumption | omega | (simp only [MI_sai_iff, MI_sfi_iff]; with_reducible assumption)) only [li, ↓lr_, ↓bd_m, ↓oc_m, ↓reduceIte, bi_0, bi_0n, bi_1, bi_1n, not_true_eq_false, not_false_eq_true, Nat.reduceAdd, Nat.reduceMul, nI_mul, nI_add, inb_T, ix_nI, le_T, le_F, lt_T, lt_F, eq_F, n1]
        rfl
      · have hkl : k < tn (a 4) := by omega
        obtain ⟨J, Q, q1, -⟩ := h.2.2.2.1.2.2.2.2.1 k hkl
        have e1 := x_jobAt h.2.1 n1 n2 (nI k)
        rw [if_pos (vl_of hkl (by omega)), tn_nI (by omega), q1] at e1
        have e2 := x_isPrintable h hkl hp q1
        have e3 := x_rankAt h hkl q1
        have nx := ih (k + 1) (by omega) (by omega)
        rw [bst_s] at nx
        by_cases c1 : prt a k p
        · rw [if_pos (decide_eq_true c1)] at nx
          have c1' : (prt a k p) = True := eq_true c1
          cases hb : bst (fun j => decide (prt a j p)) (rk a) k with
          | none =>
            rw [hb] at nx
            rw [if_neg (by simp)] at nx
            have ej : jr g S (some k) = some J := q1
            rw [ej] at nx
            have er : rr a (some k) = rk a k := rfl
            rw [er] at nx
            simp (disch := first | with_reducible assumption | omega | (simp only [MI_sai_iff, MI_sfi_iff]; with_reducible assumption)) only [li, ↓lr_, ↓bd_m, ↓oc_m, ↓reduceIte, bi_0, bi_0n, bi_1, bi_1n, not_true_eq_false, not_false_eq_true, Nat.reduceAdd, Nat.reduceMul, nI_mul, nI_add, inb_T, ix_nI, le_T, le_F, lt_T, lt_F, eq_F, n1, e1, e2, c1', bi_eq, e3, jr, f8_bestFor_b64, f8_bestFor_b70, nx]
          | some b =>
            have hbl := (bst_lt hb).1
            obtain ⟨Jb, Qb, qb1, -⟩ := h.2.2.2.1.2.2.2.2.1 b (by omega)
            have ejb : jr g S (some b) = some Jb := qb1
            have erb : rr a (some b) = rk a b := rfl
            rw [hb] at nx
            by_cases c2 : rk a k ≤ rk a b
            · rw [if_pos ⟨rfl, c2⟩, ejb, erb] at nx
              simp (disch := first | with_reducible assumption | omega | (simp only [MI_sai_iff, MI_sfi_iff]; with_reducible assumption)) only [li, ↓lr_, ↓bd_m, ↓oc_m, ↓reduceIte, bi_0, bi_0n, bi_1, bi_1n, not_true_eq_false, not_false_eq_true, Nat.reduceAdd, Nat.reduceMul, nI_mul, nI_add, inb_T, ix_nI, le_T, le_F, lt_T, lt_F, eq_F, n1, e1, e2, c1', bi_eq, e3, ejb, erb, eq_true c2, f8_bestFor_b70, nx]
            · rw [if_neg (fun q => c2 q.2)] at nx
              have ej : jr g S (some k) = some J := q1
              rw [ej] at nx
              have er : rr a (some k) = rk a k := rfl
              rw [er] at nx
              simp (disch := first | with_reducible assumption | omega | (simp only [MI_sai_iff, MI_sfi_iff]; with_reducible assumption)) only [li, ↓lr_, ↓bd_m, ↓oc_m, ↓reduceIte, bi_0, bi_0n, bi_1, bi_1n, not_true_eq_false, not_false_eq_true, Nat.reduceAdd, Nat.reduceMul, nI_mul, nI_add, inb_T, ix_nI, le_T, le_F, lt_T, lt_F, eq_F, n1, e1, e2, c1', bi_eq, e3, ejb, erb, eq_false c2, f8_bestFor_b64, f8_bestFor_b70, nx]
        · rw [if_neg (by rw [decide_eq_true_eq]; exact c1)] at nx
          simp (disch := first | with_reducible assumption | omega | (simp only [MI_sai_iff, MI_sfi_iff]; with_reducible assumption)) only [li, ↓lr_, ↓bd_m, ↓oc_m, ↓reduceIte, bi_0, bi_0n, bi_1, bi_1n, not_true_eq_false, not_false_eq_true, Nat.reduceAdd, Nat.reduceMul, nI_mul, nI_add, inb_T, ix_nI, le_T, le_F, lt_T, lt_F, eq_F, n1, e1, e2, eq_false c1, bi_eq, f8_bestFor_b70, nx]
  have := key FU_ 0 (by omega) (by unfold FU_; omega)
  unfold f8_bestFor
  exact this
