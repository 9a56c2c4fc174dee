/-! the class: a spool copied onto another, the rest -/
theorem cpC {n m1 m2 : Nat} (h1 : n ≤ m1) (h2 : n ≤ m2) (hn : n < 2147483648) : ((0 ≤ (nI 0).toInt ∧ 0 ≤ (nI 0).toInt ∧ 0 ≤ (nI n).toInt) ∧ (nI 0).toInt + (nI n).toInt ≤ (m1 : Int) ∧ (nI 0).toInt + (nI n).toInt ≤ (m2 : Int)) = True := by
  rw [toIntI (by omega), toIntI hn]
  exact eq_true ⟨⟨by omega, by omega, by omega⟩, by omega, by omega⟩
theorem saw_self {g : GS_} {t i : Nat} {w : Nat → Int32} : gai (saw g t i w) t i = w := if_pos ⟨rfl, rfl⟩
theorem saw_ne {g : GS_} {t i t' i' : Nat} {w : Nat → Int32} (h : ¬ (t' = t ∧ i' = i)) : gai (saw g t i w) t' i' = gai g t' i' := if_neg h
theorem cpy0 {f h : Nat → Int32} {n j : Nat} (hj : j < n) : va_cpy f h 0 0 n j = f j := by
  unfold va_cpy
  rw [if_pos (by omega)]
  congr 1
  omega
/-- a printer is copied -/
theorem x_printerCopy {g : GS_} {P P' A A' : Nat} (h1 : gfr g 163 P = some A) (h2 : gfr g 163 P' = some A') (n1 : gln g 20 A = 3) (n2 : gln g 20 A' = 3) (hb : gfi g 162 P' = nI 0 ∨ gfi g 162 P' = nI 1) :
    ∃ g', f5_copyFrom P (some P') g = some ((), g') ∧ NR g g' ∧ (∀ f i, gfi g' f i = if (160 ≤ f ∧ f < 168 ∧ f ≠ 163) ∧ i = P then gfi g f P' else gfi g f i) ∧ (∀ i, i ≠ A → gai g' 20 i = gai g 20 i) ∧ ∀ z, z < 3 → gai g' 20 A z = gai g 20 A' z := by
  have e162 : gfi (sfi (sfi g 160 P (gfi g 160 P')) 161 P (gfi (sfi g 160 P (gfi g 160 P')) 161 P')) 162 P' = gfi g 162 P' := by simp [e_gfi_sfi]
  have hb' : (gfi g 162 P' = nI 0 ∨ gfi g 162 P' = nI 1) = True := eq_true hb
  refine ⟨_, by simp (disch := first | with_reducible assumption | omega | (simp only [MI_sai_iff, MI_sfi_iff]; with_reducible assumption)) only [li, ↓lr_, ↓bd_m, ↓oc_m, ↓reduceIte, bi_0, bi_0n, bi_1, bi_1n, not_true_eq_false, not_false_eq_true, Nat.reduceAdd, Nat.reduceMul, nI_mul, nI_add, inb_T, ix_nI, le_T, le_F, lt_T, lt_F, eq_F, ↓cp_, cpC, ofN, f5_copyFrom, e162, hb', e_gfr_sfi, h1, h2, e_gln_sfi, n1, n2]; rfl, ?_⟩
  refine ⟨⟨rfl, rfl, rfl, rfl, rfl, rfl⟩, fun f i => ?_, fun i hi => ?_, fun z hz => ?_⟩
  · by_cases hi : i = P
    · subst hi
      by_cases h160 : f = 160
      · subst h160; simp [e_gfi_sfi, e_gfi_saw]
      by_cases h161 : f = 161
      · subst h161; simp [e_gfi_sfi, e_gfi_saw]
      by_cases h162 : f = 162
      · subst h162; simp [e_gfi_sfi, e_gfi_saw]
      by_cases h164 : f = 164
      · subst h164; simp [e_gfi_sfi, e_gfi_saw]
      by_cases h165 : f = 165
      · subst h165; simp [e_gfi_sfi, e_gfi_saw]
      by_cases h166 : f = 166
      · subst h166; simp [e_gfi_sfi, e_gfi_saw]
      by_cases h167 : f = 167
      · subst h167; simp [e_gfi_sfi, e_gfi_saw]
      rw [if_neg (by omega)]
      simp [e_gfi_sfi, e_gfi_saw, h160, h161, h162, h164, h165, h166, h167]
    · rw [if_neg (fun q => hi q.2)]
      simp [e_gfi_sfi, e_gfi_saw, hi]
  · simp only [gai_sfi]
    rw [saw_ne (fun q => hi q.2)]
    try rfl
  · simp only [gai_sfi]
    rw [saw_self, cpy0 hz]
    try rfl
/-- printers copied so far -/
def PC (S S' : Nat) (g g' : GS_) (k : Nat) : Prop :=
  NR g g' ∧ (∀ f i, ¬ (160 ≤ f ∧ f < 168 ∧ 3 * S ≤ i ∧ i < 3 * S + 3) → gfi g' f i = gfi g f i) ∧ (∀ i, ¬ (bb S + 6 ≤ i ∧ i < bb S + 9) → gai g' 20 i = gai g 20 i) ∧
  ∀ p, p < k → (∀ f, 160 ≤ f → f < 168 → f ≠ 163 → gfi g' f (3 * S + p) = gfi g f (3 * S' + p)) ∧ ∀ z, z < 3 → gai g' 20 (bb S + (6 + p)) z = gai g 20 (bb S' + (6 + p)) z
theorem x_copyPrintersLoop {S S' n : Nat} {g : GS_} (hX : XSp g S) (hX' : XSp g S') (hS : S < 4) (hS' : S' < 4) (hne : S' ≠ S) (hn : n ≤ 3) (hc : gfi g 261 S = nI n) (hc' : gfi g 261 S' = nI n) (hb : ∀ p, p < n → gfi g 162 (3 * S' + p) = nI 0 ∨ gfi g 162 (3 * S' + p) = nI 1) :
    ∀ (fuel k : Nat) (g1 : GS_), k ≤ n → n - k < fuel → PC S S' g g1 k → ∃ g', f8_copyPrinters_b10 fuel S (some S') (nI k) g1 = some ((), g') ∧ PC S S' g g' n
  | 0, k, g1, h1, h2, _ => by omega
  | fuel + 1, k, g1, h1, h2, h3 => by
    obtain ⟨c1, c2, c3, c4⟩ := id h3
    have x1 := XSp_NR c1 hX
    have x2 := XSp_NR c1 hX'
    have n1 : gfi g1 261 S = nI n := by rw [c2 _ _ (by omega)]; exact hc
    have n2 : gfi g1 261 S' = nI n := by rw [c2 _ _ (by omega)]; exact hc'
    rw [f8_copyPrinters_b10.eq_2]
    by_cases he : k = n
    · subst he
      exact ⟨g1, by simp (disch := first | with_reducible assumption | omega | (simp only [MI_sai_iff, MI_sfi_iff]; with_reducible assumption)) only [li, ↓lr_, ↓bd_m, ↓oc_m, ↓reduceIte, bi_0, bi_0n, bi_1, bi_1n, not_true_eq_false, not_false_eq_true, Nat.reduceAdd, Nat.reduceMul, nI_mul, nI_add, inb_T, ix_nI, le_T, le_F, lt_T, lt_F, eq_F, n1, Nat.le_refl], h3⟩
    · have hkn : k < n := by omega
      have e1 := x_printerAt x2 n2 hn (nI k)
      rw [if_pos (vl_of hkn (by omega)), tn_nI (by omega)] at e1
      have e2 := x_printerAt x1 n1 hn (nI k)
      rw [if_pos (vl_of hkn (by omega)), tn_nI (by omega)] at e2
      obtain ⟨-, -, -, -, -, -, -, -, -, -, -, -, -, -, -, -, -, -, -, -, s21⟩ := id x1
      obtain ⟨-, -, -, -, -, -, -, -, -, -, -, -, -, -, -, -, -, -, -, -, s21'⟩ := id x2
      obtain ⟨-, t1, t2⟩ := s21 k (by omega)
      obtain ⟨-, t1', t2'⟩ := s21' k (by omega)
      have hP : ∀ p, p < 3 → ∀ f, gfi g1 f (3 * S' + p) = gfi g f (3 * S' + p) := fun p hp f => c2 _ _ (by omega)
      have hA : ∀ p, p < 3 → gai g1 20 (bb S' + (6 + p)) = gai g 20 (bb S' + (6 + p)) := fun p hp => c3 _ (by
        intro q
        exact bb_ne hS hS' (show bb S' + (6 + p) - bb S < 9 by omega) (show 6 + p < 9 by omega) hne (by omega))
      obtain ⟨g2, r1, r2, r3, r4, r5⟩ := x_printerCopy t1 t1' t2 t2' (by rw [hP k (by omega)]; exact hb k hkn)
      have hC : PC S S' g g2 (k + 1) := by
        refine ⟨NR_tr c1 r2, fun f i q => ?_, fun i q => ?_, fun p hp => ?_⟩
        · rw [r3, if_neg (by omega)]
          exact c2 f i q
        · rw [r4 i (by omega)]
          exact c3 i q
        · by_cases e : p = k
          · subst e
            refine ⟨fun f f1 f2 f3 => ?_, fun z hz => ?_⟩
            · rw [r3, if_pos ⟨⟨f1, f2, f3⟩, rfl⟩]
              exact hP p (by omega) f
            · rw [r5 z hz, hA p (by omega)]
          · refine ⟨fun f f1 f2 f3 => ?_, fun z hz => ?_⟩
            · rw [r3, if_neg (by omega)]
              exact (c4 p (by omega)).1 f f1 f2 f3
            · rw [r4 _ (by omega)]
              exact (c4 p (by omega)).2 z hz
      obtain ⟨g', w1, w2⟩ := x_copyPrintersLoop hX hX' hS hS' hne hn hc hc' hb fuel (k + 1) g2 (by omega) (by omega) hC
      refine ⟨g', ?_, w2⟩
      simp (disch := first | with_reducible assumption | omega | (simp only [MI_sai_iff, MI_sfi_iff]; with_reducible assumption)) only [li, ↓lr_, ↓bd_m, ↓oc_m, ↓reduceIte, bi_0, bi_0n, bi_1, bi_1n, not_true_eq_false, not_false_eq_true, Nat.reduceAdd, Nat.reduceMul, nI_mul, nI_add, inb_T, ix_nI, le_T, le_F, lt_T, lt_F, eq_F, n1, e1, e2, r1, f8_copyPrinters_b46, w1]
theorem x_copyPrinters {S S' n : Nat} {g : GS_} (hX : XSp g S) (hX' : XSp g S') (hS : S < 4) (hS' : S' < 4) (hne : S' ≠ S) (hn : n ≤ 3) (hc' : gfi g 261 S' = nI n) (hb : ∀ p, p < n → gfi g 162 (3 * S' + p) = nI 0 ∨ gfi g 162 (3 * S' + p) = nI 1) :
    ∃ g', f8_copyPrinters S (some S') g = some ((), g') ∧ PC S S' (sfi g 261 S (nI n)) g' n := by
  have e162 : ∀ p, gfi (sfi g 261 S (nI n)) 162 p = gfi g 162 p := fun p => by rw [e_gfi_sfi, if_neg (by omega)]
  obtain ⟨g', a1, a2⟩ := x_copyPrintersLoop (g := sfi g 261 S (nI n)) hX hX' hS hS' hne hn (by rw [e_gfi_sfi, if_pos ⟨rfl, rfl⟩]) (by rw [e_gfi_sfi, if_neg (by omega)]; exact hc') (fun p hp => by rw [e162]; exact hb p hp) FU_ 0 (sfi g 261 S (nI n)) (by omega) (by unfold FU_; omega)
    ⟨NR_rfl, fun _ _ _ => rfl, fun _ _ => rfl, fun p hp => by omega⟩
  refine ⟨g', ?_, a2⟩
  simp (disch := first | with_reducible assumption | omega | (simp only [MI_sai_iff, MI_sfi_iff]; with_reducible assumption)) only [li, ↓lr_, ↓bd_m, ↓oc_m, ↓reduceIte, bi_0, bi_0n, bi_1, bi_1n, not_true_eq_false, not_false_eq_true, Nat.reduceAdd, Nat.reduceMul, nI_mul, nI_add, inb_T, ix_nI, le_T, le_F, lt_T, lt_F, eq_F, f8_copyPrinters, hc', a1]
theorem x_documentAt {g : GS_} {S n : Nat} (hX : XSp g S) (hn : gfi g 257 S = nI n) (hl : n ≤ 10) (v : Int32) : f8_documentAt S v g = some (if vl v n then gar g 22 S (tn v) else none, g) := by
  obtain ⟨s1, s2, s3, s4, s5, s6, -⟩ := hX
  have e1 : (nI 1 = nI 0) = False := by decide
  rcases int_cases v with h | ⟨k, hk, rfl⟩
  · rw [if_neg (by rw [vl_neg h]; exact id)]
    simp (disch := first | with_reducible assumption | omega | (simp only [MI_sai_iff, MI_sfi_iff]; with_reducible assumption)) only [li, ↓lr_, ↓bd_m, ↓oc_m, ↓reduceIte, bi_0, bi_0n, bi_1, bi_1n, not_true_eq_false, not_false_eq_true, Nat.reduceAdd, Nat.reduceMul, nI_mul, nI_add, inb_T, ix_nI, le_T, le_F, lt_T, lt_F, eq_F, f8_documentAt, eq_true h, f8_documentAt_b25, f8_documentAt_b26]
  · by_cases h : k < n
    · rw [if_pos (vl_of h (by omega)), tn_nI hk]
      simp (disch := first | with_reducible assumption | omega | (simp only [MI_sai_iff, MI_sfi_iff]; with_reducible assumption)) only [li, ↓lr_, ↓bd_m, ↓oc_m, ↓reduceIte, bi_0, bi_0n, bi_1, bi_1n, not_true_eq_false, not_false_eq_true, Nat.reduceAdd, Nat.reduceMul, nI_mul, nI_add, inb_T, ix_nI, le_T, le_F, lt_T, lt_F, eq_F, f8_documentAt, hn, s1, s2, ofN, f8_documentAt_b26, e1]
    · rw [if_neg (by rw [vl_F (by omega) hk]; exact id)]
      simp (disch := first | with_reducible assumption | omega | (simp only [MI_sai_iff, MI_sfi_iff]; with_reducible assumption)) only [li, ↓lr_, ↓bd_m, ↓oc_m, ↓reduceIte, bi_0, bi_0n, bi_1, bi_1n, not_true_eq_false, not_false_eq_true, Nat.reduceAdd, Nat.reduceMul, nI_mul, nI_add, inb_T, ix_nI, le_T, le_F, lt_T, lt_F, eq_F, f8_documentAt, hn, f8_documentAt_b25, f8_documentAt_b26]
/-- documents copied so far -/
def DC (S S' n : Nat) (g g' : GS_) (k : Nat) : Prop :=
  gfi g' = gfi g ∧ gfr g' = gfr g ∧ gai g' = gai g ∧ gln g' = gln g ∧ gcn g' = gcn g ∧ ghs g' = ghs g ∧ gsl g' = gsl g ∧ (∀ t i, ¬ (t = 22 ∧ i = S) → gar g' t i = gar g t i) ∧ ∀ d, d < k → d < n → gar g' 22 S d = gar g 22 S' d
theorem x_copyDocs {S S' n : Nat} {g : GS_} (hX : XSp g S) (hX' : XSp g S') (hne : S' ≠ S) (hn : n ≤ 10) (hc' : gfi g 257 S' = nI n) :
    ∀ (fuel k : Nat) (g1 : GS_), k ≤ 10 → 10 - k < fuel → DC S S' n g g1 k → ∃ g' f, f8_copyFrom_b10 fuel S (some S') (nI k) g1 = f8_copyFrom_b10 (f + 1) S (some S') (nI 10) g' ∧ DC S S' n g g' 10
  | 0, k, g1, h1, h2, _ => by omega
  | fuel + 1, k, g1, h1, h2, h3 => by
    by_cases he : k = 10
    · subst he
      exact ⟨g1, fuel, rfl, h3⟩
    · obtain ⟨c1, c2, c3, c4, c5, c6, c7, c8, c9⟩ := id h3
      have x2 : XSp g1 S' := by
        unfold XSp
        rw [c2, c4, c8 24 S' (by omega)]
        exact hX'
      have s1 : gfr g1 256 S = some S := by rw [c2]; exact hX.1
      have s2 : gln g1 22 S = 10 := by rw [c4]; exact hX.2.1
      have e1 := x_documentAt x2 (by rw [c1]; exact hc') hn (nI k)
      rw [tn_nI (by omega), c8 22 S' (by omega)] at e1
      have hC : DC S S' n g (sar g1 22 S k (if vl (nI k) n then gar g 22 S' k else none)) (k + 1) := by
        refine ⟨c1, c2, c3, c4, c5, c6, c7, fun t i q => ?_, fun d hd1 hd2 => ?_⟩
        · rw [← c8 t i q]
          funext j
          rw [e_gar_sar, if_neg (fun w => q ⟨w.1, w.2.1⟩)]
        · by_cases e : d = k
          · subst e
            rw [e_gar_sar, if_pos ⟨rfl, rfl, rfl⟩, if_pos (vl_of hd2 (by omega))]
          · rw [e_gar_sar, if_neg (fun w => e w.2.2)]
            exact c9 d (by omega) hd2
      obtain ⟨g', f, w1, w2⟩ := x_copyDocs hX hX' hne hn hc' fuel (k + 1) _ (by omega) (by omega) hC
      refine ⟨g', f, ?_, w2⟩
      have e : f8_copyFrom_b10 (fuel + 1) S (some S') (nI k) g1 = f8_copyFrom_b10 fuel S (some S') (nI (k + 1)) (sar g1 22 S k (if vl (nI k) n then gar g 22 S' k else none)) := by
        rw [f8_copyFrom_b10.eq_2]
        generalize (if vl (nI k) n then gar g 22 S' k else none) = x at e1 ⊢
        simp (disch := first | with_reducible assumption | omega | (simp only [MI_sai_iff, MI_sfi_iff]; with_reducible assumption)) only [li, ↓lr_, ↓bd_m, ↓oc_m, ↓reduceIte, bi_0, bi_0n, bi_1, bi_1n, not_true_eq_false, not_false_eq_true, Nat.reduceAdd, Nat.reduceMul, nI_mul, nI_add, inb_T, ix_nI, le_T, le_F, lt_T, lt_F, eq_F, s1, s2, ofN, e1]
      rw [e, w1]
