/-! the reference: rows are copied, time passes in forecasts -/
def KX (y : Nat) (g g' : GS_) : Prop := gfi g' = gfi g ∧ gfr g' = gfr g ∧ gln g' = gln g ∧ gar g' = gar g ∧ gcn g' = gcn g ∧ ghs g' = ghs g ∧ gsl g' = gsl g ∧ ∀ t i, ¬ (t = 20 ∧ i = y) → gai g' t i = gai g t i
theorem KX_rfl {y : Nat} {g : GS_} : KX y g g := ⟨rfl, rfl, rfl, rfl, rfl, rfl, rfl, fun _ _ _ => rfl⟩
theorem KX_tr {y : Nat} {a b c : GS_} (h1 : KX y a b) (h2 : KX y b c) : KX y a c := ⟨h2.1.trans h1.1, h2.2.1.trans h1.2.1, h2.2.2.1.trans h1.2.2.1, h2.2.2.2.1.trans h1.2.2.2.1, h2.2.2.2.2.1.trans h1.2.2.2.2.1, h2.2.2.2.2.2.1.trans h1.2.2.2.2.2.1, h2.2.2.2.2.2.2.1.trans h1.2.2.2.2.2.2.1, fun t i q => (h2.2.2.2.2.2.2.2 t i q).trans (h1.2.2.2.2.2.2.2 t i q)⟩
theorem KX_sai {y k : Nat} {g : GS_} {v : Int32} : KX y g (sai g 20 y k v) := by
  refine ⟨rfl, rfl, rfl, rfl, rfl, rfl, rfl, fun t i q => ?_⟩
  funext j
  rw [e_gai_sai, if_neg (fun w => q ⟨w.1, w.2.1⟩)]
theorem up_sai_b {g : GS_} {s k : Nat} {v : Int32} : gai (sai g 21 0 s v) 20 k = gai g 20 k := by
  funext j
  rw [e_gai_sai, if_neg (by omega)]
theorem MI_KX {y : Nat} {g g' : GS_} (h : MI g) (h1 : KX y g g') : MI g' := MI_eq h h1.2.1 h1.2.2.1
theorem MI_all {g : GS_} (h : MI g) : (gfr g 320 0 = some 0 ∧ gfr g 321 0 = some 1 ∧ gfr g 322 0 = some 2 ∧ gfr g 323 0 = some 3 ∧ gfr g 324 0 = some 4 ∧ gfr g 325 0 = some 0 ∧ gfr g 340 0 = some 9) ∧ gln g 20 0 = 858 ∧ gln g 20 1 = 858 ∧ gln g 20 2 = 9600 ∧ gln g 20 3 = 1716 ∧ gln g 20 4 = 19200 ∧ gln g 20 9 = 24 ∧ gln g 21 0 = 2 := by
  obtain ⟨h1, h2, h3, h4, h5, h6, h7, h8, h9, h10, h11, k1, k2, k3, k4, k5, k6, k7, k8, k9, k10, k11⟩ := h
  exact ⟨⟨h1, h2, h3, h4, h5, h6, h11⟩, k1, k2, k3, k4, k5, k10, k11⟩
theorem m_aside : ∀ (fuel k : Nat) (g : GS_), k ≤ 858 → 858 - k < fuel → MI g →
    ∃ g', f10_putAside_b2 fuel 0 (nI k) g = some ((), sfi g' 341 0 (nI 0)) ∧ KX 1 g g' ∧ (∀ i, k ≤ i → i < 858 → gai g' 20 1 (i) = gai g 20 0 (i)) ∧ ∀ i, (i < k ∨ 858 ≤ i) → gai g' 20 1 i = gai g 20 1 i
  | 0, k, g, h1, h2, _ => by omega
  | fuel + 1, k, g, h1, h2, hM => by
    obtain ⟨⟨r0, r1, r2, r3, r4, r5, r9⟩, n0, n1, n2, n3, n4, n9, n21⟩ := MI_all hM
    rw [f10_putAside_b2.eq_2]
    by_cases he : k = 858
    · subst he
      refine ⟨g, ?_, KX_rfl, fun i h3 h4 => by omega, fun i _ => rfl⟩
      simp (disch := first | with_reducible assumption | omega | (simp only [MI_sai_iff, MI_sfi_iff]; with_reducible assumption)) only [li, ↓lr_, ↓bd_m, ↓oc_m, ↓reduceIte, bi_0, bi_0n, bi_1, bi_1n, not_true_eq_false, not_false_eq_true, Nat.reduceAdd, Nat.reduceMul, nI_mul, nI_add, inb_T, ix_nI, le_T, le_F, lt_T, lt_F, eq_F, Nat.le_refl]
    · obtain ⟨g', a1, a2, a3, a4⟩ := m_aside fuel (k + 1) (sai g 20 1 (k) (gai g 20 0 (k))) (by omega) (by omega) hM
      refine ⟨g', ?_, KX_tr KX_sai a2, fun i h3 h4 => ?_, fun i hi => ?_⟩
      · simp (disch := first | with_reducible assumption | omega | (simp only [MI_sai_iff, MI_sfi_iff]; with_reducible assumption)) only [li, ↓lr_, ↓bd_m, ↓oc_m, ↓reduceIte, bi_0, bi_0n, bi_1, bi_1n, not_true_eq_false, not_false_eq_true, Nat.reduceAdd, Nat.reduceMul, nI_mul, nI_add, inb_T, ix_nI, le_T, le_F, lt_T, lt_F, eq_F, r0, r1, r2, r3, r4, n0, n1, n2, n3, n4, a1]
      · by_cases hk : i = k
        · subst hk
          rw [a4 _ (by omega), up_saiG, up_eq rfl]
        · rw [a3 i (by omega) h4, up_sai_ne _ _ _ _ _ _ (by omega)]
      · rw [a4 i (by omega), up_saiG, up_ne (by omega)]
theorem m_back : ∀ (fuel k : Nat) (g : GS_), k ≤ 858 → 858 - k < fuel → MI g →
    ∃ g', f10_putBack_b2 fuel 0 (nI k) g = some ((), g') ∧ KX 0 g g' ∧ (∀ i, k ≤ i → i < 858 → gai g' 20 0 (i) = gai g 20 1 (i)) ∧ ∀ i, (i < k ∨ 858 ≤ i) → gai g' 20 0 i = gai g 20 0 i
  | 0, k, g, h1, h2, _ => by omega
  | fuel + 1, k, g, h1, h2, hM => by
    obtain ⟨⟨r0, r1, r2, r3, r4, r5, r9⟩, n0, n1, n2, n3, n4, n9, n21⟩ := MI_all hM
    rw [f10_putBack_b2.eq_2]
    by_cases he : k = 858
    · subst he
      refine ⟨g, ?_, KX_rfl, fun i h3 h4 => by omega, fun i _ => rfl⟩
      simp (disch := first | with_reducible assumption | omega | (simp only [MI_sai_iff, MI_sfi_iff]; with_reducible assumption)) only [li, ↓lr_, ↓bd_m, ↓oc_m, ↓reduceIte, bi_0, bi_0n, bi_1, bi_1n, not_true_eq_false, not_false_eq_true, Nat.reduceAdd, Nat.reduceMul, nI_mul, nI_add, inb_T, ix_nI, le_T, le_F, lt_T, lt_F, eq_F, Nat.le_refl]
    · obtain ⟨g', a1, a2, a3, a4⟩ := m_back fuel (k + 1) (sai g 20 0 (k) (gai g 20 1 (k))) (by omega) (by omega) hM
      refine ⟨g', ?_, KX_tr KX_sai a2, fun i h3 h4 => ?_, fun i hi => ?_⟩
      · simp (disch := first | with_reducible assumption | omega | (simp only [MI_sai_iff, MI_sfi_iff]; with_reducible assumption)) only [li, ↓lr_, ↓bd_m, ↓oc_m, ↓reduceIte, bi_0, bi_0n, bi_1, bi_1n, not_true_eq_false, not_false_eq_true, Nat.reduceAdd, Nat.reduceMul, nI_mul, nI_add, inb_T, ix_nI, le_T, le_F, lt_T, lt_F, eq_F, r0, r1, r2, r3, r4, n0, n1, n2, n3, n4, a1]
      · by_cases hk : i = k
        · subst hk
          rw [a4 _ (by omega), up_saiG, up_eq rfl]
        · rw [a3 i (by omega) h4, up_sai_ne _ _ _ _ _ _ (by omega)]
      · rw [a4 i (by omega), up_saiG, up_ne (by omega)]
theorem m_save1 {s : Nat} (hs : s < 2) : ∀ (fuel k : Nat) (g : GS_), k ≤ 858 → 858 - k < fuel → MI g →
    ∃ g', f10_save_b14 fuel 0 (nI s) (nI k) g = f10_save_b47 FU_ 0 (nI s) (nI 0) g' ∧ KX 3 g g' ∧ (∀ i, k ≤ i → i < 858 → gai g' 20 3 (858 * s + i) = gai g 20 0 (i)) ∧ ∀ i, (i < 858 * s + k ∨ 858 * s + 858 ≤ i) → gai g' 20 3 i = gai g 20 3 i
  | 0, k, g, h1, h2, _ => by omega
  | fuel + 1, k, g, h1, h2, hM => by
    obtain ⟨⟨r0, r1, r2, r3, r4, r5, r9⟩, n0, n1, n2, n3, n4, n9, n21⟩ := MI_all hM
    rw [f10_save_b14.eq_2]
    by_cases he : k = 858
    · subst he
      refine ⟨g, ?_, KX_rfl, fun i h3 h4 => by omega, fun i _ => rfl⟩
      simp (disch := first | with_reducible assumption | omega | (simp only [MI_sai_iff, MI_sfi_iff]; with_reducible assumption)) only [li, ↓lr_, ↓bd_m, ↓oc_m, ↓reduceIte, bi_0, bi_0n, bi_1, bi_1n, not_true_eq_false, not_false_eq_true, Nat.reduceAdd, Nat.reduceMul, nI_mul, nI_add, inb_T, ix_nI, le_T, le_F, lt_T, lt_F, eq_F, Nat.le_refl]
    · obtain ⟨g', a1, a2, a3, a4⟩ := m_save1 hs fuel (k + 1) (sai g 20 3 (858 * s + k) (gai g 20 0 (k))) (by omega) (by omega) hM
      refine ⟨g', ?_, KX_tr KX_sai a2, fun i h3 h4 => ?_, fun i hi => ?_⟩
      · simp (disch := first | with_reducible assumption | omega | (simp only [MI_sai_iff, MI_sfi_iff]; with_reducible assumption)) only [li, ↓lr_, ↓bd_m, ↓oc_m, ↓reduceIte, bi_0, bi_0n, bi_1, bi_1n, not_true_eq_false, not_false_eq_true, Nat.reduceAdd, Nat.reduceMul, nI_mul, nI_add, inb_T, ix_nI, le_T, le_F, lt_T, lt_F, eq_F, r0, r1, r2, r3, r4, n0, n1, n2, n3, n4, a1]
      · by_cases hk : i = k
        · subst hk
          rw [a4 _ (by omega), up_saiG, up_eq rfl]
        · rw [a3 i (by omega) h4, up_sai_ne _ _ _ _ _ _ (by omega)]
      · rw [a4 i (by omega), up_saiG, up_ne (by omega)]
theorem m_save2 {s : Nat} (hs : s < 2) : ∀ (fuel k : Nat) (g : GS_), k ≤ 9600 → 9600 - k < fuel → MI g →
    ∃ g', f10_save_b47 fuel 0 (nI s) (nI k) g = some (gai g' 20 0 0, sai g' 21 0 s (nI 1)) ∧ KX 4 g g' ∧ (∀ i, k ≤ i → i < 9600 → gai g' 20 4 (9600 * s + i) = gai g 20 2 (i)) ∧ ∀ i, (i < 9600 * s + k ∨ 9600 * s + 9600 ≤ i) → gai g' 20 4 i = gai g 20 4 i
  | 0, k, g, h1, h2, _ => by omega
  | fuel + 1, k, g, h1, h2, hM => by
    obtain ⟨⟨r0, r1, r2, r3, r4, r5, r9⟩, n0, n1, n2, n3, n4, n9, n21⟩ := MI_all hM
    rw [f10_save_b47.eq_2]
    by_cases he : k = 9600
    · subst he
      refine ⟨g, ?_, KX_rfl, fun i h3 h4 => by omega, fun i _ => rfl⟩
      have g21 : gai (sai g 21 0 s (nI 1)) 20 0 = gai g 20 0 := up_sai_b
      simp (disch := first | with_reducible assumption | omega | (simp only [MI_sai_iff, MI_sfi_iff]; with_reducible assumption)) only [li, ↓lr_, ↓bd_m, ↓oc_m, ↓reduceIte, bi_0, bi_0n, bi_1, bi_1n, not_true_eq_false, not_false_eq_true, Nat.reduceAdd, Nat.reduceMul, nI_mul, nI_add, inb_T, ix_nI, le_T, le_F, lt_T, lt_F, eq_F, Nat.le_refl, r5, r0, n0, n21, e_gfr_sai, e_gln_sai, g21]
    · obtain ⟨g', a1, a2, a3, a4⟩ := m_save2 hs fuel (k + 1) (sai g 20 4 (9600 * s + k) (gai g 20 2 (k))) (by omega) (by omega) hM
      refine ⟨g', ?_, KX_tr KX_sai a2, fun i h3 h4 => ?_, fun i hi => ?_⟩
      · simp (disch := first | with_reducible assumption | omega | (simp only [MI_sai_iff, MI_sfi_iff]; with_reducible assumption)) only [li, ↓lr_, ↓bd_m, ↓oc_m, ↓reduceIte, bi_0, bi_0n, bi_1, bi_1n, not_true_eq_false, not_false_eq_true, Nat.reduceAdd, Nat.reduceMul, nI_mul, nI_add, inb_T, ix_nI, le_T, le_F, lt_T, lt_F, eq_F, r0, r1, r2, r3, r4, n0, n1, n2, n3, n4, a1]
      · by_cases hk : i = k
        · subst hk
          rw [a4 _ (by omega), up_saiG, up_eq rfl]
        · rw [a3 i (by omega) h4, up_sai_ne _ _ _ _ _ _ (by omega)]
      · rw [a4 i (by omega), up_saiG, up_ne (by omega)]
theorem m_rest1 {s : Nat} (hs : s < 2) : ∀ (fuel k : Nat) (g : GS_), k ≤ 858 → 858 - k < fuel → MI g →
    ∃ g', f10_restore_b26 fuel 0 (nI s) (nI k) g = f10_restore_b59 FU_ 0 (nI s) (nI 0) g' ∧ KX 0 g g' ∧ (∀ i, k ≤ i → i < 858 → gai g' 20 0 (i) = gai g 20 3 (858 * s + i)) ∧ ∀ i, (i < k ∨ 858 ≤ i) → gai g' 20 0 i = gai g 20 0 i
  | 0, k, g, h1, h2, _ => by omega
  | fuel + 1, k, g, h1, h2, hM => by
    obtain ⟨⟨r0, r1, r2, r3, r4, r5, r9⟩, n0, n1, n2, n3, n4, n9, n21⟩ := MI_all hM
    rw [f10_restore_b26.eq_2]
    by_cases he : k = 858
    · subst he
      refine ⟨g, ?_, KX_rfl, fun i h3 h4 => by omega, fun i _ => rfl⟩
      simp (disch := first | with_reducible assumption | omega | (simp only [MI_sai_iff, MI_sfi_iff]; with_reducible assumption)) only [li, ↓lr_, ↓bd_m, ↓oc_m, ↓reduceIte, bi_0, bi_0n, bi_1, bi_1n, not_true_eq_false, not_false_eq_true, Nat.reduceAdd, Nat.reduceMul, nI_mul, nI_add, inb_T, ix_nI, le_T, le_F, lt_T, lt_F, eq_F, Nat.le_refl]
    · obtain ⟨g', a1, a2, a3, a4⟩ := m_rest1 hs fuel (k + 1) (sai g 20 0 (k) (gai g 20 3 (858 * s + k))) (by omega) (by omega) hM
      refine ⟨g', ?_, KX_tr KX_sai a2, fun i h3 h4 => ?_, fun i hi => ?_⟩
      · simp (disch := first | with_reducible assumption | omega | (simp only [MI_sai_iff, MI_sfi_iff]; with_reducible assumption)) only [li, ↓lr_, ↓bd_m, ↓oc_m, ↓reduceIte, bi_0, bi_0n, bi_1, bi_1n, not_true_eq_false, not_false_eq_true, Nat.reduceAdd, Nat.reduceMul, nI_mul, nI_add, inb_T, ix_nI, le_T, le_F, lt_T, lt_F, eq_F, r0, r1, r2, r3, r4, n0, n1, n2, n3, n4, a1]
      · by_cases hk : i = k
        · subst hk
          rw [a4 _ (by omega), up_saiG, up_eq rfl]
        · rw [a3 i (by omega) h4, up_sai_ne _ _ _ _ _ _ (by omega)]
      · rw [a4 i (by omega), up_saiG, up_ne (by omega)]
theorem m_rest2 {s : Nat} (hs : s < 2) : ∀ (fuel k : Nat) (g : GS_), k ≤ 9600 → 9600 - k < fuel → MI g →
    ∃ g', f10_restore_b59 fuel 0 (nI s) (nI k) g = some (gai g' 20 0 0, g') ∧ KX 2 g g' ∧ (∀ i, k ≤ i → i < 9600 → gai g' 20 2 (i) = gai g 20 4 (9600 * s + i)) ∧ ∀ i, (i < k ∨ 9600 ≤ i) → gai g' 20 2 i = gai g 20 2 i
  | 0, k, g, h1, h2, _ => by omega
  | fuel + 1, k, g, h1, h2, hM => by
    obtain ⟨⟨r0, r1, r2, r3, r4, r5, r9⟩, n0, n1, n2, n3, n4, n9, n21⟩ := MI_all hM
    rw [f10_restore_b59.eq_2]
    by_cases he : k = 9600
    · subst he
      refine ⟨g, ?_, KX_rfl, fun i h3 h4 => by omega, fun i _ => rfl⟩
      simp (disch := first | with_reducible assumption | omega | (simp only [MI_sai_iff, MI_sfi_iff]; with_reducible assumption)) only [li, ↓lr_, ↓bd_m, ↓oc_m, ↓reduceIte, bi_0, bi_0n, bi_1, bi_1n, not_true_eq_false, not_false_eq_true, Nat.reduceAdd, Nat.reduceMul, nI_mul, nI_add, inb_T, ix_nI, le_T, le_F, lt_T, lt_F, eq_F, Nat.le_refl, r0, n0]
    · obtain ⟨g', a1, a2, a3, a4⟩ := m_rest2 hs fuel (k + 1) (sai g 20 2 (k) (gai g 20 4 (9600 * s + k))) (by omega) (by omega) hM
      refine ⟨g', ?_, KX_tr KX_sai a2, fun i h3 h4 => ?_, fun i hi => ?_⟩
      · simp (disch := first | with_reducible assumption | omega | (simp only [MI_sai_iff, MI_sfi_iff]; with_reducible assumption)) only [li, ↓lr_, ↓bd_m, ↓oc_m, ↓reduceIte, bi_0, bi_0n, bi_1, bi_1n, not_true_eq_false, not_false_eq_true, Nat.reduceAdd, Nat.reduceMul, nI_mul, nI_add, inb_T, ix_nI, le_T, le_F, lt_T, lt_F, eq_F, r0, r1, r2, r3, r4, n0, n1, n2, n3, n4, a1]
      · by_cases hk : i = k
        · subst hk
          rw [a4 _ (by omega), up_saiG, up_eq rfl]
        · rw [a3 i (by omega) h4, up_sai_ne _ _ _ _ _ _ (by omega)]
      · rw [a4 i (by omega), up_saiG, up_ne (by omega)]
def KA (g g' : GS_) : Prop := gfr g' = gfr g ∧ gln g' = gln g ∧ gar g' = gar g ∧ gcn g' = gcn g ∧ ghs g' = ghs g ∧ gsl g' = gsl g ∧ (∀ k, 2 ≤ k → k ≤ 4 → gai g' 20 k = gai g 20 k) ∧ gai g' 21 = gai g 21
theorem KA_rfl {g : GS_} : KA g g := ⟨rfl, rfl, rfl, rfl, rfl, rfl, fun _ _ _ => rfl, rfl⟩
theorem KA_tr {a b c : GS_} (h1 : KA a b) (h2 : KA b c) : KA a c := ⟨h2.1.trans h1.1, h2.2.1.trans h1.2.1, h2.2.2.1.trans h1.2.2.1, h2.2.2.2.1.trans h1.2.2.2.1, h2.2.2.2.2.1.trans h1.2.2.2.2.1, h2.2.2.2.2.2.1.trans h1.2.2.2.2.2.1, fun k k1 k2 => (h2.2.2.2.2.2.2.1 k k1 k2).trans (h1.2.2.2.2.2.2.1 k k1 k2), h2.2.2.2.2.2.2.2.trans h1.2.2.2.2.2.2.2⟩
theorem KA_MS {g g' : GS_} (h : MS g g') : KA g g' := ⟨h.1, h.2.1, h.2.2.1, h.2.2.2.1, h.2.2.2.2.1, h.2.2.2.2.2.1, fun k h1 h2 => h.2.2.2.2.2.2.1 k (by omega) h2, h.2.2.2.2.2.2.2⟩
theorem KA_KX {y : Nat} {g g' : GS_} (hy : y < 2) (h : KX y g g') : KA g g' := ⟨h.2.1, h.2.2.1, h.2.2.2.1, h.2.2.2.2.1, h.2.2.2.2.2.1, h.2.2.2.2.2.2.1, fun k h1 h2 => h.2.2.2.2.2.2.2 20 k (by omega), by funext i; exact h.2.2.2.2.2.2.2 21 i (by omega)⟩
theorem MI_KA {g g' : GS_} (h : MI g) (h1 : KA g g') : MI g' := MI_eq h h1.1 h1.2.1
theorem m_putAside {g : GS_} (h : MI g) : ∃ g', f10_putAside 0 g = some ((), g') ∧ KA g g' ∧ gai g' 20 0 = gai g 20 0 ∧ (∀ i, i < 858 → gai g' 20 1 i = gai g 20 0 i) ∧ gfi g' 341 0 = nI 0 := by
  obtain ⟨g', a1, a2, a3, a4⟩ := m_aside FU_ 0 g (by omega) (by unfold FU_; omega) h
  refine ⟨sfi g' 341 0 (nI 0), ?_, KA_tr (KA_KX (by omega) a2) ⟨rfl, rfl, rfl, rfl, rfl, rfl, fun _ _ _ => rfl, rfl⟩, a2.2.2.2.2.2.2.2 20 0 (by omega), fun i hi => a3 i (by omega) hi, ?_⟩
  · unfold f10_putAside
    exact a1
  · rw [e_gfi_sfi, if_pos ⟨rfl, rfl⟩]
theorem m_putBack {g : GS_} (h : MI g) : ∃ g', f10_putBack 0 g = some ((), g') ∧ KA g g' ∧ FS g g' ∧ (∀ i, i < 858 → gai g' 20 0 i = gai g 20 1 i) := by
  obtain ⟨g', a1, a2, a3, a4⟩ := m_back FU_ 0 g (by omega) (by unfold FU_; omega) h
  refine ⟨g', ?_, KA_KX (by omega) a2, ⟨by rw [a2.1], a2.2.2.2.2.2.2.2 20 9 (by omega)⟩, fun i hi => a3 i (by omega) hi⟩
  unfold f10_putBack
  exact a1
theorem TMany_comp {g0 g g' : GS_} {c d e : Nat} {f : List Nat → TS} {h : TS → TS} (h1 : TMany g0 g c d f) (h2 : ∀ c1, gfi g 341 0 = nI c1 → c1 ≤ c + d → TMany g g' c1 e (fun F => h (gai g 20 0, F))) (hl : ∀ F, F.length ≤ (h (gai g 20 0, F)).2.length) : TMany g0 g' c (d + e) (fun F => h (f F)) := by
  obtain ⟨a1, ⟨c1, a2, a3⟩, a4⟩ := h1
  obtain ⟨b1, ⟨c2, b2, b3⟩, b4⟩ := h2 c1 a2 a3
  refine ⟨MS_tr a1 b1, ⟨c2, b2, by omega⟩, fun F => ?_⟩
  obtain ⟨u1, u2⟩ := a4 F
  have e : f F = (gai g 20 0, (f F).2) := by rw [u1]
  obtain ⟨v1, v2⟩ := b4 (f F).2
  dsimp only at v1 v2 ⊢
  rw [← e] at v1 v2
  refine ⟨v1, fun q1 q2 => v2 (u2 q1 ?_) q2⟩
  have := hl (f F).2
  rw [← e] at this
  omega
/-- the reference after so many ticks -/
def MAt (g0 g : GS_) (c k : Nat) : Prop := TMany g0 g c (3 * k) (fun F => T_it (gai g0 20 2) k (gai g0 20 0, F))
theorem MAt_0 {g : GS_} {c : Nat} (hc : gfi g 341 0 = nI c) : MAt g g c 0 := ⟨MS_rfl, ⟨c, hc, by omega⟩, fun F => ⟨rfl, fun q _ => q⟩⟩
theorem MAt_a {g0 g : GS_} {c k : Nat} (h : MAt g0 g c k) (F : List Nat) : gai g 20 0 = (T_it (gai g0 20 2) k (gai g0 20 0, F)).1 := (h.2.2 F).1
theorem MAt_s {g0 g : GS_} {c k n : Nat} {F : List Nat} (hM : MI g0) (hP : PI (gai g0 20 2) (gai g0 20 0, F) n) (h : MAt g0 g c k) (hn : n + 3 * k < 9000000) (hc : c + 3 * k < 9000000) : ∃ g', f10_tick 0 g = some ((), g') ∧ MAt g0 g' c (k + 1) := by
  have hk := (PI_it hP k).1
  have ha := MAt_a h F
  have hl : gai g 20 2 = gai g0 20 2 := h.1.2.2.2.2.2.2.1 2 (by omega) (by omega)
  obtain ⟨c1, e1, e2⟩ := h.2.1
  obtain ⟨g', a1, a2⟩ := m_tick (MI_MS hM h.1) (by rw [ha, hl]; exact hk.1) (by rw [ha]; exact hk.2.1) (by rw [ha]; exact hk.2.2.2) (by omega) e1 (by omega)
  refine ⟨g', a1, ?_⟩
  have := TMany_comp (h := T_tick (gai g0 20 2)) h (fun c2 e3 _ => by
    rw [e1, eq_nI (by omega) (by omega)] at e3
    rw [← e3, ← hl]
    exact a2) (fun F => by rw [T_tick_fst]; simp)
  exact this
theorem m_advLoop {g0 : GS_} {c n : Nat} {F : List Nat} (hM : MI g0) (hP : PI (gai g0 20 2) (gai g0 20 0, F) n) {L : Nat} (hL : L ≤ 1000) (hn : n < 8000000) (hc : c < 8000000) : ∀ (fuel k : Nat) (g : GS_), k ≤ L → L - k < fuel → MAt g0 g c k → ∃ g', f10_advance_b16 fuel 0 (nI L) (nI k) g = some (gai g' 20 0 0, g') ∧ MAt g0 g' c L
  | 0, k, g, h1, h2, _ => by omega
  | fuel + 1, k, g, h1, h2, h3 => by
    rw [f10_advance_b16.eq_2]
    have hMg := MI_MS hM h3.1
    by_cases he : k = L
    · subst he
      refine ⟨g, ?_, h3⟩
      simp (disch := first | with_reducible assumption | omega | (simp only [MI_sai_iff, MI_sfi_iff]; with_reducible assumption)) only [li, ↓lr_, ↓bd_m, ↓oc_m, ↓reduceIte, bi_0, bi_0n, bi_1, bi_1n, not_true_eq_false, not_false_eq_true, Nat.reduceAdd, Nat.reduceMul, nI_mul, nI_add, inb_T, ix_nI, le_T, le_F, lt_T, lt_F, eq_F, Nat.le_refl, MI_a hMg, MI_n hMg]
    · obtain ⟨g1, a1, a2⟩ := MAt_s hM hP h3 (by omega) (by omega)
      obtain ⟨g', b1, b2⟩ := m_advLoop hM hP hL hn hc fuel (k + 1) g1 (by omega) (by omega) a2
      refine ⟨g', ?_, b2⟩
      simp (disch := first | with_reducible assumption | omega | (simp only [MI_sai_iff, MI_sfi_iff]; with_reducible assumption)) only [li, ↓lr_, ↓bd_m, ↓oc_m, ↓reduceIte, bi_0, bi_0n, bi_1, bi_1n, not_true_eq_false, not_false_eq_true, Nat.reduceAdd, Nat.reduceMul, nI_mul, nI_add, inb_T, ix_nI, le_T, le_F, lt_T, lt_F, eq_F, a1, b1]
theorem m_finLoop {g0 : GS_} {c n : Nat} {F : List Nat} (hM : MI g0) (hP : PI (gai g0 20 2) (gai g0 20 0, F) n) {L j : Nat} (hL : L ≤ 3000) (hn : n < 8000000) (hc : c < 8000000) (hj : j < 24) : ∀ (fuel k : Nat) (g : GS_), k ≤ L → L - k < fuel → MAt g0 g c k → (∀ i, i < k → (T_it (gai g0 20 2) i (gai g0 20 0, F)).1 (106 + 13 * j + 9) ≠ nI 3) →
      ∃ r g', f10_finish_b30 fuel 0 (nI j) (nI L) (nI k) g = f10_finish_b73 0 r g' ∧ (∃ m, m ≤ L ∧ MAt g0 g' c m) ∧ FirstDone (gai g0 20 2) (gai g0 20 0, F) j L r
  | 0, k, g, h1, h2, _, _ => by omega
  | fuel + 1, k, g, h1, h2, h3, h4 => by
    rw [f10_finish_b30.eq_2]
    have hMg := MI_MS hM h3.1
    have ha := MAt_a h3 F
    have e1 := m_ofJob hMg hj (w := 9) (by omega)
    rw [ha] at e1
    by_cases hd : (T_it (gai g0 20 2) k (gai g0 20 0, F)).1 (106 + 13 * j + 9) = nI 3
    · refine ⟨nI k, g, ?_, ⟨k, h1, h3⟩, Or.inl ⟨k, h1, hd, h4, rfl⟩⟩
      by_cases he : k = L
      · subst he
        simp (disch := first | with_reducible assumption | omega | (simp only [MI_sai_iff, MI_sfi_iff]; with_reducible assumption)) only [li, ↓lr_, ↓bd_m, ↓oc_m, ↓reduceIte, bi_0, bi_0n, bi_1, bi_1n, not_true_eq_false, not_false_eq_true, Nat.reduceAdd, Nat.reduceMul, nI_mul, nI_add, inb_T, ix_nI, le_T, le_F, lt_T, lt_F, eq_F, Nat.le_refl, f10_finish_b56, e1, hd]
      · simp (disch := first | with_reducible assumption | omega | (simp only [MI_sai_iff, MI_sfi_iff]; with_reducible assumption)) only [li, ↓lr_, ↓bd_m, ↓oc_m, ↓reduceIte, bi_0, bi_0n, bi_1, bi_1n, not_true_eq_false, not_false_eq_true, Nat.reduceAdd, Nat.reduceMul, nI_mul, nI_add, inb_T, ix_nI, le_T, le_F, lt_T, lt_F, eq_F, f10_finish_b56, e1, hd]
    · by_cases he : k = L
      · subst he
        refine ⟨-nI 6, g, ?_, ⟨k, h1, h3⟩, Or.inr ⟨fun i hi => ?_, rfl⟩⟩
        · simp (disch := first | with_reducible assumption | omega | (simp only [MI_sai_iff, MI_sfi_iff]; with_reducible assumption)) only [li, ↓lr_, ↓bd_m, ↓oc_m, ↓reduceIte, bi_0, bi_0n, bi_1, bi_1n, not_true_eq_false, not_false_eq_true, Nat.reduceAdd, Nat.reduceMul, nI_mul, nI_add, inb_T, ix_nI, le_T, le_F, lt_T, lt_F, eq_F, Nat.le_refl, f10_finish_b56, e1, eq_false hd]
        · rcases Nat.lt_or_ge i k with w | w
          · exact h4 i w
          · rw [show i = k by omega]; exact hd
      · obtain ⟨g1, a1, a2⟩ := MAt_s hM hP h3 (by omega) (by omega)
        obtain ⟨r, g', b1, b2, b3⟩ := m_finLoop hM hP hL hn hc hj fuel (k + 1) g1 (by omega) (by omega) a2 (fun i hi => by
          rcases Nat.lt_or_ge i k with w | w
          · exact h4 i w
          · rw [show i = k by omega]; exact hd)
        refine ⟨r, g', ?_, b2, b3⟩
        simp (disch := first | with_reducible assumption | omega | (simp only [MI_sai_iff, MI_sfi_iff]; with_reducible assumption)) only [li, ↓lr_, ↓bd_m, ↓oc_m, ↓reduceIte, bi_0, bi_0n, bi_1, bi_1n, not_true_eq_false, not_false_eq_true, Nat.reduceAdd, Nat.reduceMul, nI_mul, nI_add, inb_T, ix_nI, le_T, le_F, lt_T, lt_F, eq_F, e1, eq_false hd, a1, b1]
theorem m_inTimeLoop {g0 : GS_} {c n : Nat} {F : List Nat} (hM : MI g0) (hP : PI (gai g0 20 2) (gai g0 20 0, F) n) {L j : Nat} (hL : L ≤ 1000) (hn : n < 8000000) (hc : c < 8000000) (hj : j < 24) : ∀ (fuel k : Nat) (g : GS_), k ≤ L → L - k < fuel → MAt g0 g c k →
      ∃ g', f10_isInTime_b14 fuel 0 (nI j) (nI L) (nI k) g = f10_isInTime_b46 0 (bi ((T_it (gai g0 20 2) L (gai g0 20 0, F)).1 (106 + 13 * j + 9) = nI 3)) g' ∧ MAt g0 g' c L
  | 0, k, g, h1, h2, _ => by omega
  | fuel + 1, k, g, h1, h2, h3 => by
    rw [f10_isInTime_b14.eq_2]
    have hMg := MI_MS hM h3.1
    by_cases he : k = L
    · subst he
      have ha := MAt_a h3 F
      have e1 := m_ofJob hMg hj (w := 9) (by omega)
      rw [ha] at e1
      refine ⟨g, ?_, h3⟩
      by_cases hd : (T_it (gai g0 20 2) k (gai g0 20 0, F)).1 (106 + 13 * j + 9) = nI 3
      · simp (disch := first | with_reducible assumption | omega | (simp only [MI_sai_iff, MI_sfi_iff]; with_reducible assumption)) only [li, ↓lr_, ↓bd_m, ↓oc_m, ↓reduceIte, bi_0, bi_0n, bi_1, bi_1n, not_true_eq_false, not_false_eq_true, Nat.reduceAdd, Nat.reduceMul, nI_mul, nI_add, inb_T, ix_nI, le_T, le_F, lt_T, lt_F, eq_F, Nat.le_refl, e1, hd, bi]
      · simp (disch := first | with_reducible assumption | omega | (simp only [MI_sai_iff, MI_sfi_iff]; with_reducible assumption)) only [li, ↓lr_, ↓bd_m, ↓oc_m, ↓reduceIte, bi_0, bi_0n, bi_1, bi_1n, not_true_eq_false, not_false_eq_true, Nat.reduceAdd, Nat.reduceMul, nI_mul, nI_add, inb_T, ix_nI, le_T, le_F, lt_T, lt_F, eq_F, Nat.le_refl, e1, eq_false hd, bi]
    · obtain ⟨g1, a1, a2⟩ := MAt_s hM hP h3 (by omega) (by omega)
      obtain ⟨g', b1, b2⟩ := m_inTimeLoop hM hP hL hn hc hj fuel (k + 1) g1 (by omega) (by omega) a2
      refine ⟨g', ?_, b2⟩
      simp (disch := first | with_reducible assumption | omega | (simp only [MI_sai_iff, MI_sfi_iff]; with_reducible assumption)) only [li, ↓lr_, ↓bd_m, ↓oc_m, ↓reduceIte, bi_0, bi_0n, bi_1, bi_1n, not_true_eq_false, not_false_eq_true, Nat.reduceAdd, Nat.reduceMul, nI_mul, nI_add, inb_T, ix_nI, le_T, le_F, lt_T, lt_F, eq_F, a1, b1]
theorem m_fsrLoop {g0 : GS_} {c n : Nat} {F : List Nat} (hM : MI g0) (hP : PI (gai g0 20 2) (gai g0 20 0, F) n) {L : Nat} (v : Int32) (hL : L ≤ 3000) (hn : n < 8000000) (hc : c < 8000000) : ∀ (fuel k : Nat) (g : GS_), k ≤ L → L - k < fuel → MAt g0 g c k →
      ∃ g1, MAt g0 g1 c L ∧ ∃ f, f10_finisher_b20 fuel 0 v (nI L) (nI k) g = f10_finisher_b20 (f + 1) 0 v (nI L) (nI L) g1
  | 0, k, g, h1, h2, _ => by omega
  | fuel + 1, k, g, h1, h2, h3 => by
    by_cases he : k = L
    · subst he
      exact ⟨g, h3, fuel, rfl⟩
    · obtain ⟨g1, a1, a2⟩ := MAt_s hM hP h3 (by omega) (by omega)
      obtain ⟨g2, b2, f, b1⟩ := m_fsrLoop hM hP v hL hn hc fuel (k + 1) g1 (by omega) (by omega) a2
      refine ⟨g2, b2, f, ?_⟩
      have e : f10_finisher_b20 (fuel + 1) 0 v (nI L) (nI k) g = f10_finisher_b20 fuel 0 v (nI L) (nI (k + 1)) g1 := by
        rw [f10_finisher_b20.eq_2]
        simp (disch := first | with_reducible assumption | omega | (simp only [MI_sai_iff, MI_sfi_iff]; with_reducible assumption)) only [li, ↓lr_, ↓bd_m, ↓oc_m, ↓reduceIte, bi_0, bi_0n, bi_1, bi_1n, not_true_eq_false, not_false_eq_true, Nat.reduceAdd, Nat.reduceMul, nI_mul, nI_add, inb_T, ix_nI, le_T, le_F, lt_T, lt_F, eq_F, a1]
      rw [e, b1]
