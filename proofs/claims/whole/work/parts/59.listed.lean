/-! the class's items, both lists, listed -/
def XB (v2 v3 : Int32) (g11 : GS_) : Option (Unit × GS_) :=
  bd_ (f6_skip 0 (nI 42) g11) fun z14 g13 => if z14 = nI 0 then bd_ (f6_readNumber 0 g13) fun z16 g15 => bd_ (f6_skip 0 (nI 45) g15) fun z18 g17 => if z18 = nI 0 then f6_expandItem_b52 0 (some 0) v2 v3 z16 z16 g17 else bd_ (f6_readNumber 0 g17) fun z20 g19 => f6_expandItem_b52 0 (some 0) v2 v3 z16 z20 g19 else f6_expandItem_b82 0 (some 0) v2 v3 (nI 1) (nI 999) g13
theorem exp_eq {v2 : Int32} {g : GS_} : f6_expandItem 0 (some 0) v2 g = bd_ (f6_skip 0 (nI 33) g) fun z12 g11 => XB v2 z12 g11 := rfl
def nz (d a : Nat) : Nat := if a = 0 then d else a
theorem x_52 {v2 v3 : Int32} {a b : Nat} (ha : a < 2000) (hb : b < 2000) {g : GS_} : f6_expandItem_b52 0 (some 0) v2 v3 (nI a) (nI b) g = f6_expandItem_b82 0 (some 0) v2 v3 (nI (nz 1 a)) (nI (nz 999 b)) g := by
  unfold nz
  by_cases h1 : a = 0
  · by_cases h2 : b = 0
    · rw [if_pos h1, if_pos h2, h1, h2]
      simp (disch := first | with_reducible assumption | omega | (simp only [MI_sai_iff, MI_sfi_iff]; with_reducible assumption)) only [li, ↓lr_, ↓bd_m, ↓oc_m, ↓reduceIte, bi_0, bi_0n, bi_1, bi_1n, not_true_eq_false, not_false_eq_true, Nat.reduceAdd, Nat.reduceMul, nI_mul, nI_add, inb_T, ix_nI, le_T, le_F, lt_T, lt_F, eq_F, and_self, and_true, true_and, false_and, and_false, or_true, true_or, or_false, false_or, bi_eq, x_within, m_in, f6_expandItem_b52, f6_expandItem_b65, f6_expandItem_b80]
    · rw [if_pos h1, if_neg h2, h1]
      simp (disch := first | with_reducible assumption | omega | (simp only [MI_sai_iff, MI_sfi_iff]; with_reducible assumption)) only [li, ↓lr_, ↓bd_m, ↓oc_m, ↓reduceIte, bi_0, bi_0n, bi_1, bi_1n, not_true_eq_false, not_false_eq_true, Nat.reduceAdd, Nat.reduceMul, nI_mul, nI_add, inb_T, ix_nI, le_T, le_F, lt_T, lt_F, eq_F, and_self, and_true, true_and, false_and, and_false, or_true, true_or, or_false, false_or, bi_eq, x_within, m_in, f6_expandItem_b52, f6_expandItem_b65, f6_expandItem_b80]
  · by_cases h2 : b = 0
    · rw [if_neg h1, if_pos h2, h2]
      simp (disch := first | with_reducible assumption | omega | (simp only [MI_sai_iff, MI_sfi_iff]; with_reducible assumption)) only [li, ↓lr_, ↓bd_m, ↓oc_m, ↓reduceIte, bi_0, bi_0n, bi_1, bi_1n, not_true_eq_false, not_false_eq_true, Nat.reduceAdd, Nat.reduceMul, nI_mul, nI_add, inb_T, ix_nI, le_T, le_F, lt_T, lt_F, eq_F, and_self, and_true, true_and, false_and, and_false, or_true, true_or, or_false, false_or, bi_eq, x_within, m_in, f6_expandItem_b52, f6_expandItem_b65, f6_expandItem_b80]
    · rw [if_neg h1, if_neg h2]
      simp (disch := first | with_reducible assumption | omega | (simp only [MI_sai_iff, MI_sfi_iff]; with_reducible assumption)) only [li, ↓lr_, ↓bd_m, ↓oc_m, ↓reduceIte, bi_0, bi_0n, bi_1, bi_1n, not_true_eq_false, not_false_eq_true, Nat.reduceAdd, Nat.reduceMul, nI_mul, nI_add, inb_T, ix_nI, le_T, le_F, lt_T, lt_F, eq_F, and_self, and_true, true_and, false_and, and_false, or_true, true_or, or_false, false_or, bi_eq, x_within, m_in, f6_expandItem_b52, f6_expandItem_b65, f6_expandItem_b80]
/-- only the place moves -/
def S4 (g g' : GS_) : Prop := gfi g' 98 0 = gfi g 98 0 ∧ gfi g' 97 0 = gfi g 97 0 ∧ gai g' 20 18 = gai g 20 18
theorem S4_rfl {g : GS_} : S4 g g := ⟨rfl, rfl, rfl⟩
theorem S4_tr {a b c : GS_} (h1 : S4 a b) (h2 : S4 b c) : S4 a c := ⟨h2.1.trans h1.1, h2.2.1.trans h1.2.1, h2.2.2.trans h1.2.2⟩
theorem S4_sfi {g : GS_} {v : Int32} : S4 g (sfi g 194 0 v) := ⟨by rw [e_gfi_sfi, if_neg (by omega)], by rw [e_gfi_sfi, if_neg (by omega)], rfl⟩
theorem OV_S4 {g g' : GS_} {X : List Nat} (h : S4 g g') (hO : OV g X) : OV g' X := by
  unfold OV at hO ⊢
  rw [h.1, h.2.1, h.2.2]
  exact hO
theorem x_XB {g : GS_} {c : Nat → Int32} {m q : Nat} {v2 v3 : Int32} (h : CT g c m) (hq : q < 800) (h4 : gfi g 194 0 = nI q) (hb : ¬ brq c q) (hz : c q ≠ nI 42 → c q ≠ nI 45 → c (q + nl c q) = nI 45 → ¬ isD1 (c (q + nl c q + 1)) → ¬ isD (c (q + nl c q + 1))) :
    ∃ g1, XB v2 v3 g = f6_expandItem_b82 0 (some 0) v2 v3 (nI (fiq c q)) (nI (nz 999 (laq c q))) g1 ∧ FX g g1 ∧ gfi g1 194 0 = nI (e1p c q) ∧ S4 g g1 := by
  have fx : ∀ (G : GS_) v, FX G (sfi G 194 0 v) := fun G v => FX_sfi (by omega)
  have e0 := x_skip1 (ch := nI 42) h (p := q) (by omega) h4
  unfold fiq laq e1p
  by_cases a42 : c q = nI 42
  · rw [if_pos a42, bi_t a42] at e0
    rw [if_pos a42, if_pos a42, if_pos a42]
    refine ⟨sfi g 194 0 (nI (q + 1)), ?_, fx _ _, by rw [e_gfi_sfi, if_pos ⟨rfl, rfl⟩], S4_sfi⟩
    have n0 : nz 999 0 = 999 := rfl
    rw [n0]
    simp (disch := first | with_reducible assumption | omega | (simp only [MI_sai_iff, MI_sfi_iff]; with_reducible assumption)) only [li, ↓lr_, ↓bd_m, ↓oc_m, ↓reduceIte, bi_0, bi_0n, bi_1, bi_1n, not_true_eq_false, not_false_eq_true, Nat.reduceAdd, Nat.reduceMul, nI_mul, nI_add, inb_T, ix_nI, le_T, le_F, lt_T, lt_F, eq_F, and_self, and_true, true_and, false_and, and_false, or_true, true_or, or_false, false_or, bi_eq, x_within, m_in, XB, e0]
  · rw [if_neg a42, bi_f a42] at e0
    rw [if_neg a42, if_neg a42, if_neg a42]
    have s45 := x_skip1 (ch := nI 45) h (p := q) (by omega) h4
    by_cases a45 : c q = nI 45
    · rw [if_pos a45, bi_t a45] at s45
      rw [if_pos a45, if_pos a45, if_pos a45]
      have d : isD1 (c (q + 1)) := by
        rcases Classical.em (isD1 (c (q + 1))) with z | z
        · exact z
        · exact absurd (Or.inl ⟨a45, z⟩) hb
      have nd : ¬ isD (c q) := by
        intro z
        have := isD_ne z (n := 45) (by omega) (by omega)
        rw [this] at a45
        exact a45
      have z0 := x_num0 h (q := q) (by omega) h4 nd
      have z1 := x_num (CT_FX (fx g (nI (q + 1))) h) (q := q + 1) (by omega) (by rw [e_gfi_sfi, if_pos ⟨rfl, rfl⟩]) d
      have hn := nv_le d
      have e52 := fun G => x_52 (v2 := v2) (v3 := v3) (a := 0) (b := nv c (q + 1)) (g := G) (by omega) (by omega)
      refine ⟨sfi (sfi g 194 0 (nI (q + 1))) 194 0 (nI (q + 1 + nl c (q + 1))), ?_, FX_tr (fx _ _) (fx _ _), by rw [e_gfi_sfi, if_pos ⟨rfl, rfl⟩], S4_tr S4_sfi S4_sfi⟩
      have n1 : nz 1 0 = 1 := rfl
      rw [n1] at e52
      simp (disch := first | with_reducible assumption | omega | (simp only [MI_sai_iff, MI_sfi_iff]; with_reducible assumption)) only [li, ↓lr_, ↓bd_m, ↓oc_m, ↓reduceIte, bi_0, bi_0n, bi_1, bi_1n, not_true_eq_false, not_false_eq_true, Nat.reduceAdd, Nat.reduceMul, nI_mul, nI_add, inb_T, ix_nI, le_T, le_F, lt_T, lt_F, eq_F, and_self, and_true, true_and, false_and, and_false, or_true, true_or, or_false, false_or, bi_eq, x_within, m_in, XB, e0, z0, s45, z1, e52]
    · rw [if_neg a45, if_neg a45, if_neg a45]
      have d : isD1 (c q) := by
        rcases Classical.em (isD1 (c q)) with z | z
        · exact z
        · exact absurd (Or.inr ⟨a42, a45, z⟩) hb
      have hn := nv_le d
      have hl := nl_le (c := c) (q := q)
      have z0 := x_num h (q := q) (by omega) h4 d
      have C1 := CT_FX (fx g (nI (q + nl c q))) h
      have s2 := x_skip1 (ch := nI 45) C1 (p := q + nl c q) (by omega) (by rw [e_gfi_sfi, if_pos ⟨rfl, rfl⟩])
      have nf : nz 1 (nv c q) = nv c q := if_neg (by omega)
      unfold e1q
      by_cases a : c (q + nl c q) = nI 45
      · rw [if_pos a, bi_t a, sfi_same] at s2
        rw [if_pos a, if_pos a]
        have C2 := CT_FX (fx g (nI (q + nl c q + 1))) h
        by_cases d2 : isD1 (c (q + nl c q + 1))
        · have hn2 := nv_le d2
          have z2 := x_num C2 (q := q + nl c q + 1) (by omega) (by rw [e_gfi_sfi, if_pos ⟨rfl, rfl⟩]) d2
          have e52 := fun G => x_52 (v2 := v2) (v3 := v3) (a := nv c q) (b := nv c (q + nl c q + 1)) (g := G) (by omega) (by omega)
          rw [nf] at e52
          rw [if_pos d2, if_pos d2]
          refine ⟨sfi (sfi g 194 0 (nI (q + nl c q + 1))) 194 0 (nI (q + nl c q + 1 + nl c (q + nl c q + 1))), ?_, FX_tr (fx _ _) (fx _ _), by rw [e_gfi_sfi, if_pos ⟨rfl, rfl⟩], S4_tr S4_sfi S4_sfi⟩
          simp (disch := first | with_reducible assumption | omega | (simp only [MI_sai_iff, MI_sfi_iff]; with_reducible assumption)) only [li, ↓lr_, ↓bd_m, ↓oc_m, ↓reduceIte, bi_0, bi_0n, bi_1, bi_1n, not_true_eq_false, not_false_eq_true, Nat.reduceAdd, Nat.reduceMul, nI_mul, nI_add, inb_T, ix_nI, le_T, le_F, lt_T, lt_F, eq_F, and_self, and_true, true_and, false_and, and_false, or_true, true_or, or_false, false_or, bi_eq, x_within, m_in, XB, e0, z0, s2, z2, e52]
        · have z2 := x_num0 C2 (q := q + nl c q + 1) (by omega) (by rw [e_gfi_sfi, if_pos ⟨rfl, rfl⟩]) (hz a42 a45 a d2)
          have e52 := fun G => x_52 (v2 := v2) (v3 := v3) (a := nv c q) (b := 0) (g := G) (by omega) (by omega)
          rw [nf] at e52
          rw [if_neg d2, if_neg d2]
          refine ⟨sfi g 194 0 (nI (q + nl c q + 1)), ?_, fx _ _, by rw [e_gfi_sfi, if_pos ⟨rfl, rfl⟩], S4_sfi⟩
          simp (disch := first | with_reducible assumption | omega | (simp only [MI_sai_iff, MI_sfi_iff]; with_reducible assumption)) only [li, ↓lr_, ↓bd_m, ↓oc_m, ↓reduceIte, bi_0, bi_0n, bi_1, bi_1n, not_true_eq_false, not_false_eq_true, Nat.reduceAdd, Nat.reduceMul, nI_mul, nI_add, inb_T, ix_nI, le_T, le_F, lt_T, lt_F, eq_F, and_self, and_true, true_and, false_and, and_false, or_true, true_or, or_false, false_or, bi_eq, x_within, m_in, XB, e0, z0, s2, z2, e52]
      · rw [if_neg a, bi_f a] at s2
        rw [if_neg a, if_neg a]
        have e52 := fun G => x_52 (v2 := v2) (v3 := v3) (a := nv c q) (b := nv c q) (g := G) (by omega) (by omega)
        rw [nf] at e52
        refine ⟨sfi g 194 0 (nI (q + nl c q)), ?_, fx _ _, by rw [e_gfi_sfi, if_pos ⟨rfl, rfl⟩], S4_sfi⟩
        simp (disch := first | with_reducible assumption | omega | (simp only [MI_sai_iff, MI_sfi_iff]; with_reducible assumption)) only [li, ↓lr_, ↓bd_m, ↓oc_m, ↓reduceIte, bi_0, bi_0n, bi_1, bi_1n, not_true_eq_false, not_false_eq_true, Nat.reduceAdd, Nat.reduceMul, nI_mul, nI_add, inb_T, ix_nI, le_T, le_F, lt_T, lt_F, eq_F, and_self, and_true, true_and, false_and, and_false, or_true, true_or, or_false, false_or, bi_eq, x_within, m_in, XB, e0, z0, s2, e52]
/-- the list after an item -/
def resX (t : Prop) [Decidable t] (h : Int32) (f L N : Nat) (X : List Nat) : List Nat := if t then X.filter (kp h (min f L) (max f L)) else X ++ spX h f L N
theorem x_109 {g : GS_} {c : Nat → Int32} {m e f L N : Nat} {h : Int32} {X : List Nat} {t : Prop} [Decidable t] (hC : CT g c m) (he : e < 900) (h4 : gfi g 194 0 = nI e) (hh : hok h) (hf : f < 1000) (hL : 1 ≤ L ∧ L < 1000) (hN : N < 1000) (hP : PLs g) (hO : OV g X) (hX : X.length ≤ 400) (hx : ∀ x, x ∈ X → x < 1000) :
    ∃ g', f6_expandItem_b109 0 (some 0) (nI N) (bi t) (nI f) (nI L) (pcl h) g = some ((), g') ∧ FX g g' ∧ gfi g' 194 0 = nI (if c e = nI 44 then e + 1 else e) ∧ OV g' (resX t h f L N X) := by
  have s1 := x_skip1 (ch := nI 44) hC (p := e) (by omega) h4
  have key : ∀ g1, FX g g1 → S4 g g1 → gfi g1 194 0 = nI (if c e = nI 44 then e + 1 else e) → ∃ g', (if bi t = nI 0 then bd_ (f3_appendSpan 0 (nI f) (nI L) (pcl h) (nI N) g1) fun _ g4 => some ((), g4) else bd_ (f3_removeSpan 0 (nI f) (nI L) (pcl h) g1) fun _ g6 => some ((), g6)) = some ((), g') ∧ FX g g' ∧ gfi g' 194 0 = nI (if c e = nI 44 then e + 1 else e) ∧ OV g' (resX t h f L N X) := by
    intro g1 k1 k2 k5
    have hO1 : OV g1 X := OV_S4 k2 hO
    unfold resX
    by_cases ht : t
    · obtain ⟨g', a1, a2, a3, a4⟩ := x_removeSpan hh hf hL.2 (PLs_FX k1 hP) hO1 hX hx
      rw [if_pos ht]
      refine ⟨g', ?_, FX_tr k1 a2, a3.trans k5, a4⟩
      simp (disch := first | with_reducible assumption | omega | (simp only [MI_sai_iff, MI_sfi_iff]; with_reducible assumption)) only [li, ↓lr_, ↓bd_m, ↓oc_m, ↓reduceIte, bi_0, bi_0n, bi_1, bi_1n, not_true_eq_false, not_false_eq_true, Nat.reduceAdd, Nat.reduceMul, nI_mul, nI_add, inb_T, ix_nI, le_T, le_F, lt_T, lt_F, eq_F, and_self, and_true, true_and, false_and, and_false, or_true, true_or, or_false, false_or, bi_eq, x_within, m_in, eq_true ht, a1]
    · obtain ⟨g', a1, a2, a3, a4⟩ := x_appendSpan hh hf hL hN (PLs_FX k1 hP) hO1
      rw [if_neg ht]
      refine ⟨g', ?_, FX_tr k1 a2, a3.trans k5, a4⟩
      simp (disch := first | with_reducible assumption | omega | (simp only [MI_sai_iff, MI_sfi_iff]; with_reducible assumption)) only [li, ↓lr_, ↓bd_m, ↓oc_m, ↓reduceIte, bi_0, bi_0n, bi_1, bi_1n, not_true_eq_false, not_false_eq_true, Nat.reduceAdd, Nat.reduceMul, nI_mul, nI_add, inb_T, ix_nI, le_T, le_F, lt_T, lt_F, eq_F, and_self, and_true, true_and, false_and, and_false, or_true, true_or, or_false, false_or, bi_eq, x_within, m_in, eq_false ht, a1]
  by_cases a : c e = nI 44
  · rw [if_pos a, bi_t a] at s1
    obtain ⟨g', b1, b2⟩ := key (sfi g 194 0 (nI (e + 1))) (FX_sfi (by omega)) S4_sfi (by rw [if_pos a, e_gfi_sfi, if_pos ⟨rfl, rfl⟩])
    refine ⟨g', ?_, b2⟩
    rw [f6_expandItem_b109]
    simp only [li]
    rw [s1]
    exact b1
  · rw [if_neg a, bi_f a] at s1
    obtain ⟨g', b1, b2⟩ := key g FX_rfl S4_rfl (by rw [if_neg a]; exact h4)
    refine ⟨g', ?_, b2⟩
    rw [f6_expandItem_b109]
    simp only [li]
    rw [s1]
    exact b1
theorem x_82 {g : GS_} {c : Nat → Int32} {m r : Nat} {v2 v3 v4 v5 : Int32} (hC : CT g c m) (hr : r < 900) (h4 : gfi g 194 0 = nI r) :
    ∃ g1, f6_expandItem_b82 0 (some 0) v2 v3 v4 v5 g = f6_expandItem_b109 0 (some 0) v2 v3 v4 v5 (pcl (hv c r)) g1 ∧ FX g g1 ∧ gfi g1 194 0 = nI (hEnd c r) ∧ S4 g g1 := by
  have s1 := x_skip1 (ch := nI 111) hC (p := r) (by omega) h4
  have s2 := x_skip1 (ch := nI 101) hC (p := r) (by omega) h4
  unfold hv hEnd isH
  by_cases a : c r = nI 111
  · rw [if_pos a, bi_t a] at s1
    rw [if_pos (Or.inl a), if_pos (Or.inl a), a]
    refine ⟨sfi g 194 0 (nI (r + 1)), ?_, FX_sfi (by omega), by rw [e_gfi_sfi, if_pos ⟨rfl, rfl⟩], S4_sfi⟩
    have p1 : pcl (nI 111) = nI 1 := by decide
    rw [p1]
    simp (disch := first | with_reducible assumption | omega | (simp only [MI_sai_iff, MI_sfi_iff]; with_reducible assumption)) only [li, ↓lr_, ↓bd_m, ↓oc_m, ↓reduceIte, bi_0, bi_0n, bi_1, bi_1n, not_true_eq_false, not_false_eq_true, Nat.reduceAdd, Nat.reduceMul, nI_mul, nI_add, inb_T, ix_nI, le_T, le_F, lt_T, lt_F, eq_F, and_self, and_true, true_and, false_and, and_false, or_true, true_or, or_false, false_or, bi_eq, x_within, m_in, f6_expandItem_b82, s1]
  · rw [if_neg a, bi_f a] at s1
    by_cases b : c r = nI 101
    · rw [if_pos b, bi_t b] at s2
      rw [if_pos (Or.inr b), if_pos (Or.inr b), b]
      refine ⟨sfi g 194 0 (nI (r + 1)), ?_, FX_sfi (by omega), by rw [e_gfi_sfi, if_pos ⟨rfl, rfl⟩], S4_sfi⟩
      have p1 : pcl (nI 101) = nI 0 := by decide
      rw [p1]
      simp (disch := first | with_reducible assumption | omega | (simp only [MI_sai_iff, MI_sfi_iff]; with_reducible assumption)) only [li, ↓lr_, ↓bd_m, ↓oc_m, ↓reduceIte, bi_0, bi_0n, bi_1, bi_1n, not_true_eq_false, not_false_eq_true, Nat.reduceAdd, Nat.reduceMul, nI_mul, nI_add, inb_T, ix_nI, le_T, le_F, lt_T, lt_F, eq_F, and_self, and_true, true_and, false_and, and_false, or_true, true_or, or_false, false_or, bi_eq, x_within, m_in, f6_expandItem_b82, s1, s2]
    · rw [if_neg b, bi_f b] at s2
      have nh : ¬ (c r = nI 111 ∨ c r = nI 101) := by rintro (z | z); exact a z; exact b z
      rw [if_neg nh, if_neg nh]
      refine ⟨g, ?_, FX_rfl, h4, S4_rfl⟩
      have p1 : pcl (nI 0) = -nI 1 := by decide
      rw [p1]
      simp (disch := first | with_reducible assumption | omega | (simp only [MI_sai_iff, MI_sfi_iff]; with_reducible assumption)) only [li, ↓lr_, ↓bd_m, ↓oc_m, ↓reduceIte, bi_0, bi_0n, bi_1, bi_1n, not_true_eq_false, not_false_eq_true, Nat.reduceAdd, Nat.reduceMul, nI_mul, nI_add, inb_T, ix_nI, le_T, le_F, lt_T, lt_F, eq_F, and_self, and_true, true_and, false_and, and_false, or_true, true_or, or_false, false_or, bi_eq, x_within, m_in, f6_expandItem_b82, s1, s2]
def nxt (c : Nat → Int32) (e : Nat) : Nat := if c e = nI 44 then e + 1 else e
theorem e1p_le {c : Nat → Int32} {q : Nat} (hq : q < 700) : e1p c q < 800 := by
  have l1 := nl_le (c := c) (q := q)
  have l2 := nl_le (c := c) (q := q + 1)
  have l3 := nl_le (c := c) (q := q + nl c q + 1)
  unfold e1p e1q
  split
  · omega
  · split
    · omega
    · split
      · split <;> omega
      · omega
theorem fiq_le {c : Nat → Int32} {q : Nat} (hb : ¬ brq c q) : 1 ≤ fiq c q ∧ fiq c q ≤ 999 := by
  unfold fiq
  by_cases a42 : c q = nI 42
  · rw [if_pos a42]; omega
  · by_cases a45 : c q = nI 45
    · rw [if_neg a42, if_pos a45]; omega
    · rw [if_neg a42, if_neg a45]
      refine nv_le ?_
      rcases Classical.em (isD1 (c q)) with z | z
      · exact z
      · exact absurd (Or.inr ⟨a42, a45, z⟩) hb
theorem laq_le {c : Nat → Int32} {q : Nat} (hb : ¬ brq c q) : laq c q ≤ 999 := by
  unfold laq
  by_cases a42 : c q = nI 42
  · rw [if_pos a42]; omega
  · by_cases a45 : c q = nI 45
    · rw [if_neg a42, if_pos a45]
      refine (nv_le ?_).2
      rcases Classical.em (isD1 (c (q + 1))) with z | z
      · exact z
      · exact absurd (Or.inl ⟨a45, z⟩) hb
    · rw [if_neg a42, if_neg a45]
      split
      · split
        · rename_i z
          exact (nv_le z).2
        · omega
      · refine (nv_le ?_).2
        rcases Classical.em (isD1 (c q)) with z | z
        · exact z
        · exact absurd (Or.inr ⟨a42, a45, z⟩) hb
theorem x_expItem {g : GS_} {c : Nat → Int32} {m p N : Nat} {X : List Nat} (hC : CT g c m) (hp : p < 600) (h4 : gfi g 194 0 = nI p) (hb : ¬ brk c p) (hnx : c (e2 c p) = nI 44 ∨ c (e2 c p) = nI 0) (hN : N < 1000) (hP : PLs g) (hO : OV g X) (hX : X.length ≤ 400) (hx : ∀ x, x ∈ X → x < 1000) :
    ∃ g', f6_expandItem 0 (some 0) (nI N) g = some ((), g') ∧ FX g g' ∧ gfi g' 194 0 = nI (nxt c (e2 c p)) ∧ OV g' (resX (c p = nI 33) (hv c (e1 c p)) (fiq c (pB c p)) (nz 999 (laq c (pB c p))) N X) := by
  have s1 := x_skip1 (ch := nI 33) hC (p := p) (by omega) h4
  have hb' : ¬ brq c (pB c p) := hb
  have hq : pB c p < 700 := by unfold pB; split <;> omega
  have hz : c (pB c p) ≠ nI 42 → c (pB c p) ≠ nI 45 → c (pB c p + nl c (pB c p)) = nI 45 → ¬ isD1 (c (pB c p + nl c (pB c p) + 1)) → ¬ isD (c (pB c p + nl c (pB c p) + 1)) := by
    intro w1 w2 w3 w4 w5
    have e : e1 c p = pB c p + nl c (pB c p) + 1 := by
      unfold e1 e1q
      rw [if_neg w1, if_neg w2, if_pos w3, if_neg w4]
    have nh : ¬ isH (c (pB c p + nl c (pB c p) + 1)) := by
      rintro (z | z)
      · rw [isD_ne w5 (by omega) (by omega)] at z; exact z
      · rw [isD_ne w5 (by omega) (by omega)] at z; exact z
    unfold e2 hEnd at hnx
    rw [e, if_neg nh] at hnx
    rcases hnx with z | z
    · rw [isD_ne w5 (by omega) (by omega)] at z; exact z
    · rw [isD_ne w5 (by omega) (by omega)] at z; exact z
  have hf := fiq_le hb'
  have hl := laq_le hb'
  have hL : 1 ≤ nz 999 (laq c (pB c p)) ∧ nz 999 (laq c (pB c p)) < 1000 := by
    unfold nz
    split <;> omega
  have he1 := e1p_le (c := c) hq
  have he2 : e2 c p < 900 := by
    unfold e2 hEnd
    have : e1 c p = e1p c (pB c p) := rfl
    rw [this]
    split <;> omega
  have step : ∀ g0, FX g g0 → S4 g g0 → gfi g0 194 0 = nI (pB c p) → ∃ g', XB (nI N) (bi (c p = nI 33)) g0 = some ((), g') ∧ FX g g' ∧ gfi g' 194 0 = nI (nxt c (e2 c p)) ∧ OV g' (resX (c p = nI 33) (hv c (e1 c p)) (fiq c (pB c p)) (nz 999 (laq c (pB c p))) N X) := by
    intro g0 k1 k2 k5
    have C0 := CT_FX k1 hC
    obtain ⟨g1, a1, a2, a3, a4⟩ := x_XB (v2 := nI N) (v3 := bi (c p = nI 33)) C0 (by omega) k5 hb' hz
    have C1 := CT_FX a2 C0
    obtain ⟨g2, b1, b2, b3, b4⟩ := x_82 (v2 := nI N) (v3 := bi (c p = nI 33)) (v4 := nI (fiq c (pB c p))) (v5 := nI (nz 999 (laq c (pB c p)))) C1 (by omega) a3
    have C2 := CT_FX b2 C1
    have k6 := FX_tr k1 (FX_tr a2 b2)
    obtain ⟨g3, d1, d2, d3, d4⟩ := x_109 (t := c p = nI 33) (f := fiq c (pB c p)) (L := nz 999 (laq c (pB c p))) (N := N) C2 he2 b3 hv_ok (by omega) hL hN (PLs_FX k6 hP) (OV_S4 (S4_tr k2 (S4_tr a4 b4)) hO) hX hx
    exact ⟨g3, a1.trans (b1.trans d1), FX_tr k6 d2, d3, d4⟩
  rw [exp_eq, s1]
  by_cases a : c p = nI 33
  · have hpb : pB c p = p + 1 := if_pos a
    rw [if_pos a]
    exact step (sfi g 194 0 (nI (p + 1))) (FX_sfi (by omega)) S4_sfi (by rw [e_gfi_sfi, if_pos ⟨rfl, rfl⟩, hpb])
  · have hpb : pB c p = p := if_neg a
    rw [if_neg a]
    exact step g FX_rfl S4_rfl (by rw [hpb]; exact h4)
