/-! spans, in the class and in the reference -/
theorem jmin_n2 {a b : Nat} (ha : a < 100000) (hb : b < 100000) : jmin (nI a) (nI b) = nI (min a b) := by
  unfold jmin
  by_cases h : b < a
  · rw [if_pos ((lt_nI (by omega) (by omega)).mpr h), show min a b = b by omega]
  · rw [if_neg (fun q => h ((lt_nI (by omega) (by omega)).mp q)), show min a b = a by omega]
theorem jmax_n2 {a b : Nat} (ha : a < 100000) (hb : b < 100000) : jmax (nI a) (nI b) = nI (max a b) := by
  unfold jmax
  by_cases h : a < b
  · rw [if_pos ((lt_nI (by omega) (by omega)).mpr h), show max a b = b by omega]
  · rw [if_neg (fun q => h ((lt_nI (by omega) (by omega)).mp q)), show max a b = a by omega]
def spX (h : Int32) (f L N : Nat) : List Nat := if L < f then da (part h) (min f N) (min f N + 1 - L) else ua (part h) f (min L N + 1 - f)
theorem x_appendSpan {g : GS_} {X : List Nat} {h : Int32} {f L N : Nat} (hh : hok h) (hf : f < 1000) (hL : 1 ≤ L ∧ L < 1000) (hN : N < 1000) (hP : PLs g) (hO : OV g X) :
    ∃ g', f3_appendSpan 0 (nI f) (nI L) (pcl h) (nI N) g = some ((), g') ∧ FX g g' ∧ gfi g' 194 0 = gfi g 194 0 ∧ OV g' (X ++ spX h f L N) := by
  unfold spX
  by_cases c : L < f
  · rw [if_pos c]
    obtain ⟨g', a1, a2, a3, a4⟩ := x_spanDown hh (show 1 ≤ L ∧ L < 10000 by omega) FU_ (min f N) g X (by omega) (by unfold FU_; omega) hP hO
    have e1 := jmin_n2 (a := f) (b := N) (by omega) (by omega)
    refine ⟨g', ?_, a2, a3, a4⟩
    simp (disch := first | with_reducible assumption | omega | (simp only [MI_sai_iff, MI_sfi_iff]; with_reducible assumption)) only [li, ↓lr_, ↓bd_m, ↓oc_m, ↓reduceIte, bi_0, bi_0n, bi_1, bi_1n, not_true_eq_false, not_false_eq_true, Nat.reduceAdd, Nat.reduceMul, nI_mul, nI_add, inb_T, ix_nI, le_T, le_F, lt_T, lt_F, eq_F, and_self, and_true, true_and, false_and, and_false, or_true, true_or, or_false, false_or, bi_eq, x_within, m_in, f3_appendSpan, e1, a1]
  · rw [if_neg c]
    obtain ⟨g', a1, a2, a3, a4⟩ := x_spanUp hh (show L < 10000 by omega) (show N < 10000 by omega) FU_ f g X (by omega) (by unfold FU_; omega) hP hO
    refine ⟨g', ?_, a2, a3, a4⟩
    simp (disch := first | with_reducible assumption | omega | (simp only [MI_sai_iff, MI_sfi_iff]; with_reducible assumption)) only [li, ↓lr_, ↓bd_m, ↓oc_m, ↓reduceIte, bi_0, bi_0n, bi_1, bi_1n, not_true_eq_false, not_false_eq_true, Nat.reduceAdd, Nat.reduceMul, nI_mul, nI_add, inb_T, ix_nI, le_T, le_F, lt_T, lt_F, eq_F, and_self, and_true, true_and, false_and, and_false, or_true, true_or, or_false, false_or, bi_eq, x_within, m_in, f3_appendSpan, a1]
/-- what a removal keeps -/
def kp (h : Int32) (lo hi x : Nat) : Bool := !(decide (lo ≤ x) && decide (x ≤ hi) && part h x)
theorem kp_lo {h : Int32} {lo hi x : Nat} (q : x < lo) : kp h lo hi x = true := by unfold kp; rw [decide_eq_false (by omega)]; rfl
theorem kp_hi {h : Int32} {lo hi x : Nat} (q : hi < x) : kp h lo hi x = true := by unfold kp; rw [decide_eq_false (show ¬ x ≤ hi by omega), Bool.and_false]; rfl
theorem kp_in {h : Int32} {lo hi x : Nat} (q1 : lo ≤ x) (q2 : x ≤ hi) : kp h lo hi x = !part h x := by unfold kp; rw [decide_eq_true q1, decide_eq_true q2]; rfl
theorem x_rem {h : Int32} {lo hi : Nat} (hh : hok h) (hlo : lo < 1000) (hhi : hi < 1000) : ∀ (fuel : Nat) (B K : List Nat) (g : GS_) (k : Nat), B.length < fuel → PLs g → K.length ≤ k → k + B.length ≤ 400 → gfi g 98 0 = nI 0 → gfi g 97 0 = nI (k + B.length) → (∀ i x, K[i]? = some x → gai g 20 18 i = nI x) → (∀ i x, B[i]? = some x → gai g 20 18 (k + i) = nI x) → (∀ x, x ∈ B → x < 1000) →
    ∃ g', f3_removeSpan_b20 fuel 0 (pcl h) (nI lo) (nI hi) (nI K.length) (nI k) g = some ((), g') ∧ FX g g' ∧ gfi g' 194 0 = gfi g 194 0 ∧ OV g' (K ++ B.filter (kp h lo hi))
  | 0, B, K, g, k, h1, _, _, _, _, _, _, _, _ => by omega
  | fuel + 1, [], K, g, k, h1, hP, hk, hl, h98, h97, hK, hB, hx => by
    rw [f3_removeSpan_b20.eq_2]
    have h97' : gfi g 97 0 = nI k := h97
    refine ⟨sfi g 97 0 (nI K.length), ?_, FX_sfi (by omega), ?_, ?_⟩
    · have : k ≤ k := Nat.le_refl k
      generalize K.length = n at *
      simp (disch := first | with_reducible assumption | omega | (simp only [MI_sai_iff, MI_sfi_iff]; with_reducible assumption)) only [li, ↓lr_, ↓bd_m, ↓oc_m, ↓reduceIte, bi_0, bi_0n, bi_1, bi_1n, not_true_eq_false, not_false_eq_true, Nat.reduceAdd, Nat.reduceMul, nI_mul, nI_add, inb_T, ix_nI, le_T, le_F, lt_T, lt_F, eq_F, and_self, and_true, true_and, false_and, and_false, or_true, true_or, or_false, false_or, bi_eq, x_within, m_in, h97', Nat.le_refl, f3_removeSpan_b111]
    · rw [e_gfi_sfi, if_neg (by omega)]
    · rw [List.filter_nil, List.append_nil]
      unfold OV
      rw [if_pos (by simp at hl; omega)]
      refine ⟨by rw [e_gfi_sfi, if_neg (by omega)]; exact h98, by rw [e_gfi_sfi, if_pos ⟨rfl, rfl⟩], fun i x hi => ?_⟩
      exact hK i x hi
  | fuel + 1, x :: B, K, g, k, h1, hP, hk, hl, h98, h97, hK, hB, hx => by
    have hl' : k + (B.length + 1) ≤ 400 := hl
    have h97' : gfi g 97 0 = nI (k + (B.length + 1)) := h97
    have h1' : B.length + 1 < fuel + 1 := h1
    have e0 : gai g 20 18 k = nI x := hB 0 x rfl
    have hx0 : x < 1000 := hx x (by simp)
    have hx' : ∀ y, y ∈ B → y < 1000 := fun y hy => hx y (by simp [hy])
    obtain ⟨r1, r2⟩ := hP
    have e1 := x_matches (g := g) (x := x) hh (by omega)
    rw [f3_removeSpan_b20.eq_2]
    -- kept
    have keep : kp h lo hi x = true → ∃ g', f3_removeSpan_b76 (f3_removeSpan_b20 fuel) 0 (pcl h) (nI lo) (nI hi) (nI K.length) (nI k) (nI x) (nI 0) g = some ((), g') ∧ FX g g' ∧ gfi g' 194 0 = gfi g 194 0 ∧ OV g' (K ++ (x :: B).filter (kp h lo hi)) := by
      intro hkp
      have hfx : FX g (sai g 20 18 K.length (nI x)) := FX_sai (by omega)
      have nK : ∀ i y, (K ++ [x])[i]? = some y → gai (sai g 20 18 K.length (nI x)) 20 18 i = nI y := by
        intro i y hi
        rcases Nat.lt_trichotomy i K.length with c | c | c
        · rw [List.getElem?_append_left c] at hi
          rw [e_gai_sai, if_neg (by omega)]
          exact hK i y hi
        · subst c
          rw [List.getElem?_append_right (Nat.le_refl _), Nat.sub_self] at hi
          simp at hi
          rw [e_gai_sai, if_pos ⟨rfl, rfl, rfl⟩, hi]
        · rw [List.getElem?_eq_none (by simp; omega)] at hi
          cases hi
      have nB : ∀ i y, B[i]? = some y → gai (sai g 20 18 K.length (nI x)) 20 18 (k + 1 + i) = nI y := by
        intro i y hi
        rw [e_gai_sai, if_neg (by omega), show k + 1 + i = k + (i + 1) by omega]
        exact hB (i + 1) y hi
      obtain ⟨g', a1, a2, a3, a4⟩ := x_rem hh hlo hhi fuel B (K ++ [x]) (sai g 20 18 K.length (nI x)) (k + 1) (by omega) (PLs_FX hfx ⟨r1, r2⟩) (by simp; omega) (by omega) h98 (h97'.trans (by rw [show k + (B.length + 1) = k + 1 + B.length by omega])) nK nB hx'
      refine ⟨g', ?_, FX_tr hfx a2, a3, ?_⟩
      · rw [List.length_append] at a1
        have a1' : f3_removeSpan_b20 fuel 0 (pcl h) (nI lo) (nI hi) (nI (K.length + 1)) (nI (k + 1)) (sai g 20 18 K.length (nI x)) = some ((), g') := a1
        generalize K.length = n at *
        simp (disch := first | with_reducible assumption | omega | (simp only [MI_sai_iff, MI_sfi_iff]; with_reducible assumption)) only [li, ↓lr_, ↓bd_m, ↓oc_m, ↓reduceIte, bi_0, bi_0n, bi_1, bi_1n, not_true_eq_false, not_false_eq_true, Nat.reduceAdd, Nat.reduceMul, nI_mul, nI_add, inb_T, ix_nI, le_T, le_F, lt_T, lt_F, eq_F, and_self, and_true, true_and, false_and, and_false, or_true, true_or, or_false, false_or, bi_eq, x_within, m_in, f3_removeSpan_b76, r1, r2, ofN, f3_removeSpan_b105, a1']
      · rw [List.filter_cons_of_pos hkp]
        rw [List.append_assoc] at a4
        exact a4
    have hB' : B.length + 1 ≤ 400 := by omega
    by_cases c1 : x < lo
    · obtain ⟨g', a1, a2⟩ := keep (kp_lo c1)
      refine ⟨g', ?_, a2⟩
      generalize K.length = n at *
      simp (disch := first | with_reducible assumption | omega | (simp only [MI_sai_iff, MI_sfi_iff]; with_reducible assumption)) only [li, ↓lr_, ↓bd_m, ↓oc_m, ↓reduceIte, bi_0, bi_0n, bi_1, bi_1n, not_true_eq_false, not_false_eq_true, Nat.reduceAdd, Nat.reduceMul, nI_mul, nI_add, inb_T, ix_nI, le_T, le_F, lt_T, lt_F, eq_F, and_self, and_true, true_and, false_and, and_false, or_true, true_or, or_false, false_or, bi_eq, x_within, m_in, h97', r1, r2, ofN, e0, f3_removeSpan_b75, a1]
    · by_cases c2 : hi < x
      · obtain ⟨g', a1, a2⟩ := keep (kp_hi c2)
        refine ⟨g', ?_, a2⟩
        generalize K.length = n at *
        simp (disch := first | with_reducible assumption | omega | (simp only [MI_sai_iff, MI_sfi_iff]; with_reducible assumption)) only [li, ↓lr_, ↓bd_m, ↓oc_m, ↓reduceIte, bi_0, bi_0n, bi_1, bi_1n, not_true_eq_false, not_false_eq_true, Nat.reduceAdd, Nat.reduceMul, nI_mul, nI_add, inb_T, ix_nI, le_T, le_F, lt_T, lt_F, eq_F, and_self, and_true, true_and, false_and, and_false, or_true, true_or, or_false, false_or, bi_eq, x_within, m_in, h97', r1, r2, ofN, e0, f3_removeSpan_b75, a1]
      · have hkp : kp h lo hi x = !part h x := kp_in (by omega) (by omega)
        by_cases c3 : part h x = true
        · rw [bi_t c3] at e1
          obtain ⟨g', a1, a2, a3, a4⟩ := x_rem hh hlo hhi fuel B K g (k + 1) (by omega) ⟨r1, r2⟩ (by omega) (by omega) h98 (h97'.trans (by rw [show k + (B.length + 1) = k + 1 + B.length by omega])) hK (fun i y hi => by rw [show k + 1 + i = k + (i + 1) by omega]; exact hB (i + 1) y hi) hx'
          refine ⟨g', ?_, a2, a3, ?_⟩
          · generalize K.length = n at *
            simp (disch := first | with_reducible assumption | omega | (simp only [MI_sai_iff, MI_sfi_iff]; with_reducible assumption)) only [li, ↓lr_, ↓bd_m, ↓oc_m, ↓reduceIte, bi_0, bi_0n, bi_1, bi_1n, not_true_eq_false, not_false_eq_true, Nat.reduceAdd, Nat.reduceMul, nI_mul, nI_add, inb_T, ix_nI, le_T, le_F, lt_T, lt_F, eq_F, and_self, and_true, true_and, false_and, and_false, or_true, true_or, or_false, false_or, bi_eq, x_within, m_in, h97', r1, r2, ofN, e0, e1, f3_removeSpan_b76, f3_removeSpan_b105, a1]
          · rw [List.filter_cons_of_neg (by rw [hkp, c3]; decide)]
            exact a4
        · rw [bi_f c3] at e1
          have c3' : part h x = false := by
            cases hq : part h x
            · rfl
            · exact absurd hq c3
          obtain ⟨g', a1, a2⟩ := keep (by rw [hkp, c3']; rfl)
          refine ⟨g', ?_, a2⟩
          generalize K.length = n at *
          simp (disch := first | with_reducible assumption | omega | (simp only [MI_sai_iff, MI_sfi_iff]; with_reducible assumption)) only [li, ↓lr_, ↓bd_m, ↓oc_m, ↓reduceIte, bi_0, bi_0n, bi_1, bi_1n, not_true_eq_false, not_false_eq_true, Nat.reduceAdd, Nat.reduceMul, nI_mul, nI_add, inb_T, ix_nI, le_T, le_F, lt_T, lt_F, eq_F, and_self, and_true, true_and, false_and, and_false, or_true, true_or, or_false, false_or, bi_eq, x_within, m_in, h97', r1, r2, ofN, e0, e1, f3_removeSpan_b75, a1]
theorem x_removeSpan {g : GS_} {X : List Nat} {h : Int32} {f L : Nat} (hh : hok h) (hf : f < 1000) (hL : L < 1000) (hP : PLs g) (hO : OV g X) (hX : X.length ≤ 400) (hx : ∀ x, x ∈ X → x < 1000) :
    ∃ g', f3_removeSpan 0 (nI f) (nI L) (pcl h) g = some ((), g') ∧ FX g g' ∧ gfi g' 194 0 = gfi g 194 0 ∧ OV g' (X.filter (kp h (min f L) (max f L))) := by
  unfold OV at hO
  rw [if_pos hX] at hO
  obtain ⟨o1, o2, o3⟩ := hO
  obtain ⟨g', a1, a2, a3, a4⟩ := x_rem hh (show min f L < 1000 by omega) (show max f L < 1000 by omega) FU_ X [] g 0 (by unfold FU_; omega) hP (by simp) (by omega) o1 (by rw [Nat.zero_add]; exact o2) (fun i x q => by simp at q) (fun i x q => by rw [Nat.zero_add]; exact o3 i x q) hx
  have a1' : f3_removeSpan_b20 FU_ 0 (pcl h) (nI (min f L)) (nI (max f L)) (nI 0) (nI 0) g = some ((), g') := a1
  have e1 := jmin_n2 (a := f) (b := L) (by omega) (by omega)
  have e2 := jmax_n2 (a := f) (b := L) (by omega) (by omega)
  refine ⟨g', ?_, a2, a3, a4⟩
  simp (disch := first | with_reducible assumption | omega | (simp only [MI_sai_iff, MI_sfi_iff]; with_reducible assumption)) only [li, ↓lr_, ↓bd_m, ↓oc_m, ↓reduceIte, bi_0, bi_0n, bi_1, bi_1n, not_true_eq_false, not_false_eq_true, Nat.reduceAdd, Nat.reduceMul, nI_mul, nI_add, inb_T, ix_nI, le_T, le_F, lt_T, lt_F, eq_F, and_self, and_true, true_and, false_and, and_false, or_true, true_or, or_false, false_or, bi_eq, x_within, m_in, f3_removeSpan, e1, e2, a1']
-- the reference
/-- what the reference's lists may move -/
def FL (g g' : GS_) : Prop := NR g g' ∧ (∀ f, f ≠ 333 → gfi g' f 0 = gfi g f 0) ∧ ∀ t i, ¬ (t = 20 ∧ i = 5) → gai g' t i = gai g t i
theorem FL_rfl {g : GS_} : FL g g := ⟨NR_rfl, fun _ _ => rfl, fun _ _ _ => rfl⟩
theorem FL_tr {a b c : GS_} (h1 : FL a b) (h2 : FL b c) : FL a c := ⟨NR_tr h1.1 h2.1, fun f q => (h2.2.1 f q).trans (h1.2.1 f q), fun t i q => (h2.2.2 t i q).trans (h1.2.2 t i q)⟩
theorem FL_sfi {g : GS_} {v : Int32} : FL g (sfi g 333 0 v) := ⟨⟨rfl, rfl, rfl, rfl, rfl, rfl⟩, fun f' q => by rw [e_gfi_sfi, if_neg (by omega)], fun _ _ _ => rfl⟩
theorem FL_sai {g : GS_} {k : Nat} {v : Int32} : FL g (sai g 20 5 k v) := by
  refine ⟨⟨rfl, rfl, rfl, rfl, rfl, rfl⟩, fun _ _ => rfl, fun t i' q => ?_⟩
  funext j
  rw [e_gai_sai, if_neg (by rintro ⟨rfl, rfl, -⟩; exact q ⟨rfl, rfl⟩)]
def WL (g : GS_) (X : List Nat) : Prop := LQ (gfi g 333 0) (gai g 20 5) X
theorem MI_FL {g g' : GS_} (h : MI g) (hf : FL g g') : MI g' := MI_eq h hf.1.1 hf.1.2.1
def pm (h : Int32) (N x : Nat) : Bool := decide (x ≤ N) && part h x
theorem m_put1 {g : GS_} {X : List Nat} {x : Nat} (hM : MI g) (hW : WL g X) (hl : X.length < 801) : gfi g 333 0 = nI X.length ∧ gfr g 332 0 = some 5 ∧ gln g 20 5 = 801 ∧ FL g (sfi (sai g 20 5 X.length (nI x)) 333 0 (nI (X.length + 1))) ∧ WL (sfi (sai g 20 5 X.length (nI x)) 333 0 (nI (X.length + 1))) (X ++ [x]) := by
  obtain ⟨⟨-, -, -, -, -, -, -⟩, -, -, -, -, -, -, -⟩ := MI_all hM
  have q5 : gfr g 332 0 = some 5 := by obtain ⟨-, -, -, -, -, -, h, -⟩ := hM; exact h
  have n5 : gln g 20 5 = 801 := by obtain ⟨-, -, -, -, -, -, -, -, -, -, -, -, -, -, -, -, h, -⟩ := hM; exact h
  refine ⟨hW.1, q5, n5, FL_tr FL_sai FL_sfi, ?_⟩
  have hadd := LQ_add (x := x) (⟨hW.1, hW.2⟩ : LQ (gfi g 333 0) (gai g 20 5) X)
  have : gai (sfi (sai g 20 5 X.length (nI x)) 333 0 (nI (X.length + 1))) 20 5 = up (gai g 20 5) X.length (nI x) := by
    funext k
    rw [e_gai_sfi, e_gai_sai]
    unfold up
    by_cases q : k = X.length
    · rw [if_pos ⟨rfl, rfl, q⟩, if_pos q]
    · rw [if_neg (by omega), if_neg q]
  unfold WL
  rw [this, e_gfi_sfi, if_pos ⟨rfl, rfl⟩]
  exact hadd
theorem m_up {h : Int32} {f N M : Nat} (hh : hok h) (hf : f < 1000) (hN : N < 1000) (hM1 : M < 1000) : ∀ (fuel k : Nat) (g : GS_) (X : List Nat), k ≤ M → M - k < fuel → MI g → WL g X → X.length + (ua (pm h N) (f + k) (M - k)).length < 801 → gfi g 331 0 = h → gfi g 329 0 = nI f →
    ∃ g', f10_append_b29 fuel 0 (nI N) (nI 1) (nI M) (nI k) g = some ((), g') ∧ FL g g' ∧ WL g' (X ++ ua (pm h N) (f + k) (M - k))
  | 0, k, g, X, _, h2, _, _, _, _, _ => by omega
  | fuel + 1, k, g, X, h1, h2, hM, hW, hl, h31, h29 => by
    rw [f10_append_b29.eq_2]
    by_cases he : k = M
    · subst he
      refine ⟨g, ?_, FL_rfl, ?_⟩
      · simp (disch := first | with_reducible assumption | omega | (simp only [MI_sai_iff, MI_sfi_iff]; with_reducible assumption)) only [li, ↓lr_, ↓bd_m, ↓oc_m, ↓reduceIte, bi_0, bi_0n, bi_1, bi_1n, not_true_eq_false, not_false_eq_true, Nat.reduceAdd, Nat.reduceMul, nI_mul, nI_add, inb_T, ix_nI, le_T, le_F, lt_T, lt_F, eq_F, and_self, and_true, true_and, false_and, and_false, or_true, true_or, or_false, false_or, bi_eq, x_within, m_in, Nat.le_refl]
      · rw [Nat.sub_self, ua, List.append_nil]
        exact hW
    · have e1 : nI 1 * nI k = nI k := by rw [nI_mul, Nat.one_mul]
      have e2 := m_isPart hh h31 (x := f + k) (by omega)
      rw [show M - k = (M - (k + 1)) + 1 by omega, ua] at hl ⊢
      rw [show f + k + 1 = f + (k + 1) by omega] at hl ⊢
      by_cases c : f + k ≤ N
      · by_cases d : part h (f + k) = true
        · rw [bi_t d] at e2
          have hp : pm h N (f + k) = true := by unfold pm; rw [decide_eq_true c, d]; rfl
          rw [hp, if_pos rfl] at hl ⊢
          simp at hl
          obtain ⟨q1, q2, q3, q4, q5⟩ := m_put1 (x := f + k) hM hW (by omega)
          have hM' := MI_FL hM q4
          obtain ⟨g', a1, a2, a3⟩ := m_up hh hf hN hM1 fuel (k + 1) _ _ (by omega) (by omega) hM' q5 (by simp; omega) ((q4.2.1 331 (by omega)).trans h31) ((q4.2.1 329 (by omega)).trans h29)
          refine ⟨g', ?_, FL_tr q4 a2, ?_⟩
          · have hlX : X.length < 801 := by omega
            generalize X.length = n at *
            simp (disch := first | with_reducible assumption | omega | (simp only [MI_sai_iff, MI_sfi_iff]; with_reducible assumption)) only [li, ↓lr_, ↓bd_m, ↓oc_m, ↓reduceIte, bi_0, bi_0n, bi_1, bi_1n, not_true_eq_false, not_false_eq_true, Nat.reduceAdd, Nat.reduceMul, nI_mul, nI_add, inb_T, ix_nI, le_T, le_F, lt_T, lt_F, eq_F, and_self, and_true, true_and, false_and, and_false, or_true, true_or, or_false, false_or, bi_eq, x_within, m_in, h29, e1, e2, q1, q2, q3, e_gfi_sai, f10_append_b83, a1]
          · rw [← List.append_assoc]
            exact a3
        · rw [bi_f d] at e2
          have d' : part h (f + k) = false := by
            cases hq : part h (f + k)
            · rfl
            · exact absurd hq d
          have hp : pm h N (f + k) = false := by unfold pm; rw [d', Bool.and_false]
          rw [hp, if_neg (show ¬ (false = true) by decide), List.nil_append] at hl ⊢
          obtain ⟨g', a1, a2, a3⟩ := m_up hh hf hN hM1 fuel (k + 1) g X (by omega) (by omega) hM hW hl h31 h29
          refine ⟨g', ?_, a2, a3⟩
          simp (disch := first | with_reducible assumption | omega | (simp only [MI_sai_iff, MI_sfi_iff]; with_reducible assumption)) only [li, ↓lr_, ↓bd_m, ↓oc_m, ↓reduceIte, bi_0, bi_0n, bi_1, bi_1n, not_true_eq_false, not_false_eq_true, Nat.reduceAdd, Nat.reduceMul, nI_mul, nI_add, inb_T, ix_nI, le_T, le_F, lt_T, lt_F, eq_F, and_self, and_true, true_and, false_and, and_false, or_true, true_or, or_false, false_or, bi_eq, x_within, m_in, h29, e1, e2, f10_append_b83, a1]
      · have hp : pm h N (f + k) = false := by unfold pm; rw [decide_eq_false c, Bool.false_and]
        rw [hp, if_neg (show ¬ (false = true) by decide), List.nil_append] at hl ⊢
        obtain ⟨g', a1, a2, a3⟩ := m_up hh hf hN hM1 fuel (k + 1) g X (by omega) (by omega) hM hW hl h31 h29
        refine ⟨g', ?_, a2, a3⟩
        simp (disch := first | with_reducible assumption | omega | (simp only [MI_sai_iff, MI_sfi_iff]; with_reducible assumption)) only [li, ↓lr_, ↓bd_m, ↓oc_m, ↓reduceIte, bi_0, bi_0n, bi_1, bi_1n, not_true_eq_false, not_false_eq_true, Nat.reduceAdd, Nat.reduceMul, nI_mul, nI_add, inb_T, ix_nI, le_T, le_F, lt_T, lt_F, eq_F, and_self, and_true, true_and, false_and, and_false, or_true, true_or, or_false, false_or, bi_eq, x_within, m_in, h29, e1, f10_append_b83, a1]
theorem m_down {h : Int32} {f N M : Nat} (hh : hok h) (hf : f < 1000) (hN : N < 1000) (hM1 : M ≤ f) : ∀ (fuel k : Nat) (g : GS_) (X : List Nat), k ≤ M → M - k < fuel → MI g → WL g X → X.length + (da (pm h N) (f - k) (M - k)).length < 801 → gfi g 331 0 = h → gfi g 329 0 = nI f →
    ∃ g', f10_append_b29 fuel 0 (nI N) (-nI 1) (nI M) (nI k) g = some ((), g') ∧ FL g g' ∧ WL g' (X ++ da (pm h N) (f - k) (M - k))
  | 0, k, g, X, _, h2, _, _, _, _, _ => by omega
  | fuel + 1, k, g, X, h1, h2, hM, hW, hl, h31, h29 => by
    rw [f10_append_b29.eq_2]
    by_cases he : k = M
    · subst he
      refine ⟨g, ?_, FL_rfl, ?_⟩
      · simp (disch := first | with_reducible assumption | omega | (simp only [MI_sai_iff, MI_sfi_iff]; with_reducible assumption)) only [li, ↓lr_, ↓bd_m, ↓oc_m, ↓reduceIte, bi_0, bi_0n, bi_1, bi_1n, not_true_eq_false, not_false_eq_true, Nat.reduceAdd, Nat.reduceMul, nI_mul, nI_add, inb_T, ix_nI, le_T, le_F, lt_T, lt_F, eq_F, and_self, and_true, true_and, false_and, and_false, or_true, true_or, or_false, false_or, bi_eq, x_within, m_in, Nat.le_refl]
      · rw [Nat.sub_self, da, List.append_nil]
        exact hW
    · have e1 : nI f + -nI 1 * nI k = nI (f - k) := by
        rw [Int32.neg_mul, nI_mul, Nat.one_mul]
        exact addneg_nI (by omega)
      have e2 := m_isPart hh h31 (x := f - k) (by omega)
      rw [show M - k = (M - (k + 1)) + 1 by omega, da] at hl ⊢
      rw [show f - k - 1 = f - (k + 1) by omega] at hl ⊢
      by_cases c : f - k ≤ N
      · by_cases d : part h (f - k) = true
        · rw [bi_t d] at e2
          have hp : pm h N (f - k) = true := by unfold pm; rw [decide_eq_true c, d]; rfl
          rw [hp, if_pos rfl] at hl ⊢
          simp at hl
          obtain ⟨q1, q2, q3, q4, q5⟩ := m_put1 (x := f - k) hM hW (by omega)
          have hM' := MI_FL hM q4
          obtain ⟨g', a1, a2, a3⟩ := m_down hh hf hN hM1 fuel (k + 1) _ _ (by omega) (by omega) hM' q5 (by simp; omega) ((q4.2.1 331 (by omega)).trans h31) ((q4.2.1 329 (by omega)).trans h29)
          refine ⟨g', ?_, FL_tr q4 a2, ?_⟩
          · have hlX : X.length < 801 := by omega
            generalize X.length = n at *
            simp (disch := first | with_reducible assumption | omega | (simp only [MI_sai_iff, MI_sfi_iff]; with_reducible assumption)) only [li, ↓lr_, ↓bd_m, ↓oc_m, ↓reduceIte, bi_0, bi_0n, bi_1, bi_1n, not_true_eq_false, not_false_eq_true, Nat.reduceAdd, Nat.reduceMul, nI_mul, nI_add, inb_T, ix_nI, le_T, le_F, lt_T, lt_F, eq_F, and_self, and_true, true_and, false_and, and_false, or_true, true_or, or_false, false_or, bi_eq, x_within, m_in, h29, e1, e2, q1, q2, q3, e_gfi_sai, f10_append_b83, a1]
          · rw [← List.append_assoc]
            exact a3
        · rw [bi_f d] at e2
          have d' : part h (f - k) = false := by
            cases hq : part h (f - k)
            · rfl
            · exact absurd hq d
          have hp : pm h N (f - k) = false := by unfold pm; rw [d', Bool.and_false]
          rw [hp, if_neg (show ¬ (false = true) by decide), List.nil_append] at hl ⊢
          obtain ⟨g', a1, a2, a3⟩ := m_down hh hf hN hM1 fuel (k + 1) g X (by omega) (by omega) hM hW hl h31 h29
          refine ⟨g', ?_, a2, a3⟩
          simp (disch := first | with_reducible assumption | omega | (simp only [MI_sai_iff, MI_sfi_iff]; with_reducible assumption)) only [li, ↓lr_, ↓bd_m, ↓oc_m, ↓reduceIte, bi_0, bi_0n, bi_1, bi_1n, not_true_eq_false, not_false_eq_true, Nat.reduceAdd, Nat.reduceMul, nI_mul, nI_add, inb_T, ix_nI, le_T, le_F, lt_T, lt_F, eq_F, and_self, and_true, true_and, false_and, and_false, or_true, true_or, or_false, false_or, bi_eq, x_within, m_in, h29, e1, e2, f10_append_b83, a1]
      · have hp : pm h N (f - k) = false := by unfold pm; rw [decide_eq_false c, Bool.false_and]
        rw [hp, if_neg (show ¬ (false = true) by decide), List.nil_append] at hl ⊢
        obtain ⟨g', a1, a2, a3⟩ := m_down hh hf hN hM1 fuel (k + 1) g X (by omega) (by omega) hM hW hl h31 h29
        refine ⟨g', ?_, a2, a3⟩
        simp (disch := first | with_reducible assumption | omega | (simp only [MI_sai_iff, MI_sfi_iff]; with_reducible assumption)) only [li, ↓lr_, ↓bd_m, ↓oc_m, ↓reduceIte, bi_0, bi_0n, bi_1, bi_1n, not_true_eq_false, not_false_eq_true, Nat.reduceAdd, Nat.reduceMul, nI_mul, nI_add, inb_T, ix_nI, le_T, le_F, lt_T, lt_F, eq_F, and_self, and_true, true_and, false_and, and_false, or_true, true_or, or_false, false_or, bi_eq, x_within, m_in, h29, e1, f10_append_b83, a1]
