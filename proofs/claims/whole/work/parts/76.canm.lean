/-! the reference's shortest text: the arrays -/
abbrev mC (g : GS_) : Nat → Nat := fun q => tn (gai g 20 6 q)
abbrev mT (g : GS_) : Nat → Nat := fun q => tn (gai g 20 7 q)
abbrev mK (g : GS_) : Nat → Nat := fun q => tn (gai g 20 8 q)
/-- the three arrays alone move -/
def FMc (g g' : GS_) : Prop := NR g g' ∧ gfi g' = gfi g ∧ ∀ t i, ¬ (t = 20 ∧ 6 ≤ i ∧ i ≤ 8) → gai g' t i = gai g t i
theorem FMc_rfl {g : GS_} : FMc g g := ⟨NR_rfl, rfl, fun _ _ _ => rfl⟩
theorem FMc_tr {a b c : GS_} (h1 : FMc a b) (h2 : FMc b c) : FMc a c := ⟨NR_tr h1.1 h2.1, h2.2.1.trans h1.2.1, fun t i q => (h2.2.2 t i q).trans (h1.2.2 t i q)⟩
theorem FMc_sai {g : GS_} {i k : Nat} {v : Int32} (h : 6 ≤ i ∧ i ≤ 8) : FMc g (sai g 20 i k v) := by
  refine ⟨⟨rfl, rfl, rfl, rfl, rfl, rfl⟩, rfl, fun t i' q => ?_⟩
  funext j
  rw [e_gai_sai, if_neg (by rintro ⟨rfl, rfl, -⟩; exact q ⟨rfl, h⟩)]
theorem MI_FMc {g g' : GS_} (h : MI g) (hf : FMc g g') : MI g' := MI_eq h hf.1.1 hf.1.2.1
/-- the list of job j -/
def MRw (g : GS_) (j m : Nat) (x : Nat → Nat) : Prop := j < 24 ∧ m ≤ 400 ∧ gai g 20 0 (106 + 13 * j + 7) = nI m ∧ ∀ i, i < m → gai g 20 2 (400 * j + i) = nI (x i) ∧ x i < 1000
theorem MRw_FMc {g g' : GS_} {j m : Nat} {x : Nat → Nat} (h : FMc g g') (hR : MRw g j m x) : MRw g' j m x := by
  unfold MRw
  rw [h.2.2 20 0 (by omega), h.2.2 20 2 (by omega)]
  exact hR
def W3m (g : GS_) (i : Nat) (c o k : Int32) : GS_ := sai (sai (sai g 20 6 i c) 20 7 i o) 20 8 i k
theorem W3m_FX {g : GS_} {i : Nat} {c o k : Int32} : FMc g (W3m g i c o k) := FMc_tr (FMc_sai (by omega)) (FMc_tr (FMc_sai (by omega)) (FMc_sai (by omega)))
theorem W3m_a {g : GS_} {i : Nat} {c o k : Int32} (j : Nat) : gai (W3m g i c o k) 20 6 j = (if j = i then c else gai g 20 6 j) ∧ gai (W3m g i c o k) 20 7 j = (if j = i then o else gai g 20 7 j) ∧ gai (W3m g i c o k) 20 8 j = (if j = i then k else gai g 20 8 j) := by
  unfold W3m
  refine ⟨?_, ?_, ?_⟩
  · rw [e_gai_sai, if_neg (by omega), e_gai_sai, if_neg (by omega), e_gai_sai]
    by_cases q : j = i
    · rw [if_pos ⟨rfl, rfl, q⟩, if_pos q]
    · rw [if_neg (by omega), if_neg q]
  · rw [e_gai_sai, if_neg (by omega), e_gai_sai]
    by_cases q : j = i
    · rw [if_pos ⟨rfl, rfl, q⟩, if_pos q]
    · rw [if_neg (by omega), if_neg q, e_gai_sai, if_neg (by omega)]
  · rw [e_gai_sai]
    by_cases q : j = i
    · rw [if_pos ⟨rfl, rfl, q⟩, if_pos q]
    · rw [if_neg (by omega), if_neg q, e_gai_sai, if_neg (by omega), e_gai_sai, if_neg (by omega)]
theorem MC_r {g : GS_} (h : MI g) : gfr g 334 0 = some 6 ∧ gfr g 335 0 = some 7 ∧ gfr g 336 0 = some 8 ∧ gln g 20 6 = 401 ∧ gln g 20 7 = 401 ∧ gln g 20 8 = 401 := by
  obtain ⟨-, -, -, -, -, -, -, h1, h2, h3, -, -, -, -, -, -, -, h4, h5, h6, -⟩ := h
  exact ⟨h1, h2, h3, h4, h5, h6⟩
theorem m_116 {g : GS_} {i t : Nat} {c o : Int32} (hM : MI g) (hi : i ≤ 400) : f10_takeItem_b116 0 (nI i) (nI t) c o g = some ((), W3m g i c o (nI t)) := by
  obtain ⟨s1, s2, s3, l1, l2, l3⟩ := MC_r hM
  have r2 : gfr (sai g 20 6 i c) 335 0 = some 7 := s2
  have m2 : gln (sai g 20 6 i c) 20 7 = 401 := l2
  have r3 : gfr (sai (sai g 20 6 i c) 20 7 i o) 336 0 = some 8 := s3
  have m3 : gln (sai (sai g 20 6 i c) 20 7 i o) 20 8 = 401 := l3
  rw [f10_takeItem_b116, s1, lr_at, oc_some, l1, if_pos ((inb_nI (by omega)).mpr (by omega)), ix_nI (by omega), lr_at, r2, lr_at, oc_some, m2, if_pos ((inb_nI (by omega)).mpr (by omega)), lr_at, r3, lr_at, oc_some, m3, if_pos ((inb_nI (by omega)).mpr (by omega)), lr_at]
  rfl
theorem m_figures {v : Nat} (hv : v < 1000) {g : GS_} : f10_figures (nI v) g = some (nI (dgs v), g) := by
  unfold dgs
  by_cases h1 : v < 10
  · rw [if_pos h1]
    simp (disch := first | with_reducible assumption | omega | (simp only [MI_sai_iff, MI_sfi_iff]; with_reducible assumption)) only [li, ↓lr_, ↓bd_m, ↓oc_m, ↓reduceIte, bi_0, bi_0n, bi_1, bi_1n, not_true_eq_false, not_false_eq_true, Nat.reduceAdd, Nat.reduceMul, nI_mul, nI_add, inb_T, ix_nI, le_T, le_F, lt_T, lt_F, eq_F, and_self, and_true, true_and, false_and, and_false, or_true, true_or, or_false, false_or, bi_eq, x_within, m_in, f10_figures]
  · by_cases h2 : v < 100
    · rw [if_neg h1, if_pos h2]
      simp (disch := first | with_reducible assumption | omega | (simp only [MI_sai_iff, MI_sfi_iff]; with_reducible assumption)) only [li, ↓lr_, ↓bd_m, ↓oc_m, ↓reduceIte, bi_0, bi_0n, bi_1, bi_1n, not_true_eq_false, not_false_eq_true, Nat.reduceAdd, Nat.reduceMul, nI_mul, nI_add, inb_T, ix_nI, le_T, le_F, lt_T, lt_F, eq_F, and_self, and_true, true_and, false_and, and_false, or_true, true_or, or_false, false_or, bi_eq, x_within, m_in, f10_figures]
    · rw [if_neg h1, if_neg h2]
      simp (disch := first | with_reducible assumption | omega | (simp only [MI_sai_iff, MI_sfi_iff]; with_reducible assumption)) only [li, ↓lr_, ↓bd_m, ↓oc_m, ↓reduceIte, bi_0, bi_0n, bi_1, bi_1n, not_true_eq_false, not_false_eq_true, Nat.reduceAdd, Nat.reduceMul, nI_mul, nI_add, inb_T, ix_nI, le_T, le_F, lt_T, lt_F, eq_F, and_self, and_true, true_and, false_and, and_false, or_true, true_or, or_false, false_or, bi_eq, x_within, m_in, f10_figures]
theorem m_signs {g : GS_} {j m i t : Nat} {x : Nat → Nat} {s : Int32} (hM : MI g) (hR : MRw g j m x) (hV : Va x m i t) (hs : 2 ≤ t → s = sI x m i) : f10_signsOf 0 (nI j) (nI i) (nI t) s g = some (nI (lnI x i t), g) := by
  obtain ⟨h1, h2, h3, h4⟩ := hR
  obtain ⟨v1, v2, v3, v4⟩ := hV
  have r2 : gfr g 322 0 = some 2 := MI_l hM
  have n2 : gln g 20 2 = 9600 := MI_ln hM
  have ei : (400 : Int32) * nI j + nI i = nI (400 * j + i) := by
    have : (400 : Int32) * nI j = nI (400 * j) := nI_mul 400 j
    rw [this, nI_add]
  have e2 : nI (400 * j + i) + nI t - (1 : Int32) = nI (400 * j + (i + t - 1)) := by
    rw [nI_add, show 400 * j + (i + t - 1) = 400 * j + i + t - 1 by omega]
    exact nI_sub (b := 1) (by omega)
  have d1 := m_figures (g := g) (h4 i (by omega)).2
  have d2 := m_figures (g := g) (h4 (i + t - 1) (by omega)).2
  rw [f10_signsOf, r2, lr_at, oc_some, ei, n2, if_pos ((inb_nI (by omega)).mpr (by omega)), ix_nI (by omega), (h4 i (by omega)).1, lr_at, lr_at, oc_some, n2, e2, if_pos ((inb_nI (by omega)).mpr (by omega)), ix_nI (by omega), (h4 (i + t - 1) (by omega)).1, lr_at]
  unfold lnI
  by_cases c : t = 1
  · rw [if_pos c, c, if_pos (show nI 1 = (1 : Int32) from rfl), d1, bd_some]
  · rw [if_neg c, if_neg (show ¬ nI t = (1 : Int32) from fun q => c ((eq_nI (b := 1) (by omega) (by omega)).mp q)), d1, bd_some, d2, bd_some, hs (by omega)]
    have hx : ∀ q, q < m → x q < 1000 := fun q hq => (h4 q hq).2
    have ho := v3 (by omega)
    have a1 : nI (dgs (x i)) + (1 : Int32) = nI (dgs (x i) + 1) := nI_add _ 1
    have w3 : (sI x m i = nI 2) ↔ stp x i = 2 := by
      unfold sI
      rw [if_neg (by omega), show nI 2 = nI 2 - nI 0 by decide, sub_eq2 (by have := hx (i + 1) (by omega); omega) (by have := hx i (by omega); omega) (by omega) (by omega)]
      unfold stp
      constructor <;> (intro w; omega)
    have w4 : (sI x m i = -nI 2) ↔ stp x i = -2 := by
      unfold sI
      rw [if_neg (by omega), show -nI 2 = nI 0 - nI 2 by decide, sub_eq2 (by have := hx (i + 1) (by omega); omega) (by have := hx i (by omega); omega) (by omega) (by omega)]
      unfold stp
      constructor <;> (intro w; omega)
    have n2' : (-2 : Int32) = -nI 2 := rfl
    unfold spd
    rw [a1, nI_add, f10_signsOf_b71, f10_signsOf_b76, f10_signsOf_b76]
    by_cases q2 : stp x i = 2
    · rw [if_pos (show sI x m i = (2 : Int32) from w3.mpr q2), if_pos (Or.inl q2)]
      exact congrArg some (Prod.ext (nI_add _ 1) rfl)
    · rw [if_neg (show ¬ sI x m i = (2 : Int32) from fun q => q2 (w3.mp q))]
      by_cases q3 : stp x i = -2
      · rw [if_pos (show sI x m i = (-2 : Int32) from w4.mpr q3), if_pos (Or.inr q3)]
        exact congrArg some (Prod.ext (nI_add _ 1) rfl)
      · rw [if_neg (show ¬ sI x m i = (-2 : Int32) from fun q => q3 (w4.mp q)), if_neg (by rintro (q | q); exact q2 q; exact q3 q)]
        exact congrArg some (Prod.ext (nI_add _ 0) rfl)
/-- the arrays at i are the best of some -/
def CUm (x : Nat → Nat) (m : Nat) (g : GS_) (i : Nat) (P : Nat → Prop) : Prop :=
  gai g 20 6 i = nI (mC g i) ∧ gai g 20 7 i = nI (mT g i) ∧ gai g 20 8 i = nI (mK g i) ∧ LM x (mC g) (mT g) m i P (mC g i) (mT g i) (mK g i)
def ABq (x : Nat → Nat) (m : Nat) (c o k : Nat → Int32) (i : Nat) : Prop :=
  ∀ j, i ≤ j → j < m → (c j = nI (tn (c j)) ∧ tn (c j) ≤ 4 * (m - j)) ∧ (o j = nI (tn (o j)) ∧ tn (o j) ≤ m - j) ∧ (k j = nI (tn (k j))) ∧ Bst x (fun q => tn (c q)) (fun q => tn (o q)) (fun q => tn (k q)) m j
theorem ABq_uq {x : Nat → Nat} {m : Nat} {c o k c' o' k' : Nat → Int32} (h : AB x m c o k 0) (h' : ABq x m c' o' k' 0) : ∀ n j, m - j ≤ n → j < m → tn (c j) = tn (c' j) ∧ tn (o j) = tn (o' j) ∧ tn (k j) = tn (k' j)
  | 0, j, h1, h2 => by omega
  | n + 1, j, h1, h2 => by
    have ih : ∀ q, j < q → q < m → tn (c' q) = tn (c q) ∧ tn (o' q) = tn (o q) := by
      intro q q1 q2
      obtain ⟨z1, z2, -⟩ := ABq_uq h h' n q (by omega) q2
      exact ⟨z1.symm, z2.symm⟩
    obtain ⟨-, -, -, b1⟩ := h.2 j (by omega) h2
    obtain ⟨-, -, -, b2⟩ := h' j (by omega) h2
    have b2' : LM x (fun q => tn (c q)) (fun q => tn (o q)) m j (Va x m j) (tn (c' j)) (tn (o' j)) (tn (k' j)) := by
      obtain ⟨l1, l2, l3, l4⟩ := b2
      have ce : ∀ u, Va x m j u → cst x (fun q => tn (c' q)) m j u = cst x (fun q => tn (c q)) m j u := fun u hu => by
        show lnI x j u + (if j + u = m then 0 else 1 + tn (c' (j + u))) = lnI x j u + (if j + u = m then 0 else 1 + tn (c (j + u)))
        by_cases w : j + u = m
        · rw [if_pos w, if_pos w]
        · rw [if_neg w, if_neg w, (ih (j + u) (by have := hu.1; omega) (by have := hu.2.1; omega)).1]
      have te : ∀ u, Va x m j u → itm (fun q => tn (o' q)) m j u = itm (fun q => tn (o q)) m j u := fun u hu => by
        show 1 + (if j + u = m then 0 else tn (o' (j + u))) = 1 + (if j + u = m then 0 else tn (o (j + u)))
        by_cases w : j + u = m
        · rw [if_pos w, if_pos w]
        · rw [if_neg w, if_neg w, (ih (j + u) (by have := hu.1; omega) (by have := hu.2.1; omega)).2]
      refine ⟨l1, by rw [← ce _ l1]; exact l2, by rw [← te _ l1]; exact l3, fun u hu => ?_⟩
      rw [← ce _ hu, ← te _ hu]
      exact l4 u hu
    exact LM_uq b1 b2'
def ABm (x : Nat → Nat) (m : Nat) (g : GS_) (i : Nat) : Prop := ABq x m (gai g 20 6) (gai g 20 7) (gai g 20 8) i
theorem cst_bdm {x : Nat → Nat} {m i t : Nat} {g : GS_} (hi : i < m) (hV : Va x m i t) (hA : ABm x m g (i + 1)) : itm (mT g) m i t ≤ m - i ∧ (t = 1 → cst x (mC g) m i t ≤ 4 * (m - i)) := by
  obtain ⟨v1, v2, -, -⟩ := hV
  have a2 := hA
  constructor
  · unfold itm
    by_cases c : i + t = m
    · rw [if_pos c]; omega
    · rw [if_neg c]
      have := (a2 (i + t) (by omega) (by omega)).2.1.2
      show 1 + tn (gai g 20 7 (i + t)) ≤ m - i
      omega
  · rintro rfl
    have d := dgs_pos (x i)
    unfold cst lnI
    rw [if_pos rfl]
    by_cases c : i + 1 = m
    · rw [if_pos c]; omega
    · rw [if_neg c]
      have := (a2 (i + 1) (by omega) (by omega)).1.2
      show dgs (x i) + (1 + tn (gai g 20 6 (i + 1))) ≤ 4 * (m - i)
      omega
theorem CU_ABm {x : Nat → Nat} {m i : Nat} {g : GS_} (hi : i < m) (hA : ABm x m g (i + 1)) (h : CUm x m g i (Va x m i)) : ABm x m g i := by
  obtain ⟨h1, h2, h3, h4⟩ := h
  intro j j1 j2
  by_cases c : j = i
  · subst c
    obtain ⟨l1, l2, l3, l4⟩ := id h4
    have hV1 := Va_down l1 (Nat.le_refl 1) l1.1
    have z := (l4 1 hV1).1 l1.1
    obtain ⟨-, b2⟩ := cst_bdm hi hV1 hA
    obtain ⟨b1, -⟩ := cst_bdm hi l1 hA
    have b3 := b2 rfl
    rw [← l3] at b1
    unfold lxl at z
    refine ⟨⟨h1, ?_⟩, ⟨h2, b1⟩, h3, ?_⟩
    · show mC g j ≤ _
      omega
    · exact h4
  · exact hA j (by omega) j2
