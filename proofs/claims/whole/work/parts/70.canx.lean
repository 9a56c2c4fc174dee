/-! the shortest text, in the class -/
theorem Va_sum {x : Nat → Nat} {m i t : Nat} (h : Va x m i t) : ∀ k, k < t → (x (i + k) : Int) = (x i : Int) + k * stp x i
  | 0, _ => by simp
  | k + 1, hk => by
    have ih := Va_sum h k (by omega)
    have e := h.2.2.2 k (by omega)
    unfold stp at e ih ⊢
    rw [show i + k + 1 = i + (k + 1) by omega] at e
    have : (((k + 1 : Nat) : Int)) * ((x (i + 1) : Int) - (x i : Int)) = (k : Int) * ((x (i + 1) : Int) - (x i : Int)) + ((x (i + 1) : Int) - (x i : Int)) := by
      rw [Int.natCast_add, Int.add_mul, Int.natCast_one, Int.one_mul]
    omega
/-- whether a run goes by twos -/
theorem Va_sp {x : Nat → Nat} {m i t : Nat} (h : Va x m i t) (ht : 2 ≤ t) : (((x (i + t - 1) : Int) - (x i : Int)).natAbs = t - 1) ↔ spd (stp x i) = 0 := by
  have e := Va_sum h (t - 1) (by omega)
  rw [show i + (t - 1) = i + t - 1 by omega] at e
  have ho := h.2.2.1 ht
  unfold oks at ho
  unfold spd
  rcases ho with q | q | q | q
  · rw [q] at e ⊢
    rw [if_neg (by omega)]
    constructor
    · intro _; rfl
    · intro _; omega
  · rw [q] at e ⊢
    rw [if_neg (by omega)]
    constructor
    · intro _; rfl
    · intro _; omega
  · rw [q] at e ⊢
    rw [if_pos (by omega)]
    constructor
    · intro w; omega
    · intro w; omega
  · rw [q] at e ⊢
    rw [if_pos (by omega)]
    constructor
    · intro w; omega
    · intro w; omega
theorem jabs_nI {a b : Nat} (ha : a < 100000) (hb : b < 100000) : jabs (nI b - nI a) = nI (((b : Int) - (a : Int)).natAbs) := by
  rcases Nat.lt_or_ge b a with h | h
  · have e : nI b - nI a = -nI (a - b) := by rw [← nI_sub (by omega), Int32.neg_sub]
    have e2 : ((b : Int) - (a : Int)).natAbs = a - b := by omega
    rw [e, e2]
    unfold jabs
    have hneg : ¬ 0 ≤ -nI (a - b) := by
      rw [leI, Int32.toInt_neg, nI_toInt (by omega), Int32.toInt_zero]
      rw [Int.bmod_eq_of_le (by omega) (by omega)]
      omega
    rw [if_neg hneg, Int32.zero_sub, Int32.neg_neg]
  · have e : nI b - nI a = nI (b - a) := nI_sub h
    have e2 : ((b : Int) - (a : Int)).natAbs = b - a := by omega
    rw [e, e2]
    unfold jabs
    have : 0 ≤ nI (b - a) := by
      rw [leI, nI_toInt (by omega), Int32.toInt_zero]
      omega
    rw [if_pos this]
theorem x_digits {v : Nat} (hv : v < 1000) {g : GS_} : f7_digits (nI v) g = some (nI (dgs v), g) := by
  unfold dgs
  by_cases h1 : v < 10
  · rw [if_pos h1]
    simp (disch := first | with_reducible assumption | omega | (simp only [MI_sai_iff, MI_sfi_iff]; with_reducible assumption)) only [li, ↓lr_, ↓bd_m, ↓oc_m, ↓reduceIte, bi_0, bi_0n, bi_1, bi_1n, not_true_eq_false, not_false_eq_true, Nat.reduceAdd, Nat.reduceMul, nI_mul, nI_add, inb_T, ix_nI, le_T, le_F, lt_T, lt_F, eq_F, and_self, and_true, true_and, false_and, and_false, or_true, true_or, or_false, false_or, bi_eq, x_within, m_in, f7_digits]
  · by_cases h2 : v < 100
    · rw [if_neg h1, if_pos h2]
      simp (disch := first | with_reducible assumption | omega | (simp only [MI_sai_iff, MI_sfi_iff]; with_reducible assumption)) only [li, ↓lr_, ↓bd_m, ↓oc_m, ↓reduceIte, bi_0, bi_0n, bi_1, bi_1n, not_true_eq_false, not_false_eq_true, Nat.reduceAdd, Nat.reduceMul, nI_mul, nI_add, inb_T, ix_nI, le_T, le_F, lt_T, lt_F, eq_F, and_self, and_true, true_and, false_and, and_false, or_true, true_or, or_false, false_or, bi_eq, x_within, m_in, f7_digits]
    · rw [if_neg h1, if_neg h2]
      simp (disch := first | with_reducible assumption | omega | (simp only [MI_sai_iff, MI_sfi_iff]; with_reducible assumption)) only [li, ↓lr_, ↓bd_m, ↓oc_m, ↓reduceIte, bi_0, bi_0n, bi_1, bi_1n, not_true_eq_false, not_false_eq_true, Nat.reduceAdd, Nat.reduceMul, nI_mul, nI_add, inb_T, ix_nI, le_T, le_F, lt_T, lt_F, eq_F, and_self, and_true, true_and, false_and, and_false, or_true, true_or, or_false, false_or, bi_eq, x_within, m_in, f7_digits]
theorem x_spaced {x : Nat → Nat} {m i t : Nat} {g : GS_} (hm : m ≤ 400) (h : Va x m i t) (ht : 2 ≤ t) (hx : ∀ j, j < m → x j < 1000) : f7_isSpaced (nI (x i)) (nI (x (i + t - 1))) (nI t) g = some (nI (spd (stp x i)), g) := by
  have h2 := h.2.1
  have e1 := jabs_nI (a := x i) (b := x (i + t - 1)) (by have := hx i (by omega); omega) (by have := hx (i + t - 1) (by omega); omega)
  have e2 : nI t - (1 : Int32) = nI (t - 1) := nI_sub (b := 1) (by omega)
  have e3 := Va_sp h ht
  have hb : (((x (i + t - 1) : Int) - (x i : Int)).natAbs) < 100000 := by have := hx i (by omega); have := hx (i + t - 1) (by omega); omega
  have s01 : spd (stp x i) = 0 ∨ spd (stp x i) = 1 := by unfold spd; split <;> omega
  unfold f7_isSpaced
  rw [e1, e2]
  rcases s01 with q | q
  · rw [e3.mpr q, if_pos rfl, q]
    rfl
  · rw [if_neg (fun w => by have := (eq_nI (by omega) (by omega)).mp w; rw [e3] at this; omega), q]
    rfl
theorem x_itemLength {x : Nat → Nat} {m i t : Nat} {g : GS_} (hm : m ≤ 400) (h : Va x m i t) (hx : ∀ j, j < m → x j < 1000) : f7_itemLength (nI (x i)) (nI (x (i + t - 1))) (nI t) g = some (nI (lnI x i t), g) := by
  have h2 := h.2.1
  have h1 := h.1
  have d1 := x_digits (g := g) (hx i (by omega))
  have d2 := x_digits (g := g) (hx (i + t - 1) (by omega))
  unfold lnI
  by_cases c : t = 1
  · subst c
    rw [if_pos rfl]
    simp (disch := first | with_reducible assumption | omega | (simp only [MI_sai_iff, MI_sfi_iff]; with_reducible assumption)) only [li, ↓lr_, ↓bd_m, ↓oc_m, ↓reduceIte, bi_0, bi_0n, bi_1, bi_1n, not_true_eq_false, not_false_eq_true, Nat.reduceAdd, Nat.reduceMul, nI_mul, nI_add, inb_T, ix_nI, le_T, le_F, lt_T, lt_F, eq_F, and_self, and_true, true_and, false_and, and_false, or_true, true_or, or_false, false_or, bi_eq, x_within, m_in, f7_itemLength, d1]
  · have e := x_spaced (g := g) hm h (by omega) hx
    have s01 : spd (stp x i) = 0 ∨ spd (stp x i) = 1 := by unfold spd; split <;> omega
    have b1 := dgs_pos (x i)
    have b2 := dgs_pos (x (i + t - 1))
    have ct : (nI t = nI 1) = False := by rw [eq_nI (by omega) (by omega)]; exact eq_false c
    rw [if_neg c]
    rcases s01 with q | q
    · rw [q] at e ⊢
      simp (disch := first | with_reducible assumption | omega | (simp only [MI_sai_iff, MI_sfi_iff]; with_reducible assumption)) only [li, ↓lr_, ↓bd_m, ↓oc_m, ↓reduceIte, bi_0, bi_0n, bi_1, bi_1n, not_true_eq_false, not_false_eq_true, Nat.reduceAdd, Nat.reduceMul, nI_mul, nI_add, inb_T, ix_nI, le_T, le_F, lt_T, lt_F, eq_F, and_self, and_true, true_and, false_and, and_false, or_true, true_or, or_false, false_or, bi_eq, x_within, m_in, f7_itemLength, ct, d1, d2, e, f7_itemLength_b35]
    · rw [q] at e ⊢
      simp (disch := first | with_reducible assumption | omega | (simp only [MI_sai_iff, MI_sfi_iff]; with_reducible assumption)) only [li, ↓lr_, ↓bd_m, ↓oc_m, ↓reduceIte, bi_0, bi_0n, bi_1, bi_1n, not_true_eq_false, not_false_eq_true, Nat.reduceAdd, Nat.reduceMul, nI_mul, nI_add, inb_T, ix_nI, le_T, le_F, lt_T, lt_F, eq_F, and_self, and_true, true_and, false_and, and_false, or_true, true_or, or_false, false_or, bi_eq, x_within, m_in, f7_itemLength, ct, d1, d2, e, f7_itemLength_b35]
/-- three arrays say the best from i on -/
def AB (x : Nat → Nat) (m : Nat) (c o k : Nat → Int32) (i : Nat) : Prop :=
  (c m = nI 0 ∧ o m = nI 0) ∧ ∀ j, i ≤ j → j < m → (c j = nI (tn (c j)) ∧ tn (c j) ≤ 4 * (m - j)) ∧ (o j = nI (tn (o j)) ∧ tn (o j) ≤ m - j) ∧ (k j = nI (tn (k j))) ∧ Bst x (fun q => tn (c q)) (fun q => tn (o q)) (fun q => tn (k q)) m j
theorem cst_congr {x C C' : Nat → Nat} {m i t : Nat} (ht : 1 ≤ t) (h : ∀ j, i < j → C' j = C j) : cst x C' m i t = cst x C m i t := by
  unfold cst
  rw [h (i + t) (by omega)]
theorem itm_congr {T T' : Nat → Nat} {m i t : Nat} (ht : 1 ≤ t) (h : ∀ j, i < j → T' j = T j) : itm T' m i t = itm T m i t := by
  unfold itm
  rw [h (i + t) (by omega)]
theorem LM_congr {x C T C' T' : Nat → Nat} {m i : Nat} {P : Nat → Prop} {c o k : Nat} (hP : ∀ u, P u → 1 ≤ u) (hC : ∀ j, i < j → C' j = C j) (hT : ∀ j, i < j → T' j = T j) (h : LM x C T m i P c o k) : LM x C' T' m i P c o k := by
  obtain ⟨h1, h2, h3, h4⟩ := h
  refine ⟨h1, by rw [cst_congr (hP k h1) hC]; exact h2, by rw [itm_congr (hP k h1) hT]; exact h3, fun u hu => ?_⟩
  rw [cst_congr (hP u hu) hC, itm_congr (hP u hu) hT]
  exact h4 u hu
theorem AB_uq {x : Nat → Nat} {m : Nat} {c o k c' o' k' : Nat → Int32} (h : AB x m c o k 0) (h' : AB x m c' o' k' 0) : ∀ n j, m - j ≤ n → j < m → tn (c j) = tn (c' j) ∧ tn (o j) = tn (o' j) ∧ tn (k j) = tn (k' j)
  | 0, j, h1, h2 => by omega
  | n + 1, j, h1, h2 => by
    have ih : ∀ q, j < q → q ≤ m → tn (c' q) = tn (c q) ∧ tn (o' q) = tn (o q) := by
      intro q q1 q2
      rcases Nat.lt_or_ge q m with w | w
      · obtain ⟨z1, z2, -⟩ := AB_uq h h' n q (by omega) w
        exact ⟨z1.symm, z2.symm⟩
      · have : q = m := by omega
        subst this
        rw [h.1.1, h.1.2, h'.1.1, h'.1.2]
        exact ⟨rfl, rfl⟩
    obtain ⟨-, -, -, b1⟩ := h.2 j (by omega) h2
    obtain ⟨-, -, -, b2⟩ := h'.2 j (by omega) h2
    have b2' : LM x (fun q => tn (c q)) (fun q => tn (o q)) m j (Va x m j) (tn (c' j)) (tn (o' j)) (tn (k' j)) := by
      obtain ⟨l1, l2, l3, l4⟩ := b2
      have ce : ∀ u, Va x m j u → cst x (fun q => tn (c' q)) m j u = cst x (fun q => tn (c q)) m j u := fun u hu => by
        show lnI x j u + (if j + u = m then 0 else 1 + tn (c' (j + u))) = lnI x j u + (if j + u = m then 0 else 1 + tn (c (j + u)))
        rw [(ih (j + u) (by have := hu.1; omega) hu.2.1).1]
      have te : ∀ u, Va x m j u → itm (fun q => tn (o' q)) m j u = itm (fun q => tn (o q)) m j u := fun u hu => by
        show 1 + (if j + u = m then 0 else tn (o' (j + u))) = 1 + (if j + u = m then 0 else tn (o (j + u)))
        rw [(ih (j + u) (by have := hu.1; omega) hu.2.1).2]
      refine ⟨l1, by rw [← ce _ l1]; exact l2, by rw [← te _ l1]; exact l3, fun u hu => ?_⟩
      rw [← ce _ hu, ← te _ hu]
      exact l4 u hu
    exact LM_uq b1 b2'
