/-! where a page stands -/
theorem lay_cases {lay : Nat} (h : lay < 5) (h3 : lay ≠ 3) : lay = 0 ∨ lay = 1 ∨ lay = 2 ∨ lay = 4 := by omega
theorem elz_uniq {lay sid m t s p t' s' p' : Nat} (h : lay < 5) (h3 : lay ≠ 3) (ht : t < scz lay sid m) (hs : s < sdz lay sid) (hp : p < psz lay) (ht' : t' < scz lay sid m) (hs' : s' < sdz lay sid) (hp' : p' < psz lay) (he : elz lay sid m t s p = elz lay sid m t' s' p') : t = t' ∧ s = s' ∧ p = p' := by
  unfold elz at he
  generalize scz lay sid m = S at *
  rcases lay_cases h h3 with rfl | rfl | rfl | rfl
  · have e1 : sdz 0 sid = 2 := rfl
    have e2 : psz 0 = 2 := rfl
    rw [e1] at hs hs'
    rw [e2] at hp hp'
    rw [if_pos rfl, if_pos rfl] at he
    rcases (show s = 0 ∨ s = 1 by omega) with rfl | rfl <;> rcases (show s' = 0 ∨ s' = 1 by omega) with rfl | rfl <;> rcases (show p = 0 ∨ p = 1 by omega) with rfl | rfl <;> rcases (show p' = 0 ∨ p' = 1 by omega) with rfl | rfl <;> simp only [if_pos, if_neg, Nat.one_ne_zero, not_false_eq_true, ↓reduceIte] at he <;> refine ⟨?_, ?_, ?_⟩ <;> omega
  all_goals
    rw [if_neg (by omega), if_neg (by omega)] at he
    by_cases c : sid = 0
    · have e1 : sdz 1 sid = 1 := by unfold sdz; rw [if_neg (by omega), if_pos c]
      have e2 : sdz 2 sid = 1 := by unfold sdz; rw [if_neg (by omega), if_pos c]
      have e4 : sdz 4 sid = 1 := by unfold sdz; rw [if_neg (by omega), if_pos c]
      have q1 : psz 1 = 1 := rfl
      have q2 : psz 2 = 2 := rfl
      have q4 : psz 4 = 4 := rfl
      simp only [e1, e2, e4, q1, q2, q4] at *
      omega
    · have e1 : sdz 1 sid = 2 := by unfold sdz; rw [if_neg (by omega), if_neg c]
      have e2 : sdz 2 sid = 2 := by unfold sdz; rw [if_neg (by omega), if_neg c]
      have e4 : sdz 4 sid = 2 := by unfold sdz; rw [if_neg (by omega), if_neg c]
      have q1 : psz 1 = 1 := rfl
      have q2 : psz 2 = 2 := rfl
      have q4 : psz 4 = 4 := rfl
      simp only [e1, e2, e4, q1, q2, q4] at *
      omega
/-- where element i stands -/
def wT (lay sid m i : Nat) : Nat := if lay = 0 then (if 2 * scz lay sid m ≤ i then (4 * scz lay sid m - 1 - i) / 2 else i / 2) else i / psz lay / sdz lay sid
def wS (lay sid m i : Nat) : Nat := if lay = 0 then (if 2 * scz lay sid m ≤ i then (4 * scz lay sid m - 1 - i) % 2 else i % 2) else i / psz lay % sdz lay sid
def wP (lay sid m i : Nat) : Nat := if lay = 0 then (if 2 * scz lay sid m ≤ i then (if (4 * scz lay sid m - 1 - i) % 2 = 0 then 0 else 1) else (if i % 2 = 0 then 1 else 0)) else i % psz lay
theorem w_ok {lay sid m i : Nat} (h : lay < 5) (h3 : lay ≠ 3) (hi : i < m) (hm : m ≤ 400) : wT lay sid m i < scz lay sid m ∧ wS lay sid m i < sdz lay sid ∧ wP lay sid m i < psz lay ∧ elz lay sid m (wT lay sid m i) (wS lay sid m i) (wP lay sid m i) = i := by
  rcases lay_cases h h3 with rfl | rfl | rfl | rfl
  · have e1 : sdz 0 sid = 2 := rfl
    have e2 : psz 0 = 2 := rfl
    have e3 : scz 0 sid m = (m + 3) / 4 := rfl
    unfold elz wT wS wP
    rw [e1, e2, e3]
    by_cases c : 2 * ((m + 3) / 4) ≤ i
    · by_cases d : (4 * ((m + 3) / 4) - 1 - i) % 2 = 0
      · simp only [if_pos c, d, ↓reduceIte]
        omega
      · have d' : (4 * ((m + 3) / 4) - 1 - i) % 2 = 1 := by omega
        simp only [if_pos c, d', ↓reduceIte, Nat.one_ne_zero]
        omega
    · by_cases d : i % 2 = 0
      · simp only [if_neg c, d, ↓reduceIte, Nat.one_ne_zero]
        omega
      · have d' : i % 2 = 1 := by omega
        simp only [if_neg c, d', ↓reduceIte, Nat.one_ne_zero]
        omega
  all_goals
    unfold elz wT wS wP scz
    have e1 : psz 1 = 1 := rfl
    have e2 : psz 2 = 2 := rfl
    have e4 : psz 4 = 4 := rfl
    by_cases c : sid = 0
    · have q1 : sdz 1 sid = 1 := by unfold sdz; rw [if_neg (by omega), if_pos c]
      have q2 : sdz 2 sid = 1 := by unfold sdz; rw [if_neg (by omega), if_pos c]
      have q4 : sdz 4 sid = 1 := by unfold sdz; rw [if_neg (by omega), if_pos c]
      simp only [e1, e2, e4, q1, q2, q4, ↓reduceIte, Nat.one_ne_zero, show ¬ (2 = 0) by omega, show ¬ (4 = 0) by omega]
      omega
    · have q1 : sdz 1 sid = 2 := by unfold sdz; rw [if_neg (by omega), if_neg c]
      have q2 : sdz 2 sid = 2 := by unfold sdz; rw [if_neg (by omega), if_neg c]
      have q4 : sdz 4 sid = 2 := by unfold sdz; rw [if_neg (by omega), if_neg c]
      simp only [e1, e2, e4, q1, q2, q4, ↓reduceIte, Nat.one_ne_zero, show ¬ (2 = 0) by omega, show ¬ (4 = 0) by omega]
      omega
/-- the answer -/
def wA (a : Nat → Int32) (j w i : Nat) : Int32 :=
  if w = 0 then (if jN a j 1 = 1 then nI (wT (jN a j 3) (jN a j 2) (jN a j 7) i) else nI (wT (jN a j 3) (jN a j 2) (jN a j 7) i) * nI (jN a j 0)) else if w = 1 then nI (wS (jN a j 3) (jN a j 2) (jN a j 7) i) else nI (wP (jN a j 3) (jN a j 2) (jN a j 7) i)
theorem m_where {g : GS_} (hM : MI g) {k i w : Nat} (hk : k < 24) (hJ : JobPl (gai g 20 0) (gai g 20 2) k) (hi : i < jN (gai g 20 0) k 7) (hw : w ≤ 2) : f10_where_b42 FU_ 0 (nI k) (nI i) (nI w) (nI 0) g = some (wA (gai g 20 0) k w i, g) := by
  obtain ⟨⟨x1, x2, x3⟩, ⟨y1, y2⟩, -, ⟨z1, z2, z3⟩, -, -, ⟨m1, m2, m3⟩, c1, c2, -⟩ := Jn hJ
  have hsd := sdz_pos (jN (gai g 20 0) k 3) (jN (gai g 20 0) k 2)
  have hps : psz (jN (gai g 20 0) k 3) ≤ 4 := by unfold psz; split <;> omega
  have eS := m_sheetsOfCopy hM hk hJ
  have es := m_sidesOf hM hk hJ
  have ep := m_perSide hM hk hJ
  have ee := fun t s p (ht : t < sSC (gai g 20 0) k) (hs : s < 2) (hp : p < psz (jN (gai g 20 0) k 3)) => m_elementAt hM hk hJ ht hs hp
  have o0 := m_ofJob hM hk (w := 0) (by omega)
  have o1 := m_ofJob hM hk (w := 1) (by omega)
  obtain ⟨k1, k2, k3, k4⟩ := w_ok (sid := jN (gai g 20 0) k 2) z2 z3 hi (show jN (gai g 20 0) k 7 ≤ 400 by omega)
  have un := fun t s p (ht : t < scz (jN (gai g 20 0) k 3) (jN (gai g 20 0) k 2) (jN (gai g 20 0) k 7)) hs hp (he : elz (jN (gai g 20 0) k 3) (jN (gai g 20 0) k 2) (jN (gai g 20 0) k 7) t s p = i) => elz_uniq (sid := jN (gai g 20 0) k 2) (m := jN (gai g 20 0) k 7) (t := t) (s := s) (p := p) z2 z3 ht hs hp k1 k2 k3 (he.trans k4.symm)
  have hle := fun t s p (ht : t < scz (jN (gai g 20 0) k 3) (jN (gai g 20 0) k 2) (jN (gai g 20 0) k 7)) hs hp => elz_le (lay := jN (gai g 20 0) k 3) (sid := jN (gai g 20 0) k 2) (t := t) (side := s) (pos := p) (show jN (gai g 20 0) k 7 ≤ 400 by omega) z2 ht hs hp
  have hwA : wA (gai g 20 0) k w i = wA (gai g 20 0) k w i := rfl
  conv at hwA => rhs; unfold wA
  have hSS : scz (jN (gai g 20 0) k 3) (jN (gai g 20 0) k 2) (jN (gai g 20 0) k 7) = sSC (gai g 20 0) k := rfl
  rw [hSS] at k1 un hle
  rw [x1] at o0
  rw [y1] at o1
  generalize wA (gai g 20 0) k w i = R at *
  generalize wT (jN (gai g 20 0) k 3) (jN (gai g 20 0) k 2) (jN (gai g 20 0) k 7) i = T at *
  generalize wS (jN (gai g 20 0) k 3) (jN (gai g 20 0) k 2) (jN (gai g 20 0) k 7) i = U at *
  generalize wP (jN (gai g 20 0) k 3) (jN (gai g 20 0) k 2) (jN (gai g 20 0) k 7) i = V at *
  generalize sSC (gai g 20 0) k = S at *
  generalize sdz (jN (gai g 20 0) k 3) (jN (gai g 20 0) k 2) = D at *
  generalize psz (jN (gai g 20 0) k 3) = B at *
  generalize elz (jN (gai g 20 0) k 3) (jN (gai g 20 0) k 2) (jN (gai g 20 0) k 7) = E at *
  -- the place itself
  have here : ∀ c42 c55 fuel p, p ≤ V → V - p < fuel → f10_where_b68 c42 c55 fuel 0 (nI k) (nI i) (nI w) (nI T) (nI U) (nI p) g = some (R, g) := by
    intro c42 c55 fuel
    induction fuel with
    | zero => intro p _ h2; omega
    | succ fuel ih =>
      intro p hp hf
      have e1 := ee T U p k1 (by omega) (by omega)
      have e2 := hle T U p k1 (by omega) (by omega)
      rw [f10_where_b68.eq_2]
      by_cases he : p = V
      · subst he
        rw [k4] at e1
        by_cases c : jN (gai g 20 0) k 1 = 1
        · rw [c] at o1
          rw [if_pos c] at hwA
          rcases (show w = 0 ∨ w = 1 ∨ w = 2 by omega) with rfl | rfl | rfl
          · rw [if_pos rfl] at hwA
            simp (disch := first | with_reducible assumption | omega | (simp only [MI_sai_iff, MI_sfi_iff]; with_reducible assumption)) only [li, ↓lr_, ↓bd_m, ↓oc_m, ↓reduceIte, bi_0, bi_0n, bi_1, bi_1n, not_true_eq_false, not_false_eq_true, Nat.reduceAdd, Nat.reduceMul, nI_mul, nI_add, inb_T, ix_nI, le_T, le_F, lt_T, lt_F, eq_F, and_self, and_true, true_and, false_and, and_false, or_true, true_or, or_false, false_or, bi_eq, x_within, m_in, ep, e1, o1, f10_where_b117, hwA]
          · rw [if_neg (by omega), if_pos rfl] at hwA
            simp (disch := first | with_reducible assumption | omega | (simp only [MI_sai_iff, MI_sfi_iff]; with_reducible assumption)) only [li, ↓lr_, ↓bd_m, ↓oc_m, ↓reduceIte, bi_0, bi_0n, bi_1, bi_1n, not_true_eq_false, not_false_eq_true, Nat.reduceAdd, Nat.reduceMul, nI_mul, nI_add, inb_T, ix_nI, le_T, le_F, lt_T, lt_F, eq_F, and_self, and_true, true_and, false_and, and_false, or_true, true_or, or_false, false_or, bi_eq, x_within, m_in, ep, e1, o1, f10_where_b117, hwA]
          · rw [if_neg (by omega), if_neg (by omega)] at hwA
            simp (disch := first | with_reducible assumption | omega | (simp only [MI_sai_iff, MI_sfi_iff]; with_reducible assumption)) only [li, ↓lr_, ↓bd_m, ↓oc_m, ↓reduceIte, bi_0, bi_0n, bi_1, bi_1n, not_true_eq_false, not_false_eq_true, Nat.reduceAdd, Nat.reduceMul, nI_mul, nI_add, inb_T, ix_nI, le_T, le_F, lt_T, lt_F, eq_F, and_self, and_true, true_and, false_and, and_false, or_true, true_or, or_false, false_or, bi_eq, x_within, m_in, ep, e1, o1, f10_where_b117, hwA]
        · have y3 : jN (gai g 20 0) k 1 = 0 := by omega
          rw [y3] at o1
          rw [if_neg c] at hwA
          rcases (show w = 0 ∨ w = 1 ∨ w = 2 by omega) with rfl | rfl | rfl
          · rw [if_pos rfl, nI_mul] at hwA
            simp (disch := first | with_reducible assumption | omega | (simp only [MI_sai_iff, MI_sfi_iff]; with_reducible assumption)) only [li, ↓lr_, ↓bd_m, ↓oc_m, ↓reduceIte, bi_0, bi_0n, bi_1, bi_1n, not_true_eq_false, not_false_eq_true, Nat.reduceAdd, Nat.reduceMul, nI_mul, nI_add, inb_T, ix_nI, le_T, le_F, lt_T, lt_F, eq_F, and_self, and_true, true_and, false_and, and_false, or_true, true_or, or_false, false_or, bi_eq, x_within, m_in, ep, e1, o1, o0, f10_where_b117, hwA]
          · rw [if_neg (by omega), if_pos rfl] at hwA
            simp (disch := first | with_reducible assumption | omega | (simp only [MI_sai_iff, MI_sfi_iff]; with_reducible assumption)) only [li, ↓lr_, ↓bd_m, ↓oc_m, ↓reduceIte, bi_0, bi_0n, bi_1, bi_1n, not_true_eq_false, not_false_eq_true, Nat.reduceAdd, Nat.reduceMul, nI_mul, nI_add, inb_T, ix_nI, le_T, le_F, lt_T, lt_F, eq_F, and_self, and_true, true_and, false_and, and_false, or_true, true_or, or_false, false_or, bi_eq, x_within, m_in, ep, e1, o1, o0, f10_where_b117, hwA]
          · rw [if_neg (by omega), if_neg (by omega)] at hwA
            simp (disch := first | with_reducible assumption | omega | (simp only [MI_sai_iff, MI_sfi_iff]; with_reducible assumption)) only [li, ↓lr_, ↓bd_m, ↓oc_m, ↓reduceIte, bi_0, bi_0n, bi_1, bi_1n, not_true_eq_false, not_false_eq_true, Nat.reduceAdd, Nat.reduceMul, nI_mul, nI_add, inb_T, ix_nI, le_T, le_F, lt_T, lt_F, eq_F, and_self, and_true, true_and, false_and, and_false, or_true, true_or, or_false, false_or, bi_eq, x_within, m_in, ep, e1, o1, o0, f10_where_b117, hwA]
      · have ne : ¬ (E T U p = i) := fun q => he (un T U p k1 k2 (by omega) q).2.2
        have nx := ih (p + 1) (by omega) (by omega)
        simp (disch := first | with_reducible assumption | omega | (simp only [MI_sai_iff, MI_sfi_iff]; with_reducible assumption)) only [li, ↓lr_, ↓bd_m, ↓oc_m, ↓reduceIte, bi_0, bi_0n, bi_1, bi_1n, not_true_eq_false, not_false_eq_true, Nat.reduceAdd, Nat.reduceMul, nI_mul, nI_add, inb_T, ix_nI, le_T, le_F, lt_T, lt_F, eq_F, and_self, and_true, true_and, false_and, and_false, or_true, true_or, or_false, false_or, bi_eq, x_within, m_in, ep, e1, nx]
  have off : ∀ c42 c55 t s, t < S → s < D → ¬ (t = T ∧ s = U) → ∀ fuel p, p ≤ B → B - p < fuel → f10_where_b68 c42 c55 fuel 0 (nI k) (nI i) (nI w) (nI t) (nI s) (nI p) g = c55 0 (nI k) (nI i) (nI w) (nI t) (nI (s + 1)) g := by
    intro c42 c55 t s ht hs hne fuel
    induction fuel with
    | zero => intro p _ h2; omega
    | succ fuel ih =>
      intro p hp hf
      rw [f10_where_b68.eq_2]
      by_cases he : p = B
      · subst he
        simp (disch := first | with_reducible assumption | omega | (simp only [MI_sai_iff, MI_sfi_iff]; with_reducible assumption)) only [li, ↓lr_, ↓bd_m, ↓oc_m, ↓reduceIte, bi_0, bi_0n, bi_1, bi_1n, not_true_eq_false, not_false_eq_true, Nat.reduceAdd, Nat.reduceMul, nI_mul, nI_add, inb_T, ix_nI, le_T, le_F, lt_T, lt_F, eq_F, and_self, and_true, true_and, false_and, and_false, or_true, true_or, or_false, false_or, bi_eq, x_within, m_in, ep, Nat.le_refl]
      · have e1 := ee t s p ht (by omega) (by omega)
        have e2 := hle t s p ht (by omega) (by omega)
        have ne : ¬ (E t s p = i) := fun q => hne ⟨(un t s p ht hs (by omega) q).1, (un t s p ht hs (by omega) q).2.1⟩
        have nx := ih (p + 1) (by omega) (by omega)
        simp (disch := first | with_reducible assumption | omega | (simp only [MI_sai_iff, MI_sfi_iff]; with_reducible assumption)) only [li, ↓lr_, ↓bd_m, ↓oc_m, ↓reduceIte, bi_0, bi_0n, bi_1, bi_1n, not_true_eq_false, not_false_eq_true, Nat.reduceAdd, Nat.reduceMul, nI_mul, nI_add, inb_T, ix_nI, le_T, le_F, lt_T, lt_F, eq_F, and_self, and_true, true_and, false_and, and_false, or_true, true_or, or_false, false_or, bi_eq, x_within, m_in, ep, e1, nx]
  have here2 : ∀ c42 fuel s, s ≤ U → U - s < fuel → f10_where_b55 c42 fuel 0 (nI k) (nI i) (nI w) (nI T) (nI s) g = some (R, g) := by
    intro c42 fuel
    induction fuel with
    | zero => intro p _ h2; omega
    | succ fuel ih =>
      intro s hs hf
      rw [f10_where_b55.eq_2]
      by_cases he : s = U
      · subst he
        have nx := here c42 (f10_where_b55 c42 fuel) FU_ 0 (by omega) (by unfold FU_; omega)
        simp (disch := first | with_reducible assumption | omega | (simp only [MI_sai_iff, MI_sfi_iff]; with_reducible assumption)) only [li, ↓lr_, ↓bd_m, ↓oc_m, ↓reduceIte, bi_0, bi_0n, bi_1, bi_1n, not_true_eq_false, not_false_eq_true, Nat.reduceAdd, Nat.reduceMul, nI_mul, nI_add, inb_T, ix_nI, le_T, le_F, lt_T, lt_F, eq_F, and_self, and_true, true_and, false_and, and_false, or_true, true_or, or_false, false_or, bi_eq, x_within, m_in, es, nx]
      · have nx := off c42 (f10_where_b55 c42 fuel) T s k1 (by omega) (by omega) FU_ 0 (by omega) (by unfold FU_; omega)
        have n2 := ih (s + 1) (by omega) (by omega)
        simp (disch := first | with_reducible assumption | omega | (simp only [MI_sai_iff, MI_sfi_iff]; with_reducible assumption)) only [li, ↓lr_, ↓bd_m, ↓oc_m, ↓reduceIte, bi_0, bi_0n, bi_1, bi_1n, not_true_eq_false, not_false_eq_true, Nat.reduceAdd, Nat.reduceMul, nI_mul, nI_add, inb_T, ix_nI, le_T, le_F, lt_T, lt_F, eq_F, and_self, and_true, true_and, false_and, and_false, or_true, true_or, or_false, false_or, bi_eq, x_within, m_in, es, nx, n2]
  have off2 : ∀ c42 t, t < S → t ≠ T → ∀ fuel s, s ≤ D → D - s < fuel → f10_where_b55 c42 fuel 0 (nI k) (nI i) (nI w) (nI t) (nI s) g = c42 0 (nI k) (nI i) (nI w) (nI (t + 1)) g := by
    intro c42 t ht hne fuel
    induction fuel with
    | zero => intro p _ h2; omega
    | succ fuel ih =>
      intro s hs hf
      rw [f10_where_b55.eq_2]
      by_cases he : s = D
      · subst he
        simp (disch := first | with_reducible assumption | omega | (simp only [MI_sai_iff, MI_sfi_iff]; with_reducible assumption)) only [li, ↓lr_, ↓bd_m, ↓oc_m, ↓reduceIte, bi_0, bi_0n, bi_1, bi_1n, not_true_eq_false, not_false_eq_true, Nat.reduceAdd, Nat.reduceMul, nI_mul, nI_add, inb_T, ix_nI, le_T, le_F, lt_T, lt_F, eq_F, and_self, and_true, true_and, false_and, and_false, or_true, true_or, or_false, false_or, bi_eq, x_within, m_in, es, Nat.le_refl]
      · have nx := off c42 (f10_where_b55 c42 fuel) t s ht (by omega) (by omega) FU_ 0 (by omega) (by unfold FU_; omega)
        have n2 := ih (s + 1) (by omega) (by omega)
        simp (disch := first | with_reducible assumption | omega | (simp only [MI_sai_iff, MI_sfi_iff]; with_reducible assumption)) only [li, ↓lr_, ↓bd_m, ↓oc_m, ↓reduceIte, bi_0, bi_0n, bi_1, bi_1n, not_true_eq_false, not_false_eq_true, Nat.reduceAdd, Nat.reduceMul, nI_mul, nI_add, inb_T, ix_nI, le_T, le_F, lt_T, lt_F, eq_F, and_self, and_true, true_and, false_and, and_false, or_true, true_or, or_false, false_or, bi_eq, x_within, m_in, es, nx, n2]
  have all : ∀ fuel t, t ≤ T → T - t < fuel → f10_where_b42 fuel 0 (nI k) (nI i) (nI w) (nI t) g = some (R, g) := by
    intro fuel
    induction fuel with
    | zero => intro p _ h2; omega
    | succ fuel ih =>
      intro t ht hf
      rw [f10_where_b42.eq_2]
      by_cases he : t = T
      · subst he
        have nx := here2 (f10_where_b42 fuel) FU_ 0 (by omega) (by unfold FU_; omega)
        simp (disch := first | with_reducible assumption | omega | (simp only [MI_sai_iff, MI_sfi_iff]; with_reducible assumption)) only [li, ↓lr_, ↓bd_m, ↓oc_m, ↓reduceIte, bi_0, bi_0n, bi_1, bi_1n, not_true_eq_false, not_false_eq_true, Nat.reduceAdd, Nat.reduceMul, nI_mul, nI_add, inb_T, ix_nI, le_T, le_F, lt_T, lt_F, eq_F, and_self, and_true, true_and, false_and, and_false, or_true, true_or, or_false, false_or, bi_eq, x_within, m_in, eS, nx]
      · have nx := off2 (f10_where_b42 fuel) t (by omega) he FU_ 0 (by omega) (by unfold FU_; omega)
        have n2 := ih (t + 1) (by omega) (by omega)
        simp (disch := first | with_reducible assumption | omega | (simp only [MI_sai_iff, MI_sfi_iff]; with_reducible assumption)) only [li, ↓lr_, ↓bd_m, ↓oc_m, ↓reduceIte, bi_0, bi_0n, bi_1, bi_1n, not_true_eq_false, not_false_eq_true, Nat.reduceAdd, Nat.reduceMul, nI_mul, nI_add, inb_T, ix_nI, le_T, le_F, lt_T, lt_F, eq_F, and_self, and_true, true_and, false_and, and_false, or_true, true_or, or_false, false_or, bi_eq, x_within, m_in, eS, nx, n2]
  exact all FU_ 0 (by omega) (by unfold FU_; omega)
theorem x_placeOf {g : GS_} {Q : Nat} {a l : Nat → Int32} {k i w : Nat} (hP : PlV g Q a l k) (hJ : JobPl a l k) (hi : i < jN a k 7) (hw : w ≤ 2) : f4_placeOf Q (nI i) (nI w) g = some (wA a k w i, g) := by
  obtain ⟨⟨x1, x2, x3⟩, ⟨y1, y2⟩, -, ⟨z1, z2, z3⟩, -, -, ⟨m1, m2, m3⟩, c1, c2, -⟩ := Jn hJ
  have hsd := sdz_pos (jN a k 3) (jN a k 2)
  have hpp := psz_pos (jN a k 3)
  have hps : psz (jN a k 3) ≤ 4 := by unfold psz; split <;> omega
  obtain ⟨-, -, -, -, q1, q2, q3, q4, q5, q6, q7, q8, q9, -⟩ := hP
  rw [x1] at q1
  rw [y1] at q2
  obtain ⟨k1, k2, k3, k4⟩ := w_ok (sid := jN a k 2) z2 z3 hi (show jN a k 7 ≤ 400 by omega)
  have hSS : scz (jN a k 3) (jN a k 2) (jN a k 7) = sSC a k := rfl
  -- the ends
  have fin : ∀ T U V : Nat, f4_placeOf_b155 Q (nI w) (nI T) (nI U) (nI V) g = some (if w = 0 then (if jN a k 1 = 1 then nI T else nI T * nI (jN a k 0)) else if w = 1 then nI U else nI V, g) := by
    intro T U V
    by_cases c : jN a k 1 = 1
    · rw [c] at q2
      rw [if_pos c]
      rcases (show w = 0 ∨ w = 1 ∨ w = 2 by omega) with rfl | rfl | rfl
      all_goals simp (disch := first | with_reducible assumption | omega | (simp only [MI_sai_iff, MI_sfi_iff]; with_reducible assumption)) only [li, ↓lr_, ↓bd_m, ↓oc_m, ↓reduceIte, bi_0, bi_0n, bi_1, bi_1n, not_true_eq_false, not_false_eq_true, Nat.reduceAdd, Nat.reduceMul, nI_mul, nI_add, inb_T, ix_nI, le_T, le_F, lt_T, lt_F, eq_F, and_self, and_true, true_and, false_and, and_false, or_true, true_or, or_false, false_or, bi_eq, x_within, m_in, f4_placeOf_b155, q2, f4_placeOf_b173, Nat.one_ne_zero, show ¬ (2 = 0) by omega, show ¬ (2 = 1) by omega]
    · have y3 : jN a k 1 = 0 := by omega
      rw [y3] at q2
      rw [if_neg c]
      rcases (show w = 0 ∨ w = 1 ∨ w = 2 by omega) with rfl | rfl | rfl
      all_goals simp (disch := first | with_reducible assumption | omega | (simp only [MI_sai_iff, MI_sfi_iff]; with_reducible assumption)) only [li, ↓lr_, ↓bd_m, ↓oc_m, ↓reduceIte, bi_0, bi_0n, bi_1, bi_1n, not_true_eq_false, not_false_eq_true, Nat.reduceAdd, Nat.reduceMul, nI_mul, nI_add, inb_T, ix_nI, le_T, le_F, lt_T, lt_F, eq_F, and_self, and_true, true_and, false_and, and_false, or_true, true_or, or_false, false_or, bi_eq, x_within, m_in, f4_placeOf_b155, q2, q1, f4_placeOf_b173, Nat.one_ne_zero, show ¬ (2 = 0) by omega, show ¬ (2 = 1) by omega]
  have d2 : ∀ n, n < 100000 → nI n / nI 2 = nI (n / 2) := fun n hn => div_nI (by omega) (by omega) (by omega)
  have r2 : ∀ n, n < 100000 → jrem (nI n) (nI 2) = nI (n % 2) := fun n hn => rem_nI (by omega) (by omega) (by omega)
  unfold wA
  rw [← fin]
  by_cases h0 : jN a k 3 = 0
  · have q6' : gfi g 136 Q = nI 1 := by rw [q6]; unfold bi; rw [if_pos (by rw [z1, h0])]; rfl
    unfold wT wS wP
    rw [hSS] at k1 ⊢
    rw [if_pos h0, if_pos h0, if_pos h0]
    have hmS : jN a k 7 ≤ 4 * sSC a k := by
      have : sSC a k = (jN a k 7 + 3) / 4 := if_pos h0
      omega
    generalize sSC a k = S at *
    by_cases c : 2 * S ≤ i
    · have e1 : nI (4 * S) - nI 1 = nI (4 * S - 1) := nI_sub (by omega)
      have e2 : nI (4 * S - 1) - nI i = nI (4 * S - 1 - i) := nI_sub (by omega)
      rw [if_pos c, if_pos c, if_pos c]
      have e3 := d2 (4 * S - 1 - i) (by omega)
      have e4 := r2 (4 * S - 1 - i) (by omega)
      rcases Nat.mod_two_eq_zero_or_one (4 * S - 1 - i) with e | e
      · rw [e] at e4 ⊢
        generalize 4 * S - 1 - i = z at *
        simp (disch := first | with_reducible assumption | omega | (simp only [MI_sai_iff, MI_sfi_iff]; with_reducible assumption)) only [li, ↓lr_, ↓bd_m, ↓oc_m, ↓reduceIte, bi_0, bi_0n, bi_1, bi_1n, not_true_eq_false, not_false_eq_true, Nat.reduceAdd, Nat.reduceMul, nI_mul, nI_add, inb_T, ix_nI, le_T, le_F, lt_T, lt_F, eq_F, and_self, and_true, true_and, false_and, and_false, or_true, true_or, or_false, false_or, bi_eq, x_within, m_in, f4_placeOf, q6', q9, f4_placeOf_b22, e1, e2, f4_placeOf_b43, e3, e4, f4_placeOf_b68, f4_placeOf_b76]
      · rw [e] at e4 ⊢
        generalize 4 * S - 1 - i = z at *
        simp (disch := first | with_reducible assumption | omega | (simp only [MI_sai_iff, MI_sfi_iff]; with_reducible assumption)) only [li, ↓lr_, ↓bd_m, ↓oc_m, ↓reduceIte, bi_0, bi_0n, bi_1, bi_1n, not_true_eq_false, not_false_eq_true, Nat.reduceAdd, Nat.reduceMul, nI_mul, nI_add, inb_T, ix_nI, le_T, le_F, lt_T, lt_F, eq_F, and_self, and_true, true_and, false_and, and_false, or_true, true_or, or_false, false_or, bi_eq, x_within, m_in, f4_placeOf, q6', q9, f4_placeOf_b22, e1, e2, f4_placeOf_b43, e3, e4, f4_placeOf_b68, f4_placeOf_b76, Nat.one_ne_zero]
    · rw [if_neg c, if_neg c, if_neg c]
      have e3 := d2 i (by omega)
      have e4 := r2 i (by omega)
      rcases Nat.mod_two_eq_zero_or_one i with e | e
      · rw [e] at e4 ⊢
        simp (disch := first | with_reducible assumption | omega | (simp only [MI_sai_iff, MI_sfi_iff]; with_reducible assumption)) only [li, ↓lr_, ↓bd_m, ↓oc_m, ↓reduceIte, bi_0, bi_0n, bi_1, bi_1n, not_true_eq_false, not_false_eq_true, Nat.reduceAdd, Nat.reduceMul, nI_mul, nI_add, inb_T, ix_nI, le_T, le_F, lt_T, lt_F, eq_F, and_self, and_true, true_and, false_and, and_false, or_true, true_or, or_false, false_or, bi_eq, x_within, m_in, f4_placeOf, q6', q9, f4_placeOf_b22, f4_placeOf_b43, e3, e4, f4_placeOf_b68, f4_placeOf_b76]
      · rw [e] at e4 ⊢
        simp (disch := first | with_reducible assumption | omega | (simp only [MI_sai_iff, MI_sfi_iff]; with_reducible assumption)) only [li, ↓lr_, ↓bd_m, ↓oc_m, ↓reduceIte, bi_0, bi_0n, bi_1, bi_1n, not_true_eq_false, not_false_eq_true, Nat.reduceAdd, Nat.reduceMul, nI_mul, nI_add, inb_T, ix_nI, le_T, le_F, lt_T, lt_F, eq_F, and_self, and_true, true_and, false_and, and_false, or_true, true_or, or_false, false_or, bi_eq, x_within, m_in, f4_placeOf, q6', q9, f4_placeOf_b22, f4_placeOf_b43, e3, e4, f4_placeOf_b68, f4_placeOf_b76, Nat.one_ne_zero]
  · have q6' : gfi g 136 Q = nI 0 := by rw [q6]; unfold bi; rw [if_neg (by rw [z1, eq_nI (by omega) (by omega)]; exact h0)]; rfl
    unfold wT wS wP
    rw [if_neg h0, if_neg h0, if_neg h0]
    have e3 : nI i / nI (psz (jN a k 3)) = nI (i / psz (jN a k 3)) := div_nI (by omega) (by omega) (by omega)
    have e4 : jrem (nI i) (nI (psz (jN a k 3))) = nI (i % psz (jN a k 3)) := rem_nI (by omega) (by omega) (by omega)
    have hz : i / psz (jN a k 3) ≤ i := Nat.div_le_self _ _
    generalize psz (jN a k 3) = B at *
    rcases (show sdz (jN a k 3) (jN a k 2) = 1 ∨ sdz (jN a k 3) (jN a k 2) = 2 by omega) with c | c
    · have q7' : gfi g 137 Q = nI 0 := by rw [q7]; unfold bi; rw [if_neg (by omega)]; rfl
      rw [c, Nat.div_one, Nat.mod_one]
      simp (disch := first | with_reducible assumption | omega | (simp only [MI_sai_iff, MI_sfi_iff]; with_reducible assumption)) only [li, ↓lr_, ↓bd_m, ↓oc_m, ↓reduceIte, bi_0, bi_0n, bi_1, bi_1n, not_true_eq_false, not_false_eq_true, Nat.reduceAdd, Nat.reduceMul, nI_mul, nI_add, inb_T, ix_nI, le_T, le_F, lt_T, lt_F, eq_F, and_self, and_true, true_and, false_and, and_false, or_true, true_or, or_false, false_or, bi_eq, x_within, m_in, f4_placeOf, q6', q7', q8, e3, e4, f4_placeOf_b99, f4_placeOf_b117, f4_placeOf_b133, f4_placeOf_b153]
    · have q7' : gfi g 137 Q = nI 1 := by rw [q7]; unfold bi; rw [if_pos (by omega)]; rfl
      rw [c]
      have e5 := d2 (i / B) (by omega)
      have e6 := r2 (i / B) (by omega)
      generalize i / B = z at *
      simp (disch := first | with_reducible assumption | omega | (simp only [MI_sai_iff, MI_sfi_iff]; with_reducible assumption)) only [li, ↓lr_, ↓bd_m, ↓oc_m, ↓reduceIte, bi_0, bi_0n, bi_1, bi_1n, not_true_eq_false, not_false_eq_true, Nat.reduceAdd, Nat.reduceMul, nI_mul, nI_add, inb_T, ix_nI, le_T, le_F, lt_T, lt_F, eq_F, and_self, and_true, true_and, false_and, and_false, or_true, true_or, or_false, false_or, bi_eq, x_within, m_in, f4_placeOf, q6', q7', q8, e3, e4, e5, e6, f4_placeOf_b99, f4_placeOf_b117, f4_placeOf_b133, f4_placeOf_b153]
theorem op_where (j i w : Int32) : Op (f9_where 0 j i w) (f10_where 0 j i w) := by
  intro gX gM n hn h
  obtain ⟨F, r0, r1, hX, hS, hP, hE, hM, ⟨d1, d2, d3⟩, ⟨j1, j2, j3⟩, ⟨p1, p2, p3⟩⟩ := ctx h
  have e1 := x_jobAt hX j1 j3 j
  have e2 := m_isJob hM j2 (by omega) j
  by_cases hj : vl j (tn (gai gM 20 0 4))
  · obtain ⟨k, rfl, hk⟩ := vl_ex hj
    obtain ⟨J, Q, w1, w2, w3, w4⟩ := hS.2.2.2.1.2.2.2.2.1 k hk
    have hJ := hS.2.2.1.2.2.2.2.2.1 k hk
    rw [if_pos hj, tn_nI (by omega), w1] at e1
    have hj' := eq_true hj
    have k24 : k < 24 := by omega
    obtain ⟨-, -, -, -, -, -, ⟨m1, m2, m3⟩, -⟩ := Jn hJ
    have e3 := in_vlb (n := jN (gai gM 20 0) k 7) (by omega) i
    obtain ⟨A, qa, -, -, qb, -⟩ := w3.2.2.2.1
    by_cases hi : vl i (jN (gai gM 20 0) k 7)
    · obtain ⟨y, rfl, hy⟩ := vl_ex hi
      have uy : (nI y ≤ nI (jN (gai gM 20 0) k 7) - nI 1) = True := eq_true (show nI 0 ≤ nI y ∧ _ by rw [e3]; exact hi).2
      by_cases hw : nI 0 ≤ w ∧ w ≤ nI 2
      · obtain ⟨q, -, q0, rfl⟩ := (in_ex (by omega) (by omega)).mp hw
        have e4 := x_placeOf w3 hJ hy q0
        have e5 := m_where hM k24 hJ hy q0
        refine op_fin h ?_ ?_ (r := wA (gai gM 20 0) k q y)
        · simp (disch := first | with_reducible assumption | omega | (simp only [MI_sai_iff, MI_sfi_iff]; with_reducible assumption)) only [li, ↓lr_, ↓bd_m, ↓oc_m, ↓reduceIte, bi_0, bi_0n, bi_1, bi_1n, not_true_eq_false, not_false_eq_true, Nat.reduceAdd, Nat.reduceMul, nI_mul, nI_add, inb_T, ix_nI, le_T, le_F, lt_T, lt_F, eq_F, and_self, and_true, true_and, false_and, and_false, or_true, true_or, or_false, false_or, bi_eq, x_within, m_in, f9_where, r0, e1, w2, qa, qb, ofN, uy, e4]
        · simp (disch := first | with_reducible assumption | omega | (simp only [MI_sai_iff, MI_sfi_iff]; with_reducible assumption)) only [li, ↓lr_, ↓bd_m, ↓oc_m, ↓reduceIte, bi_0, bi_0n, bi_1, bi_1n, not_true_eq_false, not_false_eq_true, Nat.reduceAdd, Nat.reduceMul, nI_mul, nI_add, inb_T, ix_nI, le_T, le_F, lt_T, lt_F, eq_F, and_self, and_true, true_and, false_and, and_false, or_true, true_or, or_false, false_or, bi_eq, x_within, m_in, f10_where, e2, hj', m_ofJob, m1, uy, e5]
      · refine op_fin h ?_ ?_ (r := -nI 2)
        · simp (disch := first | with_reducible assumption | omega | (simp only [MI_sai_iff, MI_sfi_iff]; with_reducible assumption)) only [li, ↓lr_, ↓bd_m, ↓oc_m, ↓reduceIte, bi_0, bi_0n, bi_1, bi_1n, not_true_eq_false, not_false_eq_true, Nat.reduceAdd, Nat.reduceMul, nI_mul, nI_add, inb_T, ix_nI, le_T, le_F, lt_T, lt_F, eq_F, and_self, and_true, true_and, false_and, and_false, or_true, true_or, or_false, false_or, bi_eq, x_within, m_in, f9_where, r0, e1, w2, qa, qb, ofN, uy, eq_false hw]
        · simp (disch := first | with_reducible assumption | omega | (simp only [MI_sai_iff, MI_sfi_iff]; with_reducible assumption)) only [li, ↓lr_, ↓bd_m, ↓oc_m, ↓reduceIte, bi_0, bi_0n, bi_1, bi_1n, not_true_eq_false, not_false_eq_true, Nat.reduceAdd, Nat.reduceMul, nI_mul, nI_add, inb_T, ix_nI, le_T, le_F, lt_T, lt_F, eq_F, and_self, and_true, true_and, false_and, and_false, or_true, true_or, or_false, false_or, bi_eq, x_within, m_in, f10_where, e2, hj', m_ofJob, m1, uy, eq_false hw]
    · refine op_fin h ?_ ?_ (r := -nI 2)
      · simp (disch := first | with_reducible assumption | omega | (simp only [MI_sai_iff, MI_sfi_iff]; with_reducible assumption)) only [li, ↓lr_, ↓bd_m, ↓oc_m, ↓reduceIte, bi_0, bi_0n, bi_1, bi_1n, not_true_eq_false, not_false_eq_true, Nat.reduceAdd, Nat.reduceMul, nI_mul, nI_add, inb_T, ix_nI, le_T, le_F, lt_T, lt_F, eq_F, and_self, and_true, true_and, false_and, and_false, or_true, true_or, or_false, false_or, bi_eq, x_within, m_in, f9_where, r0, e1, w2, qa, qb, ofN, e3, eq_false hi]
      · simp (disch := first | with_reducible assumption | omega | (simp only [MI_sai_iff, MI_sfi_iff]; with_reducible assumption)) only [li, ↓lr_, ↓bd_m, ↓oc_m, ↓reduceIte, bi_0, bi_0n, bi_1, bi_1n, not_true_eq_false, not_false_eq_true, Nat.reduceAdd, Nat.reduceMul, nI_mul, nI_add, inb_T, ix_nI, le_T, le_F, lt_T, lt_F, eq_F, and_self, and_true, true_and, false_and, and_false, or_true, true_or, or_false, false_or, bi_eq, x_within, m_in, f10_where, e2, hj', m_ofJob, m1, e3, eq_false hi]
  · rw [if_neg hj] at e1
    refine op_fin h ?_ ?_ (r := -nI 1)
    · simp (disch := first | with_reducible assumption | omega | (simp only [MI_sai_iff, MI_sfi_iff]; with_reducible assumption)) only [li, ↓lr_, ↓bd_m, ↓oc_m, ↓reduceIte, bi_0, bi_0n, bi_1, bi_1n, not_true_eq_false, not_false_eq_true, Nat.reduceAdd, Nat.reduceMul, nI_mul, nI_add, inb_T, ix_nI, le_T, le_F, lt_T, lt_F, eq_F, and_self, and_true, true_and, false_and, and_false, or_true, true_or, or_false, false_or, bi_eq, x_within, m_in, f9_where, r0, e1]
    · simp (disch := first | with_reducible assumption | omega | (simp only [MI_sai_iff, MI_sfi_iff]; with_reducible assumption)) only [li, ↓lr_, ↓bd_m, ↓oc_m, ↓reduceIte, bi_0, bi_0n, bi_1, bi_1n, not_true_eq_false, not_false_eq_true, Nat.reduceAdd, Nat.reduceMul, nI_mul, nI_add, inb_T, ix_nI, le_T, le_F, lt_T, lt_F, eq_F, and_self, and_true, true_and, false_and, and_false, or_true, true_or, or_false, false_or, bi_eq, x_within, m_in, f10_where, e2, eq_false hj]
