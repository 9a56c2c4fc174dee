/-! texts: the automaton, items -/
abbrev isD (z : Int32) : Prop := nI 48 ≤ z ∧ z ≤ nI 57
abbrev isD1 (z : Int32) : Prop := nI 49 ≤ z ∧ z ≤ nI 57
abbrev isH (z : Int32) : Prop := z = nI 111 ∨ z = nI 101
def dB (z : Int32) : Option Nat := if z = nI 42 then some 2 else if z = nI 45 then some 4 else if isD1 z then some 6 else none
def dE (z : Int32) : Option Nat := if isH z then some 3 else if z = nI 44 then some 0 else none
def dl (st : Nat) (z : Int32) : Option Nat := match st with
  | 0 => if z = nI 33 then some 1 else dB z
  | 1 => dB z
  | 2 => dE z
  | 3 => if z = nI 44 then some 0 else none
  | 4 => if isD1 z then some 9 else none
  | 5 => if isD1 z then some 9 else dE z
  | 6 => if isD z then some 7 else if z = nI 45 then some 5 else dE z
  | 7 => if isD z then some 8 else if z = nI 45 then some 5 else dE z
  | 8 => if z = nI 45 then some 5 else dE z
  | 9 => if isD z then some 10 else dE z
  | 10 => if isD z then some 11 else dE z
  | 11 => dE z
  | _ => none
def dv (o : Option Nat) : Int32 := match o with
  | none => -nI 1
  | some s => nI s
theorem isD_ex {z : Int32} : isD z ↔ ∃ k : Nat, 48 ≤ k ∧ k ≤ 57 ∧ z = nI k := in_ex (by omega) (by omega)
theorem isD1_iff {z : Int32} : isD1 z ↔ isD z ∧ ¬ z = nI 48 := by
  constructor
  · intro h
    obtain ⟨k, k1, k2, rfl⟩ := (in_ex (by omega) (by omega)).mp h
    exact ⟨isD_ex.mpr ⟨k, by omega, k2, rfl⟩, by rw [eq_nI (by omega) (by omega)]; omega⟩
  · rintro ⟨h1, h2⟩
    obtain ⟨k, k1, k2, rfl⟩ := isD_ex.mp h1
    rw [eq_nI (by omega) (by omega)] at h2
    exact (in_ex (by omega) (by omega)).mpr ⟨k, by omega, k2, rfl⟩
theorem isD_ne {z : Int32} {n : Nat} (h : isD z) (hn : n < 48 ∨ 57 < n) (hn2 : n < 1000) : (z = nI n) = False := by
  obtain ⟨k, k1, k2, rfl⟩ := isD_ex.mp h
  exact nI_ne (by omega) (by omega) (by omega)
theorem isD_no {n : Nat} (hn : n < 48 ∨ 57 < n) (hn2 : n < 1000) : isD (nI n) = False := eq_false fun h => by
  have := isD_ne h hn hn2
  simp at this
theorem isD1_no {n : Nat} (hn : n < 49 ∨ 57 < n) (hn2 : n < 1000) : isD1 (nI n) = False := eq_false fun h => by
  obtain ⟨k, k1, k2, e⟩ := (in_ex (by omega) (by omega)).mp h
  rw [eq_nI (by omega) (by omega)] at e
  omega
theorem x_isDigit {z : Int32} {g : GS_} : f6_isDigit z g = some (bi (isD z), g) := by
  unfold f6_isDigit f6_isDigit_b16
  by_cases h1 : z < nI 48
  · have : ¬ isD z := fun q => by have := q.1; rw [leI] at this; rw [ltI] at h1; omega
    rw [bi_f this]
    simp (disch := first | with_reducible assumption | omega | (simp only [MI_sai_iff, MI_sfi_iff]; with_reducible assumption)) only [li, ↓lr_, ↓bd_m, ↓oc_m, ↓reduceIte, bi_0, bi_0n, bi_1, bi_1n, not_true_eq_false, not_false_eq_true, Nat.reduceAdd, Nat.reduceMul, nI_mul, nI_add, inb_T, ix_nI, le_T, le_F, lt_T, lt_F, eq_F, and_self, and_true, true_and, false_and, and_false, or_true, true_or, or_false, false_or, bi_eq, x_within, m_in, h1]
  · by_cases h2 : nI 57 < z
    · have : ¬ isD z := fun q => by have := q.2; rw [leI] at this; rw [ltI] at h2; omega
      rw [bi_f this]
      simp (disch := first | with_reducible assumption | omega | (simp only [MI_sai_iff, MI_sfi_iff]; with_reducible assumption)) only [li, ↓lr_, ↓bd_m, ↓oc_m, ↓reduceIte, bi_0, bi_0n, bi_1, bi_1n, not_true_eq_false, not_false_eq_true, Nat.reduceAdd, Nat.reduceMul, nI_mul, nI_add, inb_T, ix_nI, le_T, le_F, lt_T, lt_F, eq_F, and_self, and_true, true_and, false_and, and_false, or_true, true_or, or_false, false_or, bi_eq, x_within, m_in, h1, h2]
    · have : isD z := ⟨by rw [leI]; rw [ltI] at h1; omega, by rw [leI]; rw [ltI] at h2; omega⟩
      rw [bi_t this]
      simp (disch := first | with_reducible assumption | omega | (simp only [MI_sai_iff, MI_sfi_iff]; with_reducible assumption)) only [li, ↓lr_, ↓bd_m, ↓oc_m, ↓reduceIte, bi_0, bi_0n, bi_1, bi_1n, not_true_eq_false, not_false_eq_true, Nat.reduceAdd, Nat.reduceMul, nI_mul, nI_add, inb_T, ix_nI, le_T, le_F, lt_T, lt_F, eq_F, and_self, and_true, true_and, false_and, and_false, or_true, true_or, or_false, false_or, bi_eq, x_within, m_in, h1, h2]
theorem x_spanBegins {z : Int32} {g : GS_} : f6_spanBegins z g = some (dv (dB z), g) := by
  unfold dB
  by_cases h1 : z = nI 42
  · subst h1
    simp (disch := first | with_reducible assumption | omega | (simp only [MI_sai_iff, MI_sfi_iff]; with_reducible assumption)) only [li, ↓lr_, ↓bd_m, ↓oc_m, ↓reduceIte, bi_0, bi_0n, bi_1, bi_1n, not_true_eq_false, not_false_eq_true, Nat.reduceAdd, Nat.reduceMul, nI_mul, nI_add, inb_T, ix_nI, le_T, le_F, lt_T, lt_F, eq_F, and_self, and_true, true_and, false_and, and_false, or_true, true_or, or_false, false_or, bi_eq, x_within, m_in, f6_spanBegins, dv]
  · by_cases h2 : z = nI 45
    · subst h2
      simp (disch := first | with_reducible assumption | omega | (simp only [MI_sai_iff, MI_sfi_iff]; with_reducible assumption)) only [li, ↓lr_, ↓bd_m, ↓oc_m, ↓reduceIte, bi_0, bi_0n, bi_1, bi_1n, not_true_eq_false, not_false_eq_true, Nat.reduceAdd, Nat.reduceMul, nI_mul, nI_add, inb_T, ix_nI, le_T, le_F, lt_T, lt_F, eq_F, and_self, and_true, true_and, false_and, and_false, or_true, true_or, or_false, false_or, bi_eq, x_within, m_in, f6_spanBegins, dv]
    · by_cases h3 : isD z
      · by_cases h4 : z = nI 48
        · have : ¬ isD1 z := fun q => (isD1_iff.mp q).2 h4
          simp (disch := first | with_reducible assumption | omega | (simp only [MI_sai_iff, MI_sfi_iff]; with_reducible assumption)) only [li, ↓lr_, ↓bd_m, ↓oc_m, ↓reduceIte, bi_0, bi_0n, bi_1, bi_1n, not_true_eq_false, not_false_eq_true, Nat.reduceAdd, Nat.reduceMul, nI_mul, nI_add, inb_T, ix_nI, le_T, le_F, lt_T, lt_F, eq_F, and_self, and_true, true_and, false_and, and_false, or_true, true_or, or_false, false_or, bi_eq, x_within, m_in, f6_spanBegins, f6_spanBegins_b34, eq_false h1, eq_false h2, x_isDigit, eq_true h3, eq_true h4, eq_false this, dv]
        · have : isD1 z := isD1_iff.mpr ⟨h3, h4⟩
          simp (disch := first | with_reducible assumption | omega | (simp only [MI_sai_iff, MI_sfi_iff]; with_reducible assumption)) only [li, ↓lr_, ↓bd_m, ↓oc_m, ↓reduceIte, bi_0, bi_0n, bi_1, bi_1n, not_true_eq_false, not_false_eq_true, Nat.reduceAdd, Nat.reduceMul, nI_mul, nI_add, inb_T, ix_nI, le_T, le_F, lt_T, lt_F, eq_F, and_self, and_true, true_and, false_and, and_false, or_true, true_or, or_false, false_or, bi_eq, x_within, m_in, f6_spanBegins, f6_spanBegins_b34, eq_false h1, eq_false h2, x_isDigit, eq_true h3, eq_false h4, eq_true this, dv]
      · have : ¬ isD1 z := fun q => h3 (isD1_iff.mp q).1
        simp (disch := first | with_reducible assumption | omega | (simp only [MI_sai_iff, MI_sfi_iff]; with_reducible assumption)) only [li, ↓lr_, ↓bd_m, ↓oc_m, ↓reduceIte, bi_0, bi_0n, bi_1, bi_1n, not_true_eq_false, not_false_eq_true, Nat.reduceAdd, Nat.reduceMul, nI_mul, nI_add, inb_T, ix_nI, le_T, le_F, lt_T, lt_F, eq_F, and_self, and_true, true_and, false_and, and_false, or_true, true_or, or_false, false_or, bi_eq, x_within, m_in, f6_spanBegins, f6_spanBegins_b34, eq_false h1, eq_false h2, x_isDigit, eq_false h3, eq_false this, dv]
theorem x_spanEnds {z : Int32} {g : GS_} : f6_spanEnds z g = some (dv (dE z), g) := by
  unfold dE isH
  by_cases h1 : z = nI 111
  · subst h1
    simp (disch := first | with_reducible assumption | omega | (simp only [MI_sai_iff, MI_sfi_iff]; with_reducible assumption)) only [li, ↓lr_, ↓bd_m, ↓oc_m, ↓reduceIte, bi_0, bi_0n, bi_1, bi_1n, not_true_eq_false, not_false_eq_true, Nat.reduceAdd, Nat.reduceMul, nI_mul, nI_add, inb_T, ix_nI, le_T, le_F, lt_T, lt_F, eq_F, and_self, and_true, true_and, false_and, and_false, or_true, true_or, or_false, false_or, bi_eq, x_within, m_in, f6_spanEnds, dv]
  · by_cases h2 : z = nI 101
    · subst h2
      simp (disch := first | with_reducible assumption | omega | (simp only [MI_sai_iff, MI_sfi_iff]; with_reducible assumption)) only [li, ↓lr_, ↓bd_m, ↓oc_m, ↓reduceIte, bi_0, bi_0n, bi_1, bi_1n, not_true_eq_false, not_false_eq_true, Nat.reduceAdd, Nat.reduceMul, nI_mul, nI_add, inb_T, ix_nI, le_T, le_F, lt_T, lt_F, eq_F, and_self, and_true, true_and, false_and, and_false, or_true, true_or, or_false, false_or, bi_eq, x_within, m_in, f6_spanEnds, dv]
    · by_cases h3 : z = nI 44
      · subst h3
        simp (disch := first | with_reducible assumption | omega | (simp only [MI_sai_iff, MI_sfi_iff]; with_reducible assumption)) only [li, ↓lr_, ↓bd_m, ↓oc_m, ↓reduceIte, bi_0, bi_0n, bi_1, bi_1n, not_true_eq_false, not_false_eq_true, Nat.reduceAdd, Nat.reduceMul, nI_mul, nI_add, inb_T, ix_nI, le_T, le_F, lt_T, lt_F, eq_F, and_self, and_true, true_and, false_and, and_false, or_true, true_or, or_false, false_or, bi_eq, x_within, m_in, f6_spanEnds, dv]
      · simp (disch := first | with_reducible assumption | omega | (simp only [MI_sai_iff, MI_sfi_iff]; with_reducible assumption)) only [li, ↓lr_, ↓bd_m, ↓oc_m, ↓reduceIte, bi_0, bi_0n, bi_1, bi_1n, not_true_eq_false, not_false_eq_true, Nat.reduceAdd, Nat.reduceMul, nI_mul, nI_add, inb_T, ix_nI, le_T, le_F, lt_T, lt_F, eq_F, and_self, and_true, true_and, false_and, and_false, or_true, true_or, or_false, false_or, bi_eq, x_within, m_in, f6_spanEnds, eq_false h1, eq_false h2, eq_false h3, dv]
theorem x_stateAfter {st : Nat} {z : Int32} {g : GS_} (hs : st ≤ 11) : f6_stateAfter (nI st) z g = some (dv (dl st z), g) := by
  rcases (show st = 0 ∨ st = 1 ∨ st = 2 ∨ st = 3 ∨ st = 4 ∨ st = 5 ∨ st = 6 ∨ st = 7 ∨ st = 8 ∨ st = 9 ∨ st = 10 ∨ st = 11 by omega) with rfl | rfl | rfl | rfl | rfl | rfl | rfl | rfl | rfl | rfl | rfl | rfl
  · unfold dl
    by_cases h : z = nI 33
    · simp (disch := first | with_reducible assumption | omega | (simp only [MI_sai_iff, MI_sfi_iff]; with_reducible assumption)) only [li, ↓lr_, ↓bd_m, ↓oc_m, ↓reduceIte, bi_0, bi_0n, bi_1, bi_1n, not_true_eq_false, not_false_eq_true, Nat.reduceAdd, Nat.reduceMul, nI_mul, nI_add, inb_T, ix_nI, le_T, le_F, lt_T, lt_F, eq_F, and_self, and_true, true_and, false_and, and_false, or_true, true_or, or_false, false_or, bi_eq, x_within, m_in, f6_stateAfter, eq_true h, dv]
    · simp (disch := first | with_reducible assumption | omega | (simp only [MI_sai_iff, MI_sfi_iff]; with_reducible assumption)) only [li, ↓lr_, ↓bd_m, ↓oc_m, ↓reduceIte, bi_0, bi_0n, bi_1, bi_1n, not_true_eq_false, not_false_eq_true, Nat.reduceAdd, Nat.reduceMul, nI_mul, nI_add, inb_T, ix_nI, le_T, le_F, lt_T, lt_F, eq_F, and_self, and_true, true_and, false_and, and_false, or_true, true_or, or_false, false_or, bi_eq, x_within, m_in, f6_stateAfter, eq_false h, x_spanBegins]
  · unfold dl
    simp (disch := first | with_reducible assumption | omega | (simp only [MI_sai_iff, MI_sfi_iff]; with_reducible assumption)) only [li, ↓lr_, ↓bd_m, ↓oc_m, ↓reduceIte, bi_0, bi_0n, bi_1, bi_1n, not_true_eq_false, not_false_eq_true, Nat.reduceAdd, Nat.reduceMul, nI_mul, nI_add, inb_T, ix_nI, le_T, le_F, lt_T, lt_F, eq_F, and_self, and_true, true_and, false_and, and_false, or_true, true_or, or_false, false_or, bi_eq, x_within, m_in, f6_stateAfter, x_spanBegins]
  · unfold dl
    simp (disch := first | with_reducible assumption | omega | (simp only [MI_sai_iff, MI_sfi_iff]; with_reducible assumption)) only [li, ↓lr_, ↓bd_m, ↓oc_m, ↓reduceIte, bi_0, bi_0n, bi_1, bi_1n, not_true_eq_false, not_false_eq_true, Nat.reduceAdd, Nat.reduceMul, nI_mul, nI_add, inb_T, ix_nI, le_T, le_F, lt_T, lt_F, eq_F, and_self, and_true, true_and, false_and, and_false, or_true, true_or, or_false, false_or, bi_eq, x_within, m_in, f6_stateAfter, f6_stateAfter_b188, x_spanEnds]
  · unfold dl
    by_cases h : z = nI 44
    · simp (disch := first | with_reducible assumption | omega | (simp only [MI_sai_iff, MI_sfi_iff]; with_reducible assumption)) only [li, ↓lr_, ↓bd_m, ↓oc_m, ↓reduceIte, bi_0, bi_0n, bi_1, bi_1n, not_true_eq_false, not_false_eq_true, Nat.reduceAdd, Nat.reduceMul, nI_mul, nI_add, inb_T, ix_nI, le_T, le_F, lt_T, lt_F, eq_F, and_self, and_true, true_and, false_and, and_false, or_true, true_or, or_false, false_or, bi_eq, x_within, m_in, f6_stateAfter, eq_true h, dv]
    · simp (disch := first | with_reducible assumption | omega | (simp only [MI_sai_iff, MI_sfi_iff]; with_reducible assumption)) only [li, ↓lr_, ↓bd_m, ↓oc_m, ↓reduceIte, bi_0, bi_0n, bi_1, bi_1n, not_true_eq_false, not_false_eq_true, Nat.reduceAdd, Nat.reduceMul, nI_mul, nI_add, inb_T, ix_nI, le_T, le_F, lt_T, lt_F, eq_F, and_self, and_true, true_and, false_and, and_false, or_true, true_or, or_false, false_or, bi_eq, x_within, m_in, f6_stateAfter, eq_false h, dv]
  · unfold dl
    by_cases h : isD z
    · by_cases h2 : z = nI 48
      · have : ¬ isD1 z := fun q => (isD1_iff.mp q).2 h2
        simp (disch := first | with_reducible assumption | omega | (simp only [MI_sai_iff, MI_sfi_iff]; with_reducible assumption)) only [li, ↓lr_, ↓bd_m, ↓oc_m, ↓reduceIte, bi_0, bi_0n, bi_1, bi_1n, not_true_eq_false, not_false_eq_true, Nat.reduceAdd, Nat.reduceMul, nI_mul, nI_add, inb_T, ix_nI, le_T, le_F, lt_T, lt_F, eq_F, and_self, and_true, true_and, false_and, and_false, or_true, true_or, or_false, false_or, bi_eq, x_within, m_in, f6_stateAfter, f6_stateAfter_b102, x_isDigit, eq_true h, eq_true h2, eq_false this, dv]
      · have : isD1 z := isD1_iff.mpr ⟨h, h2⟩
        simp (disch := first | with_reducible assumption | omega | (simp only [MI_sai_iff, MI_sfi_iff]; with_reducible assumption)) only [li, ↓lr_, ↓bd_m, ↓oc_m, ↓reduceIte, bi_0, bi_0n, bi_1, bi_1n, not_true_eq_false, not_false_eq_true, Nat.reduceAdd, Nat.reduceMul, nI_mul, nI_add, inb_T, ix_nI, le_T, le_F, lt_T, lt_F, eq_F, and_self, and_true, true_and, false_and, and_false, or_true, true_or, or_false, false_or, bi_eq, x_within, m_in, f6_stateAfter, f6_stateAfter_b102, x_isDigit, eq_true h, eq_false h2, eq_true this, dv]
    · have : ¬ isD1 z := fun q => h (isD1_iff.mp q).1
      simp (disch := first | with_reducible assumption | omega | (simp only [MI_sai_iff, MI_sfi_iff]; with_reducible assumption)) only [li, ↓lr_, ↓bd_m, ↓oc_m, ↓reduceIte, bi_0, bi_0n, bi_1, bi_1n, not_true_eq_false, not_false_eq_true, Nat.reduceAdd, Nat.reduceMul, nI_mul, nI_add, inb_T, ix_nI, le_T, le_F, lt_T, lt_F, eq_F, and_self, and_true, true_and, false_and, and_false, or_true, true_or, or_false, false_or, bi_eq, x_within, m_in, f6_stateAfter, f6_stateAfter_b102, x_isDigit, eq_false h, eq_false this, dv]
  · unfold dl
    by_cases h : isD z
    · by_cases h2 : z = nI 48
      · have : ¬ isD1 z := fun q => (isD1_iff.mp q).2 h2
        simp (disch := first | with_reducible assumption | omega | (simp only [MI_sai_iff, MI_sfi_iff]; with_reducible assumption)) only [li, ↓lr_, ↓bd_m, ↓oc_m, ↓reduceIte, bi_0, bi_0n, bi_1, bi_1n, not_true_eq_false, not_false_eq_true, Nat.reduceAdd, Nat.reduceMul, nI_mul, nI_add, inb_T, ix_nI, le_T, le_F, lt_T, lt_F, eq_F, and_self, and_true, true_and, false_and, and_false, or_true, true_or, or_false, false_or, bi_eq, x_within, m_in, f6_stateAfter, f6_stateAfter_b122, x_isDigit, eq_true h, eq_true h2, eq_false this, x_spanEnds]
      · have : isD1 z := isD1_iff.mpr ⟨h, h2⟩
        simp (disch := first | with_reducible assumption | omega | (simp only [MI_sai_iff, MI_sfi_iff]; with_reducible assumption)) only [li, ↓lr_, ↓bd_m, ↓oc_m, ↓reduceIte, bi_0, bi_0n, bi_1, bi_1n, not_true_eq_false, not_false_eq_true, Nat.reduceAdd, Nat.reduceMul, nI_mul, nI_add, inb_T, ix_nI, le_T, le_F, lt_T, lt_F, eq_F, and_self, and_true, true_and, false_and, and_false, or_true, true_or, or_false, false_or, bi_eq, x_within, m_in, f6_stateAfter, f6_stateAfter_b122, x_isDigit, eq_true h, eq_false h2, eq_true this, dv]
    · have : ¬ isD1 z := fun q => h (isD1_iff.mp q).1
      simp (disch := first | with_reducible assumption | omega | (simp only [MI_sai_iff, MI_sfi_iff]; with_reducible assumption)) only [li, ↓lr_, ↓bd_m, ↓oc_m, ↓reduceIte, bi_0, bi_0n, bi_1, bi_1n, not_true_eq_false, not_false_eq_true, Nat.reduceAdd, Nat.reduceMul, nI_mul, nI_add, inb_T, ix_nI, le_T, le_F, lt_T, lt_F, eq_F, and_self, and_true, true_and, false_and, and_false, or_true, true_or, or_false, false_or, bi_eq, x_within, m_in, f6_stateAfter, f6_stateAfter_b122, x_isDigit, eq_false h, eq_false this, x_spanEnds]
  · unfold dl
    by_cases h : isD z
    · simp (disch := first | with_reducible assumption | omega | (simp only [MI_sai_iff, MI_sfi_iff]; with_reducible assumption)) only [li, ↓lr_, ↓bd_m, ↓oc_m, ↓reduceIte, bi_0, bi_0n, bi_1, bi_1n, not_true_eq_false, not_false_eq_true, Nat.reduceAdd, Nat.reduceMul, nI_mul, nI_add, inb_T, ix_nI, le_T, le_F, lt_T, lt_F, eq_F, and_self, and_true, true_and, false_and, and_false, or_true, true_or, or_false, false_or, bi_eq, x_within, m_in, f6_stateAfter, f6_stateAfter_b127, x_isDigit, eq_true h, dv]
    · by_cases h2 : z = nI 45
      · simp (disch := first | with_reducible assumption | omega | (simp only [MI_sai_iff, MI_sfi_iff]; with_reducible assumption)) only [li, ↓lr_, ↓bd_m, ↓oc_m, ↓reduceIte, bi_0, bi_0n, bi_1, bi_1n, not_true_eq_false, not_false_eq_true, Nat.reduceAdd, Nat.reduceMul, nI_mul, nI_add, inb_T, ix_nI, le_T, le_F, lt_T, lt_F, eq_F, and_self, and_true, true_and, false_and, and_false, or_true, true_or, or_false, false_or, bi_eq, x_within, m_in, f6_stateAfter, f6_stateAfter_b127, x_isDigit, eq_false h, eq_true h2, dv]
      · simp (disch := first | with_reducible assumption | omega | (simp only [MI_sai_iff, MI_sfi_iff]; with_reducible assumption)) only [li, ↓lr_, ↓bd_m, ↓oc_m, ↓reduceIte, bi_0, bi_0n, bi_1, bi_1n, not_true_eq_false, not_false_eq_true, Nat.reduceAdd, Nat.reduceMul, nI_mul, nI_add, inb_T, ix_nI, le_T, le_F, lt_T, lt_F, eq_F, and_self, and_true, true_and, false_and, and_false, or_true, true_or, or_false, false_or, bi_eq, x_within, m_in, f6_stateAfter, f6_stateAfter_b127, x_isDigit, eq_false h, eq_false h2, x_spanEnds]
  · unfold dl
    by_cases h : isD z
    · simp (disch := first | with_reducible assumption | omega | (simp only [MI_sai_iff, MI_sfi_iff]; with_reducible assumption)) only [li, ↓lr_, ↓bd_m, ↓oc_m, ↓reduceIte, bi_0, bi_0n, bi_1, bi_1n, not_true_eq_false, not_false_eq_true, Nat.reduceAdd, Nat.reduceMul, nI_mul, nI_add, inb_T, ix_nI, le_T, le_F, lt_T, lt_F, eq_F, and_self, and_true, true_and, false_and, and_false, or_true, true_or, or_false, false_or, bi_eq, x_within, m_in, f6_stateAfter, f6_stateAfter_b127, x_isDigit, eq_true h, dv]
    · by_cases h2 : z = nI 45
      · simp (disch := first | with_reducible assumption | omega | (simp only [MI_sai_iff, MI_sfi_iff]; with_reducible assumption)) only [li, ↓lr_, ↓bd_m, ↓oc_m, ↓reduceIte, bi_0, bi_0n, bi_1, bi_1n, not_true_eq_false, not_false_eq_true, Nat.reduceAdd, Nat.reduceMul, nI_mul, nI_add, inb_T, ix_nI, le_T, le_F, lt_T, lt_F, eq_F, and_self, and_true, true_and, false_and, and_false, or_true, true_or, or_false, false_or, bi_eq, x_within, m_in, f6_stateAfter, f6_stateAfter_b127, x_isDigit, eq_false h, eq_true h2, dv]
      · simp (disch := first | with_reducible assumption | omega | (simp only [MI_sai_iff, MI_sfi_iff]; with_reducible assumption)) only [li, ↓lr_, ↓bd_m, ↓oc_m, ↓reduceIte, bi_0, bi_0n, bi_1, bi_1n, not_true_eq_false, not_false_eq_true, Nat.reduceAdd, Nat.reduceMul, nI_mul, nI_add, inb_T, ix_nI, le_T, le_F, lt_T, lt_F, eq_F, and_self, and_true, true_and, false_and, and_false, or_true, true_or, or_false, false_or, bi_eq, x_within, m_in, f6_stateAfter, f6_stateAfter_b127, x_isDigit, eq_false h, eq_false h2, x_spanEnds]
  · unfold dl
    by_cases h2 : z = nI 45
    · simp (disch := first | with_reducible assumption | omega | (simp only [MI_sai_iff, MI_sfi_iff]; with_reducible assumption)) only [li, ↓lr_, ↓bd_m, ↓oc_m, ↓reduceIte, bi_0, bi_0n, bi_1, bi_1n, not_true_eq_false, not_false_eq_true, Nat.reduceAdd, Nat.reduceMul, nI_mul, nI_add, inb_T, ix_nI, le_T, le_F, lt_T, lt_F, eq_F, and_self, and_true, true_and, false_and, and_false, or_true, true_or, or_false, false_or, bi_eq, x_within, m_in, f6_stateAfter, eq_true h2, dv]
    · simp (disch := first | with_reducible assumption | omega | (simp only [MI_sai_iff, MI_sfi_iff]; with_reducible assumption)) only [li, ↓lr_, ↓bd_m, ↓oc_m, ↓reduceIte, bi_0, bi_0n, bi_1, bi_1n, not_true_eq_false, not_false_eq_true, Nat.reduceAdd, Nat.reduceMul, nI_mul, nI_add, inb_T, ix_nI, le_T, le_F, lt_T, lt_F, eq_F, and_self, and_true, true_and, false_and, and_false, or_true, true_or, or_false, false_or, bi_eq, x_within, m_in, f6_stateAfter, eq_false h2, x_spanEnds]
  · unfold dl
    by_cases h : isD z
    · simp (disch := first | with_reducible assumption | omega | (simp only [MI_sai_iff, MI_sfi_iff]; with_reducible assumption)) only [li, ↓lr_, ↓bd_m, ↓oc_m, ↓reduceIte, bi_0, bi_0n, bi_1, bi_1n, not_true_eq_false, not_false_eq_true, Nat.reduceAdd, Nat.reduceMul, nI_mul, nI_add, inb_T, ix_nI, le_T, le_F, lt_T, lt_F, eq_F, and_self, and_true, true_and, false_and, and_false, or_true, true_or, or_false, false_or, bi_eq, x_within, m_in, f6_stateAfter, f6_stateAfter_b170, x_isDigit, eq_true h, dv]
    · simp (disch := first | with_reducible assumption | omega | (simp only [MI_sai_iff, MI_sfi_iff]; with_reducible assumption)) only [li, ↓lr_, ↓bd_m, ↓oc_m, ↓reduceIte, bi_0, bi_0n, bi_1, bi_1n, not_true_eq_false, not_false_eq_true, Nat.reduceAdd, Nat.reduceMul, nI_mul, nI_add, inb_T, ix_nI, le_T, le_F, lt_T, lt_F, eq_F, and_self, and_true, true_and, false_and, and_false, or_true, true_or, or_false, false_or, bi_eq, x_within, m_in, f6_stateAfter, f6_stateAfter_b170, x_isDigit, eq_false h, x_spanEnds]
  · unfold dl
    by_cases h : isD z
    · simp (disch := first | with_reducible assumption | omega | (simp only [MI_sai_iff, MI_sfi_iff]; with_reducible assumption)) only [li, ↓lr_, ↓bd_m, ↓oc_m, ↓reduceIte, bi_0, bi_0n, bi_1, bi_1n, not_true_eq_false, not_false_eq_true, Nat.reduceAdd, Nat.reduceMul, nI_mul, nI_add, inb_T, ix_nI, le_T, le_F, lt_T, lt_F, eq_F, and_self, and_true, true_and, false_and, and_false, or_true, true_or, or_false, false_or, bi_eq, x_within, m_in, f6_stateAfter, f6_stateAfter_b170, x_isDigit, eq_true h, dv]
    · simp (disch := first | with_reducible assumption | omega | (simp only [MI_sai_iff, MI_sfi_iff]; with_reducible assumption)) only [li, ↓lr_, ↓bd_m, ↓oc_m, ↓reduceIte, bi_0, bi_0n, bi_1, bi_1n, not_true_eq_false, not_false_eq_true, Nat.reduceAdd, Nat.reduceMul, nI_mul, nI_add, inb_T, ix_nI, le_T, le_F, lt_T, lt_F, eq_F, and_self, and_true, true_and, false_and, and_false, or_true, true_or, or_false, false_or, bi_eq, x_within, m_in, f6_stateAfter, f6_stateAfter_b170, x_isDigit, eq_false h, x_spanEnds]
  · unfold dl
    simp (disch := first | with_reducible assumption | omega | (simp only [MI_sai_iff, MI_sfi_iff]; with_reducible assumption)) only [li, ↓lr_, ↓bd_m, ↓oc_m, ↓reduceIte, bi_0, bi_0n, bi_1, bi_1n, not_true_eq_false, not_false_eq_true, Nat.reduceAdd, Nat.reduceMul, nI_mul, nI_add, inb_T, ix_nI, le_T, le_F, lt_T, lt_F, eq_F, and_self, and_true, true_and, false_and, and_false, or_true, true_or, or_false, false_or, bi_eq, x_within, m_in, f6_stateAfter, f6_stateAfter_b188, x_spanEnds]
/-- the automaton's answer from a state and a place -/
def stk (m st p : Nat) : Int32 := if p < m then nI p else if st = 0 ∨ st = 1 ∨ st = 4 then nI m else -nI 6
def AR (c : Nat → Int32) (m : Nat) : Nat → Nat → Nat → Int32
  | 0, _, _ => nI 0
  | k + 1, st, p => match dl st (c p) with
    | none => stk m st p
    | some s => AR c m k s (p + 1)
def Aut (c : Nat → Int32) (m st p : Nat) : Int32 := AR c m (m + 1 - p) st p
theorem dB_le {z : Int32} {s : Nat} (h : dB z = some s) : s ≤ 11 := by
  unfold dB at h
  split at h
  · injection h; omega
  · split at h
    · injection h; omega
    · split at h
      · injection h; omega
      · cases h
theorem dE_le {z : Int32} {s : Nat} (h : dE z = some s) : s ≤ 11 := by
  unfold dE at h
  split at h
  · injection h; omega
  · split at h
    · injection h; omega
    · cases h
theorem dl_le {st s : Nat} {z : Int32} (h : dl st z = some s) : s ≤ 11 := by
  unfold dl at h
  split at h
  · split at h
    · injection h; omega
    · exact dB_le h
  · exact dB_le h
  · exact dE_le h
  · split at h
    · injection h; omega
    · cases h
  · split at h
    · injection h; omega
    · cases h
  · split at h
    · injection h; omega
    · exact dE_le h
  · split at h
    · injection h; omega
    · split at h
      · injection h; omega
      · exact dE_le h
  · split at h
    · injection h; omega
    · split at h
      · injection h; omega
      · exact dE_le h
  · split at h
    · injection h; omega
    · exact dE_le h
  · split at h
    · injection h; omega
    · exact dE_le h
  · split at h
    · injection h; omega
    · exact dE_le h
  · exact dE_le h
  · cases h
theorem dB_0 : dB (nI 0) = none := by decide
theorem dE_0 : dE (nI 0) = none := by decide
theorem dl_0 {st : Nat} (hs : st ≤ 11) : dl st (nI 0) = none := by
  rcases (show st = 0 ∨ st = 1 ∨ st = 2 ∨ st = 3 ∨ st = 4 ∨ st = 5 ∨ st = 6 ∨ st = 7 ∨ st = 8 ∨ st = 9 ∨ st = 10 ∨ st = 11 by omega) with rfl | rfl | rfl | rfl | rfl | rfl | rfl | rfl | rfl | rfl | rfl | rfl <;> decide
theorem Aut_none {c : Nat → Int32} {m st p : Nat} (hp : p ≤ m) (h : dl st (c p) = none) : Aut c m st p = stk m st p := by
  unfold Aut
  rw [show m + 1 - p = (m - p) + 1 by omega, AR, h]
theorem Aut_some {c : Nat → Int32} {m st p s : Nat} (hc : ∀ i, m ≤ i → c i = nI 0) (hp : p ≤ m) (hs : st ≤ 11) (h : dl st (c p) = some s) : p < m ∧ Aut c m st p = Aut c m s (p + 1) := by
  have hlt : p < m := by
    rcases Nat.lt_or_ge p m with q | q
    · exact q
    · rw [hc p q, dl_0 hs] at h
      cases h
  refine ⟨hlt, ?_⟩
  unfold Aut
  rw [show m + 1 - p = (m - p) + 1 by omega, AR, h, show m + 1 - (p + 1) = m - p by omega]
theorem x_characterAt {g : GS_} {T B m : Nat} (h1 : gfi g 193 T = nI m) (h2 : gfr g 192 T = some B) (h3 : gln g 20 B = 40) (hm : m ≤ 40) {p : Nat} (hp : p < 1000) : f6_characterAt T (nI p) g = some (if p < m then gai g 20 B p else nI 0, g) := by
  by_cases c : p < m
  · rw [if_pos c]
    simp (disch := first | with_reducible assumption | omega | (simp only [MI_sai_iff, MI_sfi_iff]; with_reducible assumption)) only [li, ↓lr_, ↓bd_m, ↓oc_m, ↓reduceIte, bi_0, bi_0n, bi_1, bi_1n, not_true_eq_false, not_false_eq_true, Nat.reduceAdd, Nat.reduceMul, nI_mul, nI_add, inb_T, ix_nI, le_T, le_F, lt_T, lt_F, eq_F, and_self, and_true, true_and, false_and, and_false, or_true, true_or, or_false, false_or, bi_eq, x_within, m_in, f6_characterAt, h1, h2, h3, ofN]
  · rw [if_neg c]
    simp (disch := first | with_reducible assumption | omega | (simp only [MI_sai_iff, MI_sfi_iff]; with_reducible assumption)) only [li, ↓lr_, ↓bd_m, ↓oc_m, ↓reduceIte, bi_0, bi_0n, bi_1, bi_1n, not_true_eq_false, not_false_eq_true, Nat.reduceAdd, Nat.reduceMul, nI_mul, nI_add, inb_T, ix_nI, le_T, le_F, lt_T, lt_F, eq_F, and_self, and_true, true_and, false_and, and_false, or_true, true_or, or_false, false_or, bi_eq, x_within, m_in, f6_characterAt, h1, f6_characterAt_b30]
theorem x_fault {g : GS_} {T B m : Nat} {c : Nat → Int32} (h1 : gfi g 193 T = nI m) (h2 : gfr g 192 T = some B) (h3 : gln g 20 B = 40) (hm : m ≤ 40) (hc : ∀ p, (if p < m then gai g 20 B p else nI 0) = c p) : ∀ k st p, p ≤ m → m + 1 - p ≤ k → st ≤ 11 → f6_firstFault_b4 k T (nI st) (nI p) g = some (Aut c m st p, g)
  | 0, st, p, _, h, _ => by omega
  | k + 1, st, p, hp, hk, hs => by
    have hc0 : ∀ i, m ≤ i → c i = nI 0 := fun i hi => by rw [← hc, if_neg (by omega)]
    rw [f6_firstFault_b4.eq_2]
    by_cases he : p = m
    · subst he
      rw [Aut_none (Nat.le_refl _) (by rw [hc0 _ (Nat.le_refl _), dl_0 hs])]
      unfold stk
      rw [if_neg (show ¬ p < p by omega)]
      rcases (show st = 0 ∨ st = 1 ∨ st = 4 ∨ (st ≠ 0 ∧ st ≠ 1 ∧ st ≠ 4) by omega) with rfl | rfl | rfl | ⟨q0, q1, q4⟩
      · simp (disch := first | with_reducible assumption | omega | (simp only [MI_sai_iff, MI_sfi_iff]; with_reducible assumption)) only [li, ↓lr_, ↓bd_m, ↓oc_m, ↓reduceIte, bi_0, bi_0n, bi_1, bi_1n, not_true_eq_false, not_false_eq_true, Nat.reduceAdd, Nat.reduceMul, nI_mul, nI_add, inb_T, ix_nI, le_T, le_F, lt_T, lt_F, eq_F, and_self, and_true, true_and, false_and, and_false, or_true, true_or, or_false, false_or, bi_eq, x_within, m_in, h1, Nat.le_refl, f6_firstFault_b49, f6_firstFault_b54]
      · simp (disch := first | with_reducible assumption | omega | (simp only [MI_sai_iff, MI_sfi_iff]; with_reducible assumption)) only [li, ↓lr_, ↓bd_m, ↓oc_m, ↓reduceIte, bi_0, bi_0n, bi_1, bi_1n, not_true_eq_false, not_false_eq_true, Nat.reduceAdd, Nat.reduceMul, nI_mul, nI_add, inb_T, ix_nI, le_T, le_F, lt_T, lt_F, eq_F, and_self, and_true, true_and, false_and, and_false, or_true, true_or, or_false, false_or, bi_eq, x_within, m_in, h1, Nat.le_refl, f6_firstFault_b49, f6_firstFault_b54, Nat.one_ne_zero]
      · simp (disch := first | with_reducible assumption | omega | (simp only [MI_sai_iff, MI_sfi_iff]; with_reducible assumption)) only [li, ↓lr_, ↓bd_m, ↓oc_m, ↓reduceIte, bi_0, bi_0n, bi_1, bi_1n, not_true_eq_false, not_false_eq_true, Nat.reduceAdd, Nat.reduceMul, nI_mul, nI_add, inb_T, ix_nI, le_T, le_F, lt_T, lt_F, eq_F, and_self, and_true, true_and, false_and, and_false, or_true, true_or, or_false, false_or, bi_eq, x_within, m_in, h1, Nat.le_refl, f6_firstFault_b49, f6_firstFault_b54, show ¬ (4 = 0) by omega, show ¬ (4 = 1) by omega]
      · simp (disch := first | with_reducible assumption | omega | (simp only [MI_sai_iff, MI_sfi_iff]; with_reducible assumption)) only [li, ↓lr_, ↓bd_m, ↓oc_m, ↓reduceIte, bi_0, bi_0n, bi_1, bi_1n, not_true_eq_false, not_false_eq_true, Nat.reduceAdd, Nat.reduceMul, nI_mul, nI_add, inb_T, ix_nI, le_T, le_F, lt_T, lt_F, eq_F, and_self, and_true, true_and, false_and, and_false, or_true, true_or, or_false, false_or, bi_eq, x_within, m_in, h1, Nat.le_refl, f6_firstFault_b54, eq_false q0, eq_false q1, eq_false q4]
    · have e1 := x_characterAt h1 h2 h3 hm (p := p) (by omega)
      rw [hc] at e1
      have e2 := x_stateAfter (z := c p) (g := g) hs
      cases hd : dl st (c p) with
      | none =>
        rw [hd] at e2
        rw [Aut_none hp hd]
        unfold stk
        rw [if_pos (show p < m by omega)]
        simp (disch := first | with_reducible assumption | omega | (simp only [MI_sai_iff, MI_sfi_iff]; with_reducible assumption)) only [li, ↓lr_, ↓bd_m, ↓oc_m, ↓reduceIte, bi_0, bi_0n, bi_1, bi_1n, not_true_eq_false, not_false_eq_true, Nat.reduceAdd, Nat.reduceMul, nI_mul, nI_add, inb_T, ix_nI, le_T, le_F, lt_T, lt_F, eq_F, and_self, and_true, true_and, false_and, and_false, or_true, true_or, or_false, false_or, bi_eq, x_within, m_in, h1, e1, e2, dv]
      | some s =>
        rw [hd] at e2
        have hs' := dl_le hd
        obtain ⟨q1, q2⟩ := Aut_some hc0 hp hs hd
        have nx := x_fault h1 h2 h3 hm hc k s (p + 1) (by omega) (by omega) hs'
        have ne : (nI s = -nI 1) = False := neg_eq (by omega) (by omega) (by omega)
        rw [q2]
        simp (disch := first | with_reducible assumption | omega | (simp only [MI_sai_iff, MI_sfi_iff]; with_reducible assumption)) only [li, ↓lr_, ↓bd_m, ↓oc_m, ↓reduceIte, bi_0, bi_0n, bi_1, bi_1n, not_true_eq_false, not_false_eq_true, Nat.reduceAdd, Nat.reduceMul, nI_mul, nI_add, inb_T, ix_nI, le_T, le_F, lt_T, lt_F, eq_F, and_self, and_true, true_and, false_and, and_false, or_true, true_or, or_false, false_or, bi_eq, x_within, m_in, h1, e1, e2, dv, ne, nx]
-- an item
def nl (c : Nat → Int32) (q : Nat) : Nat := if isD (c (q + 1)) then (if isD (c (q + 2)) then 3 else 2) else 1
def pB (c : Nat → Int32) (p : Nat) : Nat := if c p = nI 33 then p + 1 else p
def brk (c : Nat → Int32) (p : Nat) : Prop := (c (pB c p) = nI 45 ∧ ¬ isD1 (c (pB c p + 1))) ∨ (c (pB c p) ≠ nI 42 ∧ c (pB c p) ≠ nI 45 ∧ ¬ isD1 (c (pB c p)))
def bp (c : Nat → Int32) (p : Nat) : Nat := if c (pB c p) = nI 45 then pB c p + 1 else pB c p
def e1q (c : Nat → Int32) (q : Nat) : Nat := if c (q + nl c q) = nI 45 then (if isD1 (c (q + nl c q + 1)) then q + nl c q + 1 + nl c (q + nl c q + 1) else q + nl c q + 1) else q + nl c q
def e1 (c : Nat → Int32) (p : Nat) : Nat := if c (pB c p) = nI 42 then pB c p + 1 else if c (pB c p) = nI 45 then pB c p + 1 + nl c (pB c p + 1) else e1q c (pB c p)
def hEnd (c : Nat → Int32) (r : Nat) : Nat := if isH (c r) then r + 1 else r
def e2 (c : Nat → Int32) (p : Nat) : Nat := hEnd c (e1 c p)
/-- what follows an item -/
def TT3 (c : Nat → Int32) (m r : Nat) : Int32 := if c r = nI 44 then Aut c m 0 (r + 1) else if r < m then nI r else -nI 6
theorem Aut_3 {c : Nat → Int32} {m r : Nat} (hc : ∀ i, m ≤ i → c i = nI 0) (hr : r ≤ m) : Aut c m 3 r = TT3 c m r := by
  unfold TT3
  by_cases h : c r = nI 44
  · rw [if_pos h]
    exact (Aut_some hc hr (by omega) (show dl 3 (c r) = some 0 from if_pos h)).2
  · rw [if_neg h, Aut_none hr (show dl 3 (c r) = none from if_neg h)]
    unfold stk
    by_cases q : r < m
    · rw [if_pos q, if_pos q]
    · rw [if_neg q, if_neg q, if_neg (by omega)]
/-- a state that is at an item's end -/
theorem Aut_E {c : Nat → Int32} {m st r : Nat} (hc : ∀ i, m ≤ i → c i = nI 0) (hr : r ≤ m) (hs : st ≤ 11) (hn : st ≠ 0 ∧ st ≠ 1 ∧ st ≠ 4) (hd : dl st (c r) = dE (c r)) : hEnd c r ≤ m ∧ Aut c m st r = TT3 c m (hEnd c r) := by
  unfold hEnd
  by_cases h : isH (c r)
  · rw [if_pos h]
    obtain ⟨q1, q2⟩ := Aut_some hc hr hs (s := 3) (hd.trans (by unfold dE; rw [if_pos h]))
    exact ⟨by omega, q2.trans (Aut_3 hc (by omega))⟩
  · rw [if_neg h]
    refine ⟨hr, ?_⟩
    unfold TT3
    by_cases h2 : c r = nI 44
    · rw [if_pos h2]
      exact (Aut_some hc hr hs (s := 0) (hd.trans (by unfold dE; rw [if_neg h, if_pos h2]))).2
    · rw [if_neg h2, Aut_none hr (hd.trans (by unfold dE; rw [if_neg h, if_neg h2]))]
      unfold stk
      by_cases q : r < m
      · rw [if_pos q, if_pos q]
      · rw [if_neg q, if_neg q, if_neg (by omega)]
theorem nz_lt {c : Nat → Int32} {m r : Nat} (hc : ∀ i, m ≤ i → c i = nI 0) (h : c r ≠ nI 0) : r < m := by
  rcases Nat.lt_or_ge r m with q | q
  · exact q
  · exact absurd (hc r q) h
theorem isD_lt {c : Nat → Int32} {m r : Nat} (hc : ∀ i, m ≤ i → c i = nI 0) (h : isD (c r)) : r < m := nz_lt hc (fun q => by
  rw [isD_ne h (by omega) (by omega)] at q
  exact q)
theorem isH_lt {c : Nat → Int32} {m r : Nat} (hc : ∀ i, m ≤ i → c i = nI 0) (h : isH (c r)) : r < m := nz_lt hc (fun q => by
  rcases h with h | h <;> (rw [h] at q; exact absurd q (by decide)))
/-- the second number -/
theorem Aut_9 {c : Nat → Int32} {m q : Nat} (hc : ∀ i, m ≤ i → c i = nI 0) (hq : isD1 (c q)) : q + nl c q ≤ m ∧ hEnd c (q + nl c q) ≤ m ∧ Aut c m 9 (q + 1) = TT3 c m (hEnd c (q + nl c q)) := by
  have h0 := isD_lt hc (isD1_iff.mp hq).1
  unfold nl
  by_cases h1 : isD (c (q + 1))
  · have l1 := isD_lt hc h1
    obtain ⟨-, q2⟩ := Aut_some hc (show q + 1 ≤ m by omega) (st := 9) (by omega) (s := 10) (if_pos h1)
    by_cases h2 : isD (c (q + 2))
    · have l2 := isD_lt hc h2
      obtain ⟨-, q3⟩ := Aut_some hc (show q + 2 ≤ m by omega) (st := 10) (by omega) (s := 11) (if_pos h2)
      obtain ⟨z1, z2⟩ := Aut_E hc (show q + 3 ≤ m by omega) (st := 11) (by omega) (by omega) rfl
      rw [if_pos h1, if_pos h2]
      exact ⟨by omega, z1, q2.trans (q3.trans z2)⟩
    · obtain ⟨z1, z2⟩ := Aut_E hc (show q + 2 ≤ m by omega) (st := 10) (by omega) (by omega) (if_neg h2)
      rw [if_pos h1, if_neg h2]
      exact ⟨by omega, z1, q2.trans z2⟩
  · obtain ⟨z1, z2⟩ := Aut_E hc (show q + 1 ≤ m by omega) (st := 9) (by omega) (by omega) (if_neg h1)
    rw [if_neg h1]
    exact ⟨by omega, z1, z2⟩
theorem Aut_5 {c : Nat → Int32} {m r : Nat} (hc : ∀ i, m ≤ i → c i = nI 0) (hr : r ≤ m) : (if isD1 (c r) then r + nl c r else r) ≤ m ∧ hEnd c (if isD1 (c r) then r + nl c r else r) ≤ m ∧ Aut c m 5 r = TT3 c m (hEnd c (if isD1 (c r) then r + nl c r else r)) := by
  by_cases h : isD1 (c r)
  · rw [if_pos h]
    obtain ⟨-, q2⟩ := Aut_some hc hr (st := 5) (by omega) (s := 9) (if_pos h)
    rw [q2]
    exact Aut_9 hc h
  · rw [if_neg h]
    obtain ⟨z1, z2⟩ := Aut_E hc hr (st := 5) (by omega) (by omega) (if_neg h)
    exact ⟨hr, z1, z2⟩
/-- a first number, from its end -/
theorem Aut_r {c : Nat → Int32} {m st q r : Nat} (hc : ∀ i, m ≤ i → c i = nI 0) (hr : r ≤ m) (hs : st ≤ 11) (hn : st ≠ 0 ∧ st ≠ 1 ∧ st ≠ 4) (hd : dl st (c r) = if c r = nI 45 then some 5 else dE (c r)) (hq : q + nl c q = r) : e1q c q ≤ m ∧ hEnd c (e1q c q) ≤ m ∧ Aut c m st r = TT3 c m (hEnd c (e1q c q)) := by
  unfold e1q
  rw [hq]
  by_cases h : c r = nI 45
  · rw [if_pos h] at hd ⊢
    obtain ⟨q1, q2⟩ := Aut_some hc hr hs hd
    rw [q2]
    exact Aut_5 hc (by omega)
  · rw [if_neg h] at hd ⊢
    obtain ⟨z1, z2⟩ := Aut_E hc hr hs hn hd
    exact ⟨hr, z1, z2⟩
theorem Aut_6 {c : Nat → Int32} {m q : Nat} (hc : ∀ i, m ≤ i → c i = nI 0) (hq : isD1 (c q)) : e1q c q ≤ m ∧ hEnd c (e1q c q) ≤ m ∧ Aut c m 6 (q + 1) = TT3 c m (hEnd c (e1q c q)) := by
  have h0 := isD_lt hc (isD1_iff.mp hq).1
  by_cases h1 : isD (c (q + 1))
  · have l1 := isD_lt hc h1
    obtain ⟨-, q2⟩ := Aut_some hc (show q + 1 ≤ m by omega) (st := 6) (by omega) (s := 7) (if_pos h1)
    by_cases h2 : isD (c (q + 2))
    · have l2 := isD_lt hc h2
      obtain ⟨-, q3⟩ := Aut_some hc (show q + 2 ≤ m by omega) (st := 7) (by omega) (s := 8) (if_pos h2)
      rw [q2, q3]
      exact Aut_r hc (by omega) (by omega) (by omega) rfl (by unfold nl; rw [if_pos h1, if_pos h2])
    · rw [q2]
      exact Aut_r hc (by omega) (by omega) (by omega) (if_neg h2) (by unfold nl; rw [if_pos h1, if_neg h2])
  · exact Aut_r hc (by omega) (by omega) (by omega) (if_neg h1) (by unfold nl; rw [if_neg h1])
theorem Aut_1 {c : Nat → Int32} {m q : Nat} (hc : ∀ i, m ≤ i → c i = nI 0) (hq : q ≤ m) (st : Nat) (hs : st = 0 ∨ st = 1) (hd : dl st (c q) = dB (c q)) :
    if (c q = nI 45 ∧ ¬ isD1 (c (q + 1))) ∨ (c q ≠ nI 42 ∧ c q ≠ nI 45 ∧ ¬ isD1 (c q)) then Aut c m st q = nI (if c q = nI 45 then q + 1 else q) ∧ (if c q = nI 45 then q + 1 else q) ≤ m
    else hEnd c (if c q = nI 42 then q + 1 else if c q = nI 45 then q + 1 + nl c (q + 1) else e1q c q) ≤ m ∧ Aut c m st q = TT3 c m (hEnd c (if c q = nI 42 then q + 1 else if c q = nI 45 then q + 1 + nl c (q + 1) else e1q c q)) := by
  have hs11 : st ≤ 11 := by omega
  unfold dB at hd
  by_cases h1 : c q = nI 42
  · rw [if_pos h1] at hd
    obtain ⟨q1, q2⟩ := Aut_some hc hq hs11 hd
    have n45 : ¬ c q = nI 45 := by rw [h1]; decide
    rw [if_neg (by rintro (⟨z, -⟩ | ⟨z, -⟩); exact n45 z; exact z h1), if_pos h1, q2]
    exact Aut_E hc (by omega) (by omega) (by omega) rfl
  · rw [if_neg h1] at hd
    by_cases h2 : c q = nI 45
    · rw [if_pos h2] at hd
      obtain ⟨q1, q2⟩ := Aut_some hc hq hs11 hd
      by_cases h3 : isD1 (c (q + 1))
      · rw [if_neg (by rintro (⟨-, z⟩ | ⟨-, z, -⟩); exact z h3; exact z h2), if_neg h1, if_pos h2, q2]
        obtain ⟨-, q3⟩ := Aut_some hc (show q + 1 ≤ m by omega) (st := 4) (by omega) (s := 9) (if_pos h3)
        rw [q3]
        exact (Aut_9 hc h3).2
      · rw [if_pos (Or.inl ⟨h2, h3⟩), if_pos h2, q2, Aut_none (by omega) (show dl 4 (c (q + 1)) = none from if_neg h3)]
        refine ⟨?_, by omega⟩
        unfold stk
        by_cases z : q + 1 < m
        · rw [if_pos z]
        · rw [if_neg z, if_pos (by omega), show m = q + 1 by omega]
    · rw [if_neg h2] at hd
      by_cases h3 : isD1 (c q)
      · rw [if_pos h3] at hd
        obtain ⟨q1, q2⟩ := Aut_some hc hq hs11 hd
        rw [if_neg (by rintro (⟨z, -⟩ | ⟨-, -, z⟩); exact h2 z; exact z h3), if_neg h1, if_neg h2, q2]
        exact (Aut_6 hc h3).2
      · rw [if_neg h3] at hd
        rw [if_pos (Or.inr ⟨h1, h2, h3⟩), if_neg h2, Aut_none hq hd]
        refine ⟨?_, hq⟩
        unfold stk
        by_cases z : q < m
        · rw [if_pos z]
        · rw [if_neg z, if_pos (by omega), show m = q by omega]
/-- an item from its start -/
theorem Aut_item {c : Nat → Int32} {m p : Nat} (hc : ∀ i, m ≤ i → c i = nI 0) (hp : p ≤ m) :
    (brk c p → Aut c m 0 p = nI (bp c p) ∧ bp c p ≤ m) ∧ (¬ brk c p → e2 c p ≤ m ∧ Aut c m 0 p = TT3 c m (e2 c p)) := by
  have key : pB c p ≤ m ∧ ∃ st, (st = 0 ∨ st = 1) ∧ dl st (c (pB c p)) = dB (c (pB c p)) ∧ Aut c m 0 p = Aut c m st (pB c p) := by
    unfold pB
    by_cases h : c p = nI 33
    · rw [if_pos h]
      obtain ⟨q1, q2⟩ := Aut_some hc hp (st := 0) (by omega) (s := 1) (if_pos h)
      exact ⟨by omega, 1, Or.inr rfl, rfl, q2⟩
    · rw [if_neg h]
      exact ⟨hp, 0, Or.inl rfl, if_neg h, rfl⟩
  obtain ⟨k1, st, k2, k3, k4⟩ := key
  have k5 := Aut_1 hc k1 st k2 k3
  unfold brk bp e2 e1
  rw [k4]
  refine ⟨fun h => ?_, fun h => ?_⟩
  · rw [if_pos h] at k5
    exact k5
  · rw [if_neg h] at k5
    exact k5
