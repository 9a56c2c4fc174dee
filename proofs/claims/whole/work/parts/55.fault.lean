/-! the reference reads a text -/
def dg (z : Int32) : Nat := tn z - 48
def nv (c : Nat → Int32) (q : Nat) : Nat := if isD (c (q + 1)) then (if isD (c (q + 2)) then 100 * dg (c q) + 10 * dg (c (q + 1)) + dg (c (q + 2)) else 10 * dg (c q) + dg (c (q + 1))) else dg (c q)
theorem dg_ex {z : Int32} (h : isD z) : ∃ d, d < 10 ∧ z = nI (48 + d) ∧ dg z = d := by
  obtain ⟨k, k1, k2, rfl⟩ := isD_ex.mp h
  refine ⟨k - 48, by omega, by rw [show 48 + (k - 48) = k by omega], ?_⟩
  unfold dg
  rw [tn_nI (by omega)]
theorem nv_le {c : Nat → Int32} {q : Nat} (h : isD1 (c q)) : 1 ≤ nv c q ∧ nv c q ≤ 999 := by
  obtain ⟨d, d1, d2, d3⟩ := dg_ex (isD1_iff.mp h).1
  have d0 : d ≠ 0 := by
    rintro rfl
    exact (isD1_iff.mp h).2 d2
  unfold nv
  rw [d3]
  by_cases h1 : isD (c (q + 1))
  · obtain ⟨e, e1, e2, e3⟩ := dg_ex h1
    rw [if_pos h1, e3]
    by_cases h2 : isD (c (q + 2))
    · obtain ⟨f, f1, f2, f3⟩ := dg_ex h2
      rw [if_pos h2, f3]
      omega
    · rw [if_neg h2]
      omega
  · rw [if_neg h1]
    omega
/-- the text that the reference has -/
def TX (g : GS_) (c : Nat → Int32) (m : Nat) : Prop := MI g ∧ gai g 20 0 7 = nI m ∧ m ≤ 40 ∧ ∀ p, (if p < m then gai g 20 0 (418 + p) else nI 0) = c p
theorem TX_sfi {g : GS_} {c : Nat → Int32} {m f i : Nat} {v : Int32} (h : TX g c m) : TX (sfi g f i v) c m := ⟨MI_sfi h.1, h.2⟩
theorem m_signAt {g : GS_} {c : Nat → Int32} {m p : Nat} (h : TX g c m) (hp : p < 1000) : f10_signAt 0 (nI p) g = some (c p, g) := by
  obtain ⟨hM, h7, hm, hc⟩ := h
  by_cases q : p < m
  · have e := hc p
    rw [if_pos q] at e
    simp (disch := first | with_reducible assumption | omega | (simp only [MI_sai_iff, MI_sfi_iff]; with_reducible assumption)) only [li, ↓lr_, ↓bd_m, ↓oc_m, ↓reduceIte, bi_0, bi_0n, bi_1, bi_1n, not_true_eq_false, not_false_eq_true, Nat.reduceAdd, Nat.reduceMul, nI_mul, nI_add, inb_T, ix_nI, le_T, le_F, lt_T, lt_F, eq_F, and_self, and_true, true_and, false_and, and_false, or_true, true_or, or_false, false_or, bi_eq, x_within, m_in, f10_signAt, MI_a hM, MI_n hM, h7, e]
  · have e := hc p
    rw [if_neg q] at e
    simp (disch := first | with_reducible assumption | omega | (simp only [MI_sai_iff, MI_sfi_iff]; with_reducible assumption)) only [li, ↓lr_, ↓bd_m, ↓oc_m, ↓reduceIte, bi_0, bi_0n, bi_1, bi_1n, not_true_eq_false, not_false_eq_true, Nat.reduceAdd, Nat.reduceMul, nI_mul, nI_add, inb_T, ix_nI, le_T, le_F, lt_T, lt_F, eq_F, and_self, and_true, true_and, false_and, and_false, or_true, true_or, or_false, false_or, bi_eq, x_within, m_in, f10_signAt, MI_a hM, MI_n hM, h7, ← e]
theorem m_isDigit0 {g : GS_} {z : Int32} : f10_isDigit z (nI 0) g = some (bi (isD z), g) := by
  simp (disch := first | with_reducible assumption | omega | (simp only [MI_sai_iff, MI_sfi_iff]; with_reducible assumption)) only [li, ↓lr_, ↓bd_m, ↓oc_m, ↓reduceIte, bi_0, bi_0n, bi_1, bi_1n, not_true_eq_false, not_false_eq_true, Nat.reduceAdd, Nat.reduceMul, nI_mul, nI_add, inb_T, ix_nI, le_T, le_F, lt_T, lt_F, eq_F, and_self, and_true, true_and, false_and, and_false, or_true, true_or, or_false, false_or, bi_eq, x_within, m_in, f10_isDigit, Nat.add_zero, npp]
theorem m_isDigit1 {g : GS_} {z : Int32} : f10_isDigit z (nI 1) g = some (bi (isD1 z), g) := by
  simp (disch := first | with_reducible assumption | omega | (simp only [MI_sai_iff, MI_sfi_iff]; with_reducible assumption)) only [li, ↓lr_, ↓bd_m, ↓oc_m, ↓reduceIte, bi_0, bi_0n, bi_1, bi_1n, not_true_eq_false, not_false_eq_true, Nat.reduceAdd, Nat.reduceMul, nI_mul, nI_add, inb_T, ix_nI, le_T, le_F, lt_T, lt_F, eq_F, and_self, and_true, true_and, false_and, and_false, or_true, true_or, or_false, false_or, bi_eq, x_within, m_in, f10_isDigit, npp]
theorem sfi_same {g : GS_} {f i : Nat} {v w : Int32} : sfi (sfi g f i v) f i w = sfi g f i w := by
  unfold sfi
  refine Prod.ext ?_ rfl
  funext f' i'
  show (if f' = f ∧ i' = i then w else if f' = f ∧ i' = i then v else gfi g f' i') = (if f' = f ∧ i' = i then w else gfi g f' i')
  by_cases c : f' = f ∧ i' = i
  · rw [if_pos c, if_pos c]
  · rw [if_neg c, if_neg c, if_neg c]
theorem m_number {g : GS_} {c : Nat → Int32} {m q : Nat} (h : TX g c m) (hq : q < 900) (h6 : gfi g 326 0 = nI q) : f10_readNumber 0 g = some (if isD1 (c q) then (nI (nv c q), sfi g 326 0 (nI (q + nl c q))) else (nI 0, sfi g 327 0 (nI 1))) := by
  have e0 := m_signAt h (p := q) (by omega)
  by_cases d1 : isD1 (c q)
  · rw [if_pos d1]
    have d0 := (isD1_iff.mp d1).1
    obtain ⟨d, dl, dz, dd⟩ := dg_ex d0
    have h1 : TX (sfi g 326 0 (nI (q + 1))) c m := TX_sfi h
    have e1 := m_signAt h1 (p := q + 1) (by omega)
    have s1 : ∀ v : Nat, nI 10 * nI v + nI (48 + d) - nI 48 = nI (10 * v + d) := fun v => by
      rw [nI_mul, nI_add, nI_sub (by omega), show 10 * v + (48 + d) - 48 = 10 * v + d by omega]
    have hF : FU_ = 19996 + 1 + 1 + 1 + 1 := rfl
    unfold nv nl
    rw [dd]
    by_cases a1 : isD (c (q + 1))
    · rw [if_pos a1, if_pos a1]
      obtain ⟨e, el, ez, ee⟩ := dg_ex a1
      rw [ee]
      have h2 : TX (sfi g 326 0 (nI (q + 2))) c m := TX_sfi h
      have e2 := m_signAt h2 (p := q + 2) (by omega)
      have s2 : ∀ v : Nat, nI 10 * nI v + nI (48 + e) - nI 48 = nI (10 * v + e) := fun v => by
        rw [nI_mul, nI_add, nI_sub (by omega), show 10 * v + (48 + e) - 48 = 10 * v + e by omega]
      by_cases a2 : isD (c (q + 2))
      · rw [if_pos a2, if_pos a2]
        obtain ⟨f, fl, fz, ff⟩ := dg_ex a2
        rw [ff]
        have s3 : ∀ v : Nat, nI 10 * nI v + nI (48 + f) - nI 48 = nI (10 * v + f) := fun v => by
          rw [nI_mul, nI_add, nI_sub (by omega), show 10 * v + (48 + f) - 48 = 10 * v + f by omega]
        rw [dz] at e0 d0 d1
        rw [ez] at e1 a1
        rw [fz] at e2 a2
        rw [f10_readNumber, hF]
        generalize 19996 = n
        have w1 : nI 10 * nI 0 + nI (48 + d) - nI 48 = nI d := by rw [s1 0, Nat.mul_zero, Nat.zero_add]
        simp (disch := first | with_reducible assumption | omega) only [li, ↓lr_at, ↓bd_m, h6, e0, m_isDigit1, bi_eq, eq_true d1, not_true_eq_false, ↓reduceIte, f10_readNumber_b26, le_F, le_T, m_isDigit0, eq_true d0, w1, nI_add, e_gfi_sfi, and_self, e1, eq_true a1, s2, sfi_same, e2, eq_true a2, s3, Nat.reduceAdd]
        rw [show 10 * (10 * d + e) + f = 100 * d + 10 * e + f by omega]
      · rw [if_neg a2, if_neg a2]
        rw [dz] at e0 d0 d1
        rw [ez] at e1 a1
        rw [f10_readNumber, hF]
        generalize 19996 = n
        have w1 : nI 10 * nI 0 + nI (48 + d) - nI 48 = nI d := by rw [s1 0, Nat.mul_zero, Nat.zero_add]
        simp (disch := first | with_reducible assumption | omega) only [li, ↓lr_at, ↓bd_m, h6, e0, m_isDigit1, bi_eq, eq_true d1, not_true_eq_false, not_false_eq_true, ↓reduceIte, f10_readNumber_b26, le_F, le_T, m_isDigit0, eq_true d0, w1, nI_add, e_gfi_sfi, and_self, e1, eq_true a1, s2, sfi_same, e2, eq_false a2, Nat.reduceAdd]
    · rw [if_neg a1, if_neg a1]
      rw [dz] at e0 d0 d1
      rw [f10_readNumber, hF]
      generalize 19996 = n
      have w1 : nI 10 * nI 0 + nI (48 + d) - nI 48 = nI d := by rw [s1 0, Nat.mul_zero, Nat.zero_add]
      simp (disch := first | with_reducible assumption | omega) only [li, ↓lr_at, ↓bd_m, h6, e0, m_isDigit1, bi_eq, eq_true d1, not_true_eq_false, not_false_eq_true, ↓reduceIte, f10_readNumber_b26, le_F, le_T, m_isDigit0, eq_true d0, w1, nI_add, e_gfi_sfi, and_self, e1, eq_false a1, sfi_same, Nat.reduceAdd]
  · rw [if_neg d1]
    simp (disch := first | with_reducible assumption | omega | (simp only [MI_sai_iff, MI_sfi_iff]; with_reducible assumption)) only [li, ↓lr_, ↓bd_m, ↓oc_m, ↓reduceIte, bi_0, bi_0n, bi_1, bi_1n, not_true_eq_false, not_false_eq_true, Nat.reduceAdd, Nat.reduceMul, nI_mul, nI_add, inb_T, ix_nI, le_T, le_F, lt_T, lt_F, eq_F, and_self, and_true, true_and, false_and, and_false, or_true, true_or, or_false, false_or, bi_eq, x_within, m_in, f10_readNumber, h6, e0, m_isDigit1, eq_false d1]
theorem m_isHalf {g : GS_} {z : Int32} : f10_isHalf z g = some (bi (isH z), g) := by
  unfold isH
  by_cases h1 : z = nI 111
  · rw [bi_t (Or.inl h1)]
    simp (disch := first | with_reducible assumption | omega | (simp only [MI_sai_iff, MI_sfi_iff]; with_reducible assumption)) only [li, ↓lr_, ↓bd_m, ↓oc_m, ↓reduceIte, bi_0, bi_0n, bi_1, bi_1n, not_true_eq_false, not_false_eq_true, Nat.reduceAdd, Nat.reduceMul, nI_mul, nI_add, inb_T, ix_nI, le_T, le_F, lt_T, lt_F, eq_F, and_self, and_true, true_and, false_and, and_false, or_true, true_or, or_false, false_or, bi_eq, x_within, m_in, f10_isHalf, eq_true h1, f10_isHalf_b12]
  · by_cases h2 : z = nI 101
    · rw [bi_t (Or.inr h2)]
      simp (disch := first | with_reducible assumption | omega | (simp only [MI_sai_iff, MI_sfi_iff]; with_reducible assumption)) only [li, ↓lr_, ↓bd_m, ↓oc_m, ↓reduceIte, bi_0, bi_0n, bi_1, bi_1n, not_true_eq_false, not_false_eq_true, Nat.reduceAdd, Nat.reduceMul, nI_mul, nI_add, inb_T, ix_nI, le_T, le_F, lt_T, lt_F, eq_F, and_self, and_true, true_and, false_and, and_false, or_true, true_or, or_false, false_or, bi_eq, x_within, m_in, f10_isHalf, eq_false h1, eq_true h2, f10_isHalf_b12]
    · rw [bi_f (by rintro (q | q); exact h1 q; exact h2 q)]
      simp (disch := first | with_reducible assumption | omega | (simp only [MI_sai_iff, MI_sfi_iff]; with_reducible assumption)) only [li, ↓lr_, ↓bd_m, ↓oc_m, ↓reduceIte, bi_0, bi_0n, bi_1, bi_1n, not_true_eq_false, not_false_eq_true, Nat.reduceAdd, Nat.reduceMul, nI_mul, nI_add, inb_T, ix_nI, le_T, le_F, lt_T, lt_F, eq_F, and_self, and_true, true_and, false_and, and_false, or_true, true_or, or_false, false_or, bi_eq, x_within, m_in, f10_isHalf, eq_false h1, eq_false h2]
def FRi (g g' : GS_) : Prop := SC g g' ∧ ∀ f, f < 326 ∨ 331 < f → gfi g' f 0 = gfi g f 0
theorem FRi_tr {a b c : GS_} (h1 : FRi a b) (h2 : FRi b c) : FRi a c := ⟨SC_tr h1.1 h2.1, fun f hf => (h2.2 f hf).trans (h1.2 f hf)⟩
theorem FRi_sfi {g : GS_} {f : Nat} {v : Int32} (h : 326 ≤ f ∧ f ≤ 331) : FRi g (sfi g f 0 v) := ⟨SC_sfi, fun k hk => by rw [e_gfi_sfi, if_neg (by omega)]⟩
theorem FRi_rfl {g : GS_} : FRi g g := ⟨SC_rfl, fun _ _ => rfl⟩
theorem TX_FRi {g g' : GS_} {c : Nat → Int32} {m : Nat} (h : TX g c m) (hf : FRi g g') : TX g' c m := by
  refine ⟨MI_SC h.1 hf.1, ?_⟩
  rw [hf.1.2.1]
  exact h.2
def hv (c : Nat → Int32) (r : Nat) : Int32 := if isH (c r) then c r else nI 0
/-- an item's end: even or odd pages alone -/
theorem m_tail {g : GS_} {c : Nat → Int32} {m r : Nat} (h : TX g c m) (hr : r < 900) (h6 : gfi g 326 0 = nI r) (h7 : gfi g 327 0 = nI 0) (h11 : gfi g 331 0 = nI 0) :
    ∃ g', f10_readItem_b196 0 g = some ((), g') ∧ FRi g g' ∧ gfi g' 326 0 = nI (hEnd c r) ∧ gfi g' 327 0 = nI 0 ∧ gfi g' 328 0 = gfi g 328 0 ∧ gfi g' 329 0 = gfi g 329 0 ∧ gfi g' 330 0 = gfi g 330 0 ∧ gfi g' 331 0 = hv c r := by
  have e0 := m_signAt h (p := r) (by omega)
  unfold hEnd hv
  by_cases a : isH (c r)
  · rw [if_pos a, if_pos a]
    refine ⟨sfi (sfi g 331 0 (c r)) 326 0 (nI (r + 1)), ?_, FRi_tr (FRi_sfi (by omega)) (FRi_sfi (by omega)), ?_, ?_, ?_, ?_, ?_, ?_⟩
    · simp (disch := first | with_reducible assumption | omega | (simp only [MI_sai_iff, MI_sfi_iff]; with_reducible assumption)) only [li, ↓lr_, ↓bd_m, ↓oc_m, ↓reduceIte, bi_0, bi_0n, bi_1, bi_1n, not_true_eq_false, not_false_eq_true, Nat.reduceAdd, Nat.reduceMul, nI_mul, nI_add, inb_T, ix_nI, le_T, le_F, lt_T, lt_F, eq_F, and_self, and_true, true_and, false_and, and_false, or_true, true_or, or_false, false_or, bi_eq, x_within, m_in, f10_readItem_b196, h7, h6, e0, m_isHalf, eq_true a, e_gfi_sfi, Nat.reduceEqDiff]
    all_goals simp only [e_gfi_sfi, Nat.reduceEqDiff, false_and, and_self, ↓reduceIte, h7]
  · rw [if_neg a, if_neg a]
    refine ⟨g, ?_, FRi_rfl, h6, h7, rfl, rfl, rfl, h11⟩
    simp (disch := first | with_reducible assumption | omega | (simp only [MI_sai_iff, MI_sfi_iff]; with_reducible assumption)) only [li, ↓lr_, ↓bd_m, ↓oc_m, ↓reduceIte, bi_0, bi_0n, bi_1, bi_1n, not_true_eq_false, not_false_eq_true, Nat.reduceAdd, Nat.reduceMul, nI_mul, nI_add, inb_T, ix_nI, le_T, le_F, lt_T, lt_F, eq_F, and_self, and_true, true_and, false_and, and_false, or_true, true_or, or_false, false_or, bi_eq, x_within, m_in, f10_readItem_b196, h7, h6, e0, m_isHalf, eq_false a]
theorem m_tailB {g : GS_} (h7 : gfi g 327 0 = nI 1) : f10_readItem_b196 0 g = some ((), g) := by
  simp (disch := first | with_reducible assumption | omega | (simp only [MI_sai_iff, MI_sfi_iff]; with_reducible assumption)) only [li, ↓lr_, ↓bd_m, ↓oc_m, ↓reduceIte, bi_0, bi_0n, bi_1, bi_1n, not_true_eq_false, not_false_eq_true, Nat.reduceAdd, Nat.reduceMul, nI_mul, nI_add, inb_T, ix_nI, le_T, le_F, lt_T, lt_F, eq_F, and_self, and_true, true_and, false_and, and_false, or_true, true_or, or_false, false_or, bi_eq, x_within, m_in, f10_readItem_b196, h7]
def fiq (c : Nat → Int32) (q : Nat) : Nat := if c q = nI 42 then 1 else if c q = nI 45 then 1 else nv c q
def laq (c : Nat → Int32) (q : Nat) : Nat := if c q = nI 42 then 0 else if c q = nI 45 then nv c (q + 1) else if c (q + nl c q) = nI 45 then (if isD1 (c (q + nl c q + 1)) then nv c (q + nl c q + 1) else 0) else nv c q
def brq (c : Nat → Int32) (q : Nat) : Prop := (c q = nI 45 ∧ ¬ isD1 (c (q + 1))) ∨ (c q ≠ nI 42 ∧ c q ≠ nI 45 ∧ ¬ isD1 (c q))
def e1p (c : Nat → Int32) (q : Nat) : Nat := if c q = nI 42 then q + 1 else if c q = nI 45 then q + 1 + nl c (q + 1) else e1q c q
theorem nl_le {c : Nat → Int32} {q : Nat} : nl c q ≤ 3 := by unfold nl; split <;> (try split) <;> omega
def RB2 (G : GS_) : Option (Unit × GS_) :=
  bd_ (f10_signAt 0 (gfi G 326 0) G) fun z29 g28 => if z29 = nI 45 then lr_ (sfi g28 326 0 ((gfi g28 326 0) + nI 1)) fun g30 => bd_ (f10_signAt 0 (gfi g30 326 0) g30) fun z32 g31 => bd_ (f10_isDigit z32 (nI 1) g31) fun z34 g33 => if z34 = nI 0 then f10_readItem_b193 0 0 (nI 0) g33 else bd_ (f10_readNumber 0 g33) fun z36 g35 => f10_readItem_b193 0 0 z36 g35 else f10_readItem_b196 0 g28
def RB (G : GS_) : Option (Unit × GS_) :=
  bd_ (f10_signAt 0 (gfi G 326 0) G) fun z13 g12 => if z13 = nI 42 then lr_ (sfi g12 326 0 ((gfi g12 326 0) + nI 1)) fun g14 => lr_ (sfi g14 329 0 (nI 1)) fun g15 => lr_ (sfi g15 330 0 (nI 0)) fun g16 => f10_readItem_b196 0 g16 else bd_ (f10_signAt 0 (gfi g12 326 0) g12) fun z18 g17 => if z18 = nI 45 then lr_ (sfi g17 326 0 ((gfi g17 326 0) + nI 1)) fun g19 => lr_ (sfi g19 329 0 (nI 1)) fun g20 => bd_ (f10_readNumber 0 g20) fun z22 g21 => lr_ (sfi g21 330 0 z22) fun g23 => f10_readItem_b196 0 g23 else bd_ (f10_readNumber 0 g17) fun z25 g24 => lr_ (sfi g24 329 0 z25) fun g26 => lr_ (sfi g26 330 0 (gfi g26 329 0)) fun g27 => if (gfi g27 327 0) = nI 0 then RB2 g27 else f10_readItem_b196 0 g27
theorem b39_eq {g : GS_} {p b q : Nat} (hq : q = p + b) : f10_readItem_b39 0 0 (nI p) (nI b) g = RB (sfi (sfi g 326 0 (nI q)) 331 0 (nI 0)) := by
  rw [f10_readItem_b39, nI_add, ← hq]
  rfl
def e1r (c : Nat → Int32) (r : Nat) : Nat := if c r = nI 45 then (if isD1 (c (r + 1)) then r + 1 + nl c (r + 1) else r + 1) else r
def lar (c : Nat → Int32) (r : Nat) (v : Int32) : Int32 := if c r = nI 45 then (if isD1 (c (r + 1)) then nI (nv c (r + 1)) else nI 0) else v
theorem m_RB2 {G : GS_} {c : Nat → Int32} {m r : Nat} (h : TX G c m) (hr : r < 850) (r6 : gfi G 326 0 = nI r) (r7 : gfi G 327 0 = nI 0) (r11 : gfi G 331 0 = nI 0) :
    ∃ g', RB2 G = some ((), g') ∧ FRi G g' ∧ gfi g' 326 0 = nI (hEnd c (e1r c r)) ∧ gfi g' 327 0 = nI 0 ∧ gfi g' 328 0 = gfi G 328 0 ∧ gfi g' 329 0 = gfi G 329 0 ∧ gfi g' 330 0 = lar c r (gfi G 330 0) ∧ gfi g' 331 0 = hv c (e1r c r) := by
  have e3 := m_signAt h (p := r) (by omega)
  unfold e1r lar
  by_cases a : c r = nI 45
  · have t3 : TX (sfi G 326 0 (nI (r + 1))) c m := TX_sfi h
    have e4 := m_signAt t3 (p := r + 1) (by omega)
    by_cases d2 : isD1 (c (r + 1))
    · have nm2 := m_number t3 (q := r + 1) (by omega) (by rw [e_gfi_sfi, if_pos ⟨rfl, rfl⟩])
      rw [if_pos d2, sfi_same] at nm2
      have hl2 := nl_le (c := c) (q := r + 1)
      have t4 : TX (sfi (sfi G 326 0 (nI (r + 1 + nl c (r + 1)))) 330 0 (nI (nv c (r + 1)))) c m := TX_sfi (TX_sfi h)
      obtain ⟨g', u1, u2, u3, u4, u5, u6, u7, u8⟩ := m_tail t4 (r := r + 1 + nl c (r + 1)) (by omega) (by simp only [e_gfi_sfi, Nat.reduceEqDiff, false_and, and_self, ↓reduceIte]) (by simp only [e_gfi_sfi, Nat.reduceEqDiff, false_and, ↓reduceIte, r7]) (by simp only [e_gfi_sfi, Nat.reduceEqDiff, false_and, ↓reduceIte, r11])
      refine ⟨g', ?_, FRi_tr (FRi_tr (FRi_sfi (by omega)) (FRi_sfi (by omega))) u2, ?_, u4, ?_, ?_, ?_, ?_⟩
      · simp (disch := first | with_reducible assumption | omega | (simp only [MI_sai_iff, MI_sfi_iff]; with_reducible assumption)) only [li, ↓lr_, ↓bd_m, ↓oc_m, ↓reduceIte, bi_0, bi_0n, bi_1, bi_1n, not_true_eq_false, not_false_eq_true, Nat.reduceAdd, Nat.reduceMul, nI_mul, nI_add, inb_T, ix_nI, le_T, le_F, lt_T, lt_F, eq_F, and_self, and_true, true_and, false_and, and_false, or_true, true_or, or_false, false_or, bi_eq, x_within, m_in, RB2, r6, e3, eq_true a, e_gfi_sfi, e4, m_isDigit1, eq_true d2, nm2, f10_readItem_b193, u1]
      · rw [if_pos a, if_pos d2]
        exact u3
      · rw [u5]
        simp only [e_gfi_sfi, Nat.reduceEqDiff, false_and, ↓reduceIte]
      · rw [u6]
        simp only [e_gfi_sfi, Nat.reduceEqDiff, false_and, ↓reduceIte]
      · rw [if_pos a, if_pos d2, u7]
        simp only [e_gfi_sfi, and_self, ↓reduceIte]
      · rw [if_pos a, if_pos d2]
        exact u8
    · have t4 : TX (sfi (sfi G 326 0 (nI (r + 1))) 330 0 (nI 0)) c m := TX_sfi t3
      obtain ⟨g', u1, u2, u3, u4, u5, u6, u7, u8⟩ := m_tail t4 (r := r + 1) (by omega) (by simp only [e_gfi_sfi, Nat.reduceEqDiff, false_and, and_self, ↓reduceIte]) (by simp only [e_gfi_sfi, Nat.reduceEqDiff, false_and, ↓reduceIte, r7]) (by simp only [e_gfi_sfi, Nat.reduceEqDiff, false_and, ↓reduceIte, r11])
      refine ⟨g', ?_, FRi_tr (FRi_tr (FRi_sfi (by omega)) (FRi_sfi (by omega))) u2, ?_, u4, ?_, ?_, ?_, ?_⟩
      · simp (disch := first | with_reducible assumption | omega | (simp only [MI_sai_iff, MI_sfi_iff]; with_reducible assumption)) only [li, ↓lr_, ↓bd_m, ↓oc_m, ↓reduceIte, bi_0, bi_0n, bi_1, bi_1n, not_true_eq_false, not_false_eq_true, Nat.reduceAdd, Nat.reduceMul, nI_mul, nI_add, inb_T, ix_nI, le_T, le_F, lt_T, lt_F, eq_F, and_self, and_true, true_and, false_and, and_false, or_true, true_or, or_false, false_or, bi_eq, x_within, m_in, RB2, r6, e3, eq_true a, e_gfi_sfi, e4, m_isDigit1, eq_false d2, f10_readItem_b193, u1]
      · rw [if_pos a, if_neg d2]
        exact u3
      · rw [u5]
        simp only [e_gfi_sfi, Nat.reduceEqDiff, false_and, ↓reduceIte]
      · rw [u6]
        simp only [e_gfi_sfi, Nat.reduceEqDiff, false_and, ↓reduceIte]
      · rw [if_pos a, if_neg d2, u7]
        simp only [e_gfi_sfi, and_self, ↓reduceIte]
      · rw [if_pos a, if_neg d2]
        exact u8
  · obtain ⟨g', u1, u2, u3, u4, u5, u6, u7, u8⟩ := m_tail h (r := r) (by omega) r6 r7 r11
    rw [if_neg a, if_neg a]
    refine ⟨g', ?_, u2, u3, u4, u5, u6, u7, u8⟩
    simp (disch := first | with_reducible assumption | omega | (simp only [MI_sai_iff, MI_sfi_iff]; with_reducible assumption)) only [li, ↓lr_, ↓bd_m, ↓oc_m, ↓reduceIte, bi_0, bi_0n, bi_1, bi_1n, not_true_eq_false, not_false_eq_true, Nat.reduceAdd, Nat.reduceMul, nI_mul, nI_add, inb_T, ix_nI, le_T, le_F, lt_T, lt_F, eq_F, and_self, and_true, true_and, false_and, and_false, or_true, true_or, or_false, false_or, bi_eq, x_within, m_in, RB2, r6, e3, eq_false a, u1]
/-- what an item says -/
def OKi (c : Nat → Int32) (q : Nat) (g g' : GS_) : Prop := FRi g g' ∧ gfi g' 328 0 = gfi g 328 0 ∧ (brq c q → gfi g' 327 0 = nI 1 ∧ gfi g' 326 0 = nI (if c q = nI 45 then q + 1 else q)) ∧
      (¬ brq c q → gfi g' 327 0 = nI 0 ∧ gfi g' 326 0 = nI (hEnd c (e1p c q)) ∧ gfi g' 329 0 = nI (fiq c q) ∧ gfi g' 330 0 = nI (laq c q) ∧ gfi g' 331 0 = hv c (e1p c q))
theorem m_RB {G : GS_} {c : Nat → Int32} {m q : Nat} (h : TX G c m) (hq : q < 800) (p6 : gfi G 326 0 = nI q) (p7 : gfi G 327 0 = nI 0) (p11 : gfi G 331 0 = nI 0) : ∃ g', RB G = some ((), g') ∧ OKi c q G g' := by
  have e0 := m_signAt h (p := q) (by omega)
  unfold OKi brq e1p fiq laq
  by_cases a42 : c q = nI 42
  · have t1 : TX (sfi (sfi (sfi G 326 0 (nI (q + 1))) 329 0 (nI 1)) 330 0 (nI 0)) c m := TX_sfi (TX_sfi (TX_sfi h))
    obtain ⟨g', u1, u2, u3, u4, u5, u6, u7, u8⟩ := m_tail t1 (r := q + 1) (by omega) (by simp only [e_gfi_sfi, Nat.reduceEqDiff, false_and, and_self, ↓reduceIte]) (by simp only [e_gfi_sfi, Nat.reduceEqDiff, false_and, ↓reduceIte, p7]) (by simp only [e_gfi_sfi, Nat.reduceEqDiff, false_and, ↓reduceIte, p11])
    have n45 : ¬ c q = nI 45 := by rw [a42]; decide
    refine ⟨g', ?_, FRi_tr (FRi_tr (FRi_sfi (by omega)) (FRi_tr (FRi_sfi (by omega)) (FRi_sfi (by omega)))) u2, ?_, ?_, ?_⟩
    · simp (disch := first | with_reducible assumption | omega | (simp only [MI_sai_iff, MI_sfi_iff]; with_reducible assumption)) only [li, ↓lr_, ↓bd_m, ↓oc_m, ↓reduceIte, bi_0, bi_0n, bi_1, bi_1n, not_true_eq_false, not_false_eq_true, Nat.reduceAdd, Nat.reduceMul, nI_mul, nI_add, inb_T, ix_nI, le_T, le_F, lt_T, lt_F, eq_F, and_self, and_true, true_and, false_and, and_false, or_true, true_or, or_false, false_or, bi_eq, x_within, m_in, RB, p6, e0, eq_true a42, e_gfi_sfi, u1]
    · rw [u5]
      simp only [e_gfi_sfi, Nat.reduceEqDiff, false_and, ↓reduceIte]
    · rintro (⟨z, -⟩ | ⟨z, -⟩)
      · exact absurd z n45
      · exact absurd a42 z
    · intro _
      rw [if_pos a42, if_pos a42, if_pos a42, u6, u7]
      refine ⟨u4, u3, ?_, ?_, u8⟩
      · simp only [e_gfi_sfi, Nat.reduceEqDiff, false_and, and_self, ↓reduceIte]
      · simp only [e_gfi_sfi, and_self, ↓reduceIte]
  · by_cases a45 : c q = nI 45
    · have t1 : TX (sfi (sfi G 326 0 (nI (q + 1))) 329 0 (nI 1)) c m := TX_sfi (TX_sfi h)
      have nm := m_number t1 (q := q + 1) (by omega) (by simp only [e_gfi_sfi, Nat.reduceEqDiff, false_and, and_self, ↓reduceIte])
      by_cases d : isD1 (c (q + 1))
      · rw [if_pos d] at nm
        have hl := nl_le (c := c) (q := q + 1)
        have t2 : TX (sfi (sfi (sfi (sfi G 326 0 (nI (q + 1))) 329 0 (nI 1)) 326 0 (nI (q + 1 + nl c (q + 1)))) 330 0 (nI (nv c (q + 1)))) c m := TX_sfi (TX_sfi t1)
        obtain ⟨g', u1, u2, u3, u4, u5, u6, u7, u8⟩ := m_tail t2 (r := q + 1 + nl c (q + 1)) (by omega) (by simp only [e_gfi_sfi, Nat.reduceEqDiff, false_and, and_self, ↓reduceIte]) (by simp only [e_gfi_sfi, Nat.reduceEqDiff, false_and, ↓reduceIte, p7]) (by simp only [e_gfi_sfi, Nat.reduceEqDiff, false_and, ↓reduceIte, p11])
        refine ⟨g', ?_, FRi_tr (FRi_tr (FRi_sfi (by omega)) (FRi_tr (FRi_sfi (by omega)) (FRi_tr (FRi_sfi (by omega)) (FRi_sfi (by omega))))) u2, ?_, ?_, ?_⟩
        · simp (disch := first | with_reducible assumption | omega | (simp only [MI_sai_iff, MI_sfi_iff]; with_reducible assumption)) only [li, ↓lr_, ↓bd_m, ↓oc_m, ↓reduceIte, bi_0, bi_0n, bi_1, bi_1n, not_true_eq_false, not_false_eq_true, Nat.reduceAdd, Nat.reduceMul, nI_mul, nI_add, inb_T, ix_nI, le_T, le_F, lt_T, lt_F, eq_F, and_self, and_true, true_and, false_and, and_false, or_true, true_or, or_false, false_or, bi_eq, x_within, m_in, RB, p6, e0, eq_false a42, eq_true a45, e_gfi_sfi, nm, u1]
        · rw [u5]
          simp only [e_gfi_sfi, Nat.reduceEqDiff, false_and, ↓reduceIte]
        · rintro (⟨-, z⟩ | ⟨-, z, -⟩)
          · exact absurd d z
          · exact absurd a45 z
        · intro _
          rw [if_neg a42, if_pos a45, if_neg a42, if_pos a45, if_neg a42, if_pos a45, u6, u7]
          refine ⟨u4, u3, ?_, ?_, u8⟩
          · simp only [e_gfi_sfi, Nat.reduceEqDiff, false_and, and_self, ↓reduceIte]
          · simp only [e_gfi_sfi, and_self, ↓reduceIte]
      · rw [if_neg d] at nm
        have u1 := m_tailB (g := sfi (sfi (sfi (sfi G 326 0 (nI (q + 1))) 329 0 (nI 1)) 327 0 (nI 1)) 330 0 (nI 0)) (by simp only [e_gfi_sfi, Nat.reduceEqDiff, false_and, and_self, ↓reduceIte])
        refine ⟨_, by simp (disch := first | with_reducible assumption | omega | (simp only [MI_sai_iff, MI_sfi_iff]; with_reducible assumption)) only [li, ↓lr_, ↓bd_m, ↓oc_m, ↓reduceIte, bi_0, bi_0n, bi_1, bi_1n, not_true_eq_false, not_false_eq_true, Nat.reduceAdd, Nat.reduceMul, nI_mul, nI_add, inb_T, ix_nI, le_T, le_F, lt_T, lt_F, eq_F, and_self, and_true, true_and, false_and, and_false, or_true, true_or, or_false, false_or, bi_eq, x_within, m_in, RB, p6, e0, eq_false a42, eq_true a45, e_gfi_sfi, nm, u1], FRi_tr (FRi_sfi (f := 326) (v := nI (q + 1)) (by omega)) (FRi_tr (FRi_sfi (f := 329) (v := nI 1) (by omega)) (FRi_tr (FRi_sfi (f := 327) (v := nI 1) (by omega)) (FRi_sfi (f := 330) (v := nI 0) (by omega)))), ?_, ?_, ?_⟩
        · simp only [e_gfi_sfi, Nat.reduceEqDiff, false_and, ↓reduceIte]
        · intro _
          rw [if_pos a45]
          refine ⟨?_, ?_⟩
          · simp only [e_gfi_sfi, Nat.reduceEqDiff, false_and, and_self, ↓reduceIte]
          · simp only [e_gfi_sfi, Nat.reduceEqDiff, false_and, and_self, ↓reduceIte]
        · intro z
          exact absurd (Or.inl ⟨a45, d⟩) z
    · have nm := m_number h (q := q) (by omega) p6
      by_cases d : isD1 (c q)
      · rw [if_pos d] at nm
        have hl := nl_le (c := c) (q := q)
        have t2 : TX (sfi (sfi (sfi G 326 0 (nI (q + nl c q))) 329 0 (nI (nv c q))) 330 0 (nI (nv c q))) c m := TX_sfi (TX_sfi (TX_sfi h))
        obtain ⟨g', u1, u2, u3, u4, u5, u6, u7, u8⟩ := m_RB2 t2 (r := q + nl c q) (by omega) (by simp only [e_gfi_sfi, Nat.reduceEqDiff, false_and, and_self, ↓reduceIte]) (by simp only [e_gfi_sfi, Nat.reduceEqDiff, false_and, and_self, ↓reduceIte, p7]) (by simp only [e_gfi_sfi, Nat.reduceEqDiff, false_and, and_self, ↓reduceIte, p11])
        have r9 : gfi (sfi (sfi (sfi G 326 0 (nI (q + nl c q))) 329 0 (nI (nv c q))) 330 0 (nI (nv c q))) 329 0 = nI (nv c q) := by simp only [e_gfi_sfi, Nat.reduceEqDiff, false_and, and_self, ↓reduceIte]
        have r10 : gfi (sfi (sfi (sfi G 326 0 (nI (q + nl c q))) 329 0 (nI (nv c q))) 330 0 (nI (nv c q))) 330 0 = nI (nv c q) := by simp only [e_gfi_sfi, Nat.reduceEqDiff, false_and, and_self, ↓reduceIte]
        rw [r9] at u6
        rw [r10] at u7
        have nbr : ¬ ((c q = nI 45 ∧ ¬ isD1 (c (q + 1))) ∨ (c q ≠ nI 42 ∧ c q ≠ nI 45 ∧ ¬ isD1 (c q))) := by
          rintro (⟨z, -⟩ | ⟨-, -, z⟩)
          · exact a45 z
          · exact z d
        refine ⟨g', ?_, FRi_tr (FRi_tr (FRi_sfi (by omega)) (FRi_tr (FRi_sfi (by omega)) (FRi_sfi (by omega)))) u2, ?_, fun z => absurd z nbr, fun _ => ?_⟩
        · simp (disch := first | with_reducible assumption | omega | (simp only [MI_sai_iff, MI_sfi_iff]; with_reducible assumption)) only [li, ↓lr_, ↓bd_m, ↓oc_m, ↓reduceIte, bi_0, bi_0n, bi_1, bi_1n, not_true_eq_false, not_false_eq_true, Nat.reduceAdd, Nat.reduceMul, nI_mul, nI_add, inb_T, ix_nI, le_T, le_F, lt_T, lt_F, eq_F, and_self, and_true, true_and, false_and, and_false, or_true, true_or, or_false, false_or, bi_eq, x_within, m_in, RB, p6, e0, eq_false a42, eq_false a45, nm, e_gfi_sfi, Nat.reduceEqDiff, p7, u1]
        · rw [u5]
          simp only [e_gfi_sfi, Nat.reduceEqDiff, false_and, ↓reduceIte]
        · rw [if_neg a42, if_neg a45, if_neg a42, if_neg a45, if_neg a42, if_neg a45]
          refine ⟨u4, u3, u6, ?_, u8⟩
          rw [u7]
          unfold lar
          split
          · split
            · rfl
            · rfl
          · rfl
      · rw [if_neg d] at nm
        have u1 := m_tailB (g := sfi (sfi (sfi G 327 0 (nI 1)) 329 0 (nI 0)) 330 0 (nI 0)) (by simp only [e_gfi_sfi, Nat.reduceEqDiff, false_and, and_self, ↓reduceIte])
        refine ⟨_, by simp (disch := first | with_reducible assumption | omega | (simp only [MI_sai_iff, MI_sfi_iff]; with_reducible assumption)) only [li, ↓lr_, ↓bd_m, ↓oc_m, ↓reduceIte, bi_0, bi_0n, bi_1, bi_1n, not_true_eq_false, not_false_eq_true, Nat.reduceAdd, Nat.reduceMul, nI_mul, nI_add, inb_T, ix_nI, le_T, le_F, lt_T, lt_F, eq_F, and_self, and_true, true_and, false_and, and_false, or_true, true_or, or_false, false_or, bi_eq, x_within, m_in, RB, p6, e0, eq_false a42, eq_false a45, nm, e_gfi_sfi, Nat.reduceEqDiff, u1], FRi_tr (FRi_sfi (f := 327) (v := nI 1) (by omega)) (FRi_tr (FRi_sfi (f := 329) (v := nI 0) (by omega)) (FRi_sfi (f := 330) (v := nI 0) (by omega))), ?_, ?_, ?_⟩
        · simp only [e_gfi_sfi, Nat.reduceEqDiff, false_and, ↓reduceIte]
        · intro _
          rw [if_neg a45]
          refine ⟨?_, ?_⟩
          · simp only [e_gfi_sfi, Nat.reduceEqDiff, false_and, and_self, ↓reduceIte]
          · simp only [e_gfi_sfi, Nat.reduceEqDiff, false_and, and_self, ↓reduceIte, p6]
        · intro z
          exact absurd (Or.inr ⟨a42, a45, d⟩) z
theorem m_readItem {g : GS_} {c : Nat → Int32} {m p : Nat} (h : TX g c m) (hp : p < 700) (h6 : gfi g 326 0 = nI p) (h7 : gfi g 327 0 = nI 0) :
    ∃ g', f10_readItem 0 g = some ((), g') ∧ FRi g g' ∧ gfi g' 328 0 = bi (c p = nI 33) ∧ (brk c p → gfi g' 327 0 = nI 1 ∧ gfi g' 326 0 = nI (bp c p)) ∧
      (¬ brk c p → gfi g' 327 0 = nI 0 ∧ gfi g' 326 0 = nI (e2 c p) ∧ gfi g' 329 0 = nI (fiq c (pB c p)) ∧ gfi g' 330 0 = nI (laq c (pB c p)) ∧ gfi g' 331 0 = hv c (e1 c p)) := by
  have e0 := m_signAt h (p := p) (by omega)
  have key : ∀ b : Nat, b < 2 → ∃ g', RB (sfi (sfi (sfi g 328 0 (nI b)) 326 0 (nI (p + b))) 331 0 (nI 0)) = some ((), g') ∧ OKi c (p + b) (sfi (sfi (sfi g 328 0 (nI b)) 326 0 (nI (p + b))) 331 0 (nI 0)) g' := fun b hb => m_RB (m := m) (TX_sfi (TX_sfi (TX_sfi h))) (by omega) (by simp only [e_gfi_sfi, Nat.reduceEqDiff, false_and, and_self, ↓reduceIte]) (by simp only [e_gfi_sfi, Nat.reduceEqDiff, false_and, and_self, ↓reduceIte, h7]) (by simp only [e_gfi_sfi, and_self, ↓reduceIte])
  have fr : ∀ b : Nat, FRi g (sfi (sfi (sfi g 328 0 (nI b)) 326 0 (nI (p + b))) 331 0 (nI 0)) := fun b => FRi_tr (FRi_sfi (by omega)) (FRi_tr (FRi_sfi (by omega)) (FRi_sfi (by omega)))
  have v8 : ∀ b : Nat, gfi (sfi (sfi (sfi g 328 0 (nI b)) 326 0 (nI (p + b))) 331 0 (nI 0)) 328 0 = nI b := fun b => by simp only [e_gfi_sfi, Nat.reduceEqDiff, false_and, and_self, ↓reduceIte]
  have b39 : ∀ b : Nat, f10_readItem_b39 0 0 (nI p) (nI b) (sfi g 328 0 (nI b)) = RB (sfi (sfi (sfi g 328 0 (nI b)) 326 0 (nI (p + b))) 331 0 (nI 0)) := fun b => b39_eq rfl
  have pos : ∀ b : Nat, gfi (sfi g 328 0 (nI b)) 326 0 = nI p ∧ gfi (sfi g 328 0 (nI b)) 328 0 = nI b := fun b => ⟨by rw [e_gfi_sfi, if_neg (by omega)]; exact h6, by rw [e_gfi_sfi, if_pos ⟨rfl, rfl⟩]⟩
  by_cases a : c p = nI 33
  · obtain ⟨g', w1, w2, w3, w4, w5⟩ := key 1 (by omega)
    have hpb : pB c p = p + 1 := if_pos a
    rw [bi_t a]
    unfold brk bp e2 e1
    rw [hpb]
    refine ⟨g', ?_, FRi_tr (fr 1) w2, w3.trans (v8 1), w4, w5⟩
    rw [← b39] at w1
    simp (disch := first | with_reducible assumption | omega | (simp only [MI_sai_iff, MI_sfi_iff]; with_reducible assumption)) only [li, ↓lr_, ↓bd_m, ↓oc_m, ↓reduceIte, bi_0, bi_0n, bi_1, bi_1n, not_true_eq_false, not_false_eq_true, Nat.reduceAdd, Nat.reduceMul, nI_mul, nI_add, inb_T, ix_nI, le_T, le_F, lt_T, lt_F, eq_F, and_self, and_true, true_and, false_and, and_false, or_true, true_or, or_false, false_or, bi_eq, x_within, m_in, f10_readItem, h6, e0, eq_true a, f10_readItem_b19, (pos 1).1, (pos 1).2, w1]
  · obtain ⟨g', w1, w2, w3, w4, w5⟩ := key 0 (by omega)
    have hpb : pB c p = p := if_neg a
    rw [bi_f a]
    unfold brk bp e2 e1
    rw [hpb]
    refine ⟨g', ?_, FRi_tr (fr 0) w2, w3.trans (v8 0), w4, w5⟩
    rw [← b39] at w1
    simp (disch := first | with_reducible assumption | omega | (simp only [MI_sai_iff, MI_sfi_iff]; with_reducible assumption)) only [li, ↓lr_, ↓bd_m, ↓oc_m, ↓reduceIte, bi_0, bi_0n, bi_1, bi_1n, not_true_eq_false, not_false_eq_true, Nat.reduceAdd, Nat.reduceMul, nI_mul, nI_add, inb_T, ix_nI, le_T, le_F, lt_T, lt_F, eq_F, and_self, and_true, true_and, false_and, and_false, or_true, true_or, or_false, false_or, bi_eq, x_within, m_in, f10_readItem, h6, e0, eq_false a, f10_readItem_b19, (pos 0).1, (pos 0).2, w1]
theorem m_faultLoop {c : Nat → Int32} {m : Nat} (hc : ∀ i, m ≤ i → c i = nI 0) : ∀ (fuel p : Nat) (g : GS_), p ≤ m → m + 1 - p < fuel → TX g c m → gfi g 326 0 = nI p → gfi g 327 0 = nI 0 →
    ∃ g', f10_faultOf_b12 fuel 0 (nI 1) g = some (Aut c m 0 p, g') ∧ FRi g g' ∧ (Aut c m 0 p = -nI 6 → gfi g' 327 0 = nI 0)
  | 0, p, g, _, h, _, _, _ => by omega
  | fuel + 1, p, g, hp, hf, h, h6, h7 => by
    have hm := h.2.2.1
    obtain ⟨g1, a1, a2, a3, a4, a5⟩ := m_readItem h (p := p) (by omega) h6 h7
    have h1 := TX_FRi h a2
    obtain ⟨k1, k2⟩ := Aut_item hc hp
    have hF : ∃ n, fuel = n + 1 := ⟨fuel - 1, by omega⟩
    obtain ⟨n, rfl⟩ := hF
    rw [f10_faultOf_b12.eq_2]
    by_cases hb : brk c p
    · obtain ⟨b1, b2⟩ := a4 hb
      obtain ⟨c1, c2⟩ := k1 hb
      rw [c1]
      refine ⟨sfi g1 326 0 (nI (bp c p)), ?_, FRi_tr a2 (FRi_sfi (by omega)), fun q => by rw [neg_eq (by omega) (by omega) (by omega)] at q; exact q.elim⟩
      simp (disch := first | with_reducible assumption | omega | (simp only [MI_sai_iff, MI_sfi_iff]; with_reducible assumption)) only [li, ↓lr_, ↓bd_m, ↓oc_m, ↓reduceIte, bi_0, bi_0n, bi_1, bi_1n, not_true_eq_false, not_false_eq_true, Nat.reduceAdd, Nat.reduceMul, nI_mul, nI_add, inb_T, ix_nI, le_T, le_F, lt_T, lt_F, eq_F, and_self, and_true, true_and, false_and, and_false, or_true, true_or, or_false, false_or, bi_eq, x_within, m_in, a1, b1, f10_faultOf_b44, f10_faultOf_b45, f10_faultOf_b60, b2, Nat.add_zero, f10_faultOf_b12, e_gfi_sfi, Nat.reduceEqDiff, f10_faultOf_b88]
    · obtain ⟨b1, b2, -⟩ := a5 hb
      obtain ⟨c1, c2⟩ := k2 hb
      have e3 := m_signAt h1 (p := e2 c p) (by omega)
      rw [c2]
      unfold TT3
      by_cases d : c (e2 c p) = nI 44
      · rw [if_pos d]
        have hlt : e2 c p < m := nz_lt hc (by rw [d]; decide)
        have hle : p ≤ e2 c p := by
          have w1 : p ≤ pB c p := by unfold pB; split <;> omega
          have w2 : pB c p ≤ e1 c p := by
            unfold e1 e1q
            split
            · omega
            · split
              · omega
              · split
                · split <;> omega
                · omega
          have w3 : e1 c p ≤ e2 c p := by unfold e2 hEnd; split <;> omega
          omega
        have h2 : TX (sfi g1 326 0 (nI (e2 c p + 1))) c m := TX_sfi h1
        obtain ⟨g', z1, z2, z3⟩ := m_faultLoop hc (n + 1) (e2 c p + 1) _ (by omega) (by omega) h2 (by rw [e_gfi_sfi, if_pos ⟨rfl, rfl⟩]) (by rw [e_gfi_sfi, if_neg (by omega)]; exact b1)
        refine ⟨g', ?_, FRi_tr a2 (FRi_tr (FRi_sfi (by omega)) z2), z3⟩
        simp (disch := first | with_reducible assumption | omega | (simp only [MI_sai_iff, MI_sfi_iff]; with_reducible assumption)) only [li, ↓lr_, ↓bd_m, ↓oc_m, ↓reduceIte, bi_0, bi_0n, bi_1, bi_1n, not_true_eq_false, not_false_eq_true, Nat.reduceAdd, Nat.reduceMul, nI_mul, nI_add, inb_T, ix_nI, le_T, le_F, lt_T, lt_F, eq_F, and_self, and_true, true_and, false_and, and_false, or_true, true_or, or_false, false_or, bi_eq, x_within, m_in, a1, b1, b2, e3, eq_true d, f10_faultOf_b45, f10_faultOf_b60, z1]
      · rw [if_neg d]
        obtain ⟨hM, t7, -⟩ := h1
        refine ⟨sfi g1 326 0 (nI (e2 c p)), ?_, FRi_tr a2 (FRi_sfi (by omega)), fun _ => by rw [e_gfi_sfi, if_neg (by omega)]; exact b1⟩
        by_cases q : e2 c p < m
        · rw [if_pos q]
          simp (disch := first | with_reducible assumption | omega | (simp only [MI_sai_iff, MI_sfi_iff]; with_reducible assumption)) only [li, ↓lr_, ↓bd_m, ↓oc_m, ↓reduceIte, bi_0, bi_0n, bi_1, bi_1n, not_true_eq_false, not_false_eq_true, Nat.reduceAdd, Nat.reduceMul, nI_mul, nI_add, inb_T, ix_nI, le_T, le_F, lt_T, lt_F, eq_F, and_self, and_true, true_and, false_and, and_false, or_true, true_or, or_false, false_or, bi_eq, x_within, m_in, a1, b1, b2, e3, eq_false d, f10_faultOf_b44, f10_faultOf_b45, f10_faultOf_b60, Nat.add_zero, f10_faultOf_b12, e_gfi_sfi, e_gfr_sfi, e_gln_sfi, e_gai_sfi, MI_a hM, MI_n hM, t7, Nat.reduceEqDiff, f10_faultOf_b88]
        · rw [if_neg q]
          simp (disch := first | with_reducible assumption | omega | (simp only [MI_sai_iff, MI_sfi_iff]; with_reducible assumption)) only [li, ↓lr_, ↓bd_m, ↓oc_m, ↓reduceIte, bi_0, bi_0n, bi_1, bi_1n, not_true_eq_false, not_false_eq_true, Nat.reduceAdd, Nat.reduceMul, nI_mul, nI_add, inb_T, ix_nI, le_T, le_F, lt_T, lt_F, eq_F, and_self, and_true, true_and, false_and, and_false, or_true, true_or, or_false, false_or, bi_eq, x_within, m_in, a1, b1, b2, e3, eq_false d, f10_faultOf_b44, f10_faultOf_b45, f10_faultOf_b60, Nat.add_zero, f10_faultOf_b12, e_gfi_sfi, e_gfr_sfi, e_gln_sfi, e_gai_sfi, MI_a hM, MI_n hM, t7, Nat.reduceEqDiff, f10_faultOf_b88]
theorem m_faultOf {g : GS_} {c : Nat → Int32} {m : Nat} (hc : ∀ i, m ≤ i → c i = nI 0) (h : TX g c m) : ∃ g', f10_faultOf 0 g = some (Aut c m 0 0, g') ∧ FRi g g' ∧ (Aut c m 0 0 = -nI 6 → gfi g' 327 0 = nI 0) := by
  have h2 : TX (sfi (sfi g 326 0 (nI 0)) 327 0 (nI 0)) c m := TX_sfi (TX_sfi h)
  have hm := h.2.2.1
  obtain ⟨g', z1, z2, z3⟩ := m_faultLoop hc FU_ 0 _ (by omega) (by unfold FU_; omega) h2 (by rw [e_gfi_sfi, if_neg (by omega), e_gfi_sfi, if_pos ⟨rfl, rfl⟩]) (by rw [e_gfi_sfi, if_pos ⟨rfl, rfl⟩])
  refine ⟨g', ?_, FRi_tr (FRi_tr (FRi_sfi (by omega)) (FRi_sfi (by omega))) z2, z3⟩
  simp (disch := first | with_reducible assumption | omega | (simp only [MI_sai_iff, MI_sfi_iff]; with_reducible assumption)) only [li, ↓lr_, ↓bd_m, ↓oc_m, ↓reduceIte, bi_0, bi_0n, bi_1, bi_1n, not_true_eq_false, not_false_eq_true, Nat.reduceAdd, Nat.reduceMul, nI_mul, nI_add, inb_T, ix_nI, le_T, le_F, lt_T, lt_F, eq_F, and_self, and_true, true_and, false_and, and_false, or_true, true_or, or_false, false_or, bi_eq, x_within, m_in, f10_faultOf, z1]
/-- the text of both -/
def cx (a : Nat → Int32) (p : Nat) : Int32 := if p < tn (a 7) then a (418 + p) else nI 0
theorem cx_0 {a : Nat → Int32} (i : Nat) (h : tn (a 7) ≤ i) : cx a i = nI 0 := if_neg (by omega)
theorem TX_of {g : GS_} (hM : MI g) (hE : IvE (gai g 20 0)) : TX g (cx (gai g 20 0)) (tn (gai g 20 0 7)) := by
  obtain ⟨h1, h2⟩ := vl_nI hE.1
  exact ⟨hM, h1, by omega, fun p => rfl⟩
theorem x_faultOf {g : GS_} {S : Nat} {a l : Nat → Int32} {F : List Nat} (h : SpO g S a l F) (hE : IvE a) : f6_firstFault S g = some (Aut (cx a) (tn (a 7)) 0 0, g) := by
  obtain ⟨s1, s2, s3, s4, s5, s6, s7, s8, s9, -⟩ := h.2.1
  obtain ⟨q1, q2, q3⟩ := XT0_parts h.2.2.2.1
  obtain ⟨h1, h2⟩ := vl_nI hE.1
  unfold f6_firstFault
  refine x_fault (q1.2.2.trans h1) s8 s9 (by omega) (fun p => ?_) FU_ 0 0 (by omega) (by unfold FU_; omega) (by omega)
  unfold cx
  by_cases c : p < tn (a 7)
  · rw [if_pos c, if_pos c, q2 p (by omega)]
  · rw [if_neg c, if_neg c]
theorem KS_SC {g g' : GS_} (h : SC g g') : KS g g' := ⟨h.1, h.2.2.2.1, h.2.2.2.2.2.1, h.2.2.2.2.2.2, by rw [h.2.1], by rw [h.2.1], by rw [h.2.1]⟩
theorem op_fault : Op (f9_fault 0) (f10_fault 0) := by
  intro gX gM n hn h
  obtain ⟨F, r0, r1, hX, hS, hP, hE, hM, ⟨d1, d2, d3⟩, ⟨j1, j2, j3⟩, ⟨p1, p2, p3⟩⟩ := ctx h
  obtain ⟨s1, s2, s3, s4, s5, s6, s7, -⟩ := id hX
  have e1 := x_faultOf hS hE
  obtain ⟨gM', a1, a2, -⟩ := m_faultOf cx_0 (TX_of hM hE)
  refine ⟨Aut (cx (gai gM 20 0)) (tn (gai gM 20 0 7)) 0 0, gX, gM', ?_, ?_, Rel_id h (KS_SC a2.1) (by rw [a2.1.2.1]) (by rw [a2.1.2.1]) (a2.2 341 (by omega)), by omega, by omega, a2.1.2.2.2.2.2.1, a2.1.2.2.2.2.2.2⟩
  · simp (disch := first | with_reducible assumption | omega | (simp only [MI_sai_iff, MI_sfi_iff]; with_reducible assumption)) only [li, ↓lr_, ↓bd_m, ↓oc_m, ↓reduceIte, bi_0, bi_0n, bi_1, bi_1n, not_true_eq_false, not_false_eq_true, Nat.reduceAdd, Nat.reduceMul, nI_mul, nI_add, inb_T, ix_nI, le_T, le_F, lt_T, lt_F, eq_F, and_self, and_true, true_and, false_and, and_false, or_true, true_or, or_false, false_or, bi_eq, x_within, m_in, f9_fault, r0, s7, e1]
  · simp (disch := first | with_reducible assumption | omega | (simp only [MI_sai_iff, MI_sfi_iff]; with_reducible assumption)) only [li, ↓lr_, ↓bd_m, ↓oc_m, ↓reduceIte, bi_0, bi_0n, bi_1, bi_1n, not_true_eq_false, not_false_eq_true, Nat.reduceAdd, Nat.reduceMul, nI_mul, nI_add, inb_T, ix_nI, le_T, le_F, lt_T, lt_F, eq_F, and_self, and_true, true_and, false_and, and_false, or_true, true_or, or_false, false_or, bi_eq, x_within, m_in, f10_fault, a1]
