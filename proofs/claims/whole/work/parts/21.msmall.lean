/-! the reference's small methods, as equations -/
def bi (c : Prop) [Decidable c] : Int32 := if c then 1 else 0
theorem bi_0 (c : Prop) [Decidable c] : (bi c = 0) = ¬ c := by unfold bi; by_cases h : c <;> simp [h]
theorem bi_0n (c : Prop) [Decidable c] : (bi c = nI 0) = ¬ c := bi_0 c
theorem bi_01 (c : Prop) [Decidable c] : (bi c = 0 ∨ bi c = 1) = True := by unfold bi; by_cases h : c <;> simp [h]
theorem bi_01n (c : Prop) [Decidable c] : (bi c = nI 0 ∨ bi c = nI 1) = True := bi_01 c
theorem bi_1 (c : Prop) [Decidable c] : (bi c = 1) = c := by unfold bi; by_cases h : c <;> simp [h]
theorem bi_1n (c : Prop) [Decidable c] : (bi c = nI 1) = c := bi_1 c
theorem bi_iff {c d : Prop} [Decidable c] [Decidable d] (h : c ↔ d) : bi c = bi d := by unfold bi; by_cases hd : d <;> simp [h, hd]
theorem bi_t {c : Prop} [Decidable c] (h : c) : bi c = 1 := if_pos h
theorem bi_f {c : Prop} [Decidable c] (h : ¬ c) : bi c = 0 := if_neg h
theorem bi_ite (c : Prop) [Decidable c] : (if c then (1 : Int32) else 0) = bi c := rfl
theorem bi_some (c : Prop) [Decidable c] (g : GS_) : (if c then some ((1 : Int32), g) else some ((0 : Int32), g)) = some (bi c, g) := by unfold bi; by_cases h : c <;> simp [h]
theorem bi_somen (c : Prop) [Decidable c] (g : GS_) : (if c then some ((0 : Int32), g) else some ((1 : Int32), g)) = some (bi (¬ c), g) := by unfold bi; by_cases h : c <;> simp [h]
theorem npp (p : Prop) : (¬ p ∨ p) = True := eq_true (Classical.em p).symm
theorem vl_ex {x : Int32} {n : Nat} (h : vl x n) : ∃ m : Nat, x = nI m ∧ m < n := ⟨tn x, vl_nI h⟩
/-- the model's fixed things: its one object (place 0) and its arrays -/
def MI (g : GS_) : Prop := gfr g 320 0 = some 0 ∧ gfr g 321 0 = some 1 ∧ gfr g 322 0 = some 2 ∧ gfr g 323 0 = some 3 ∧ gfr g 324 0 = some 4 ∧ gfr g 325 0 = some 0 ∧ gfr g 332 0 = some 5 ∧ gfr g 334 0 = some 6 ∧ gfr g 335 0 = some 7 ∧ gfr g 336 0 = some 8 ∧ gfr g 340 0 = some 9 ∧
  gln g 20 0 = 858 ∧ gln g 20 1 = 858 ∧ gln g 20 2 = 9600 ∧ gln g 20 3 = 1716 ∧ gln g 20 4 = 19200 ∧ gln g 20 5 = 801 ∧ gln g 20 6 = 401 ∧ gln g 20 7 = 401 ∧ gln g 20 8 = 401 ∧ gln g 20 9 = 24 ∧ gln g 21 0 = 2
theorem MI_a {g : GS_} (h : MI g) : gfr g 320 0 = some 0 := h.1
theorem MI_l {g : GS_} (h : MI g) : gfr g 322 0 = some 2 := h.2.2.1
theorem MI_n {g : GS_} (h : MI g) : gln g 20 0 = 858 := by obtain ⟨-, -, -, -, -, -, -, -, -, -, -, h, -⟩ := h; exact h
theorem MI_ln {g : GS_} (h : MI g) : gln g 20 2 = 9600 := by obtain ⟨-, -, -, -, -, -, -, -, -, -, -, -, -, h, -⟩ := h; exact h
def up (a : Nat → Int32) (k : Nat) (v : Int32) : Nat → Int32 := fun i => if i = k then v else a i
theorem up_eq {a : Nat → Int32} {k i : Nat} {v : Int32} (h : i = k) : up a k v i = v := if_pos h
theorem up_ne {a : Nat → Int32} {k i : Nat} {v : Int32} (h : i ≠ k) : up a k v i = a i := if_neg h
theorem up_sai (g : GS_) (k : Nat) (v : Int32) : gai (sai g 20 0 k v) 20 0 = up (gai g 20 0) k v := by
  funext i
  simp [e_gai_sai, up]
theorem up_sai_ne (g : GS_) (t p k q : Nat) (v : Int32) (h : q ≠ p) : gai (sai g t p k v) t q = gai g t q := by
  funext i
  simp [e_gai_sai, h]
theorem m_in (v lo hi : Int32) (g : GS_) : f10_in v lo hi g = some (bi (lo ≤ v ∧ v ≤ hi), g) := by
  unfold f10_in f10_in_b14
  by_cases h1 : v < lo
  · rw [if_pos h1, bi_f]
    rw [leI, leI]; rw [ltI] at h1; omega
  · rw [if_neg h1]
    by_cases h2 : hi < v
    · rw [if_pos h2, bi_f]
      rw [leI, leI]; rw [ltI] at h2; omega
    · rw [if_neg h2, bi_t]
      rw [leI, leI]; rw [ltI] at h1 h2; omega
theorem in_vl {n : Nat} (hn : n < 100000) (v : Int32) : (nI 0 ≤ v ∧ v ≤ nI n - nI 1) ↔ vl v n := by
  have h1 : (nI n - nI 1).toInt = (n : Int) - 1 := by
    rw [Int32.toInt_sub, toIntI (by omega), toIntI (by omega)]
    rw [Int.bmod_eq_of_le (by omega) (by omega)]
    omega
  unfold vl
  rw [leI, leI, h1, toIntI (by omega)]
  omega
theorem in_lit {k : Nat} (hk : k < 100000) (v : Int32) : (nI 0 ≤ v ∧ v ≤ nI k) ↔ vl v (k + 1) := by
  unfold vl
  rw [leI, leI, toIntI (by omega), toIntI (by omega)]
  omega
theorem m_ofJob {g : GS_} (h : MI g) {j w : Nat} (hj : j < 24) (hw : w < 13) : f10_ofJob 0 (nI j) (nI w) g = some (gai g 20 0 (106 + 13 * j + w), g) := by
  simp (disch := first | assumption | omega) only [li, bd_some, bd_none, oc_some, oc_none, lr_, ↓reduceIte, bi_0, bi_0n, bi_1, bi_1n, npp, if_pos, if_neg, not_true_eq_false, not_false_eq_true, Nat.reduceAdd, Nat.reduceMul, f10_ofJob, MI_a h, MI_n h, nI_mul, nI_add, inb_nI, ix_nI]
theorem m_setJob {g : GS_} (h : MI g) {j w : Nat} (hj : j < 24) (hw : w < 13) (v : Int32) : f10_setJob 0 (nI j) (nI w) v g = some ((), sai g 20 0 (106 + 13 * j + w) v) := by
  simp (disch := first | assumption | omega) only [li, bd_some, bd_none, oc_some, oc_none, lr_, ↓reduceIte, bi_0, bi_0n, bi_1, bi_1n, npp, if_pos, if_neg, not_true_eq_false, not_false_eq_true, Nat.reduceAdd, Nat.reduceMul, f10_setJob, MI_a h, MI_n h, nI_mul, nI_add, inb_nI, ix_nI]
theorem m_ofPrinter {g : GS_} (h : MI g) {j w : Nat} (hj : j < 3) (hw : w < 10) : f10_ofPrinter 0 (nI j) (nI w) g = some (gai g 20 0 (76 + 10 * j + w), g) := by
  simp (disch := first | assumption | omega) only [li, bd_some, bd_none, oc_some, oc_none, lr_, ↓reduceIte, bi_0, bi_0n, bi_1, bi_1n, npp, if_pos, if_neg, not_true_eq_false, not_false_eq_true, Nat.reduceAdd, Nat.reduceMul, f10_ofPrinter, MI_a h, MI_n h, nI_mul, nI_add, inb_nI, ix_nI]
theorem m_setPrinter {g : GS_} (h : MI g) {j w : Nat} (hj : j < 3) (hw : w < 10) (v : Int32) : f10_setPrinter 0 (nI j) (nI w) v g = some ((), sai g 20 0 (76 + 10 * j + w) v) := by
  simp (disch := first | assumption | omega) only [li, bd_some, bd_none, oc_some, oc_none, lr_, ↓reduceIte, bi_0, bi_0n, bi_1, bi_1n, npp, if_pos, if_neg, not_true_eq_false, not_false_eq_true, Nat.reduceAdd, Nat.reduceMul, f10_setPrinter, MI_a h, MI_n h, nI_mul, nI_add, inb_nI, ix_nI]
theorem m_ofDocument {g : GS_} (h : MI g) {j w : Nat} (hj : j < 10) (hw : w < 5) : f10_ofDocument 0 (nI j) (nI w) g = some (gai g 20 0 (26 + 5 * j + w), g) := by
  simp (disch := first | assumption | omega) only [li, bd_some, bd_none, oc_some, oc_none, lr_, ↓reduceIte, bi_0, bi_0n, bi_1, bi_1n, npp, if_pos, if_neg, not_true_eq_false, not_false_eq_true, Nat.reduceAdd, Nat.reduceMul, f10_ofDocument, MI_a h, MI_n h, nI_mul, nI_add, inb_nI, ix_nI]
theorem m_isDocument {g : GS_} (h : MI g) {n : Nat} (hn : gai g 20 0 3 = nI n) (hl : n < 11) (v : Int32) : f10_isDocument 0 v g = some (bi (vl v n), g) := by
  simp (disch := first | assumption | omega) only [li, bd_some, bd_none, oc_some, oc_none, lr_, ↓reduceIte, bi_0, bi_0n, bi_1, bi_1n, npp, if_pos, if_neg, not_true_eq_false, not_false_eq_true, Nat.reduceAdd, Nat.reduceMul, f10_isDocument, MI_a h, MI_n h, nI_mul, nI_add, inb_nI, ix_nI, hn, m_in]
  rw [bi_iff (in_vl (by omega) v)]
theorem m_isJob {g : GS_} (h : MI g) {n : Nat} (hn : gai g 20 0 4 = nI n) (hl : n < 25) (v : Int32) : f10_isJob 0 v g = some (bi (vl v n), g) := by
  simp (disch := first | assumption | omega) only [li, bd_some, bd_none, oc_some, oc_none, lr_, ↓reduceIte, bi_0, bi_0n, bi_1, bi_1n, npp, if_pos, if_neg, not_true_eq_false, not_false_eq_true, Nat.reduceAdd, Nat.reduceMul, f10_isJob, MI_a h, MI_n h, nI_mul, nI_add, inb_nI, ix_nI, hn, m_in]
  rw [bi_iff (in_vl (by omega) v)]
theorem m_isPrinter {g : GS_} (h : MI g) {n : Nat} (hn : gai g 20 0 5 = nI n) (hl : n < 4) (v : Int32) : f10_isPrinter 0 v g = some (bi (vl v n), g) := by
  simp (disch := first | assumption | omega) only [li, bd_some, bd_none, oc_some, oc_none, lr_, ↓reduceIte, bi_0, bi_0n, bi_1, bi_1n, npp, if_pos, if_neg, not_true_eq_false, not_false_eq_true, Nat.reduceAdd, Nat.reduceMul, f10_isPrinter, MI_a h, MI_n h, nI_mul, nI_add, inb_nI, ix_nI, hn, m_in]
  rw [bi_iff (in_vl (by omega) v)]
theorem m_isUser {g : GS_} (v : Int32) : f10_isUser v g = some (bi (vl v 6), g) := by
  simp (disch := first | assumption | omega) only [li, bd_some, bd_none, oc_some, oc_none, lr_, ↓reduceIte, bi_0, bi_0n, bi_1, bi_1n, npp, if_pos, if_neg, not_true_eq_false, not_false_eq_true, Nat.reduceAdd, Nat.reduceMul, f10_isUser, m_in]
  rw [bi_iff (in_lit (k := 5) (by omega) v)]
-- the numbers of a plan
def psz (lay : Nat) : Nat := if lay = 0 then 2 else lay
def sdz (lay sid : Nat) : Nat := if lay = 0 then 2 else if sid = 0 then 1 else 2
def scz (lay sid m : Nat) : Nat := if lay = 0 then (m + 3) / 4 else ((m + lay - 1) / lay + sdz lay sid - 1) / sdz lay sid
def elz (lay sid m t side pos : Nat) : Nat :=
  if lay = 0 then (if side = 0 then (if pos = 0 then 4 * scz lay sid m - 1 - 2 * t else 2 * t) else (if pos = 0 then 2 * t + 1 else 4 * scz lay sid m - 2 - 2 * t))
  else psz lay * (sdz lay sid * t + side) + pos
def tz (col cop sc x : Nat) : Nat := if col = 1 then x % sc else x / cop
def jN (a : Nat → Int32) (j w : Nat) : Nat := tn (a (106 + 13 * j + w))
def dN (a : Nat → Int32) (d w : Nat) : Nat := tn (a (26 + 5 * d + w))
def pN (a : Nat → Int32) (p w : Nat) : Nat := tn (a (76 + 10 * p + w))
def DocOk (a : Nat → Int32) (d : Nat) : Prop := vl (a (26 + 5 * d + 0)) 401 ∧ 1 ≤ dN a d 0 ∧ vl (a (26 + 5 * d + 1)) 3 ∧ vl (a (26 + 5 * d + 2)) 501 ∧ vl (a (26 + 5 * d + 3)) 51 ∧ vl (a (26 + 5 * d + 4)) 501 ∧ 1 ≤ dN a d 4
def sSC (a : Nat → Int32) (j : Nat) : Nat := scz (jN a j 3) (jN a j 2) (jN a j 7)
def sSH (a : Nat → Int32) (j : Nat) : Nat := jN a j 0 * sSC a j
/-- what stays of a job -/
def JobPl (a l : Nat → Int32) (j : Nat) : Prop :=
  vl (a (106 + 13 * j + 0)) 11 ∧ 1 ≤ jN a j 0 ∧ vl (a (106 + 13 * j + 1)) 2 ∧ vl (a (106 + 13 * j + 2)) 3 ∧ vl (a (106 + 13 * j + 3)) 5 ∧ jN a j 3 ≠ 3 ∧ vl (a (106 + 13 * j + 5)) 6 ∧ vl (a (106 + 13 * j + 6)) (tn (a 3)) ∧ vl (a (106 + 13 * j + 7)) 401 ∧ 1 ≤ jN a j 7 ∧
  a (106 + 13 * j + 8) = nI (sSH a j) ∧ ∀ i, i < jN a j 7 → vl (l (400 * j + i)) 401 ∧ 1 ≤ tn (l (400 * j + i))
theorem scz_le {lay sid m : Nat} (h : m ≤ 400) : scz lay sid m ≤ 400 := by
  unfold scz sdz
  by_cases h0 : lay = 0
  · rw [if_pos h0]; omega
  · rw [if_neg h0, if_neg h0]
    have h1 : (m + lay - 1) / lay ≤ m := by
      rcases Nat.eq_zero_or_pos m with rfl | hm
      · rw [Nat.div_eq_of_lt (by omega)]; omega
      · rw [Nat.div_le_iff_le_mul (by omega)]
        have : 1 * m ≤ lay * m := Nat.mul_le_mul_right m (by omega)
        have : lay * 1 ≤ lay * m := Nat.mul_le_mul_left lay hm
        have h3 : m + lay ≤ m * lay + 1 := by
          have h4 : (m - 1) * (lay - 1) + (m + lay - 1) = m * lay := by
            obtain ⟨m', rfl⟩ : ∃ m', m = m' + 1 := ⟨m - 1, by omega⟩
            obtain ⟨k', rfl⟩ : ∃ k', lay = k' + 1 := ⟨lay - 1, by omega⟩
            simp only [Nat.add_sub_cancel]
            rw [Nat.add_mul, Nat.mul_add]
            omega
          omega
        omega
    by_cases hs : sid = 0
    · rw [if_pos hs]; omega
    · rw [if_neg hs]; omega
theorem scz_pos {lay sid m : Nat} (h : 1 ≤ m) : 1 ≤ scz lay sid m := by
  unfold scz sdz
  by_cases h0 : lay = 0
  · rw [if_pos h0]; omega
  · rw [if_neg h0, if_neg h0]
    have h1 : 1 ≤ (m + lay - 1) / lay := (Nat.one_le_div_iff (by omega)).mpr (by omega)
    by_cases hs : sid = 0
    · rw [if_pos hs]; omega
    · rw [if_neg hs]; omega

-- the plan of a job
theorem m_isBooklet {g : GS_} (h : MI g) {j : Nat} (hj : j < 24) : f10_isBooklet 0 (nI j) g = some (bi (gai g 20 0 (106 + 13 * j + 3) = nI 0), g) := by
  simp (disch := first | assumption | omega) only [li, bd_some, bd_none, oc_some, oc_none, lr_, ↓reduceIte, bi_0, bi_0n, bi_1, bi_1n, npp, if_pos, if_neg, not_true_eq_false, not_false_eq_true, Nat.reduceAdd, Nat.reduceMul, f10_isBooklet, m_ofJob]
  exact bi_some _ g
theorem m_perSide {g : GS_} (h : MI g) {j : Nat} (hj : j < 24) {l : Nat → Int32} (hJ : JobPl (gai g 20 0) l j) : f10_perSide 0 (nI j) g = some (nI (psz (jN (gai g 20 0) j 3)), g) := by
  obtain ⟨x, hx, hl⟩ := vl_ex hJ.2.2.2.2.1
  simp (disch := first | assumption | omega) only [li, bd_some, bd_none, oc_some, oc_none, lr_, ↓reduceIte, bi_0, bi_0n, bi_1, bi_1n, npp, if_pos, if_neg, not_true_eq_false, not_false_eq_true, Nat.reduceAdd, Nat.reduceMul, f10_perSide, m_isBooklet, m_ofJob, jN, hx, tn_nI, psz, eq_nI]
  by_cases h0 : x = 0
  · simp (disch := first | assumption | omega) only [li, bd_some, bd_none, oc_some, oc_none, lr_, ↓reduceIte, bi_0, bi_0n, bi_1, bi_1n, npp, if_pos, if_neg, not_true_eq_false, not_false_eq_true, Nat.reduceAdd, Nat.reduceMul, h0]
  · simp (disch := first | assumption | omega) only [li, bd_some, bd_none, oc_some, oc_none, lr_, ↓reduceIte, bi_0, bi_0n, bi_1, bi_1n, npp, if_pos, if_neg, not_true_eq_false, not_false_eq_true, Nat.reduceAdd, Nat.reduceMul, h0]
theorem m_sidesOf {g : GS_} (h : MI g) {j : Nat} (hj : j < 24) {l : Nat → Int32} (hJ : JobPl (gai g 20 0) l j) : f10_sidesOf 0 (nI j) g = some (nI (sdz (jN (gai g 20 0) j 3) (jN (gai g 20 0) j 2)), g) := by
  obtain ⟨x, hx, hl⟩ := vl_ex hJ.2.2.2.2.1
  obtain ⟨y, hy, hyl⟩ := vl_ex hJ.2.2.2.1
  simp (disch := first | assumption | omega) only [li, bd_some, bd_none, oc_some, oc_none, lr_, ↓reduceIte, bi_0, bi_0n, bi_1, bi_1n, npp, if_pos, if_neg, not_true_eq_false, not_false_eq_true, Nat.reduceAdd, Nat.reduceMul, f10_sidesOf, f10_sidesOf_b17, m_isBooklet, m_ofJob, jN, hx, hy, tn_nI, sdz, eq_nI]
  by_cases h0 : x = 0
  · simp (disch := first | assumption | omega) only [li, bd_some, bd_none, oc_some, oc_none, lr_, ↓reduceIte, bi_0, bi_0n, bi_1, bi_1n, npp, if_pos, if_neg, not_true_eq_false, not_false_eq_true, Nat.reduceAdd, Nat.reduceMul, h0]
  · by_cases h1 : y = 0
    · simp (disch := first | assumption | omega) only [li, bd_some, bd_none, oc_some, oc_none, lr_, ↓reduceIte, bi_0, bi_0n, bi_1, bi_1n, npp, if_pos, if_neg, not_true_eq_false, not_false_eq_true, Nat.reduceAdd, Nat.reduceMul, h0, h1]
    · simp (disch := first | assumption | omega) only [li, bd_some, bd_none, oc_some, oc_none, lr_, ↓reduceIte, bi_0, bi_0n, bi_1, bi_1n, npp, if_pos, if_neg, not_true_eq_false, not_false_eq_true, Nat.reduceAdd, Nat.reduceMul, h0, h1]
theorem psz_pos (lay : Nat) : 1 ≤ psz lay := by unfold psz; split <;> omega
theorem sdz_pos (lay sid : Nat) : 1 ≤ sdz lay sid ∧ sdz lay sid ≤ 2 := by unfold sdz; split <;> (try split) <;> omega
theorem m_sheetsOfCopy {g : GS_} (h : MI g) {j : Nat} (hj : j < 24) {l : Nat → Int32} (hJ : JobPl (gai g 20 0) l j) : f10_sheetsOfCopy 0 (nI j) g = some (nI (sSC (gai g 20 0) j), g) := by
  obtain ⟨x, hx, hl⟩ := vl_ex hJ.2.2.2.2.1
  obtain ⟨y, hy, hyl⟩ := vl_ex hJ.2.2.2.1
  obtain ⟨m, hm, hml⟩ := vl_ex hJ.2.2.2.2.2.2.2.2.1
  have p1 := psz_pos x
  have p2 := sdz_pos x y
  have p3 : psz x ≤ 5 := by unfold psz; split <;> omega
  simp (disch := first | assumption | omega) only [li, bd_some, bd_none, oc_some, oc_none, lr_, ↓reduceIte, bi_0, bi_0n, bi_1, bi_1n, npp, if_pos, if_neg, not_true_eq_false, not_false_eq_true, Nat.reduceAdd, Nat.reduceMul, f10_sheetsOfCopy, m_isBooklet, m_perSide, m_sidesOf, m_ofJob, sSC, jN, hx, hy, hm, tn_nI, scz, eq_nI]
  by_cases h0 : x = 0
  · simp (disch := first | assumption | omega) only [li, bd_some, bd_none, oc_some, oc_none, lr_, ↓reduceIte, bi_0, bi_0n, bi_1, bi_1n, npp, if_pos, if_neg, not_true_eq_false, not_false_eq_true, Nat.reduceAdd, Nat.reduceMul, h0, nI_mul, nI_add, inb_nI, ix_nI, div_nI]
  · have e1 : psz x = x := if_neg h0
    have h5 : (m + x - 1) / x ≤ 405 := Nat.le_trans (Nat.div_le_self _ _) (by omega)
    simp (disch := first | assumption | omega) only [li, bd_some, bd_none, oc_some, oc_none, lr_, ↓reduceIte, bi_0, bi_0n, bi_1, bi_1n, npp, if_pos, if_neg, not_true_eq_false, not_false_eq_true, Nat.reduceAdd, Nat.reduceMul, h0, nI_mul, nI_add, inb_nI, ix_nI, div_nI, e1, nI_sub, eq_nI]
    generalize (m + x - 1) / x = q at h5 ⊢
    simp (disch := first | assumption | omega) only [li, bd_some, bd_none, oc_some, oc_none, lr_, ↓reduceIte, bi_0, bi_0n, bi_1, bi_1n, npp, if_pos, if_neg, not_true_eq_false, not_false_eq_true, Nat.reduceAdd, Nat.reduceMul, nI_sub, div_nI]

theorem vl_up {x : Int32} {n m : Nat} (h : vl x n) (hm : n ≤ m) : vl x m := ⟨h.1, by have := h.2; omega⟩
theorem tn_of {x : Int32} {n : Nat} (h : x = nI n) (hn : n < 2147483648) : tn x = n := by rw [h, tn_nI hn]
theorem elz_le {lay sid m t side pos : Nat} (hm : m ≤ 400) (hl : lay < 5) (ht : t < scz lay sid m) (hs : side < 2) (hp : pos < psz lay) : elz lay sid m t side pos < 4000 := by
  have h1 := scz_le (lay := lay) (sid := sid) hm
  have h2 := sdz_pos lay sid
  unfold elz
  by_cases h0 : lay = 0
  · rw [if_pos h0]
    split <;> split <;> omega
  · rw [if_neg h0]
    have e1 : psz lay = lay := if_neg h0
    rw [e1] at hp ⊢
    have h3 : sdz lay sid * t + side ≤ 2 * 400 + 2 := by
      have := Nat.mul_le_mul h2.2 (show t ≤ 400 by omega)
      omega
    have := Nat.mul_le_mul (show lay ≤ 4 by omega) h3
    omega
theorem m_elementAt {g : GS_} (h : MI g) {j t side pos : Nat} (hj : j < 24) {l : Nat → Int32} (hJ : JobPl (gai g 20 0) l j) (ht : t < sSC (gai g 20 0) j) (hs : side < 2) (hp : pos < psz (jN (gai g 20 0) j 3)) :
    f10_elementAt 0 (nI j) (nI t) (nI side) (nI pos) g = some (nI (elz (jN (gai g 20 0) j 3) (jN (gai g 20 0) j 2) (jN (gai g 20 0) j 7) t side pos), g) := by
  obtain ⟨x, hx, hl⟩ := vl_ex hJ.2.2.2.2.1
  obtain ⟨m, hm, hml⟩ := vl_ex hJ.2.2.2.2.2.2.2.2.1
  have ex : jN (gai g 20 0) j 3 = x := tn_of hx (by omega)
  have em : jN (gai g 20 0) j 7 = m := tn_of hm (by omega)
  have h1 := scz_le (lay := x) (sid := jN (gai g 20 0) j 2) (show m ≤ 400 by omega)
  have h2 := sdz_pos x (jN (gai g 20 0) j 2)
  have eS : sSC (gai g 20 0) j = scz x (jN (gai g 20 0) j 2) m := by unfold sSC; rw [ex, em]
  rw [eS] at ht
  rw [ex] at hp
  have e3 := elz_le (sid := jN (gai g 20 0) j 2) (show m ≤ 400 by omega) hl ht hs hp
  unfold f10_elementAt
  simp (disch := first | assumption | omega) only [li, bd_some, bd_none, oc_some, oc_none, lr_, ↓reduceIte, bi_0, bi_0n, bi_1, bi_1n, npp, if_pos, if_neg, not_true_eq_false, not_false_eq_true, Nat.reduceAdd, Nat.reduceMul, m_isBooklet, m_sheetsOfCopy, m_sidesOf, m_perSide, hx, eq_nI, ex, em, eS]
  unfold elz at e3 ⊢
  by_cases h0 : x = 0
  · simp (disch := first | assumption | omega) only [li, bd_some, bd_none, oc_some, oc_none, lr_, ↓reduceIte, bi_0, bi_0n, bi_1, bi_1n, npp, if_pos, if_neg, not_true_eq_false, not_false_eq_true, Nat.reduceAdd, Nat.reduceMul, h0, nI_mul, nI_add, inb_nI, ix_nI]
    rcases (show side = 0 ∨ side = 1 by omega) with rfl | rfl
    · rcases (show pos = 0 ∨ pos = 1 by rw [h0] at hp; change pos < 2 at hp; omega) with rfl | rfl
      · rw [h0] at ht h1; simp (disch := first | assumption | omega) only [li, bd_some, bd_none, oc_some, oc_none, lr_, ↓reduceIte, bi_0, bi_0n, bi_1, bi_1n, npp, if_pos, if_neg, not_true_eq_false, not_false_eq_true, Nat.reduceAdd, Nat.reduceMul, eq_nI, nI_sub]
      · rw [h0] at ht h1; simp (disch := first | assumption | omega) only [li, bd_some, bd_none, oc_some, oc_none, lr_, ↓reduceIte, bi_0, bi_0n, bi_1, bi_1n, npp, if_pos, if_neg, not_true_eq_false, not_false_eq_true, Nat.reduceAdd, Nat.reduceMul, eq_nI, nI_sub]
    · rcases (show pos = 0 ∨ pos = 1 by rw [h0] at hp; change pos < 2 at hp; omega) with rfl | rfl
      · rw [h0] at ht h1; simp (disch := first | assumption | omega) only [li, bd_some, bd_none, oc_some, oc_none, lr_, ↓reduceIte, bi_0, bi_0n, bi_1, bi_1n, npp, if_pos, if_neg, not_true_eq_false, not_false_eq_true, Nat.reduceAdd, Nat.reduceMul, eq_nI, nI_sub]
      · rw [h0] at ht h1; simp (disch := first | assumption | omega) only [li, bd_some, bd_none, oc_some, oc_none, lr_, ↓reduceIte, bi_0, bi_0n, bi_1, bi_1n, npp, if_pos, if_neg, not_true_eq_false, not_false_eq_true, Nat.reduceAdd, Nat.reduceMul, eq_nI, nI_sub]
  · simp (disch := first | assumption | omega) only [li, bd_some, bd_none, oc_some, oc_none, lr_, ↓reduceIte, bi_0, bi_0n, bi_1, bi_1n, npp, if_pos, if_neg, not_true_eq_false, not_false_eq_true, Nat.reduceAdd, Nat.reduceMul, h0, nI_mul, nI_add, inb_nI, ix_nI]
def sEL (a : Nat → Int32) (j t side pos : Nat) : Nat := elz (jN a j 3) (jN a j 2) (jN a j 7) t side pos
def sT (a : Nat → Int32) (j x : Nat) : Nat := tz (jN a j 1) (jN a j 0) (sSC a j) x
/-- the page at a position of a sheet of a copy, and of a job -/
def sPGc (a l : Nat → Int32) (j t side pos : Nat) : Nat := if sEL a j t side pos < jN a j 7 then tn (l (400 * j + sEL a j t side pos)) else 0
def sPG (a l : Nat → Int32) (j x side pos : Nat) : Nat := sPGc a l j (sT a j x) side pos
theorem sT_lt {a l : Nat → Int32} {j x : Nat} (hJ : JobPl a l j) (hx : x < sSH a j) : sT a j x < sSC a j := by
  have hc := hJ.2.1
  have hp : 1 ≤ sSC a j := scz_pos hJ.2.2.2.2.2.2.2.2.2.1
  unfold sT tz
  split
  · exact Nat.mod_lt _ (by omega)
  · exact (Nat.div_lt_iff_lt_mul (by omega)).mpr (by unfold sSH at hx; rw [Nat.mul_comm]; exact hx)
theorem m_pageAt {g : GS_} (h : MI g) {j x side pos : Nat} (hj : j < 24) (hJ : JobPl (gai g 20 0) (gai g 20 2) j) (hx : x < sSH (gai g 20 0) j) (hs : side < 2) (hp : pos < psz (jN (gai g 20 0) j 3)) :
    f10_pageAt 0 (nI j) (nI x) (nI side) (nI pos) g = some (nI (sPG (gai g 20 0) (gai g 20 2) j x side pos), g) := by
  have hJ' := hJ
  obtain ⟨q0, q0', q1, q2, q3, -, -, -, q7, -, -, qp⟩ := hJ'
  obtain ⟨c, hc, hcl⟩ := vl_ex q0
  obtain ⟨k, hk, hkl⟩ := vl_ex q1
  obtain ⟨y, hy, hyl⟩ := vl_ex q3
  obtain ⟨m, hm, hml⟩ := vl_ex q7
  have ec : jN (gai g 20 0) j 0 = c := tn_of hc (by omega)
  have ek : jN (gai g 20 0) j 1 = k := tn_of hk (by omega)
  have ey : jN (gai g 20 0) j 3 = y := tn_of hy (by omega)
  have em : jN (gai g 20 0) j 7 = m := tn_of hm (by omega)
  have ht := sT_lt hJ hx
  have hsc : sSC (gai g 20 0) j ≤ 400 := scz_le (by omega)
  have hsc1 : 1 ≤ sSC (gai g 20 0) j := scz_pos hJ.2.2.2.2.2.2.2.2.2.1
  have hxl : x < 4001 := by
    have h1 : x < jN (gai g 20 0) j 0 * sSC (gai g 20 0) j := hx
    have := Nat.mul_le_mul (show jN (gai g 20 0) j 0 ≤ 10 by omega) hsc
    omega
  have he : sEL (gai g 20 0) j (sT (gai g 20 0) j x) side pos < 4000 := elz_le (by omega) (by omega) ht hs hp
  have key : f10_pageAt_b28 0 (nI j) (nI side) (nI pos) (nI (sT (gai g 20 0) j x)) g = some (nI (sPG (gai g 20 0) (gai g 20 2) j x side pos), g) := by
    unfold f10_pageAt_b28
    rw [m_elementAt h hj hJ ht hs hp]
    change bd_ (some (nI (sEL (gai g 20 0) j (sT (gai g 20 0) j x) side pos), g)) _ = _
    generalize hE : sEL (gai g 20 0) j (sT (gai g 20 0) j x) side pos = e at he
    simp (disch := first | assumption | omega) only [li, bd_some, bd_none, oc_some, oc_none, lr_, ↓reduceIte, bi_0, bi_0n, bi_1, bi_1n, npp, if_pos, if_neg, not_true_eq_false, not_false_eq_true, Nat.reduceAdd, Nat.reduceMul, m_ofJob, hm, le_nI, MI_l h, MI_ln h, nI_mul, nI_add, inb_nI, ix_nI, sPG, sPGc, hE, em]
    by_cases hlt : e < m
    · simp (disch := first | assumption | omega) only [li, bd_some, bd_none, oc_some, oc_none, lr_, ↓reduceIte, bi_0, bi_0n, bi_1, bi_1n, npp, if_pos, if_neg, not_true_eq_false, not_false_eq_true, Nat.reduceAdd, Nat.reduceMul, Nat.not_le.mpr hlt, hlt, Nat.not_le]
      rw [← (vl_nI (qp e (by omega)).1).1]
    · simp (disch := first | assumption | omega) only [li, bd_some, bd_none, oc_some, oc_none, lr_, ↓reduceIte, bi_0, bi_0n, bi_1, bi_1n, npp, if_pos, if_neg, not_true_eq_false, not_false_eq_true, Nat.reduceAdd, Nat.reduceMul, Nat.le_of_not_lt hlt, hlt]
  unfold f10_pageAt
  simp (disch := first | assumption | omega) only [li, bd_some, bd_none, oc_some, oc_none, lr_, ↓reduceIte, bi_0, bi_0n, bi_1, bi_1n, npp, if_pos, if_neg, not_true_eq_false, not_false_eq_true, Nat.reduceAdd, Nat.reduceMul, m_ofJob, hk, hc, m_sheetsOfCopy, eq_nI]
  by_cases hk1 : k = 1
  · have e1 : sT (gai g 20 0) j x = x % sSC (gai g 20 0) j := by unfold sT tz; rw [ek, if_pos hk1]
    rw [e1] at key
    simp (disch := first | assumption | omega) only [li, bd_some, bd_none, oc_some, oc_none, lr_, ↓reduceIte, bi_0, bi_0n, bi_1, bi_1n, npp, if_pos, if_neg, not_true_eq_false, not_false_eq_true, Nat.reduceAdd, Nat.reduceMul, hk1, rem_nI, key]
  · have e1 : sT (gai g 20 0) j x = x / c := by unfold sT tz; rw [ek, if_neg hk1, ec]
    rw [e1] at key
    simp (disch := first | assumption | omega) only [li, bd_some, bd_none, oc_some, oc_none, lr_, ↓reduceIte, bi_0, bi_0n, bi_1, bi_1n, npp, if_pos, if_neg, not_true_eq_false, not_false_eq_true, Nat.reduceAdd, Nat.reduceMul, hk1, div_nI, key]
