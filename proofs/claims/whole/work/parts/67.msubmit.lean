/-! the reference makes a job -/
theorem m_perSide0 {g : GS_} (h : MI g) {j lay : Nat} (hj : j < 24) (hx : gai g 20 0 (106 + 13 * j + 3) = nI lay) (hl : lay < 5) : f10_perSide 0 (nI j) g = some (nI (psz lay), g) := by
  simp (disch := first | assumption | omega) only [li, bd_some, bd_none, oc_some, oc_none, lr_, ↓reduceIte, bi_0, bi_0n, bi_1, bi_1n, npp, if_pos, if_neg, not_true_eq_false, not_false_eq_true, Nat.reduceAdd, Nat.reduceMul, f10_perSide, m_isBooklet, m_ofJob, hx, psz, eq_nI]
  by_cases h0 : lay = 0
  · simp (disch := first | assumption | omega) only [li, bd_some, bd_none, oc_some, oc_none, lr_, ↓reduceIte, bi_0, bi_0n, bi_1, bi_1n, npp, if_pos, if_neg, not_true_eq_false, not_false_eq_true, Nat.reduceAdd, Nat.reduceMul, h0]
  · simp (disch := first | assumption | omega) only [li, bd_some, bd_none, oc_some, oc_none, lr_, ↓reduceIte, bi_0, bi_0n, bi_1, bi_1n, npp, if_pos, if_neg, not_true_eq_false, not_false_eq_true, Nat.reduceAdd, Nat.reduceMul, h0]
theorem m_sidesOf0 {g : GS_} (h : MI g) {j lay sid : Nat} (hj : j < 24) (hx : gai g 20 0 (106 + 13 * j + 3) = nI lay) (hl : lay < 5) (hy : gai g 20 0 (106 + 13 * j + 2) = nI sid) (hs : sid < 3) : f10_sidesOf 0 (nI j) g = some (nI (sdz lay sid), g) := by
  simp (disch := first | assumption | omega) only [li, bd_some, bd_none, oc_some, oc_none, lr_, ↓reduceIte, bi_0, bi_0n, bi_1, bi_1n, npp, if_pos, if_neg, not_true_eq_false, not_false_eq_true, Nat.reduceAdd, Nat.reduceMul, f10_sidesOf, f10_sidesOf_b17, m_isBooklet, m_ofJob, hx, hy, sdz, eq_nI]
  by_cases h0 : lay = 0
  · simp (disch := first | assumption | omega) only [li, bd_some, bd_none, oc_some, oc_none, lr_, ↓reduceIte, bi_0, bi_0n, bi_1, bi_1n, npp, if_pos, if_neg, not_true_eq_false, not_false_eq_true, Nat.reduceAdd, Nat.reduceMul, h0]
  · by_cases h1 : sid = 0
    · simp (disch := first | assumption | omega) only [li, bd_some, bd_none, oc_some, oc_none, lr_, ↓reduceIte, bi_0, bi_0n, bi_1, bi_1n, npp, if_pos, if_neg, not_true_eq_false, not_false_eq_true, Nat.reduceAdd, Nat.reduceMul, h0, h1]
    · simp (disch := first | assumption | omega) only [li, bd_some, bd_none, oc_some, oc_none, lr_, ↓reduceIte, bi_0, bi_0n, bi_1, bi_1n, npp, if_pos, if_neg, not_true_eq_false, not_false_eq_true, Nat.reduceAdd, Nat.reduceMul, h0, h1]
theorem m_sheets0 {g : GS_} (h : MI g) {j lay sid m : Nat} (hj : j < 24) (hx : gai g 20 0 (106 + 13 * j + 3) = nI lay) (hl : lay < 5) (hy : gai g 20 0 (106 + 13 * j + 2) = nI sid) (hs : sid < 3) (hm : gai g 20 0 (106 + 13 * j + 7) = nI m) (hml : m < 401) : f10_sheetsOfCopy 0 (nI j) g = some (nI (scz lay sid m), g) := by
  have e1 := m_perSide0 h hj hx hl
  have e2 := m_sidesOf0 h hj hx hl hy hs
  have p1 := psz_pos lay
  have p2 := sdz_pos lay sid
  have p3 : psz lay ≤ 5 := by unfold psz; split <;> omega
  simp (disch := first | assumption | omega) only [li, bd_some, bd_none, oc_some, oc_none, lr_, ↓reduceIte, bi_0, bi_0n, bi_1, bi_1n, npp, if_pos, if_neg, not_true_eq_false, not_false_eq_true, Nat.reduceAdd, Nat.reduceMul, f10_sheetsOfCopy, m_isBooklet, e1, e2, m_ofJob, hx, hy, hm, scz, eq_nI]
  by_cases h0 : lay = 0
  · simp (disch := first | assumption | omega) only [li, bd_some, bd_none, oc_some, oc_none, lr_, ↓reduceIte, bi_0, bi_0n, bi_1, bi_1n, npp, if_pos, if_neg, not_true_eq_false, not_false_eq_true, Nat.reduceAdd, Nat.reduceMul, h0, nI_mul, nI_add, inb_nI, ix_nI, div_nI]
  · have e3 : psz lay = lay := if_neg h0
    have h5 : (m + lay - 1) / lay ≤ 405 := Nat.le_trans (Nat.div_le_self _ _) (by omega)
    simp (disch := first | assumption | omega) only [li, bd_some, bd_none, oc_some, oc_none, lr_, ↓reduceIte, bi_0, bi_0n, bi_1, bi_1n, npp, if_pos, if_neg, not_true_eq_false, not_false_eq_true, Nat.reduceAdd, Nat.reduceMul, h0, nI_mul, nI_add, inb_nI, ix_nI, div_nI, e3, nI_sub, eq_nI]
    generalize (m + lay - 1) / lay = q at h5 ⊢
    simp (disch := first | assumption | omega) only [li, bd_some, bd_none, oc_some, oc_none, lr_, ↓reduceIte, bi_0, bi_0n, bi_1, bi_1n, npp, if_pos, if_neg, not_true_eq_false, not_false_eq_true, Nat.reduceAdd, Nat.reduceMul, nI_sub, div_nI]
/-- the loop of the settings at its end -/
def M104 (v1 v2 v3 : Int32) (g : GS_) : Option (Int32 × GS_) :=
  if v2 = 0 then lr_ (gfr g 320 0) fun x23 => oc_ x23 none fun a24 => if inb (10 : Int32) (gln g 20 a24) then f10_submit_b152 0 v1 v3 0 v3 (2 : Int32) (gai g 20 a24 (10 : Int32).toInt.toNat) g else none else f10_submit_b152 0 v1 v3 0 v3 (2 : Int32) (0 : Int32) g
theorem m_104 {N : Nat} {v1 v2 : Int32} (hN : N < 24) : ∀ (fuel w : Nat) (g : GS_), w ≤ 6 → 6 - w < fuel → MI g →
    ∃ g', f10_submit_b104 fuel 0 v1 v2 (nI N) (nI w) g = M104 v1 v2 (nI N) g' ∧ KX 0 g g' ∧ (∀ u, w ≤ u → u < 6 → gai g' 20 0 (106 + 13 * N + u) = gai g 20 0 (8 + u)) ∧ ∀ k, ¬ (106 + 13 * N + w ≤ k ∧ k < 106 + 13 * N + 6) → gai g' 20 0 k = gai g 20 0 k
  | 0, w, g, _, h, _ => by omega
  | fuel + 1, w, g, hw, hf, hM => by
    rw [f10_submit_b104.eq_2]
    by_cases he : w = 6
    · subst he
      rw [if_pos (show (6 : Int32) ≤ nI 6 from (le_nI (a := 6) (by omega) (by omega)).mpr (Nat.le_refl _))]
      exact ⟨g, rfl, KX_rfl, fun u h1 h2 => by omega, fun _ _ => rfl⟩
    · have e8 : (8 : Int32) + nI w = nI (8 + w) := nI_add 8 w
      have e1 : nI w + (1 : Int32) = nI (w + 1) := nI_add w 1
      rw [if_neg (show ¬ (6 : Int32) ≤ nI w from fun q => by have := (le_nI (a := 6) (by omega) (by omega)).mp q; omega), m_at hM, m_ib hM e8 (by omega), m_ix e8 (by omega), m_setJob hM hN (show w < 13 by omega), bd_some, e1]
      obtain ⟨g', a1, a2, a3, a4⟩ := m_104 (v1 := v1) (v2 := v2) hN fuel (w + 1) (sai g 20 0 (106 + 13 * N + w) (gai g 20 0 (8 + w))) (by omega) (by omega) (MI_sai hM)
      refine ⟨g', a1, KX_tr KX_sai a2, fun u h1 h2 => ?_, fun k hk => ?_⟩
      · by_cases c : u = w
        · subst c
          rw [a4 _ (by omega), e_gai_sai, if_pos ⟨rfl, rfl, rfl⟩]
        · rw [a3 u (by omega) h2, e_gai_sai, if_neg (by omega)]
      · rw [a4 k (by omega), e_gai_sai, if_neg (by omega)]
theorem m_234 {N len : Nat} (hN : N < 24) (hl : len ≤ 400) : ∀ (fuel k : Nat) (g : GS_), k ≤ len → len - k < fuel → MI g → gfi g 333 0 = nI len →
    ∃ g', f10_submit_b234 fuel 0 (nI N) (nI k) g = some (nI N, sai g' 20 0 7 (nI 0)) ∧ KX 2 g g' ∧ (∀ i, k ≤ i → i < len → gai g' 20 2 (400 * N + i) = gai g 20 5 i) ∧ ∀ i, ¬ (400 * N + k ≤ i ∧ i < 400 * N + len) → gai g' 20 2 i = gai g 20 2 i
  | 0, k, g, _, h, _, _ => by omega
  | fuel + 1, k, g, hk, hf, hM, h3 => by
    rw [f10_submit_b234.eq_2, h3]
    by_cases he : k = len
    · subst he
      rw [if_pos ((le_nI (by omega) (by omega)).mpr (Nat.le_refl _)), m_at hM, m_ib hM (e := (7 : Int32)) (k := 7) rfl (by omega), m_ix (e := (7 : Int32)) (k := 7) rfl (by omega), lr_at]
      exact ⟨g, rfl, KX_rfl, fun i h1 h2 => by omega, fun _ _ => rfl⟩
    · have r2 : gfr g 322 0 = some 2 := MI_l hM
      have n2 : gln g 20 2 = 9600 := MI_ln hM
      have r5 : gfr g 332 0 = some 5 := by obtain ⟨-, -, -, -, -, -, h, -⟩ := hM; exact h
      have n5 : gln g 20 5 = 801 := by obtain ⟨-, -, -, -, -, -, -, -, -, -, -, -, -, -, -, -, h, -⟩ := hM; exact h
      have ei : (400 : Int32) * nI N + nI k = nI (400 * N + k) := by
        have : (400 : Int32) * nI N = nI (400 * N) := nI_mul 400 N
        rw [this, nI_add]
      have e1 : nI k + (1 : Int32) = nI (k + 1) := nI_add k 1
      rw [if_neg (fun q => by have := (le_nI (by omega) (by omega)).mp q; omega), r2, lr_at, r5, lr_at, oc_some, n5, if_pos ((inb_nI (by omega)).mpr (by omega)), oc_some, n2, ei, if_pos ((inb_nI (by omega)).mpr (by omega)), ix_nI (by omega), ix_nI (by omega), lr_at, e1]
      obtain ⟨g', a1, a2, a3, a4⟩ := m_234 hN hl fuel (k + 1) (sai g 20 2 (400 * N + k) (gai g 20 5 k)) (by omega) (by omega) (MI_sai hM) h3
      refine ⟨g', a1, KX_tr KX_sai a2, fun i h1 h2 => ?_, fun i hi => ?_⟩
      · by_cases c : i = k
        · subst c
          rw [a4 _ (by omega), e_gai_sai, if_pos ⟨rfl, rfl, rfl⟩]
        · rw [a3 i (by omega) h2, e_gai_sai, if_neg (by omega)]
      · rw [a4 i (by omega), e_gai_sai, if_neg (by omega)]
/-- the numbers that are written one by one -/
theorem m_152 {g : GS_} {N d sid lay cop len : Nat} (hN : N < 24) (hM : MI g) (hl : len ≤ 400) (hd : d < 10) (h3 : gfi g 333 0 = nI len) (hs : sid < 3) (hlay : lay < 5) (hcop : cop ≤ 10) (w3 : gai g 20 0 (106 + 13 * N + 3) = nI lay) (w8 : gai g 20 0 8 = nI cop) :
    ∃ g', f10_submit_b152 0 (nI d) (nI N) 0 (nI N) (nI 2) (nI sid) g = some (nI N, sai g' 20 0 7 (nI 0)) ∧ (∃ g1, KX 0 g g1 ∧ KX 2 g1 g') ∧ (∀ i, i < len → gai g' 20 2 (400 * N + i) = gai g 20 5 i) ∧ (∀ i, ¬ (400 * N ≤ i ∧ i < 400 * N + len) → gai g' 20 2 i = gai g 20 2 i) ∧
      (gai g' 20 0 (106 + 13 * N + 2) = nI sid ∧ gai g' 20 0 (106 + 13 * N + 6) = nI d ∧ gai g' 20 0 (106 + 13 * N + 7) = nI len ∧ gai g' 20 0 (106 + 13 * N + 8) = nI (cop * scz lay sid len) ∧ gai g' 20 0 (106 + 13 * N + 9) = nI 0 ∧ gai g' 20 0 (106 + 13 * N + 10) = nI 0 ∧ gai g' 20 0 (106 + 13 * N + 11) = gai g 20 0 0 ∧ gai g' 20 0 (106 + 13 * N + 12) = nI 0) ∧
      ∀ k, ¬ (k = 106 + 13 * N + 2 ∨ (106 + 13 * N + 6 ≤ k ∧ k < 106 + 13 * N + 13)) → gai g' 20 0 k = gai g 20 0 k := by
  have hM1 : MI (sai (sai (sai g 20 0 (106 + 13 * N + 2) (nI sid)) 20 0 (106 + 13 * N + 6) (nI d)) 20 0 (106 + 13 * N + 7) (nI len)) := MI_sai (MI_sai (MI_sai hM))
  have k1 : KX 0 g (sai (sai (sai g 20 0 (106 + 13 * N + 2) (nI sid)) 20 0 (106 + 13 * N + 6) (nI d)) 20 0 (106 + 13 * N + 7) (nI len)) := KX_tr KX_sai (KX_tr KX_sai KX_sai)
  have u1 : gai (sai (sai (sai g 20 0 (106 + 13 * N + 2) (nI sid)) 20 0 (106 + 13 * N + 6) (nI d)) 20 0 (106 + 13 * N + 7) (nI len)) 20 0 = up (up (up (gai g 20 0) (106 + 13 * N + 2) (nI sid)) (106 + 13 * N + 6) (nI d)) (106 + 13 * N + 7) (nI len) := by rw [up_sai, up_sai, up_sai]
  have t1 : gfi (sai (sai g 20 0 (106 + 13 * N + 2) (nI sid)) 20 0 (106 + 13 * N + 6) (nI d)) 333 0 = nI len := h3
  have m2 : f10_setJob 0 (nI N) (2 : Int32) (nI sid) g = some ((), sai g 20 0 (106 + 13 * N + 2) (nI sid)) := m_setJob hM hN (w := 2) (by omega) (nI sid)
  have m6 : f10_setJob 0 (nI N) (6 : Int32) (nI d) (sai g 20 0 (106 + 13 * N + 2) (nI sid)) = some ((), sai (sai g 20 0 (106 + 13 * N + 2) (nI sid)) 20 0 (106 + 13 * N + 6) (nI d)) := m_setJob (MI_sai hM) hN (w := 6) (by omega) (nI d)
  have m7 : f10_setJob 0 (nI N) (7 : Int32) (nI len) (sai (sai g 20 0 (106 + 13 * N + 2) (nI sid)) 20 0 (106 + 13 * N + 6) (nI d)) = some ((), sai (sai (sai g 20 0 (106 + 13 * N + 2) (nI sid)) 20 0 (106 + 13 * N + 6) (nI d)) 20 0 (106 + 13 * N + 7) (nI len)) := m_setJob (MI_sai (MI_sai hM)) hN (w := 7) (by omega) (nI len)
  rw [f10_submit_b152, show nI 2 = (2 : Int32) from rfl, m2, bd_some, m6, bd_some, t1, m7, bd_some]
  generalize sai (sai (sai g 20 0 (106 + 13 * N + 2) (nI sid)) 20 0 (106 + 13 * N + 6) (nI d)) 20 0 (106 + 13 * N + 7) (nI len) = G at *
  have s0 := m_sheets0 hM1 (j := N) (lay := lay) (sid := sid) (m := len) hN (by rw [u1, up_ne (by omega), up_ne (by omega), up_ne (by omega)]; exact w3) hlay (by rw [u1, up_ne (by omega), up_ne (by omega), up_eq rfl]) hs (by rw [u1, up_eq rfl]) (by omega)
  have g8 : gai G 20 0 8 = nI cop := by rw [u1, up_ne (by omega), up_ne (by omega), up_ne (by omega)]; exact w8
  have g00 : gai G 20 0 0 = gai g 20 0 0 := by rw [u1, up_ne (by omega), up_ne (by omega), up_ne (by omega)]
  rw [m_at hM1, m_ib hM1 (e := (8 : Int32)) (k := 8) rfl (by omega), m_ix (e := (8 : Int32)) (k := 8) rfl (by omega), s0, bd_some, g8, nI_mul]
  have m8 : f10_setJob 0 (nI N) (8 : Int32) (nI (cop * scz lay sid len)) G = some ((), sai G 20 0 (106 + 13 * N + 8) (nI (cop * scz lay sid len))) := m_setJob hM1 hN (w := 8) (by omega) _
  have m9 : f10_setJob 0 (nI N) (9 : Int32) (0 : Int32) (sai G 20 0 (106 + 13 * N + 8) (nI (cop * scz lay sid len))) = some ((), sai (sai G 20 0 (106 + 13 * N + 8) (nI (cop * scz lay sid len))) 20 0 (106 + 13 * N + 9) (nI 0)) := m_setJob (MI_sai hM1) hN (w := 9) (by omega) _
  have m10 : f10_setJob 0 (nI N) (10 : Int32) (0 : Int32) (sai (sai G 20 0 (106 + 13 * N + 8) (nI (cop * scz lay sid len))) 20 0 (106 + 13 * N + 9) (nI 0)) = some ((), sai (sai (sai G 20 0 (106 + 13 * N + 8) (nI (cop * scz lay sid len))) 20 0 (106 + 13 * N + 9) (nI 0)) 20 0 (106 + 13 * N + 10) (nI 0)) := m_setJob (MI_sai (MI_sai hM1)) hN (w := 10) (by omega) _
  rw [m8, bd_some, m9, bd_some, m10, bd_some]
  have hM2 : MI (sai (sai (sai G 20 0 (106 + 13 * N + 8) (nI (cop * scz lay sid len))) 20 0 (106 + 13 * N + 9) (nI 0)) 20 0 (106 + 13 * N + 10) (nI 0)) := MI_sai (MI_sai (MI_sai hM1))
  have k2 : KX 0 g (sai (sai (sai G 20 0 (106 + 13 * N + 8) (nI (cop * scz lay sid len))) 20 0 (106 + 13 * N + 9) (nI 0)) 20 0 (106 + 13 * N + 10) (nI 0)) := KX_tr k1 (KX_tr KX_sai (KX_tr KX_sai KX_sai))
  have u2 : gai (sai (sai (sai G 20 0 (106 + 13 * N + 8) (nI (cop * scz lay sid len))) 20 0 (106 + 13 * N + 9) (nI 0)) 20 0 (106 + 13 * N + 10) (nI 0)) 20 0 = up (up (up (gai G 20 0) (106 + 13 * N + 8) (nI (cop * scz lay sid len))) (106 + 13 * N + 9) (nI 0)) (106 + 13 * N + 10) (nI 0) := by rw [up_sai, up_sai, up_sai]
  generalize sai (sai (sai G 20 0 (106 + 13 * N + 8) (nI (cop * scz lay sid len))) 20 0 (106 + 13 * N + 9) (nI 0)) 20 0 (106 + 13 * N + 10) (nI 0) = H at *
  have h00 : gai H 20 0 0 = gai g 20 0 0 := by rw [u2, up_ne (by omega), up_ne (by omega), up_ne (by omega)]; exact g00
  rw [m_at hM2, m_ib hM2 (e := (0 : Int32)) (k := 0) rfl (by omega), m_ix (e := (0 : Int32)) (k := 0) rfl (by omega), h00]
  have m11 : f10_setJob 0 (nI N) (11 : Int32) (gai g 20 0 0) H = some ((), sai H 20 0 (106 + 13 * N + 11) (gai g 20 0 0)) := m_setJob hM2 hN (w := 11) (by omega) _
  have m12 : f10_setJob 0 (nI N) (12 : Int32) (0 : Int32) (sai H 20 0 (106 + 13 * N + 11) (gai g 20 0 0)) = some ((), sai (sai H 20 0 (106 + 13 * N + 11) (gai g 20 0 0)) 20 0 (106 + 13 * N + 12) (nI 0)) := m_setJob (MI_sai hM2) hN (w := 12) (by omega) _
  rw [m11, bd_some, m12, bd_some]
  have hM3 : MI (sai (sai H 20 0 (106 + 13 * N + 11) (gai g 20 0 0)) 20 0 (106 + 13 * N + 12) (nI 0)) := MI_sai (MI_sai hM2)
  have k3 : KX 0 g (sai (sai H 20 0 (106 + 13 * N + 11) (gai g 20 0 0)) 20 0 (106 + 13 * N + 12) (nI 0)) := KX_tr k2 (KX_tr KX_sai KX_sai)
  have u3 : gai (sai (sai H 20 0 (106 + 13 * N + 11) (gai g 20 0 0)) 20 0 (106 + 13 * N + 12) (nI 0)) 20 0 = up (up (gai H 20 0) (106 + 13 * N + 11) (gai g 20 0 0)) (106 + 13 * N + 12) (nI 0) := by rw [up_sai, up_sai]
  generalize sai (sai H 20 0 (106 + 13 * N + 11) (gai g 20 0 0)) 20 0 (106 + 13 * N + 12) (nI 0) = K at *
  obtain ⟨g', a1, a2, a3, a4⟩ := m_234 (len := len) hN hl FU_ 0 K (by omega) (by unfold FU_; omega) hM3 (by rw [k3.1]; exact h3)
  have b0 : gai g' 20 0 = gai K 20 0 := a2.2.2.2.2.2.2.2 20 0 (by omega)
  have b5 : gai K 20 5 = gai g 20 5 := k3.2.2.2.2.2.2.2 20 5 (by omega)
  have b2 : gai K 20 2 = gai g 20 2 := k3.2.2.2.2.2.2.2 20 2 (by omega)
  refine ⟨g', a1, ⟨K, k3, a2⟩, fun i hi => by rw [a3 i (by omega) hi, b5], fun i hi => by rw [a4 i (by omega), b2], ⟨?_, ?_, ?_, ?_, ?_, ?_, ?_, ?_⟩, fun k hk => ?_⟩
  all_goals
    rw [b0, u3, u2, u1]
    simp (disch := omega) only [up_ne, up_eq]
