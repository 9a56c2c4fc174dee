/-! a new plan, in the class -/
/-- a plan without its loads -/
def PlV0 (g : GS_) (Q : Nat) (a l : Nat → Int32) (j : Nat) : Prop :=
  (∃ D, gfr g 128 Q = some D ∧ DocV g D a (jN a j 6)) ∧ (∃ A, gfr g 130 Q = some A ∧ gln g 20 A = jN a j 7 ∧ ∀ i, i < jN a j 7 → gai g 20 A i = l (400 * j + i)) ∧
  gfi g 136 Q = bi (a (106 + 13 * j + 3) = nI 0) ∧ gfi g 137 Q = bi (¬ sdz (jN a j 3) (jN a j 2) = 1) ∧ gfi g 138 Q = nI (psz (jN a j 3)) ∧ gfi g 139 Q = nI (sSC a j)
theorem x_indexOn0 {g : GS_} {Q : Nat} {a l : Nat → Int32} {j t s pos : Nat} (hP : PlV0 g Q a l j) (hJ : JobPl a l j) (ht : t < sSC a j) (hs : s < sdz (jN a j 3) (jN a j 2)) (hp : pos < psz (jN a j 3)) : f4_indexOn Q (nI t) (nI s) (nI pos) g = some (nI (sEL a j t s pos), g) := by
  obtain ⟨-, -, -, ⟨y1, y2, y3⟩, -, -, ⟨m1, m2, m3⟩, c1, c2, -⟩ := Jn hJ
  obtain ⟨-, -, q6, q7, q8, q10⟩ := hP
  have hsd := sdz_pos (jN a j 3) (jN a j 2)
  unfold sEL elz
  have hSC : scz (jN a j 3) (jN a j 2) (jN a j 7) = sSC a j := rfl
  rw [hSC]
  generalize hS : sSC a j = S at *
  by_cases h0 : jN a j 3 = 0
  · have q6' : gfi g 136 Q = nI 1 := by rw [q6]; unfold bi; rw [if_pos (by rw [y1, h0])]; rfl
    have hp2 : pos < 2 := by have : psz (jN a j 3) = 2 := if_pos h0; omega
    have e1 : nI (4 * S) - nI 1 = nI (4 * S - 1) := nI_sub (by omega)
    rw [if_pos h0]
    rcases (show s = 0 ∨ s = 1 by omega) with rfl | rfl
    · have e2 : nI (4 * S - 1) - nI (2 * t + 0) = nI (4 * S - 1 - (2 * t + 0)) := nI_sub (by omega)
      rcases (show pos = 0 ∨ pos = 1 by omega) with rfl | rfl
      · simp (disch := first | with_reducible assumption | omega | (simp only [MI_sai_iff, MI_sfi_iff]; with_reducible assumption)) only [li, ↓lr_, ↓bd_m, ↓oc_m, ↓reduceIte, bi_0, bi_0n, bi_1, bi_1n, not_true_eq_false, not_false_eq_true, Nat.reduceAdd, Nat.reduceMul, nI_mul, nI_add, inb_T, ix_nI, le_T, le_F, lt_T, lt_F, eq_F, and_self, and_true, true_and, false_and, and_false, or_true, true_or, or_false, false_or, bi_eq, x_within, m_in, f4_indexOn, q6', f4_indexOn_b48, f4_indexOn_b57, f4_indexOn_b65, q10, e1, e2]
        try rfl
      · simp (disch := first | with_reducible assumption | omega | (simp only [MI_sai_iff, MI_sfi_iff]; with_reducible assumption)) only [li, ↓lr_, ↓bd_m, ↓oc_m, ↓reduceIte, bi_0, bi_0n, bi_1, bi_1n, not_true_eq_false, not_false_eq_true, Nat.reduceAdd, Nat.reduceMul, nI_mul, nI_add, inb_T, ix_nI, le_T, le_F, lt_T, lt_F, eq_F, and_self, and_true, true_and, false_and, and_false, or_true, true_or, or_false, false_or, bi_eq, x_within, m_in, f4_indexOn, q6', f4_indexOn_b48, f4_indexOn_b57, f4_indexOn_b65, Nat.add_zero]
        try rfl
    · have e2 : nI (4 * S - 1) - nI (2 * t + 1) = nI (4 * S - 1 - (2 * t + 1)) := nI_sub (by omega)
      rcases (show pos = 0 ∨ pos = 1 by omega) with rfl | rfl
      · simp (disch := first | with_reducible assumption | omega | (simp only [MI_sai_iff, MI_sfi_iff]; with_reducible assumption)) only [li, ↓lr_, ↓bd_m, ↓oc_m, ↓reduceIte, bi_0, bi_0n, bi_1, bi_1n, not_true_eq_false, not_false_eq_true, Nat.reduceAdd, Nat.reduceMul, nI_mul, nI_add, inb_T, ix_nI, le_T, le_F, lt_T, lt_F, eq_F, and_self, and_true, true_and, false_and, and_false, or_true, true_or, or_false, false_or, bi_eq, x_within, m_in, f4_indexOn, q6', f4_indexOn_b48, f4_indexOn_b57, f4_indexOn_b65]
        try rfl
      · simp (disch := first | with_reducible assumption | omega | (simp only [MI_sai_iff, MI_sfi_iff]; with_reducible assumption)) only [li, ↓lr_, ↓bd_m, ↓oc_m, ↓reduceIte, bi_0, bi_0n, bi_1, bi_1n, not_true_eq_false, not_false_eq_true, Nat.reduceAdd, Nat.reduceMul, nI_mul, nI_add, inb_T, ix_nI, le_T, le_F, lt_T, lt_F, eq_F, and_self, and_true, true_and, false_and, and_false, or_true, true_or, or_false, false_or, bi_eq, x_within, m_in, f4_indexOn, q6', f4_indexOn_b48, f4_indexOn_b57, f4_indexOn_b65, q10, e1, e2]
        rw [if_neg (by omega), if_neg (by omega)]
        congr 3
        omega
  · have q6' : gfi g 136 Q = nI 0 := by rw [q6]; unfold bi; rw [if_neg (by rw [y1, eq_nI (by omega) (by omega)]; exact h0)]; rfl
    rw [if_neg h0]
    rcases (show sdz (jN a j 3) (jN a j 2) = 1 ∨ sdz (jN a j 3) (jN a j 2) = 2 by omega) with c | c
    · have q7' : gfi g 137 Q = nI 0 := by rw [q7]; unfold bi; rw [if_neg (by omega)]; rfl
      rw [c] at hs ⊢
      have : s = 0 := by omega
      subst this
      simp (disch := first | with_reducible assumption | omega | (simp only [MI_sai_iff, MI_sfi_iff]; with_reducible assumption)) only [li, ↓lr_, ↓bd_m, ↓oc_m, ↓reduceIte, bi_0, bi_0n, bi_1, bi_1n, not_true_eq_false, not_false_eq_true, Nat.reduceAdd, Nat.reduceMul, nI_mul, nI_add, inb_T, ix_nI, le_T, le_F, lt_T, lt_F, eq_F, and_self, and_true, true_and, false_and, and_false, or_true, true_or, or_false, false_or, bi_eq, x_within, m_in, f4_indexOn, q6', q7', f4_indexOn_b23, q8]
      congr 3
      rw [Nat.one_mul, Nat.add_zero, Nat.mul_comm]
    · have q7' : gfi g 137 Q = nI 1 := by rw [q7]; unfold bi; rw [if_pos (by omega)]; rfl
      rw [c] at hs ⊢
      simp (disch := first | with_reducible assumption | omega | (simp only [MI_sai_iff, MI_sfi_iff]; with_reducible assumption)) only [li, ↓lr_, ↓bd_m, ↓oc_m, ↓reduceIte, bi_0, bi_0n, bi_1, bi_1n, not_true_eq_false, not_false_eq_true, Nat.reduceAdd, Nat.reduceMul, nI_mul, nI_add, inb_T, ix_nI, le_T, le_F, lt_T, lt_F, eq_F, and_self, and_true, true_and, false_and, and_false, or_true, true_or, or_false, false_or, bi_eq, x_within, m_in, f4_indexOn, q6', q7', f4_indexOn_b23, q8]
      congr 3
      rw [Nat.mul_comm]
theorem x_pageOn0 {g : GS_} {Q : Nat} {a l : Nat → Int32} {j t s pos : Nat} (hP : PlV0 g Q a l j) (hJ : JobPl a l j) (ht : t < sSC a j) (hs : s < sdz (jN a j 3) (jN a j 2)) (hp : pos < psz (jN a j 3)) : f4_pageOn Q (nI t) (nI s) (nI pos) g = some (nI (sPGc a l j t s pos), g) := by
  have e1 := x_indexOn0 hP hJ ht hs hp
  have hsd := sdz_pos (jN a j 3) (jN a j 2)
  obtain ⟨-, -, -, ⟨y1, y2, y3⟩, -, -, ⟨m1, m2, m3⟩, c1, c2, -⟩ := Jn hJ
  obtain ⟨-, ⟨A, a1, a4, a5⟩, -⟩ := hP
  have hel : sEL a j t s pos < 4000 := elz_le (by omega) (by omega) ht (by omega) hp
  unfold sPGc
  by_cases hc : sEL a j t s pos < jN a j 7
  · have hl := vl_nI (hJ.2.2.2.2.2.2.2.2.2.2.2 _ hc).1
    have e2 : gai g 20 A (sEL a j t s pos) = nI (tn (l (400 * j + sEL a j t s pos))) := (a5 _ hc).trans hl.1
    rw [if_pos hc]
    generalize sEL a j t s pos = e at *
    simp (disch := first | with_reducible assumption | omega | (simp only [MI_sai_iff, MI_sfi_iff]; with_reducible assumption)) only [li, ↓lr_, ↓bd_m, ↓oc_m, ↓reduceIte, bi_0, bi_0n, bi_1, bi_1n, not_true_eq_false, not_false_eq_true, Nat.reduceAdd, Nat.reduceMul, nI_mul, nI_add, inb_T, ix_nI, le_T, le_F, lt_T, lt_F, eq_F, and_self, and_true, true_and, false_and, and_false, or_true, true_or, or_false, false_or, bi_eq, x_within, m_in, f4_pageOn, e1, a1, a4, ofN, e2]
  · rw [if_neg hc]
    generalize sEL a j t s pos = e at *
    simp (disch := first | with_reducible assumption | omega | (simp only [MI_sai_iff, MI_sfi_iff]; with_reducible assumption)) only [li, ↓lr_, ↓bd_m, ↓oc_m, ↓reduceIte, bi_0, bi_0n, bi_1, bi_1n, not_true_eq_false, not_false_eq_true, Nat.reduceAdd, Nat.reduceMul, nI_mul, nI_add, inb_T, ix_nI, le_T, le_F, lt_T, lt_F, eq_F, and_self, and_true, true_and, false_and, and_false, or_true, true_or, or_false, false_or, bi_eq, x_within, m_in, f4_pageOn, e1, a1, a4, ofN, f4_pageOn_b34]
theorem x_weightOf {g : GS_} {D : Nat} {a : Nat → Int32} {d q : Nat} (hD : DocV g D a d) (hok : DocOk a d) (hq : q < 1000) : f0_weightOf D (nI q) g = some (nI (wgt a d q), g) := by
  have g2 : gfi g 2 D = nI (dN a d 2) := (hD.2 2 (by omega)).trans (vl_nI hok.2.2.2.1).1
  have g3 : gfi g 3 D = nI (dN a d 3) := (hD.2 3 (by omega)).trans (vl_nI hok.2.2.2.2.1).1
  have g4 : gfi g 4 D = nI (dN a d 4) := (hD.2 4 (by omega)).trans (vl_nI hok.2.2.2.2.2.1).1
  have b3 : dN a d 3 < 51 := (vl_nI hok.2.2.2.2.1).2
  have b4 : dN a d 4 < 501 := (vl_nI hok.2.2.2.2.2.1).2
  have b4' := hok.2.2.2.2.2.2
  have e4 : jrem (nI (q * dN a d 3)) (nI (dN a d 4)) = nI (q * dN a d 3 % dN a d 4) := by
    have := Nat.mul_le_mul (show q ≤ 1000 by omega) (show dN a d 3 ≤ 50 by omega)
    exact rem_nI (by omega) (by omega) (by omega)
  simp (disch := first | with_reducible assumption | omega | (simp only [MI_sai_iff, MI_sfi_iff]; with_reducible assumption)) only [li, ↓lr_, ↓bd_m, ↓oc_m, ↓reduceIte, bi_0, bi_0n, bi_1, bi_1n, not_true_eq_false, not_false_eq_true, Nat.reduceAdd, Nat.reduceMul, nI_mul, nI_add, inb_T, ix_nI, le_T, le_F, lt_T, lt_F, eq_F, and_self, and_true, true_and, false_and, and_false, or_true, true_or, or_false, false_or, bi_eq, x_within, m_in, f0_weightOf, g2, g3, g4, e4, wgt]
theorem x_loadPages {g : GS_} {Q : Nat} {a l : Nat → Int32} {j t s : Nat} (hP : PlV0 g Q a l j) (hJ : JobPl a l j) (hok : DocOk a (jN a j 6)) (ht : t < sSC a j) (hs : s < sdz (jN a j 3) (jN a j 2)) : f4_loadOfPages Q (nI t) (nI s) g = some (cLV a l j t s, g) := by
  obtain ⟨-, -, -, ⟨y1, y2, y3⟩, -⟩ := Jn hJ
  have hps : psz (jN a j 3) ≤ 4 := by unfold psz; split <;> omega
  have hpp := psz_pos (jN a j 3)
  obtain ⟨⟨D, r1, r2⟩, -, -, -, q8, -⟩ := id hP
  have hw : ∀ q, wgt a (jN a j 6) q ≤ 1000 := fun q => wgt_le hok
  have key : ∀ fuel k, k ≤ psz (jN a j 3) → psz (jN a j 3) - k < fuel → f4_loadOfPages_b8 fuel Q (nI t) (nI s) (nI (ldp (sPGc a l j t s) (wgt a (jN a j 6)) (psz (jN a j 3)) k)) (blb (sPGc a l j t s) k) (nI k) g = some (cLV a l j t s, g) := by
    intro fuel
    induction fuel with
    | zero => intro k _ h; omega
    | succ fuel ih =>
      intro k hk hf
      rw [f4_loadOfPages_b8.eq_2]
      by_cases he : k = psz (jN a j 3)
      · subst he
        rw [q8, if_pos ((le_nI (by omega) (by omega)).mpr (Nat.le_refl _))]
        unfold cLV cLD
        rcases blb_iff (sPGc a l j t s) (psz (jN a j 3)) with ⟨b1, b2⟩ | ⟨b1, b2⟩
        · rw [b1, if_pos rfl, if_pos rfl]
        · rw [b1, if_neg (by decide), if_neg (by decide)]
          rfl
      · have hkl : k < psz (jN a j 3) := by omega
        have e1 := x_pageOn0 hP hJ ht hs hkl
        have nx := ih (k + 1) (by omega) (by omega)
        have hbs : blb (sPGc a l j t s) (k + 1) = if blb (sPGc a l j t s) k = 0 then 0 else if sPGc a l j t s k = 0 then 1 else 0 := rfl
        have hpg : sPGc a l j t s k ≤ 400 := by
          unfold sPGc
          split
          · rename_i h
            have := (vl_nI (hJ.2.2.2.2.2.2.2.2.2.2.2 _ h).1).2
            omega
          · omega
        have hL : ldp (sPGc a l j t s) (wgt a (jN a j 6)) (psz (jN a j 3)) k ≤ 5000 := Nat.le_trans (ldp_le hw k) (by omega)
        rw [q8, if_neg (fun q => by have := (le_nI (by omega) (by omega)).mp q; omega), e1, bd_some]
        rw [ldp_s] at nx
        by_cases z : sPGc a l j t s k = 0
        · rw [z, if_pos (by decide), f4_loadOfPages_b59]
          rw [if_pos z, Nat.add_zero] at nx
          have hb : blb (sPGc a l j t s) (k + 1) = blb (sPGc a l j t s) k := by
            rw [hbs]
            rcases blb_iff (sPGc a l j t s) k with ⟨b1, b2⟩ | ⟨b1, b2⟩
            · rw [b1]; rfl
            · rw [b1, if_neg (by decide), if_pos z]
          rw [hb] at nx
          have : nI k + (1 : Int32) = nI (k + 1) := nI_add _ _
          rw [this]
          exact nx
        · have e2 := x_weightOf (q := sPGc a l j t s k) r2 hok (by omega)
          rw [if_neg z] at nx
          have hb : blb (sPGc a l j t s) (k + 1) = 0 := by
            rw [hbs, if_neg z]
            split <;> rfl
          rw [hb] at nx
          have e5 : nI (wgt a (jN a j 6) (sPGc a l j t s k)) / nI (psz (jN a j 3)) = nI (wgt a (jN a j 6) (sPGc a l j t s k) / psz (jN a j 3)) := div_nI (by have := hw (sPGc a l j t s k); omega) (by omega) (by omega)
          rw [if_neg (show ¬ nI (sPGc a l j t s k) = (0 : Int32) from fun q => z ((eq_nI (b := 0) (by omega) (by omega)).mp q)), q8, if_neg (show ¬ nI (psz (jN a j 3)) ≤ (0 : Int32) from fun q => by have := (le_nI (b := 0) (by omega) (by omega)).mp q; omega), r1, lr_at, oc_some, e2, bd_some, q8, if_neg (show ¬ nI (psz (jN a j 3)) = (0 : Int32) from fun q => by have := (eq_nI (b := 0) (by omega) (by omega)).mp q; omega), lr_at, e5, nI_add, f4_loadOfPages_b59]
          have : nI k + (1 : Int32) = nI (k + 1) := nI_add _ _
          rw [this]
          exact nx
  have := key FU_ 0 (by omega) (by unfold FU_; omega)
  unfold f4_loadOfPages
  exact this
theorem PlV0_sai {g : GS_} {Q B k : Nat} {v : Int32} {a l : Nat → Int32} {j : Nat} (hP : PlV0 g Q a l j) (hA : ∀ A, gfr g 130 Q = some A → A ≠ B) : PlV0 (sai g 20 B k v) Q a l j := by
  obtain ⟨q1, ⟨A, u1, u2, u3⟩, q3⟩ := hP
  refine ⟨q1, ⟨A, u1, u2, fun i hi => ?_⟩, q3⟩
  have := hA A u1
  rw [e_gai_sai, if_neg (by omega)]
  exact u3 i hi
/-- the loads, one after the other -/
theorem x_loadsLoop {Q B : Nat} {a l : Nat → Int32} {j : Nat} (hJ : JobPl a l j) (hok : DocOk a (jN a j 6)) : ∀ (fuel k : Nat) (g : GS_), k ≤ sdz (jN a j 3) (jN a j 2) * sSC a j → sdz (jN a j 3) (jN a j 2) * sSC a j - k < fuel → PlV0 g Q a l j → (∀ A, gfr g 130 Q = some A → A ≠ B) → gfr g 140 Q = some B → gln g 20 B = sdz (jN a j 3) (jN a j 2) * sSC a j →
    ∃ g', f4_init_b234 fuel Q (nI k) g = some ((), g') ∧ gfi g' = gfi g ∧ gfr g' = gfr g ∧ gln g' = gln g ∧ gar g' = gar g ∧ gcn g' = gcn g ∧ ghs g' = ghs g ∧ gsl g' = gsl g ∧ (∀ t i, ¬ (t = 20 ∧ i = B) → gai g' t i = gai g t i) ∧ (∀ i, i < k → gai g' 20 B i = gai g 20 B i) ∧ (∀ t s, t < sSC a j → s < sdz (jN a j 3) (jN a j 2) → k ≤ sdz (jN a j 3) (jN a j 2) * t + s → gai g' 20 B (sdz (jN a j 3) (jN a j 2) * t + s) = cLV a l j t s)
  | 0, k, g, _, h, _, _, _, _ => by omega
  | fuel + 1, k, g, hk, hf, hP, hA, h140, hB => by
    have hsd := sdz_pos (jN a j 3) (jN a j 2)
    obtain ⟨-, -, -, -, -, -, -, c1, c2, -⟩ := Jn hJ
    have hM : sdz (jN a j 3) (jN a j 2) * sSC a j ≤ 800 := by
      have := Nat.mul_le_mul hsd.2 c2
      omega
    obtain ⟨-, ⟨A, u1, -⟩, -, q7, -⟩ := id hP
    have hAB := hA A u1
    by_cases he : k = sdz (jN a j 3) (jN a j 2) * sSC a j
    · refine ⟨g, ?_, rfl, rfl, rfl, rfl, rfl, rfl, rfl, fun _ _ _ => rfl, fun _ _ => rfl, fun t s ht hs hts => ?_⟩
      · rw [f4_init_b234.eq_2, h140, lr_at, oc_some, hB, ofN, if_pos]
        rw [he]
        exact (le_nI (by omega) (by omega)).mpr (Nat.le_refl _)
      · exfalso
        have h1 : sdz (jN a j 3) (jN a j 2) * (t + 1) ≤ sdz (jN a j 3) (jN a j 2) * sSC a j := Nat.mul_le_mul_left _ (by omega)
        rw [Nat.mul_add] at h1
        omega
    · have step : ∀ (t s : Nat), t < sSC a j → s < sdz (jN a j 3) (jN a j 2) → k = sdz (jN a j 3) (jN a j 2) * t + s → f4_init_b234 (fuel + 1) Q (nI k) g = f4_init_b279 (f4_init_b234 fuel) Q (nI k) (some B) (nI k) (cLV a l j t s) g → ∃ g', f4_init_b234 (fuel + 1) Q (nI k) g = some ((), g') ∧ gfi g' = gfi g ∧ gfr g' = gfr g ∧ gln g' = gln g ∧ gar g' = gar g ∧ gcn g' = gcn g ∧ ghs g' = ghs g ∧ gsl g' = gsl g ∧ (∀ t i, ¬ (t = 20 ∧ i = B) → gai g' t i = gai g t i) ∧ (∀ i, i < k → gai g' 20 B i = gai g 20 B i) ∧ (∀ t s, t < sSC a j → s < sdz (jN a j 3) (jN a j 2) → k ≤ sdz (jN a j 3) (jN a j 2) * t + s → gai g' 20 B (sdz (jN a j 3) (jN a j 2) * t + s) = cLV a l j t s) := by
        intro t s ht hs hk2 hgo
        obtain ⟨g', z1, z2, z3, z4, z5, z6, z7, z8, z9, z10, z11⟩ := x_loadsLoop (B := B) hJ hok fuel (k + 1) (sai g 20 B k (cLV a l j t s)) (by omega) (by omega) (PlV0_sai hP hA) hA h140 hB
        refine ⟨g', ?_, z2, z3, z4, z5, z6, z7, z8, fun t' i q => ?_, fun i hi => ?_, fun t' s' ht' hs' hts => ?_⟩
        · rw [hgo, f4_init_b279, oc_some, hB, if_pos ((inb_nI (by omega)).mpr (by omega)), lr_at, ix_nI (by omega)]
          have : nI k + (1 : Int32) = nI (k + 1) := nI_add _ _
          rw [this]
          exact z1
        · rw [z9 t' i q]
          funext x
          rw [e_gai_sai, if_neg (by rintro ⟨w1, w2, -⟩; exact q ⟨w1, w2⟩)]
        · rw [z10 i (by omega), e_gai_sai, if_neg (by omega)]
        · by_cases c : k = sdz (jN a j 3) (jN a j 2) * t' + s'
          · have hts2 : t' = t ∧ s' = s := by
              rcases (show sdz (jN a j 3) (jN a j 2) = 1 ∨ sdz (jN a j 3) (jN a j 2) = 2 by omega) with w | w
              · rw [w] at c hk2 hs hs'
                omega
              · rw [w] at c hk2 hs hs'
                omega
            obtain ⟨rfl, rfl⟩ := hts2
            rw [← c, z10 k (by omega), e_gai_sai, if_pos ⟨rfl, rfl, rfl⟩]
          · exact z11 t' s' ht' hs' (by omega)
      have hlt : k < sdz (jN a j 3) (jN a j 2) * sSC a j := by omega
      have pre : f4_init_b234 (fuel + 1) Q (nI k) g = (if (gfi g 137 Q) = 0 then bd_ (f4_loadOfPages Q (nI k) (0 : Int32) g) fun z7 g6 => f4_init_b279 (f4_init_b234 fuel) Q (nI k) (some B) (nI k) z7 g6 else bd_ (f4_loadOfPages Q (nI k / (2 : Int32)) (jrem (nI k) (2 : Int32)) g) fun z9 g8 => f4_init_b279 (f4_init_b234 fuel) Q (nI k) (some B) (nI k) z9 g8) := by
        rw [f4_init_b234.eq_2, h140, lr_at, oc_some, hB, ofN, if_neg (fun q => by have := (le_nI (by omega) (by omega)).mp q; omega), lr_at]
      rcases (show sdz (jN a j 3) (jN a j 2) = 1 ∨ sdz (jN a j 3) (jN a j 2) = 2 by omega) with w | w
      · have q7' : gfi g 137 Q = (0 : Int32) := by rw [q7]; unfold bi; rw [if_neg (by omega)]
        have e1 := x_loadPages (t := k) (s := 0) hP hJ hok (by rw [w] at hlt; omega) (by omega)
        refine step k 0 (by rw [w] at hlt; omega) (by omega) (by rw [w]; omega) ?_
        rw [pre, q7', if_pos rfl]
        have e1' : f4_loadOfPages Q (nI k) (0 : Int32) g = some (cLV a l j k 0, g) := e1
        rw [e1', bd_some]
      · have q7' : ¬ gfi g 137 Q = (0 : Int32) := by rw [q7]; unfold bi; rw [if_pos (by omega)]; decide
        have hk2 : k / 2 < sSC a j := by rw [w] at hlt; omega
        have e1 := x_loadPages (t := k / 2) (s := k % 2) hP hJ hok hk2 (by omega)
        refine step (k / 2) (k % 2) hk2 (by omega) (by rw [w]; omega) ?_
        rw [pre, if_neg q7']
        have d1 : nI k / (2 : Int32) = nI (k / 2) := div_nI (d := 2) (by omega) (by omega) (by omega)
        have d2 : jrem (nI k) (2 : Int32) = nI (k % 2) := rem_nI (d := 2) (by omega) (by omega) (by omega)
        rw [d1, d2, e1, bd_some]
