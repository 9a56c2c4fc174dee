/-! promote, say, wipe, set, setRules, setQuota -/
theorem XT0_w {g g' : GS_} {S : Nat} {a b l : Nat → Int32} (h : TF S g g') (hT : XT0 g S a l) (h0 : Iv0 a l)
    (hk : ∀ k, (k = 3 ∨ k = 4 ∨ k = 5 ∨ (26 ≤ k ∧ k < 76) ∨ (76 ≤ k ∧ k < 106 ∧ (k - 76) % 10 < 3) ∨ (106 ≤ k ∧ k < 418 ∧ (k - 106) % 13 < 9 ∧ (k - 106) % 13 ≠ 4)) → b k = a k)
    (e1 : ∀ f, f = 257 ∨ f = 259 ∨ f = 261 → gfi g' f S = gfi g f S) (e2 : gfi g' 269 S = b 1 ∧ gfi g' 270 S = b 2 ∧ gfi g' 193 S = b 7)
    (e3 : ∀ k, k < 40 → gai g' 20 (bb S) k = b (418 + k)) (e4 : ∀ u, u < 6 → gai g' 20 (bb S + 1) u = b (8 + u) ∧ gai g' 20 (bb S + 2) u = b (14 + u))
    (e5 : ∀ j J, j < tn (a 4) → gar g 23 S j = some J → gfi g 34 J = a (106 + 13 * j + 4) → gfi g' 34 J = b (106 + 13 * j + 4))
    (e6 : ∀ f i, 160 ≤ f → f < 163 → gfi g' f i = gfi g f i) : XT0 g' S b l := by
  have h3 := Iv0_d h0
  have h4 := Iv0_j h0
  have h5 := Iv0_p h0
  obtain ⟨⟨t1, t1', t1'', -⟩, -, -, t4, t5, t6⟩ := hT
  unfold XT0
  rw [hk 3 (by omega), hk 4 (by omega), hk 5 (by omega), e1 257 (by omega), e1 259 (by omega), e1 261 (by omega)]
  refine ⟨⟨t1, t1', t1'', e2⟩, e3, e4, fun d hd => ?_, fun j hj => ?_, fun p hp => ?_⟩
  · obtain ⟨D, q1, q2⟩ := t4 d hd
    obtain ⟨r1, r2⟩ := DocV_TF h q2
    refine ⟨D, by rw [h.1.2.2.1]; exact q1, r1, fun w hw => ?_⟩
    rw [hk _ (by omega)]
    exact r2 w hw
  · obtain ⟨J, Q, q1, q2, q3, q4⟩ := t5 j hj
    exact ⟨J, Q, by rw [h.1.2.2.1]; exact q1, by rw [h.1.1]; exact q2, PlV_keys (by omega) (Iv0_dj h0 hj).2 (fun k hk' => hk k (by omega)) (PlV_TF h q3), e5 j J hj q1 q4⟩
  · rw [e6 _ _ (by omega) (by omega), e6 _ _ (by omega) (by omega), e6 _ _ (by omega) (by omega), hk _ (by omega), hk _ (by omega), hk _ (by omega)]
    exact t6 p hp
theorem Rel_XT {gX gX' gM gM' : GS_} {n : Nat} (h : Rel gX gM n) {F : List Nat} (hS : SpO gX 0 (gai gM 20 0) (gai gM 20 2) F) (ht : TF 0 gX gX') (hK : KS gM gM') (h2 : gai gM' 20 2 = gai gM 20 2) (hf : gfi gM' 341 0 = gfi gM 341 0) (hT : XT0 gX' 0 (gai gM' 20 0) (gai gM 20 2)) (hD : XD gX' 0 (gai gM' 20 0) F) (hPI : PI (gai gM 20 2) (gai gM' 20 0, F) (3000 * n)) (hE : IvE (gai gM' 20 0)) : Rel gX' gM' (n + 1) := by
  have hXS := XS_TF ht h.1
  refine Rel_step h (TF_GF ht) hXS hK ?_ ?_
  · rw [h2]
    exact ⟨F, ⟨⟨by omega, XJ_XS hXS (by omega)⟩, hXS.2.1 0 (by omega), hPI.1, hT, hD⟩, PI_mono hPI (by omega), hE⟩
  · obtain ⟨-, -, -, -, c, k1, k2⟩ := h
    exact ⟨c, hf.trans k1, by omega⟩
theorem TF_sfi {g : GS_} {S f i : Nat} {v : Int32} (h : oF g S f i) : TF S g (sfi g f i v) := by
  refine ⟨⟨rfl, rfl, rfl, rfl, rfl, rfl⟩, fun f' i' q => ?_, fun _ _ => rfl⟩
  rw [e_gfi_sfi, if_neg]
  rintro ⟨rfl, rfl⟩
  exact q h
theorem TF_sai {g : GS_} {S c k : Nat} {v : Int32} (h2 : c < 9) : TF S g (sai g 20 (bb S + c) k v) := by
  refine ⟨⟨rfl, rfl, rfl, rfl, rfl, rfl⟩, fun _ _ _ => rfl, fun i q => ?_⟩
  funext j
  rw [e_gai_sai, if_neg (by omega)]
theorem XT0_parts {g : GS_} {S : Nat} {a l : Nat → Int32} (hT : XT0 g S a l) : (gfi g 269 S = a 1 ∧ gfi g 270 S = a 2 ∧ gfi g 193 S = a 7) ∧ (∀ k, k < 40 → gai g 20 (bb S) k = a (418 + k)) ∧ ∀ u, u < 6 → gai g 20 (bb S + 1) u = a (8 + u) ∧ gai g 20 (bb S + 2) u = a (14 + u) := ⟨hT.1.2.2.2, hT.2.1, hT.2.2.1⟩
theorem PI_same {l : Nat → Int32} {a : Nat → Int32} {k : Nat} {v : Int32} {F : List Nat} {n : Nat} (hk : k = 2 ∨ (7 ≤ k ∧ k < 26) ∨ 418 ≤ k) (hP : PI l (a, F) n) : PI l (up a k v, F) n := PI_keys (fun q hq => up_ne (by omega)) hP
theorem PI_mk {l a : Nat → Int32} {F : List Nat} {n : Nat} (h1 : Iv0 a l) (h2 : Ivd a) (h3 : DN a F) (h4 : Lg a n) : PI l (a, F) n := ⟨h1, h2, h3, h4⟩
theorem PI_el {l a : Nat → Int32} {F : List Nat} {n : Nat} (h : PI l (a, F) n) : Iv0 a l ∧ Ivd a ∧ DN a F ∧ Lg a n := h
theorem op_promote (j v : Int32) : Op (f9_promote 0 j v) (f10_promote 0 j v) := by
  intro gX gM n hn h
  obtain ⟨F, r0, r1, hX, hS, hP, hE, hM, ⟨d1, d2, d3⟩, ⟨j1, j2, j3⟩, ⟨p1, p2, p3⟩⟩ := ctx h
  have e1 := x_jobAt hX j1 j3 j
  have e2 := m_isJob hM j2 (by omega) j
  by_cases hj : vl j (tn (gai gM 20 0 4))
  · obtain ⟨k, rfl, hk⟩ := vl_ex hj
    obtain ⟨J, Q, w1, w2, w3, w4⟩ := hS.2.2.2.1.2.2.2.2.1 k hk
    rw [if_pos hj, tn_nI (by omega), w1] at e1
    have hj' := eq_true hj
    have k24 : k < 24 := by omega
    have x35 := (hS.2.2.2.2.1 k J hk w1).1
    have hSt := hP.2.1.1 k hk
    obtain ⟨s, hs, hsl⟩ := jst_lt hSt
    have hs' := hs
    dsimp only at hs'
    rw [hs'] at x35
    by_cases hv : nI 0 ≤ v ∧ v ≤ nI 9
    · rcases (show s = 3 ∨ s = 4 ∨ s = 0 ∨ s = 1 ∨ s = 2 by omega) with rfl | rfl | hs3
      · refine op_fin h ?_ ?_ (r := -nI 5)
        · simp (disch := first | with_reducible assumption | omega | (simp only [MI_sai_iff, MI_sfi_iff]; with_reducible assumption)) only [li, ↓lr_, ↓bd_m, ↓oc_m, ↓reduceIte, bi_0, bi_0n, bi_1, bi_1n, not_true_eq_false, not_false_eq_true, Nat.reduceAdd, Nat.reduceMul, nI_mul, nI_add, inb_T, ix_nI, le_T, le_F, lt_T, lt_F, eq_F, and_self, and_true, true_and, false_and, and_false, or_true, true_or, or_false, false_or, bi_eq, x_within, m_in, f9_promote, r0, e1, eq_true hv, f1_isOver, x35, f1_isOver_b16]
        · simp (disch := first | with_reducible assumption | omega | (simp only [MI_sai_iff, MI_sfi_iff]; with_reducible assumption)) only [li, ↓lr_, ↓bd_m, ↓oc_m, ↓reduceIte, bi_0, bi_0n, bi_1, bi_1n, not_true_eq_false, not_false_eq_true, Nat.reduceAdd, Nat.reduceMul, nI_mul, nI_add, inb_T, ix_nI, le_T, le_F, lt_T, lt_F, eq_F, and_self, and_true, true_and, false_and, and_false, or_true, true_or, or_false, false_or, bi_eq, x_within, m_in, f10_promote, e2, hj', eq_true hv, f10_isOver, f10_isOver_b22, m_ofJob, hs']
      · refine op_fin h ?_ ?_ (r := -nI 5)
        · simp (disch := first | with_reducible assumption | omega | (simp only [MI_sai_iff, MI_sfi_iff]; with_reducible assumption)) only [li, ↓lr_, ↓bd_m, ↓oc_m, ↓reduceIte, bi_0, bi_0n, bi_1, bi_1n, not_true_eq_false, not_false_eq_true, Nat.reduceAdd, Nat.reduceMul, nI_mul, nI_add, inb_T, ix_nI, le_T, le_F, lt_T, lt_F, eq_F, and_self, and_true, true_and, false_and, and_false, or_true, true_or, or_false, false_or, bi_eq, x_within, m_in, f9_promote, r0, e1, eq_true hv, f1_isOver, x35, f1_isOver_b16]
        · simp (disch := first | with_reducible assumption | omega | (simp only [MI_sai_iff, MI_sfi_iff]; with_reducible assumption)) only [li, ↓lr_, ↓bd_m, ↓oc_m, ↓reduceIte, bi_0, bi_0n, bi_1, bi_1n, not_true_eq_false, not_false_eq_true, Nat.reduceAdd, Nat.reduceMul, nI_mul, nI_add, inb_T, ix_nI, le_T, le_F, lt_T, lt_F, eq_F, and_self, and_true, true_and, false_and, and_false, or_true, true_or, or_false, false_or, bi_eq, x_within, m_in, f10_promote, e2, hj', eq_true hv, f10_isOver, f10_isOver_b22, m_ofJob, hs']
      · have h4 := Iv0_j hS.2.2.1
        have h5 := Iv0_p hS.2.2.1
        obtain ⟨v', -, v9, rfl⟩ := (in_ex (by omega) (by omega)).mp hv
        have hR : Rel (sfi gX 34 J (nI v')) (sai gM 20 0 (106 + 13 * k + 4) (nI v')) (n + 1) := by
          have ht : TF 0 gX (sfi gX 34 J (nI v')) := TF_sfi (Or.inl ⟨by omega, by omega, k, k24, w1⟩)
          obtain ⟨q1, q2, q3⟩ := XT0_parts hS.2.2.2.1
          have ek : ∀ q, q ≠ 106 + 13 * k + 4 → up (gai gM 20 0) (106 + 13 * k + 4) (nI v') q = gai gM 20 0 q := fun q hq => up_ne hq
          refine Rel_XT h hS ht KS_sai sai_l rfl ?_ ?_ ?_ ?_
          · rw [up_sai]
            refine XT0_w ht hS.2.2.2.1 hS.2.2.1 (fun q hq => ek q (by omega)) (fun f hf => by rw [e_gfi_sfi, if_neg (by omega)]) ?_ (fun q hq => ?_) (fun u hu => ?_) (fun i I hi hI q4 => ?_) (fun f i h1 h2 => by rw [e_gfi_sfi, if_neg (by omega)])
            · rw [e_gfi_sfi, if_neg (by omega), e_gfi_sfi, if_neg (by omega), e_gfi_sfi, if_neg (by omega), ek _ (by omega), ek _ (by omega), ek _ (by omega)]
              exact q1
            · rw [ek _ (by omega)]
              exact q2 q hq
            · rw [ek _ (by omega), ek _ (by omega)]
              exact q3 u hu
            · rw [e_gfi_sfi]
              by_cases c : I = J
              · subst c
                have := (hS.1.2 k I k24 w1).2 i (by omega) hI
                subst this
                rw [if_pos ⟨rfl, rfl⟩, up_eq rfl]
              · rw [if_neg (by omega)]
                have : i ≠ k := by
                  rintro rfl
                  exact c (Option.some.inj (hI.symm.trans w1))
                rw [ek _ (by omega)]
                exact q4
          · rw [up_sai]
            refine XD_keys h4 h5 (fun q hq => ek q (by omega)) (XD_frame (g := gX) rfl (fun f i hf => ?_) (fun c _ _ => rfl) h5 hS.2.2.2.2)
            rw [e_gfi_sfi, if_neg (by omega)]
          · rw [up_sai]
            obtain ⟨i1, i2, i3, i4⟩ := PI_el hP
            refine PI_mk (Iv0_keys (fun q hq => ek q (by omega)) i1) ?_ (DN_same (ek _ (by omega)) (fun x hx => ek _ (by omega)) i3) (Lg_eq i4 (ek _ (by omega)))
            refine Ivd_job h4 h5 (j := k) (fun q hq => ek q (by omega)) (fun _ => ?_) (fun p _ _ _ q => by rw [ek _ (by omega)]; exact q) i2
            obtain ⟨y1, y2, y3, y4, y5⟩ := i2.1 k hk
            have es : sSH (up (gai gM 20 0) (106 + 13 * k + 4) (nI v')) k = sSH (gai gM 20 0) k := sSH_eq (fun w hw hne => ek _ (by omega))
            unfold JobSt jN at *
            rw [es, up_eq rfl, ek (106 + 13 * k + 9) (by omega), ek (106 + 13 * k + 10) (by omega), ek (106 + 13 * k + 12) (by omega)]
            exact ⟨vl_of (by omega) (by omega), y2, y3, y4, y5⟩
          · rw [up_sai]
            exact IvE_keys (fun q _ _ => ek q (by omega)) hE
        have hn3 : (nI s = nI 3) = False := nI_ne (by omega) (by omega) (by omega)
        have hn4 : (nI s = nI 4) = False := nI_ne (by omega) (by omega) (by omega)
        refine op_wr (r := gai gM 20 0 (106 + 13 * k + 4)) hR ?_ ?_ rfl rfl rfl rfl
        · simp (disch := first | with_reducible assumption | omega | (simp only [MI_sai_iff, MI_sfi_iff]; with_reducible assumption)) only [li, ↓lr_, ↓bd_m, ↓oc_m, ↓reduceIte, bi_0, bi_0n, bi_1, bi_1n, not_true_eq_false, not_false_eq_true, Nat.reduceAdd, Nat.reduceMul, nI_mul, nI_add, inb_T, ix_nI, le_T, le_F, lt_T, lt_F, eq_F, and_self, and_true, true_and, false_and, and_false, or_true, true_or, or_false, false_or, bi_eq, x_within, m_in, f9_promote, r0, e1, eq_true hv, f1_isOver, x35, hn3, hn4, w4]
        · simp (disch := first | with_reducible assumption | omega | (simp only [MI_sai_iff, MI_sfi_iff]; with_reducible assumption)) only [li, ↓lr_, ↓bd_m, ↓oc_m, ↓reduceIte, bi_0, bi_0n, bi_1, bi_1n, not_true_eq_false, not_false_eq_true, Nat.reduceAdd, Nat.reduceMul, nI_mul, nI_add, inb_T, ix_nI, le_T, le_F, lt_T, lt_F, eq_F, and_self, and_true, true_and, false_and, and_false, or_true, true_or, or_false, false_or, bi_eq, x_within, m_in, f10_promote, e2, hj', eq_true hv, f10_isOver, m_ofJob, hs', hn3, hn4, m_setJob]
    · refine op_fin h ?_ ?_ (r := -nI 2)
      · simp (disch := first | with_reducible assumption | omega | (simp only [MI_sai_iff, MI_sfi_iff]; with_reducible assumption)) only [li, ↓lr_, ↓bd_m, ↓oc_m, ↓reduceIte, bi_0, bi_0n, bi_1, bi_1n, not_true_eq_false, not_false_eq_true, Nat.reduceAdd, Nat.reduceMul, nI_mul, nI_add, inb_T, ix_nI, le_T, le_F, lt_T, lt_F, eq_F, and_self, and_true, true_and, false_and, and_false, or_true, true_or, or_false, false_or, bi_eq, x_within, m_in, f9_promote, r0, e1, eq_false hv]
      · simp (disch := first | with_reducible assumption | omega | (simp only [MI_sai_iff, MI_sfi_iff]; with_reducible assumption)) only [li, ↓lr_, ↓bd_m, ↓oc_m, ↓reduceIte, bi_0, bi_0n, bi_1, bi_1n, not_true_eq_false, not_false_eq_true, Nat.reduceAdd, Nat.reduceMul, nI_mul, nI_add, inb_T, ix_nI, le_T, le_F, lt_T, lt_F, eq_F, and_self, and_true, true_and, false_and, and_false, or_true, true_or, or_false, false_or, bi_eq, x_within, m_in, f10_promote, e2, hj', eq_false hv]
  · rw [if_neg hj] at e1
    refine op_fin h ?_ ?_ (r := -nI 1)
    · simp (disch := first | with_reducible assumption | omega | (simp only [MI_sai_iff, MI_sfi_iff]; with_reducible assumption)) only [li, ↓lr_, ↓bd_m, ↓oc_m, ↓reduceIte, bi_0, bi_0n, bi_1, bi_1n, not_true_eq_false, not_false_eq_true, Nat.reduceAdd, Nat.reduceMul, nI_mul, nI_add, inb_T, ix_nI, le_T, le_F, lt_T, lt_F, eq_F, and_self, and_true, true_and, false_and, and_false, or_true, true_or, or_false, false_or, bi_eq, x_within, m_in, f9_promote, r0, e1]
    · simp (disch := first | with_reducible assumption | omega | (simp only [MI_sai_iff, MI_sfi_iff]; with_reducible assumption)) only [li, ↓lr_, ↓bd_m, ↓oc_m, ↓reduceIte, bi_0, bi_0n, bi_1, bi_1n, not_true_eq_false, not_false_eq_true, Nat.reduceAdd, Nat.reduceMul, nI_mul, nI_add, inb_T, ix_nI, le_T, le_F, lt_T, lt_F, eq_F, and_self, and_true, true_and, false_and, and_false, or_true, true_or, or_false, false_or, bi_eq, x_within, m_in, f10_promote, e2, eq_false hj]
theorem op_say (v : Int32) : Op (f9_say 0 v) (f10_say 0 v) := by
  intro gX gM n hn h
  obtain ⟨F, r0, r1, hX, hS, hP, hE, hM, ⟨d1, d2, d3⟩, ⟨j1, j2, j3⟩, ⟨p1, p2, p3⟩⟩ := ctx h
  have h4 := Iv0_j hS.2.2.1
  have h5 := Iv0_p hS.2.2.1
  obtain ⟨s1, s2, s3, s4, s5, s6, s7, s8, s9, s10, s11, s12, s13, s14, s15, s16, s17, s18, s19, s20, s21⟩ := id hX
  obtain ⟨q1, q2, q3⟩ := XT0_parts hS.2.2.2.1
  obtain ⟨m, hm, hml⟩ := vl_ex hE.1
  have n193 : gfi gX 193 0 = nI m := q1.2.2.trans hm
  by_cases hv : nI 33 ≤ v ∧ v ≤ nI 126
  · by_cases hm40 : m = 40
    · subst hm40
      refine op_fin h ?_ ?_ (r := -nI 4)
      · simp (disch := first | with_reducible assumption | omega | (simp only [MI_sai_iff, MI_sfi_iff]; with_reducible assumption)) only [li, ↓lr_, ↓bd_m, ↓oc_m, ↓reduceIte, bi_0, bi_0n, bi_1, bi_1n, not_true_eq_false, not_false_eq_true, Nat.reduceAdd, Nat.reduceMul, nI_mul, nI_add, inb_T, ix_nI, le_T, le_F, lt_T, lt_F, eq_F, and_self, and_true, true_and, false_and, and_false, or_true, true_or, or_false, false_or, bi_eq, x_within, m_in, f9_say, eq_true hv, r0, s7, f6_append, n193, s8, s9, ofN]
      · simp (disch := first | with_reducible assumption | omega | (simp only [MI_sai_iff, MI_sfi_iff]; with_reducible assumption)) only [li, ↓lr_, ↓bd_m, ↓oc_m, ↓reduceIte, bi_0, bi_0n, bi_1, bi_1n, not_true_eq_false, not_false_eq_true, Nat.reduceAdd, Nat.reduceMul, nI_mul, nI_add, inb_T, ix_nI, le_T, le_F, lt_T, lt_F, eq_F, and_self, and_true, true_and, false_and, and_false, or_true, true_or, or_false, false_or, bi_eq, x_within, m_in, f10_say, eq_true hv, MI_a hM, MI_n hM, hm]
    · have hm2 : m < 40 := by omega
      have hR : Rel (sfi (sai gX 20 (bb 0 + 0) m v) 193 0 (nI (m + 1))) (sai (sai gM 20 0 (418 + m) v) 20 0 7 (nI (m + 1))) (n + 1) := by
        have ht : TF 0 gX (sfi (sai gX 20 (bb 0 + 0) m v) 193 0 (nI (m + 1))) := by
          have t1 : TF 0 gX (sai gX 20 (bb 0 + 0) m v) := TF_sai (by omega)
          have t2 : TF 0 (sai gX 20 (bb 0 + 0) m v) (sfi (sai gX 20 (bb 0 + 0) m v) 193 0 (nI (m + 1))) := TF_sfi (Or.inr (Or.inr ⟨by omega, rfl⟩))
          refine ⟨NR_tr t1.1 t2.1, fun f i q => ?_, fun i q => (t2.2.2 i q).trans (t1.2.2 i q)⟩
          exact (t2.2.1 f i q).trans (t1.2.1 f i q)
        have ek : ∀ q, q ≠ 7 → q ≠ 418 + m → up (up (gai gM 20 0) (418 + m) v) 7 (nI (m + 1)) q = gai gM 20 0 q := fun q h1 h2 => by rw [up_ne h1, up_ne h2]
        refine Rel_XT h hS ht (KS_tr KS_sai KS_sai) (sai_l.trans sai_l) rfl ?_ ?_ ?_ ?_
        · rw [up_sai, up_sai]
          refine XT0_w ht hS.2.2.2.1 hS.2.2.1 (fun q hq => ek q (by omega) (by omega)) (fun f hf => by rw [e_gfi_sfi, if_neg (by omega)]; rfl) ?_ (fun q hq => ?_) (fun u hu => ?_) (fun i I hi hI q4 => ?_) (fun f i h1 h2 => by rw [e_gfi_sfi, if_neg (by omega)]; rfl)
          · rw [e_gfi_sfi, if_neg (by omega), e_gfi_sfi, if_neg (by omega), e_gfi_sfi, if_pos ⟨rfl, rfl⟩, ek _ (by omega) (by omega), ek _ (by omega) (by omega), up_eq rfl]
            exact ⟨q1.1, q1.2.1, rfl⟩
          · rw [e_gai_sfi, e_gai_sai, up_ne (by omega)]
            by_cases c : q = m
            · subst c
              rw [if_pos ⟨rfl, rfl, rfl⟩, up_eq rfl]
            · rw [if_neg (by omega), up_ne (by omega)]
              exact q2 q hq
          · rw [ek _ (by omega) (by omega), ek _ (by omega) (by omega), e_gai_sfi, e_gai_sai, e_gai_sai, if_neg (by omega), if_neg (by omega)]
            exact q3 u hu
          · rw [e_gfi_sfi, if_neg (by omega), ek _ (by omega) (by omega)]
            exact q4
        · rw [up_sai, up_sai]
          refine XD_keys h4 h5 (fun q hq => ek q (by omega) (by omega)) (XD_frame (g := gX) rfl (fun f i hf => ?_) (fun c hc _ => ?_) h5 hS.2.2.2.2)
          · rw [e_gfi_sfi, if_neg (by omega)]
            rfl
          · funext i
            rw [e_gai_sfi, e_gai_sai, if_neg (by omega)]
        · rw [up_sai, up_sai]
          exact PI_same (by omega) (PI_same (by omega) hP)
        · rw [up_sai, up_sai]
          have := hE
          unfold IvE at this ⊢
          rw [up_eq rfl, ek _ (by omega) (by omega), ek _ (by omega) (by omega), ek _ (by omega) (by omega), ek _ (by omega) (by omega), ek _ (by omega) (by omega), ek _ (by omega) (by omega)]
          exact ⟨vl_of (by omega) (by omega), this.2⟩
      refine op_wr (r := nI (m + 1)) hR ?_ ?_ rfl rfl rfl rfl
      · have b0 : bb 0 = bb 0 + 0 := rfl
        rw [b0] at s8 s9
        generalize bb 0 + 0 = B at *
        simp (disch := first | with_reducible assumption | omega | (simp only [MI_sai_iff, MI_sfi_iff]; with_reducible assumption)) only [li, ↓lr_, ↓bd_m, ↓oc_m, ↓reduceIte, bi_0, bi_0n, bi_1, bi_1n, not_true_eq_false, not_false_eq_true, Nat.reduceAdd, Nat.reduceMul, nI_mul, nI_add, inb_T, ix_nI, le_T, le_F, lt_T, lt_F, eq_F, and_self, and_true, true_and, false_and, and_false, or_true, true_or, or_false, false_or, bi_eq, x_within, m_in, f9_say, eq_true hv, r0, s7, f6_append, n193, s8, s9, ofN, e_gfi_sfi, e_gfi_sai, e_gfr_sfi, e_gfr_sai]
      · simp (disch := first | with_reducible assumption | omega | (simp only [MI_sai_iff, MI_sfi_iff]; with_reducible assumption)) only [li, ↓lr_, ↓bd_m, ↓oc_m, ↓reduceIte, bi_0, bi_0n, bi_1, bi_1n, not_true_eq_false, not_false_eq_true, Nat.reduceAdd, Nat.reduceMul, nI_mul, nI_add, inb_T, ix_nI, le_T, le_F, lt_T, lt_F, eq_F, and_self, and_true, true_and, false_and, and_false, or_true, true_or, or_false, false_or, bi_eq, x_within, m_in, f10_say, eq_true hv, MI_a hM, MI_n hM, hm, e_gfr_sai, e_gln_sai, e_gai_sai, show ¬ (7 = 418 + m) by omega]
  · refine op_fin h ?_ ?_ (r := -nI 2)
    · simp (disch := first | with_reducible assumption | omega | (simp only [MI_sai_iff, MI_sfi_iff]; with_reducible assumption)) only [li, ↓lr_, ↓bd_m, ↓oc_m, ↓reduceIte, bi_0, bi_0n, bi_1, bi_1n, not_true_eq_false, not_false_eq_true, Nat.reduceAdd, Nat.reduceMul, nI_mul, nI_add, inb_T, ix_nI, le_T, le_F, lt_T, lt_F, eq_F, and_self, and_true, true_and, false_and, and_false, or_true, true_or, or_false, false_or, bi_eq, x_within, m_in, f9_say, eq_false hv]
    · simp (disch := first | with_reducible assumption | omega | (simp only [MI_sai_iff, MI_sfi_iff]; with_reducible assumption)) only [li, ↓lr_, ↓bd_m, ↓oc_m, ↓reduceIte, bi_0, bi_0n, bi_1, bi_1n, not_true_eq_false, not_false_eq_true, Nat.reduceAdd, Nat.reduceMul, nI_mul, nI_add, inb_T, ix_nI, le_T, le_F, lt_T, lt_F, eq_F, and_self, and_true, true_and, false_and, and_false, or_true, true_or, or_false, false_or, bi_eq, x_within, m_in, f10_say, eq_false hv]
theorem op_wipe : Op (f9_wipe 0) (f10_wipe 0) := by
  intro gX gM n hn h
  obtain ⟨F, r0, r1, hX, hS, hP, hE, hM, ⟨d1, d2, d3⟩, ⟨j1, j2, j3⟩, ⟨p1, p2, p3⟩⟩ := ctx h
  have h4 := Iv0_j hS.2.2.1
  have h5 := Iv0_p hS.2.2.1
  obtain ⟨s1, s2, s3, s4, s5, s6, s7, s8, s9, s10, s11, s12, s13, s14, s15, s16, s17, s18, s19, s20, s21⟩ := id hX
  obtain ⟨q1, q2, q3⟩ := XT0_parts hS.2.2.2.1
  have hR : Rel (sfi gX 193 0 (nI 0)) (sai gM 20 0 7 (nI 0)) (n + 1) := by
    have ht : TF 0 gX (sfi gX 193 0 (nI 0)) := TF_sfi (Or.inr (Or.inr ⟨by omega, rfl⟩))
    have ek : ∀ q, q ≠ 7 → up (gai gM 20 0) 7 (nI 0) q = gai gM 20 0 q := fun q h1 => up_ne h1
    refine Rel_XT h hS ht KS_sai sai_l rfl ?_ ?_ ?_ ?_
    · rw [up_sai]
      refine XT0_w ht hS.2.2.2.1 hS.2.2.1 (fun q hq => ek q (by omega)) (fun f hf => by rw [e_gfi_sfi, if_neg (by omega)]) ?_ (fun q hq => ?_) (fun u hu => ?_) (fun i I hi hI q4 => ?_) (fun f i h1 h2 => by rw [e_gfi_sfi, if_neg (by omega)])
      · rw [e_gfi_sfi, if_neg (by omega), e_gfi_sfi, if_neg (by omega), e_gfi_sfi, if_pos ⟨rfl, rfl⟩, ek _ (by omega), ek _ (by omega), up_eq rfl]
        exact ⟨q1.1, q1.2.1, rfl⟩
      · rw [ek _ (by omega)]
        exact q2 q hq
      · rw [ek _ (by omega), ek _ (by omega)]
        exact q3 u hu
      · rw [e_gfi_sfi, if_neg (by omega), ek _ (by omega)]
        exact q4
    · rw [up_sai]
      refine XD_keys h4 h5 (fun q hq => ek q (by omega)) (XD_frame (g := gX) rfl (fun f i hf => ?_) (fun c hc _ => rfl) h5 hS.2.2.2.2)
      rw [e_gfi_sfi, if_neg (by omega)]
    · rw [up_sai]
      exact PI_same (by omega) hP
    · rw [up_sai]
      have := hE
      unfold IvE at this ⊢
      rw [up_eq rfl, ek _ (by omega), ek _ (by omega), ek _ (by omega), ek _ (by omega), ek _ (by omega), ek _ (by omega)]
      exact ⟨vl_of (by omega) (by omega), this.2⟩
  refine op_wr (r := gai gM 20 0 7) hR ?_ ?_ rfl rfl rfl rfl
  · simp (disch := first | with_reducible assumption | omega | (simp only [MI_sai_iff, MI_sfi_iff]; with_reducible assumption)) only [li, ↓lr_, ↓bd_m, ↓oc_m, ↓reduceIte, bi_0, bi_0n, bi_1, bi_1n, not_true_eq_false, not_false_eq_true, Nat.reduceAdd, Nat.reduceMul, nI_mul, nI_add, inb_T, ix_nI, le_T, le_F, lt_T, lt_F, eq_F, and_self, and_true, true_and, false_and, and_false, or_true, true_or, or_false, false_or, bi_eq, x_within, m_in, f9_wipe, r0, s7, q1.2.2]
  · simp (disch := first | with_reducible assumption | omega | (simp only [MI_sai_iff, MI_sfi_iff]; with_reducible assumption)) only [li, ↓lr_, ↓bd_m, ↓oc_m, ↓reduceIte, bi_0, bi_0n, bi_1, bi_1n, not_true_eq_false, not_false_eq_true, Nat.reduceAdd, Nat.reduceMul, nI_mul, nI_add, inb_T, ix_nI, le_T, le_F, lt_T, lt_F, eq_F, and_self, and_true, true_and, false_and, and_false, or_true, true_or, or_false, false_or, bi_eq, x_within, m_in, f10_wipe, MI_a hM, MI_n hM]
theorem op_setQuota (u v : Int32) : Op (f9_setQuota 0 u v) (f10_setQuota 0 u v) := by
  intro gX gM n hn h
  obtain ⟨F, r0, r1, hX, hS, hP, hE, hM, ⟨d1, d2, d3⟩, ⟨j1, j2, j3⟩, ⟨p1, p2, p3⟩⟩ := ctx h
  have h4 := Iv0_j hS.2.2.1
  have h5 := Iv0_p hS.2.2.1
  obtain ⟨s1, s2, s3, s4, s5, s6, s7, s8, s9, s10, s11, s12, s13, s14, s15, s16, s17, s18, s19, s20, s21⟩ := id hX
  obtain ⟨q1, q2, q3⟩ := XT0_parts hS.2.2.2.1
  have e0 : (nI 0 ≤ u ∧ u ≤ nI 5) = vl u 6 := propext (in_lit (k := 5) (by omega) u)
  by_cases hu : vl u 6
  · obtain ⟨k, rfl, hk⟩ := vl_ex hu
    have hu' : nI 0 ≤ nI k ∧ nI k ≤ nI 5 := by rw [e0]; exact hu
    by_cases hv : nI 0 ≤ v ∧ v ≤ nI 10000
    · have hR : Rel (sai gX 20 (bb 0 + 2) k v) (sai gM 20 0 (14 + k) v) (n + 1) := by
        have ht : TF 0 gX (sai gX 20 (bb 0 + 2) k v) := TF_sai (by omega)
        have ek : ∀ q, q ≠ 14 + k → up (gai gM 20 0) (14 + k) v q = gai gM 20 0 q := fun q h1 => up_ne h1
        refine Rel_XT h hS ht KS_sai sai_l rfl ?_ ?_ ?_ ?_
        · rw [up_sai]
          refine XT0_w ht hS.2.2.2.1 hS.2.2.1 (fun q hq => ek q (by omega)) (fun f hf => rfl) ?_ (fun q hq => ?_) (fun w hw => ?_) (fun i I hi hI q4 => ?_) (fun f i h1 h2 => rfl)
          · rw [ek _ (by omega), ek _ (by omega), ek _ (by omega)]
            exact q1
          · rw [ek _ (by omega), e_gai_sai, if_neg (by omega)]
            exact q2 q hq
          · rw [ek _ (by omega), e_gai_sai, if_neg (by omega), e_gai_sai]
            refine ⟨(q3 w hw).1, ?_⟩
            by_cases c : w = k
            · subst c
              rw [if_pos ⟨rfl, rfl, rfl⟩, up_eq rfl]
            · rw [if_neg (by omega), ek _ (by omega)]
              exact (q3 w hw).2
          · rw [ek _ (by omega)]
            exact q4
        · rw [up_sai]
          refine XD_keys h4 h5 (fun q hq => ek q (by omega)) (XD_frame (g := gX) rfl (fun f i hf => rfl) (fun c hc _ => ?_) h5 hS.2.2.2.2)
          funext i
          rw [e_gai_sai, if_neg (by omega)]
        · rw [up_sai]
          exact PI_same (by omega) hP
        · rw [up_sai]
          exact IvE_keys (fun q _ _ => ek q (by omega)) hE
      have e1 := x_quotaOf hX hk
      rw [(q3 k hk).2] at e1
      refine op_wr (r := gai gM 20 0 (14 + k)) hR ?_ ?_ rfl rfl rfl rfl
      · simp (disch := first | with_reducible assumption | omega | (simp only [MI_sai_iff, MI_sfi_iff]; with_reducible assumption)) only [li, ↓lr_, ↓bd_m, ↓oc_m, ↓reduceIte, bi_0, bi_0n, bi_1, bi_1n, not_true_eq_false, not_false_eq_true, Nat.reduceAdd, Nat.reduceMul, nI_mul, nI_add, inb_T, ix_nI, le_T, le_F, lt_T, lt_F, eq_F, and_self, and_true, true_and, false_and, and_false, or_true, true_or, or_false, false_or, bi_eq, x_within, m_in, f9_setQuota, eq_true hu', eq_true hv, r0, e1, f8_changeQuota, s12, s13, ofN]
      · simp (disch := first | with_reducible assumption | omega | (simp only [MI_sai_iff, MI_sfi_iff]; with_reducible assumption)) only [li, ↓lr_, ↓bd_m, ↓oc_m, ↓reduceIte, bi_0, bi_0n, bi_1, bi_1n, not_true_eq_false, not_false_eq_true, Nat.reduceAdd, Nat.reduceMul, nI_mul, nI_add, inb_T, ix_nI, le_T, le_F, lt_T, lt_F, eq_F, and_self, and_true, true_and, false_and, and_false, or_true, true_or, or_false, false_or, bi_eq, x_within, m_in, f10_setQuota, m_isUser, eq_true hu, eq_true hv, MI_a hM, MI_n hM]
    · refine op_fin h ?_ ?_ (r := -nI 2)
      · simp (disch := first | with_reducible assumption | omega | (simp only [MI_sai_iff, MI_sfi_iff]; with_reducible assumption)) only [li, ↓lr_, ↓bd_m, ↓oc_m, ↓reduceIte, bi_0, bi_0n, bi_1, bi_1n, not_true_eq_false, not_false_eq_true, Nat.reduceAdd, Nat.reduceMul, nI_mul, nI_add, inb_T, ix_nI, le_T, le_F, lt_T, lt_F, eq_F, and_self, and_true, true_and, false_and, and_false, or_true, true_or, or_false, false_or, bi_eq, x_within, m_in, f9_setQuota, e0, eq_true hu, eq_false hv]
      · simp (disch := first | with_reducible assumption | omega | (simp only [MI_sai_iff, MI_sfi_iff]; with_reducible assumption)) only [li, ↓lr_, ↓bd_m, ↓oc_m, ↓reduceIte, bi_0, bi_0n, bi_1, bi_1n, not_true_eq_false, not_false_eq_true, Nat.reduceAdd, Nat.reduceMul, nI_mul, nI_add, inb_T, ix_nI, le_T, le_F, lt_T, lt_F, eq_F, and_self, and_true, true_and, false_and, and_false, or_true, true_or, or_false, false_or, bi_eq, x_within, m_in, f10_setQuota, m_isUser, eq_true hu, eq_false hv]
  · refine op_fin h ?_ ?_ (r := -nI 1)
    · simp (disch := first | with_reducible assumption | omega | (simp only [MI_sai_iff, MI_sfi_iff]; with_reducible assumption)) only [li, ↓lr_, ↓bd_m, ↓oc_m, ↓reduceIte, bi_0, bi_0n, bi_1, bi_1n, not_true_eq_false, not_false_eq_true, Nat.reduceAdd, Nat.reduceMul, nI_mul, nI_add, inb_T, ix_nI, le_T, le_F, lt_T, lt_F, eq_F, and_self, and_true, true_and, false_and, and_false, or_true, true_or, or_false, false_or, bi_eq, x_within, m_in, f9_setQuota, e0, eq_false hu]
    · simp (disch := first | with_reducible assumption | omega | (simp only [MI_sai_iff, MI_sfi_iff]; with_reducible assumption)) only [li, ↓lr_, ↓bd_m, ↓oc_m, ↓reduceIte, bi_0, bi_0n, bi_1, bi_1n, not_true_eq_false, not_false_eq_true, Nat.reduceAdd, Nat.reduceMul, nI_mul, nI_add, inb_T, ix_nI, le_T, le_F, lt_T, lt_F, eq_F, and_self, and_true, true_and, false_and, and_false, or_true, true_or, or_false, false_or, bi_eq, x_within, m_in, f10_setQuota, m_isUser, eq_false hu]
theorem Iv0_1w {a b l : Nat → Int32} (h1 : 1 ≤ (b 1).toInt ∧ (b 1).toInt ≤ 1000) (h : ∀ k, (k = 3 ∨ k = 4 ∨ k = 5 ∨ (26 ≤ k ∧ k < 76) ∨ (76 ≤ k ∧ k < 106 ∧ (k - 76) % 10 < 3) ∨ (106 ≤ k ∧ k < 418 ∧ (k - 106) % 13 < 9 ∧ (k - 106) % 13 ≠ 4)) → b k = a k) (h0 : Iv0 a l) : Iv0 b l := by
  have h3 := Iv0_d h0
  have h4 := Iv0_j h0
  have h5 := Iv0_p h0
  obtain ⟨i1, i2, i3, i4, i5, i6, i7⟩ := h0
  unfold Iv0
  rw [h 3 (by omega), h 4 (by omega), h 5 (by omega)]
  refine ⟨i1, i2, i3, h1, fun d hd => ?_, fun j hj => ?_, fun p hp => ?_⟩
  · have q := i5 d hd
    have e : ∀ w, w < 5 → b (26 + 5 * d + w) = a (26 + 5 * d + w) := fun w hw => h _ (by omega)
    unfold DocOk dN at q ⊢
    simp (disch := first | assumption | omega) only [e]
    exact q
  · have q := i6 j hj
    have e : ∀ w, w < 9 → w ≠ 4 → b (106 + 13 * j + w) = a (106 + 13 * j + w) := fun w hw hne => h _ (by omega)
    unfold JobPl sSH sSC jN at q ⊢
    rw [h 3 (by omega)]
    simp (disch := first | assumption | omega) only [e]
    exact q
  · have q := i7 p hp
    have e : ∀ w, w < 3 → b (76 + 10 * p + w) = a (76 + 10 * p + w) := fun w hw => h _ (by omega)
    unfold PrPl pN at q ⊢
    simp (disch := first | assumption | omega) only [e]
    exact q
theorem op_setRules (u v : Int32) : Op (f9_setRules 0 u v) (f10_setRules 0 u v) := by
  intro gX gM n hn h
  obtain ⟨F, r0, r1, hX, hS, hP, hE, hM, ⟨d1, d2, d3⟩, ⟨j1, j2, j3⟩, ⟨p1, p2, p3⟩⟩ := ctx h
  have h4 := Iv0_j hS.2.2.1
  have h5 := Iv0_p hS.2.2.1
  obtain ⟨q1, q2, q3⟩ := XT0_parts hS.2.2.2.1
  by_cases hu : nI 1 ≤ u ∧ u ≤ nI 1000
  · by_cases hv : nI 0 ≤ v ∧ v ≤ nI 1000
    · have hR : Rel (sfi (sfi gX 269 0 u) 270 0 v) (sai (sai gM 20 0 1 u) 20 0 2 v) (n + 1) := by
        have ht : TF 0 gX (sfi (sfi gX 269 0 u) 270 0 v) := by
          have t1 : TF 0 gX (sfi gX 269 0 u) := TF_sfi (Or.inr (Or.inr ⟨by omega, rfl⟩))
          have t2 : TF 0 (sfi gX 269 0 u) (sfi (sfi gX 269 0 u) 270 0 v) := TF_sfi (Or.inr (Or.inr ⟨by omega, rfl⟩))
          refine ⟨NR_tr t1.1 t2.1, fun f i q => ?_, fun i q => (t2.2.2 i q).trans (t1.2.2 i q)⟩
          exact (t2.2.1 f i q).trans (t1.2.1 f i q)
        have ek : ∀ q, q ≠ 1 → q ≠ 2 → up (up (gai gM 20 0) 1 u) 2 v q = gai gM 20 0 q := fun q h1 h2 => by rw [up_ne h2, up_ne h1]
        have b1 : up (up (gai gM 20 0) 1 u) 2 v 1 = u := by rw [up_ne (by omega), up_eq rfl]
        have b2 : up (up (gai gM 20 0) 1 u) 2 v 2 = v := up_eq rfl
        refine Rel_XT h hS ht (KS_tr KS_sai KS_sai) (sai_l.trans sai_l) rfl ?_ ?_ ?_ ?_
        · rw [up_sai, up_sai]
          refine XT0_w ht hS.2.2.2.1 hS.2.2.1 (fun q hq => ek q (by omega) (by omega)) (fun f hf => by rw [e_gfi_sfi, if_neg (by omega), e_gfi_sfi, if_neg (by omega)]) ?_ (fun q hq => ?_) (fun w hw => ?_) (fun i I hi hI q4 => ?_) (fun f i h1 h2 => by rw [e_gfi_sfi, if_neg (by omega), e_gfi_sfi, if_neg (by omega)])
          · rw [b1, b2, ek _ (by omega) (by omega), e_gfi_sfi, if_neg (by omega), e_gfi_sfi, if_pos ⟨rfl, rfl⟩, e_gfi_sfi, if_pos ⟨rfl, rfl⟩, e_gfi_sfi, if_neg (by omega), e_gfi_sfi, if_neg (by omega)]
            exact ⟨rfl, rfl, q1.2.2⟩
          · rw [ek _ (by omega) (by omega)]
            exact q2 q hq
          · rw [ek _ (by omega) (by omega), ek _ (by omega) (by omega)]
            exact q3 w hw
          · rw [ek _ (by omega) (by omega), e_gfi_sfi, if_neg (by omega), e_gfi_sfi, if_neg (by omega)]
            exact q4
        · rw [up_sai, up_sai]
          refine XD_keys h4 h5 (fun q hq => ek q (by omega) (by omega)) (XD_frame (g := gX) rfl (fun f i hf => ?_) (fun c hc _ => rfl) h5 hS.2.2.2.2)
          rw [e_gfi_sfi, if_neg (by omega), e_gfi_sfi, if_neg (by omega)]
        · rw [up_sai, up_sai]
          obtain ⟨i1, i2, i3, i4⟩ := PI_el hP
          refine PI_mk (Iv0_1w ?_ (fun q hq => ek q (by omega) (by omega)) i1) (Ivd_same (fun q hq => ek q (by omega) (by omega)) h4 h5 i2) (DN_same (ek _ (by omega) (by omega)) (fun x hx => ek _ (by omega) (by omega)) i3) (Lg_eq i4 (ek _ (by omega) (by omega)))
          show 1 ≤ (up (up (gai gM 20 0) 1 u) 2 v 1).toInt ∧ (up (up (gai gM 20 0) 1 u) 2 v 1).toInt ≤ 1000
          rw [b1]
          have := hu
          rw [leI, leI, toIntI (by omega), toIntI (by omega)] at this
          exact this
        · rw [up_sai, up_sai]
          exact IvE_keys (fun q _ _ => ek q (by omega) (by omega)) hE
      refine op_wr (r := gai gM 20 0 1) hR ?_ ?_ rfl rfl rfl rfl
      · simp (disch := first | with_reducible assumption | omega | (simp only [MI_sai_iff, MI_sfi_iff]; with_reducible assumption)) only [li, ↓lr_, ↓bd_m, ↓oc_m, ↓reduceIte, bi_0, bi_0n, bi_1, bi_1n, not_true_eq_false, not_false_eq_true, Nat.reduceAdd, Nat.reduceMul, nI_mul, nI_add, inb_T, ix_nI, le_T, le_F, lt_T, lt_F, eq_F, and_self, and_true, true_and, false_and, and_false, or_true, true_or, or_false, false_or, bi_eq, x_within, m_in, f9_setRules, eq_true hu, eq_true hv, r0, q1.1, e_gfr_sfi]
      · simp (disch := first | with_reducible assumption | omega | (simp only [MI_sai_iff, MI_sfi_iff]; with_reducible assumption)) only [li, ↓lr_, ↓bd_m, ↓oc_m, ↓reduceIte, bi_0, bi_0n, bi_1, bi_1n, not_true_eq_false, not_false_eq_true, Nat.reduceAdd, Nat.reduceMul, nI_mul, nI_add, inb_T, ix_nI, le_T, le_F, lt_T, lt_F, eq_F, and_self, and_true, true_and, false_and, and_false, or_true, true_or, or_false, false_or, bi_eq, x_within, m_in, f10_setRules, eq_true hu, eq_true hv, MI_a hM, MI_n hM, e_gfr_sai, e_gln_sai]
    · refine op_fin h ?_ ?_ (r := -nI 2)
      · simp (disch := first | with_reducible assumption | omega | (simp only [MI_sai_iff, MI_sfi_iff]; with_reducible assumption)) only [li, ↓lr_, ↓bd_m, ↓oc_m, ↓reduceIte, bi_0, bi_0n, bi_1, bi_1n, not_true_eq_false, not_false_eq_true, Nat.reduceAdd, Nat.reduceMul, nI_mul, nI_add, inb_T, ix_nI, le_T, le_F, lt_T, lt_F, eq_F, and_self, and_true, true_and, false_and, and_false, or_true, true_or, or_false, false_or, bi_eq, x_within, m_in, f9_setRules, eq_true hu, eq_false hv]
      · simp (disch := first | with_reducible assumption | omega | (simp only [MI_sai_iff, MI_sfi_iff]; with_reducible assumption)) only [li, ↓lr_, ↓bd_m, ↓oc_m, ↓reduceIte, bi_0, bi_0n, bi_1, bi_1n, not_true_eq_false, not_false_eq_true, Nat.reduceAdd, Nat.reduceMul, nI_mul, nI_add, inb_T, ix_nI, le_T, le_F, lt_T, lt_F, eq_F, and_self, and_true, true_and, false_and, and_false, or_true, true_or, or_false, false_or, bi_eq, x_within, m_in, f10_setRules, eq_true hu, eq_false hv]
  · refine op_fin h ?_ ?_ (r := -nI 2)
    · simp (disch := first | with_reducible assumption | omega | (simp only [MI_sai_iff, MI_sfi_iff]; with_reducible assumption)) only [li, ↓lr_, ↓bd_m, ↓oc_m, ↓reduceIte, bi_0, bi_0n, bi_1, bi_1n, not_true_eq_false, not_false_eq_true, Nat.reduceAdd, Nat.reduceMul, nI_mul, nI_add, inb_T, ix_nI, le_T, le_F, lt_T, lt_F, eq_F, and_self, and_true, true_and, false_and, and_false, or_true, true_or, or_false, false_or, bi_eq, x_within, m_in, f9_setRules, eq_false hu]
    · simp (disch := first | with_reducible assumption | omega | (simp only [MI_sai_iff, MI_sfi_iff]; with_reducible assumption)) only [li, ↓lr_, ↓bd_m, ↓oc_m, ↓reduceIte, bi_0, bi_0n, bi_1, bi_1n, not_true_eq_false, not_false_eq_true, Nat.reduceAdd, Nat.reduceMul, nI_mul, nI_add, inb_T, ix_nI, le_T, le_F, lt_T, lt_F, eq_F, and_self, and_true, true_and, false_and, and_false, or_true, true_or, or_false, false_or, bi_eq, x_within, m_in, f10_setRules, eq_false hu]
def okv (w : Nat) (v : Int32) : Prop :=
  (w = 0 ∧ nI 1 ≤ v ∧ v ≤ nI 10) ∨ (w = 1 ∧ nI 0 ≤ v ∧ v ≤ nI 1) ∨ (w = 2 ∧ nI 0 ≤ v ∧ v ≤ nI 2) ∨ (w = 3 ∧ (v = nI 0 ∨ v = nI 1 ∨ v = nI 2 ∨ v = nI 4)) ∨ (w = 4 ∧ nI 0 ≤ v ∧ v ≤ nI 9) ∨ (w = 5 ∧ nI 0 ≤ v ∧ v ≤ nI 5)
theorem okv_T {w : Nat} {v : Int32} {g : GS_} (h : okv w v) : f9_isAllowed (nI w) v g = some (nI 1, g) ∧ f10_isValue (nI w) v g = some (nI 1, g) := by
  have t1 : ∀ (c : Prop) [Decidable c], c → bi c = nI 1 := fun c _ q => bi_t q
  rcases h with ⟨rfl, h⟩ | ⟨rfl, h⟩ | ⟨rfl, h⟩ | ⟨rfl, h⟩ | ⟨rfl, h⟩ | ⟨rfl, h⟩
  · constructor
    · simp (disch := first | with_reducible assumption | omega | (simp only [MI_sai_iff, MI_sfi_iff]; with_reducible assumption)) only [li, ↓lr_, ↓bd_m, ↓oc_m, ↓reduceIte, bi_0, bi_0n, bi_1, bi_1n, not_true_eq_false, not_false_eq_true, Nat.reduceAdd, Nat.reduceMul, nI_mul, nI_add, inb_T, ix_nI, le_T, le_F, lt_T, lt_F, eq_F, and_self, and_true, true_and, false_and, and_false, or_true, true_or, or_false, false_or, bi_eq, x_within, m_in, f9_isAllowed, t1 _ h]
    · simp (disch := first | with_reducible assumption | omega | (simp only [MI_sai_iff, MI_sfi_iff]; with_reducible assumption)) only [li, ↓lr_, ↓bd_m, ↓oc_m, ↓reduceIte, bi_0, bi_0n, bi_1, bi_1n, not_true_eq_false, not_false_eq_true, Nat.reduceAdd, Nat.reduceMul, nI_mul, nI_add, inb_T, ix_nI, le_T, le_F, lt_T, lt_F, eq_F, and_self, and_true, true_and, false_and, and_false, or_true, true_or, or_false, false_or, bi_eq, x_within, m_in, f10_isValue, t1 _ h]
  · constructor
    · simp (disch := first | with_reducible assumption | omega | (simp only [MI_sai_iff, MI_sfi_iff]; with_reducible assumption)) only [li, ↓lr_, ↓bd_m, ↓oc_m, ↓reduceIte, bi_0, bi_0n, bi_1, bi_1n, not_true_eq_false, not_false_eq_true, Nat.reduceAdd, Nat.reduceMul, nI_mul, nI_add, inb_T, ix_nI, le_T, le_F, lt_T, lt_F, eq_F, and_self, and_true, true_and, false_and, and_false, or_true, true_or, or_false, false_or, bi_eq, x_within, m_in, f9_isAllowed, t1 _ h]
    · simp (disch := first | with_reducible assumption | omega | (simp only [MI_sai_iff, MI_sfi_iff]; with_reducible assumption)) only [li, ↓lr_, ↓bd_m, ↓oc_m, ↓reduceIte, bi_0, bi_0n, bi_1, bi_1n, not_true_eq_false, not_false_eq_true, Nat.reduceAdd, Nat.reduceMul, nI_mul, nI_add, inb_T, ix_nI, le_T, le_F, lt_T, lt_F, eq_F, and_self, and_true, true_and, false_and, and_false, or_true, true_or, or_false, false_or, bi_eq, x_within, m_in, f10_isValue, t1 _ h]
  · constructor
    · simp (disch := first | with_reducible assumption | omega | (simp only [MI_sai_iff, MI_sfi_iff]; with_reducible assumption)) only [li, ↓lr_, ↓bd_m, ↓oc_m, ↓reduceIte, bi_0, bi_0n, bi_1, bi_1n, not_true_eq_false, not_false_eq_true, Nat.reduceAdd, Nat.reduceMul, nI_mul, nI_add, inb_T, ix_nI, le_T, le_F, lt_T, lt_F, eq_F, and_self, and_true, true_and, false_and, and_false, or_true, true_or, or_false, false_or, bi_eq, x_within, m_in, f9_isAllowed, t1 _ h]
    · simp (disch := first | with_reducible assumption | omega | (simp only [MI_sai_iff, MI_sfi_iff]; with_reducible assumption)) only [li, ↓lr_, ↓bd_m, ↓oc_m, ↓reduceIte, bi_0, bi_0n, bi_1, bi_1n, not_true_eq_false, not_false_eq_true, Nat.reduceAdd, Nat.reduceMul, nI_mul, nI_add, inb_T, ix_nI, le_T, le_F, lt_T, lt_F, eq_F, and_self, and_true, true_and, false_and, and_false, or_true, true_or, or_false, false_or, bi_eq, x_within, m_in, f10_isValue, t1 _ h]
  · rcases h with rfl | rfl | rfl | rfl
    all_goals
      constructor
      · simp (disch := first | with_reducible assumption | omega | (simp only [MI_sai_iff, MI_sfi_iff]; with_reducible assumption)) only [li, ↓lr_, ↓bd_m, ↓oc_m, ↓reduceIte, bi_0, bi_0n, bi_1, bi_1n, not_true_eq_false, not_false_eq_true, Nat.reduceAdd, Nat.reduceMul, nI_mul, nI_add, inb_T, ix_nI, le_T, le_F, lt_T, lt_F, eq_F, and_self, and_true, true_and, false_and, and_false, or_true, true_or, or_false, false_or, bi_eq, x_within, m_in, f9_isAllowed, f9_isAllowed_b81]
      · simp (disch := first | with_reducible assumption | omega | (simp only [MI_sai_iff, MI_sfi_iff]; with_reducible assumption)) only [li, ↓lr_, ↓bd_m, ↓oc_m, ↓reduceIte, bi_0, bi_0n, bi_1, bi_1n, not_true_eq_false, not_false_eq_true, Nat.reduceAdd, Nat.reduceMul, nI_mul, nI_add, inb_T, ix_nI, le_T, le_F, lt_T, lt_F, eq_F, and_self, and_true, true_and, false_and, and_false, or_true, true_or, or_false, false_or, bi_eq, x_within, m_in, f10_isValue, f10_isValue_b77]
  · constructor
    · simp (disch := first | with_reducible assumption | omega | (simp only [MI_sai_iff, MI_sfi_iff]; with_reducible assumption)) only [li, ↓lr_, ↓bd_m, ↓oc_m, ↓reduceIte, bi_0, bi_0n, bi_1, bi_1n, not_true_eq_false, not_false_eq_true, Nat.reduceAdd, Nat.reduceMul, nI_mul, nI_add, inb_T, ix_nI, le_T, le_F, lt_T, lt_F, eq_F, and_self, and_true, true_and, false_and, and_false, or_true, true_or, or_false, false_or, bi_eq, x_within, m_in, f9_isAllowed, t1 _ h]
    · simp (disch := first | with_reducible assumption | omega | (simp only [MI_sai_iff, MI_sfi_iff]; with_reducible assumption)) only [li, ↓lr_, ↓bd_m, ↓oc_m, ↓reduceIte, bi_0, bi_0n, bi_1, bi_1n, not_true_eq_false, not_false_eq_true, Nat.reduceAdd, Nat.reduceMul, nI_mul, nI_add, inb_T, ix_nI, le_T, le_F, lt_T, lt_F, eq_F, and_self, and_true, true_and, false_and, and_false, or_true, true_or, or_false, false_or, bi_eq, x_within, m_in, f10_isValue, t1 _ h]
  · have h' : vl v 6 := (in_lit (k := 5) (by omega) v).mp h
    constructor
    · simp (disch := first | with_reducible assumption | omega | (simp only [MI_sai_iff, MI_sfi_iff]; with_reducible assumption)) only [li, ↓lr_, ↓bd_m, ↓oc_m, ↓reduceIte, bi_0, bi_0n, bi_1, bi_1n, not_true_eq_false, not_false_eq_true, Nat.reduceAdd, Nat.reduceMul, nI_mul, nI_add, inb_T, ix_nI, le_T, le_F, lt_T, lt_F, eq_F, and_self, and_true, true_and, false_and, and_false, or_true, true_or, or_false, false_or, bi_eq, x_within, m_in, f9_isAllowed, t1 _ h]
    · simp (disch := first | with_reducible assumption | omega | (simp only [MI_sai_iff, MI_sfi_iff]; with_reducible assumption)) only [li, ↓lr_, ↓bd_m, ↓oc_m, ↓reduceIte, bi_0, bi_0n, bi_1, bi_1n, not_true_eq_false, not_false_eq_true, Nat.reduceAdd, Nat.reduceMul, nI_mul, nI_add, inb_T, ix_nI, le_T, le_F, lt_T, lt_F, eq_F, and_self, and_true, true_and, false_and, and_false, or_true, true_or, or_false, false_or, bi_eq, x_within, m_in, f10_isValue, m_isUser, eq_true h']
theorem okv_F {w : Nat} {v : Int32} {g : GS_} (hw : w < 6) (h : ¬ okv w v) : f9_isAllowed (nI w) v g = some (nI 0, g) ∧ f10_isValue (nI w) v g = some (nI 0, g) := by
  have t1 : ∀ (c : Prop) [Decidable c], ¬ c → bi c = nI 0 := fun c _ q => bi_f q
  unfold okv at h
  rcases (show w = 0 ∨ w = 1 ∨ w = 2 ∨ w = 3 ∨ w = 4 ∨ w = 5 by omega) with rfl | rfl | rfl | rfl | rfl | rfl
  · have h' : ¬ (nI 1 ≤ v ∧ v ≤ nI 10) := fun q => h (Or.inl ⟨rfl, q⟩)
    constructor
    · simp (disch := first | with_reducible assumption | omega | (simp only [MI_sai_iff, MI_sfi_iff]; with_reducible assumption)) only [li, ↓lr_, ↓bd_m, ↓oc_m, ↓reduceIte, bi_0, bi_0n, bi_1, bi_1n, not_true_eq_false, not_false_eq_true, Nat.reduceAdd, Nat.reduceMul, nI_mul, nI_add, inb_T, ix_nI, le_T, le_F, lt_T, lt_F, eq_F, and_self, and_true, true_and, false_and, and_false, or_true, true_or, or_false, false_or, bi_eq, x_within, m_in, f9_isAllowed, t1 _ h']
    · simp (disch := first | with_reducible assumption | omega | (simp only [MI_sai_iff, MI_sfi_iff]; with_reducible assumption)) only [li, ↓lr_, ↓bd_m, ↓oc_m, ↓reduceIte, bi_0, bi_0n, bi_1, bi_1n, not_true_eq_false, not_false_eq_true, Nat.reduceAdd, Nat.reduceMul, nI_mul, nI_add, inb_T, ix_nI, le_T, le_F, lt_T, lt_F, eq_F, and_self, and_true, true_and, false_and, and_false, or_true, true_or, or_false, false_or, bi_eq, x_within, m_in, f10_isValue, t1 _ h']
  · have h' : ¬ (nI 0 ≤ v ∧ v ≤ nI 1) := fun q => h (Or.inr (Or.inl ⟨rfl, q⟩))
    constructor
    · simp (disch := first | with_reducible assumption | omega | (simp only [MI_sai_iff, MI_sfi_iff]; with_reducible assumption)) only [li, ↓lr_, ↓bd_m, ↓oc_m, ↓reduceIte, bi_0, bi_0n, bi_1, bi_1n, not_true_eq_false, not_false_eq_true, Nat.reduceAdd, Nat.reduceMul, nI_mul, nI_add, inb_T, ix_nI, le_T, le_F, lt_T, lt_F, eq_F, and_self, and_true, true_and, false_and, and_false, or_true, true_or, or_false, false_or, bi_eq, x_within, m_in, f9_isAllowed, t1 _ h']
    · simp (disch := first | with_reducible assumption | omega | (simp only [MI_sai_iff, MI_sfi_iff]; with_reducible assumption)) only [li, ↓lr_, ↓bd_m, ↓oc_m, ↓reduceIte, bi_0, bi_0n, bi_1, bi_1n, not_true_eq_false, not_false_eq_true, Nat.reduceAdd, Nat.reduceMul, nI_mul, nI_add, inb_T, ix_nI, le_T, le_F, lt_T, lt_F, eq_F, and_self, and_true, true_and, false_and, and_false, or_true, true_or, or_false, false_or, bi_eq, x_within, m_in, f10_isValue, t1 _ h']
  · have h' : ¬ (nI 0 ≤ v ∧ v ≤ nI 2) := fun q => h (Or.inr (Or.inr (Or.inl ⟨rfl, q⟩)))
    constructor
    · simp (disch := first | with_reducible assumption | omega | (simp only [MI_sai_iff, MI_sfi_iff]; with_reducible assumption)) only [li, ↓lr_, ↓bd_m, ↓oc_m, ↓reduceIte, bi_0, bi_0n, bi_1, bi_1n, not_true_eq_false, not_false_eq_true, Nat.reduceAdd, Nat.reduceMul, nI_mul, nI_add, inb_T, ix_nI, le_T, le_F, lt_T, lt_F, eq_F, and_self, and_true, true_and, false_and, and_false, or_true, true_or, or_false, false_or, bi_eq, x_within, m_in, f9_isAllowed, t1 _ h']
    · simp (disch := first | with_reducible assumption | omega | (simp only [MI_sai_iff, MI_sfi_iff]; with_reducible assumption)) only [li, ↓lr_, ↓bd_m, ↓oc_m, ↓reduceIte, bi_0, bi_0n, bi_1, bi_1n, not_true_eq_false, not_false_eq_true, Nat.reduceAdd, Nat.reduceMul, nI_mul, nI_add, inb_T, ix_nI, le_T, le_F, lt_T, lt_F, eq_F, and_self, and_true, true_and, false_and, and_false, or_true, true_or, or_false, false_or, bi_eq, x_within, m_in, f10_isValue, t1 _ h']
  · have h' : ¬ (v = nI 0 ∨ v = nI 1 ∨ v = nI 2 ∨ v = nI 4) := fun q => h (Or.inr (Or.inr (Or.inr (Or.inl ⟨rfl, q⟩))))
    have v0 : (v = nI 0) = False := eq_false fun q => h' (Or.inl q)
    have v1 : (v = nI 1) = False := eq_false fun q => h' (Or.inr (Or.inl q))
    have v2 : (v = nI 2) = False := eq_false fun q => h' (Or.inr (Or.inr (Or.inl q)))
    have v4 : (v = nI 4) = False := eq_false fun q => h' (Or.inr (Or.inr (Or.inr q)))
    constructor
    · simp (disch := first | with_reducible assumption | omega | (simp only [MI_sai_iff, MI_sfi_iff]; with_reducible assumption)) only [li, ↓lr_, ↓bd_m, ↓oc_m, ↓reduceIte, bi_0, bi_0n, bi_1, bi_1n, not_true_eq_false, not_false_eq_true, Nat.reduceAdd, Nat.reduceMul, nI_mul, nI_add, inb_T, ix_nI, le_T, le_F, lt_T, lt_F, eq_F, and_self, and_true, true_and, false_and, and_false, or_true, true_or, or_false, false_or, bi_eq, x_within, m_in, f9_isAllowed, v0, v1, v2, v4]
    · simp (disch := first | with_reducible assumption | omega | (simp only [MI_sai_iff, MI_sfi_iff]; with_reducible assumption)) only [li, ↓lr_, ↓bd_m, ↓oc_m, ↓reduceIte, bi_0, bi_0n, bi_1, bi_1n, not_true_eq_false, not_false_eq_true, Nat.reduceAdd, Nat.reduceMul, nI_mul, nI_add, inb_T, ix_nI, le_T, le_F, lt_T, lt_F, eq_F, and_self, and_true, true_and, false_and, and_false, or_true, true_or, or_false, false_or, bi_eq, x_within, m_in, f10_isValue, v0, v1, v2, v4]
  · have h' : ¬ (nI 0 ≤ v ∧ v ≤ nI 9) := fun q => h (Or.inr (Or.inr (Or.inr (Or.inr (Or.inl ⟨rfl, q⟩)))))
    constructor
    · simp (disch := first | with_reducible assumption | omega | (simp only [MI_sai_iff, MI_sfi_iff]; with_reducible assumption)) only [li, ↓lr_, ↓bd_m, ↓oc_m, ↓reduceIte, bi_0, bi_0n, bi_1, bi_1n, not_true_eq_false, not_false_eq_true, Nat.reduceAdd, Nat.reduceMul, nI_mul, nI_add, inb_T, ix_nI, le_T, le_F, lt_T, lt_F, eq_F, and_self, and_true, true_and, false_and, and_false, or_true, true_or, or_false, false_or, bi_eq, x_within, m_in, f9_isAllowed, t1 _ h']
    · simp (disch := first | with_reducible assumption | omega | (simp only [MI_sai_iff, MI_sfi_iff]; with_reducible assumption)) only [li, ↓lr_, ↓bd_m, ↓oc_m, ↓reduceIte, bi_0, bi_0n, bi_1, bi_1n, not_true_eq_false, not_false_eq_true, Nat.reduceAdd, Nat.reduceMul, nI_mul, nI_add, inb_T, ix_nI, le_T, le_F, lt_T, lt_F, eq_F, and_self, and_true, true_and, false_and, and_false, or_true, true_or, or_false, false_or, bi_eq, x_within, m_in, f10_isValue, t1 _ h']
  · have h' : ¬ (nI 0 ≤ v ∧ v ≤ nI 5) := fun q => h (Or.inr (Or.inr (Or.inr (Or.inr (Or.inr ⟨rfl, q⟩)))))
    have h'' : ¬ vl v 6 := fun q => h' ((in_lit (k := 5) (by omega) v).mpr q)
    constructor
    · simp (disch := first | with_reducible assumption | omega | (simp only [MI_sai_iff, MI_sfi_iff]; with_reducible assumption)) only [li, ↓lr_, ↓bd_m, ↓oc_m, ↓reduceIte, bi_0, bi_0n, bi_1, bi_1n, not_true_eq_false, not_false_eq_true, Nat.reduceAdd, Nat.reduceMul, nI_mul, nI_add, inb_T, ix_nI, le_T, le_F, lt_T, lt_F, eq_F, and_self, and_true, true_and, false_and, and_false, or_true, true_or, or_false, false_or, bi_eq, x_within, m_in, f9_isAllowed, t1 _ h']
    · simp (disch := first | with_reducible assumption | omega | (simp only [MI_sai_iff, MI_sfi_iff]; with_reducible assumption)) only [li, ↓lr_, ↓bd_m, ↓oc_m, ↓reduceIte, bi_0, bi_0n, bi_1, bi_1n, not_true_eq_false, not_false_eq_true, Nat.reduceAdd, Nat.reduceMul, nI_mul, nI_add, inb_T, ix_nI, le_T, le_F, lt_T, lt_F, eq_F, and_self, and_true, true_and, false_and, and_false, or_true, true_or, or_false, false_or, bi_eq, x_within, m_in, f10_isValue, m_isUser, eq_false h'', f10_isValue_b107]
theorem m_isValueF {w v : Int32} {g : GS_} (hw : ¬ (nI 0 ≤ w ∧ w ≤ nI 5)) : f10_isValue w v g = some (nI 0, g) := by
  have hne := not_in (by omega) hw
  simp (disch := first | with_reducible assumption | omega | (simp only [MI_sai_iff, MI_sfi_iff]; with_reducible assumption)) only [li, ↓lr_, ↓bd_m, ↓oc_m, ↓reduceIte, bi_0, bi_0n, bi_1, bi_1n, not_true_eq_false, not_false_eq_true, Nat.reduceAdd, Nat.reduceMul, nI_mul, nI_add, inb_T, ix_nI, le_T, le_F, lt_T, lt_F, eq_F, and_self, and_true, true_and, false_and, and_false, or_true, true_or, or_false, false_or, bi_eq, x_within, m_in, f10_isValue, hne, f10_isValue_b107]
theorem in_vl2 {lo hi : Nat} {v : Int32} (hh : hi < 1000000) (hl : lo ≤ hi) (h : nI lo ≤ v ∧ v ≤ nI hi) : vl v (hi + 1) ∧ lo ≤ tn v := by
  obtain ⟨k, k1, k2, rfl⟩ := (in_ex hh hl).mp h
  exact ⟨vl_of (by omega) (by omega), by rw [tn_nI (by omega)]; exact k1⟩
theorem IvE_set {a : Nat → Int32} {k : Nat} {v : Int32} (hE : IvE a) (h : okv k v) : IvE (up a (8 + k) v) := by
  obtain ⟨i1, i2, i3, i4, i5, i6, i7⟩ := hE
  unfold IvE
  rcases h with ⟨rfl, h⟩ | ⟨rfl, h⟩ | ⟨rfl, h⟩ | ⟨rfl, h⟩ | ⟨rfl, h⟩ | ⟨rfl, h⟩
  · rw [up_ne (by omega), up_eq (by omega), up_ne (by omega), up_ne (by omega), up_ne (by omega), up_ne (by omega), up_ne (by omega)]
    exact ⟨i1, in_vl2 (by omega) (by omega) h, i3, i4, i5, i6, i7⟩
  · rw [up_ne (by omega), up_ne (by omega), up_eq (by omega), up_ne (by omega), up_ne (by omega), up_ne (by omega), up_ne (by omega)]
    exact ⟨i1, i2, (in_vl2 (by omega) (by omega) h).1, i4, i5, i6, i7⟩
  · rw [up_ne (by omega), up_ne (by omega), up_ne (by omega), up_eq (by omega), up_ne (by omega), up_ne (by omega), up_ne (by omega)]
    exact ⟨i1, i2, i3, (in_vl2 (by omega) (by omega) h).1, i5, i6, i7⟩
  · rw [up_ne (by omega), up_ne (by omega), up_ne (by omega), up_ne (by omega), up_eq (by omega), up_ne (by omega), up_ne (by omega)]
    refine ⟨i1, i2, i3, i4, ?_, i6, i7⟩
    rcases h with rfl | rfl | rfl | rfl
    all_goals exact ⟨vl_of (by omega) (by omega), by rw [tn_nI (by omega)]; omega⟩
  · rw [up_ne (by omega), up_ne (by omega), up_ne (by omega), up_ne (by omega), up_ne (by omega), up_eq (by omega), up_ne (by omega)]
    exact ⟨i1, i2, i3, i4, i5, (in_vl2 (by omega) (by omega) h).1, i7⟩
  · rw [up_ne (by omega), up_ne (by omega), up_ne (by omega), up_ne (by omega), up_ne (by omega), up_ne (by omega), up_eq (by omega)]
    exact ⟨i1, i2, i3, i4, i5, i6, (in_vl2 (by omega) (by omega) h).1⟩
theorem op_set (u v : Int32) : Op (f9_set 0 u v) (f10_set 0 u v) := by
  intro gX gM n hn h
  obtain ⟨F, r0, r1, hX, hS, hP, hE, hM, ⟨d1, d2, d3⟩, ⟨j1, j2, j3⟩, ⟨p1, p2, p3⟩⟩ := ctx h
  have h4 := Iv0_j hS.2.2.1
  have h5 := Iv0_p hS.2.2.1
  obtain ⟨s1, s2, s3, s4, s5, s6, s7, s8, s9, s10, s11, s12, s13, s14, s15, s16, s17, s18, s19, s20, s21⟩ := id hX
  obtain ⟨q1, q2, q3⟩ := XT0_parts hS.2.2.2.1
  by_cases hu : nI 0 ≤ u ∧ u ≤ nI 5
  · obtain ⟨k, -, hk, rfl⟩ := (in_ex (by omega) (by omega)).mp hu
    by_cases hv : okv k v
    · obtain ⟨e1, e2⟩ := okv_T (g := gX) hv
      obtain ⟨-, e3⟩ := okv_T (g := gM) hv
      have hR : Rel (sai gX 20 (bb 0 + 1) k v) (sai gM 20 0 (8 + k) v) (n + 1) := by
        have ht : TF 0 gX (sai gX 20 (bb 0 + 1) k v) := TF_sai (by omega)
        have ek : ∀ q, q ≠ 8 + k → up (gai gM 20 0) (8 + k) v q = gai gM 20 0 q := fun q h1 => up_ne h1
        refine Rel_XT h hS ht KS_sai sai_l rfl ?_ ?_ ?_ ?_
        · rw [up_sai]
          refine XT0_w ht hS.2.2.2.1 hS.2.2.1 (fun q hq => ek q (by omega)) (fun f hf => rfl) ?_ (fun q hq => ?_) (fun w hw => ?_) (fun i I hi hI q4 => ?_) (fun f i h1 h2 => rfl)
          · rw [ek _ (by omega), ek _ (by omega), ek _ (by omega)]
            exact q1
          · rw [ek _ (by omega), e_gai_sai, if_neg (by omega)]
            exact q2 q hq
          · rw [ek (14 + w) (by omega), e_gai_sai, e_gai_sai, if_neg (show ¬ (20 = 20 ∧ bb 0 + 2 = bb 0 + 1 ∧ w = k) by omega)]
            refine ⟨?_, (q3 w hw).2⟩
            by_cases c : w = k
            · subst c
              rw [if_pos ⟨rfl, rfl, rfl⟩, up_eq rfl]
            · rw [if_neg (by omega), ek _ (by omega)]
              exact (q3 w hw).1
          · rw [ek _ (by omega)]
            exact q4
        · rw [up_sai]
          refine XD_keys h4 h5 (fun q hq => ek q (by omega)) (XD_frame (g := gX) rfl (fun f i hf => rfl) (fun c hc _ => ?_) h5 hS.2.2.2.2)
          funext i
          rw [e_gai_sai, if_neg (by omega)]
        · rw [up_sai]
          exact PI_same (by omega) hP
        · rw [up_sai]
          exact IvE_set hE hv
      have e4 : f8_settingAt 0 (nI k) gX = some (gai gM 20 0 (8 + k), gX) := by
        rw [← (q3 k (by omega)).1]
        simp (disch := first | with_reducible assumption | omega | (simp only [MI_sai_iff, MI_sfi_iff]; with_reducible assumption)) only [li, ↓lr_, ↓bd_m, ↓oc_m, ↓reduceIte, bi_0, bi_0n, bi_1, bi_1n, not_true_eq_false, not_false_eq_true, Nat.reduceAdd, Nat.reduceMul, nI_mul, nI_add, inb_T, ix_nI, le_T, le_F, lt_T, lt_F, eq_F, and_self, and_true, true_and, false_and, and_false, or_true, true_or, or_false, false_or, bi_eq, x_within, m_in, f8_settingAt, s10, s11, ofN]
      refine op_wr (r := gai gM 20 0 (8 + k)) hR ?_ ?_ rfl rfl rfl rfl
      · simp (disch := first | with_reducible assumption | omega | (simp only [MI_sai_iff, MI_sfi_iff]; with_reducible assumption)) only [li, ↓lr_, ↓bd_m, ↓oc_m, ↓reduceIte, bi_0, bi_0n, bi_1, bi_1n, not_true_eq_false, not_false_eq_true, Nat.reduceAdd, Nat.reduceMul, nI_mul, nI_add, inb_T, ix_nI, le_T, le_F, lt_T, lt_F, eq_F, and_self, and_true, true_and, false_and, and_false, or_true, true_or, or_false, false_or, bi_eq, x_within, m_in, f9_set, eq_true hu, e1, r0, e4, f8_changeSetting, s10, s11, ofN]
      · simp (disch := first | with_reducible assumption | omega | (simp only [MI_sai_iff, MI_sfi_iff]; with_reducible assumption)) only [li, ↓lr_, ↓bd_m, ↓oc_m, ↓reduceIte, bi_0, bi_0n, bi_1, bi_1n, not_true_eq_false, not_false_eq_true, Nat.reduceAdd, Nat.reduceMul, nI_mul, nI_add, inb_T, ix_nI, le_T, le_F, lt_T, lt_F, eq_F, and_self, and_true, true_and, false_and, and_false, or_true, true_or, or_false, false_or, bi_eq, x_within, m_in, f10_set, e3, MI_a hM, MI_n hM]
    · obtain ⟨e1, -⟩ := okv_F (g := gX) (by omega) hv
      obtain ⟨-, e3⟩ := okv_F (g := gM) (by omega) hv
      refine op_fin h ?_ ?_ (r := -nI 2)
      · simp (disch := first | with_reducible assumption | omega | (simp only [MI_sai_iff, MI_sfi_iff]; with_reducible assumption)) only [li, ↓lr_, ↓bd_m, ↓oc_m, ↓reduceIte, bi_0, bi_0n, bi_1, bi_1n, not_true_eq_false, not_false_eq_true, Nat.reduceAdd, Nat.reduceMul, nI_mul, nI_add, inb_T, ix_nI, le_T, le_F, lt_T, lt_F, eq_F, and_self, and_true, true_and, false_and, and_false, or_true, true_or, or_false, false_or, bi_eq, x_within, m_in, f9_set, eq_true hu, e1]
      · simp (disch := first | with_reducible assumption | omega | (simp only [MI_sai_iff, MI_sfi_iff]; with_reducible assumption)) only [li, ↓lr_, ↓bd_m, ↓oc_m, ↓reduceIte, bi_0, bi_0n, bi_1, bi_1n, not_true_eq_false, not_false_eq_true, Nat.reduceAdd, Nat.reduceMul, nI_mul, nI_add, inb_T, ix_nI, le_T, le_F, lt_T, lt_F, eq_F, and_self, and_true, true_and, false_and, and_false, or_true, true_or, or_false, false_or, bi_eq, x_within, m_in, f10_set, e3]
  · have e3 := m_isValueF (v := v) (g := gM) hu
    refine op_fin h ?_ ?_ (r := -nI 2)
    · simp (disch := first | with_reducible assumption | omega | (simp only [MI_sai_iff, MI_sfi_iff]; with_reducible assumption)) only [li, ↓lr_, ↓bd_m, ↓oc_m, ↓reduceIte, bi_0, bi_0n, bi_1, bi_1n, not_true_eq_false, not_false_eq_true, Nat.reduceAdd, Nat.reduceMul, nI_mul, nI_add, inb_T, ix_nI, le_T, le_F, lt_T, lt_F, eq_F, and_self, and_true, true_and, false_and, and_false, or_true, true_or, or_false, false_or, bi_eq, x_within, m_in, f9_set, eq_false hu]
    · simp (disch := first | with_reducible assumption | omega | (simp only [MI_sai_iff, MI_sfi_iff]; with_reducible assumption)) only [li, ↓lr_, ↓bd_m, ↓oc_m, ↓reduceIte, bi_0, bi_0n, bi_1, bi_1n, not_true_eq_false, not_false_eq_true, Nat.reduceAdd, Nat.reduceMul, nI_mul, nI_add, inb_T, ix_nI, le_T, le_F, lt_T, lt_F, eq_F, and_self, and_true, true_and, false_and, and_false, or_true, true_or, or_false, false_or, bi_eq, x_within, m_in, f10_set, e3]
