/-! calls that write a number or two -/
theorem KS_sai {g : GS_} {k : Nat} {v : Int32} : KS g (sai g 20 0 k v) := by
  refine ⟨rfl, rfl, rfl, rfl, ?_, ?_, ?_⟩
  · funext i
    rw [e_gai_sai, if_neg (by omega)]
  · funext i
    rw [e_gai_sai, if_neg (by omega)]
  · funext i j
    rw [e_gai_sai, if_neg (by omega)]
theorem sai_l {g : GS_} {k : Nat} {v : Int32} : gai (sai g 20 0 k v) 20 2 = gai g 20 2 := by
  funext i
  rw [e_gai_sai, if_neg (by omega)]
theorem DN_iff {a b : Nat → Int32} {F : List Nat} (e4 : b 4 = a 4) (e : ∀ x, x < tn (a 4) → (b (106 + 13 * x + 9) = nI 3 ↔ a (106 + 13 * x + 9) = nI 3)) (h : DN a F) : DN b F := by
  refine ⟨h.1, fun x => ?_⟩
  rw [h.2 x, e4]
  exact ⟨fun q => ⟨q.1, (e x q.1).mpr q.2⟩, fun q => ⟨q.1, (e x q.1).mp q.2⟩⟩
theorem sSH_eq {a b : Nat → Int32} {i : Nat} (h : ∀ w, w < 9 → w ≠ 4 → b (106 + 13 * i + w) = a (106 + 13 * i + w)) : sSH b i = sSH a i := by
  unfold sSH sSC jN
  rw [h 0 (by omega) (by omega), h 2 (by omega) (by omega), h 3 (by omega) (by omega), h 7 (by omega) (by omega)]
theorem JobSt_eq {a b : Nat → Int32} {i : Nat} (h : ∀ w, w < 13 → b (106 + 13 * i + w) = a (106 + 13 * i + w)) (hJ : JobSt a i) : JobSt b i := by
  have e1 : sSH b i = sSH a i := sSH_eq (fun w hw _ => h w (by omega))
  unfold JobSt jN at hJ ⊢
  rw [e1, h 4 (by omega), h 9 (by omega), h 10 (by omega), h 12 (by omega)]
  exact hJ
/-- a job changes -/
theorem Ivd_job {a b : Nat → Int32} {j : Nat} (h4 : tn (a 4) ≤ 24) (h5 : tn (a 5) ≤ 3) (hk : ∀ k, (k = 4 ∨ k = 5 ∨ (76 ≤ k ∧ k < 106) ∨ (106 ≤ k ∧ k < 418 ∧ (k < 106 + 13 * j ∨ 106 + 13 * j + 13 ≤ k))) → b k = a k) (hJ : j < tn (a 4) → JobSt b j) (h9 : ∀ p, p < tn (a 5) → a (76 + 10 * p + 6) = nI 1 → a (76 + 10 * p + 7) = nI j → a (106 + 13 * j + 9) = nI 1 → b (106 + 13 * j + 9) = nI 1) (hI : Ivd a) : Ivd b := by
  obtain ⟨i1, i2, i3⟩ := hI
  have ep : ∀ p w, p < tn (a 5) → w < 10 → b (76 + 10 * p + w) = a (76 + 10 * p + w) := fun p w hp hw => hk _ (by omega)
  refine ⟨fun i hi => ?_, fun p hp => ?_, fun p q hp hq hne u1 u2 => ?_⟩
  · rw [hk 4 (by omega)] at hi
    by_cases c : i = j
    · subst c
      exact hJ hi
    · exact JobSt_eq (fun w hw => hk _ (by omega)) (i1 i hi)
  · rw [hk 5 (by omega)] at hp
    obtain ⟨q1, q2⟩ := i2 p hp
    refine ⟨?_, fun u => ?_⟩
    · unfold PrTr at q1 ⊢
      rw [ep p 3 hp (by omega), ep p 4 hp (by omega), ep p 5 hp (by omega), ep p 6 hp (by omega)]
      exact q1
    · unfold PrWk pN at q2
      unfold pN
      rw [ep p 6 hp (by omega)] at u
      rw [ep p 7 hp (by omega), ep p 8 hp (by omega), hk 4 (by omega)]
      obtain ⟨v1, v2, v3⟩ := q2 u
      refine ⟨v1, ?_, v3⟩
      have v4 := vl_nI v1
      by_cases c : tn (a (76 + 10 * p + 7)) = j
      · rw [c] at v2 ⊢
        exact h9 p hp u (by rw [← c]; exact v4.1) v2
      · rw [hk _ (by omega)]
        exact v2
  · rw [hk 5 (by omega)] at hp hq
    rw [ep p 6 hp (by omega)] at u1
    rw [ep q 6 hq (by omega)] at u2
    rw [ep p 7 hp (by omega), ep q 7 hq (by omega)]
    exact i3 p q hp hq hne u1 u2
/-- a printer changes -/
theorem Ivd_prn {a b : Nat → Int32} {p : Nat} (h4 : tn (a 4) ≤ 24) (h5 : tn (a 5) ≤ 3) (hk : ∀ k, (k = 4 ∨ k = 5 ∨ (76 ≤ k ∧ k < 106 ∧ (k < 76 + 10 * p ∨ 76 + 10 * p + 10 ≤ k)) ∨ (106 ≤ k ∧ k < 418)) → b k = a k) (hT : p < tn (a 5) → PrTr b p) (h6 : b (76 + 10 * p + 6) = nI 1 → a (76 + 10 * p + 6) = nI 1 ∧ b (76 + 10 * p + 7) = a (76 + 10 * p + 7) ∧ b (76 + 10 * p + 8) = a (76 + 10 * p + 8)) (hI : Ivd a) : Ivd b := by
  obtain ⟨i1, i2, i3⟩ := hI
  have ep : ∀ q w, q < tn (a 5) → q ≠ p → w < 10 → b (76 + 10 * q + w) = a (76 + 10 * q + w) := fun q w hp hne hw => hk _ (by omega)
  have h67 : ∀ q, q < tn (a 5) → b (76 + 10 * q + 6) = nI 1 → a (76 + 10 * q + 6) = nI 1 ∧ b (76 + 10 * q + 7) = a (76 + 10 * q + 7) ∧ b (76 + 10 * q + 8) = a (76 + 10 * q + 8) := by
    intro q hq u
    by_cases c : q = p
    · subst c
      exact h6 u
    · exact ⟨(ep q 6 hq c (by omega)) ▸ u, ep q 7 hq c (by omega), ep q 8 hq c (by omega)⟩
  refine ⟨fun i hi => ?_, fun q hq => ?_, fun r q hr hq hne u1 u2 => ?_⟩
  · rw [hk 4 (by omega)] at hi
    exact JobSt_eq (fun w hw => hk _ (by omega)) (i1 i hi)
  · rw [hk 5 (by omega)] at hq
    obtain ⟨q1, q2⟩ := i2 q hq
    refine ⟨?_, fun u => ?_⟩
    · by_cases c : q = p
      · subst c
        exact hT hq
      · unfold PrTr at q1 ⊢
        rw [ep q 3 hq c (by omega), ep q 4 hq c (by omega), ep q 5 hq c (by omega), ep q 6 hq c (by omega)]
        exact q1
    · obtain ⟨w1, w2, w3⟩ := h67 q hq u
      unfold PrWk pN at q2
      unfold pN
      obtain ⟨v1, v2, v3⟩ := q2 w1
      have v4 := vl_nI v1
      rw [w2, w3, hk 4 (by omega), hk _ (by omega)]
      exact ⟨v1, v2, v3⟩
  · rw [hk 5 (by omega)] at hr hq
    obtain ⟨w1, w2, w3⟩ := h67 r hr u1
    obtain ⟨x1, x2, x3⟩ := h67 q hq u2
    rw [w2, x2]
    exact i3 r q hr hq hne w1 x1
/-- only what time moves is moved -/
theorem Rel_TT {gX gX' gM gM' : GS_} {n : Nat} (h : Rel gX gM n) {F : List Nat} (hF : SpO gX 0 (gai gM 20 0) (gai gM 20 2) F) (hP : PI (gai gM 20 2) (gai gM 20 0, F) (3000 * n)) (hE : IvE (gai gM 20 0)) (ht : TT 0 gX gX') (hK : KS gM gM') (h2 : gai gM' 20 2 = gai gM 20 2) (hf : gfi gM' 341 0 = gfi gM 341 0) (hs : sta (gai gM 20 0) (gai gM' 20 0)) (hD : XD gX' 0 (gai gM' 20 0) F) (hI : Ivd (gai gM' 20 0)) (hN : DN (gai gM' 20 0) F) (h6 : gai gM' 20 0 6 = gai gM 20 0 6) : Rel gX' gM' (n + 1) := by
  refine Rel_step h (TF_GF (TT_TF ht)) (XS_TF (TT_TF ht) h.1) hK ?_ ?_
  · rw [h2]
    obtain ⟨p1, p2, p3, p4⟩ := PI_mono hP (show 3000 * n ≤ 3000 * (n + 1) by omega)
    exact ⟨F, SpO_step hF ht hs (sta_sc hs (by omega)) hD, ⟨Iv0_sta hs p1, hI, hN, Lg_eq p4 h6⟩, IvE_keys (fun k k1 k2 => sta_sc hs (by omega)) hE⟩
  · obtain ⟨-, -, -, -, c, k1, k2⟩ := h
    exact ⟨c, hf.trans k1, by omega⟩
theorem op_wr {gX gX' gM gM' : GS_} {n : Nat} {x m : GS_ → Option (Int32 × GS_)} {r : Int32} (hR : Rel gX' gM' (n + 1)) (hx : x gX = some (r, gX')) (hm : m gM = some (r, gM')) (e1 : ghs gX' = ghs gX) (e2 : gsl gX' = gsl gX) (e3 : ghs gM' = ghs gM) (e4 : gsl gM' = gsl gM) : ∃ r gX' gM', x gX = some (r, gX') ∧ m gM = some (r, gM') ∧ Rel gX' gM' (n + 1) ∧ ghs gX' ≤ ghs gX + 1000 ∧ gsl gX' ≤ gsl gX + 14000 ∧ ghs gM' = ghs gM ∧ gsl gM' = gsl gM :=
  ⟨r, gX', gM', hx, hm, hR, by omega, by omega, e3, e4⟩
theorem jst_lt {a : Nat → Int32} {j : Nat} (hJ : JobSt a j) : ∃ s, a (106 + 13 * j + 9) = nI s ∧ s < 5 := by
  obtain ⟨h1, h2⟩ := vl_nI hJ.2.1
  exact ⟨_, h1, h2⟩
/-- a job's number 9 or 12 is written on both sides -/
theorem Rel_j9 {gX gM : GS_} {n : Nat} (h : Rel gX gM n) {F : List Nat} (hS : SpO gX 0 (gai gM 20 0) (gai gM 20 2) F) (hP : PI (gai gM 20 2) (gai gM 20 0, F) (3000 * n)) (hE : IvE (gai gM 20 0)) {k J v : Nat} (hk : k < tn (gai gM 20 0 4)) (hJ : gar gX 23 0 k = some J) (hv : v < 5) (hv3 : v ≠ 3) (h0 : gai gM 20 0 (106 + 13 * k + 9) ≠ nI 1) (h3 : gai gM 20 0 (106 + 13 * k + 9) ≠ nI 3) : Rel (sfi gX 35 J (nI v)) (sai gM 20 0 (106 + 13 * k + 9) (nI v)) (n + 1) := by
  have h4 := Iv0_j hS.2.2.1
  have h5 := Iv0_p hS.2.2.1
  have hN := hP.2.2.1
  have hI : Ivd (gai gM 20 0) := hP.2.1
  have k24 : k < 24 := by omega
  refine Rel_TT h hS hP hE (TT_sfi (oT_j (by omega) (by omega) k24 hJ)) KS_sai sai_l rfl ?_ ?_ ?_ ?_ ?_
  · rw [up_sai]
    exact sta_up (dyn_j k24 (by omega) (by omega))
  · rw [up_sai]
    exact XD_j35 h4 h5 hS.1.2 hk hJ (nI v) hS.2.2.2.2
  · rw [up_sai]
    refine Ivd_job h4 h5 (j := k) (fun q hq => up_ne (by omega)) (fun _ => ?_) (fun p _ _ _ q => absurd q h0) hI
    obtain ⟨j1, j2, j3, j4, j5⟩ := hI.1 k hk
    have e : ∀ w, w < 13 → w ≠ 9 → up (gai gM 20 0) (106 + 13 * k + 9) (nI v) (106 + 13 * k + w) = gai gM 20 0 (106 + 13 * k + w) := fun w hw hne => up_ne (by omega)
    have e1 : sSH (up (gai gM 20 0) (106 + 13 * k + 9) (nI v)) k = sSH (gai gM 20 0) k := sSH_eq (fun w hw hne => e w (by omega) (by omega))
    unfold JobSt jN at *
    rw [e1, e 4 (by omega) (by omega), e 10 (by omega) (by omega), e 12 (by omega) (by omega), up_eq rfl]
    refine ⟨j1, vl_of hv (by omega), j3, fun _ => j4 h3, ?_⟩
    rcases j5 with j5 | ⟨j5, j6⟩
    · exact Or.inl j5
    · exact absurd j6 h0
  · rw [up_sai]
    refine DN_iff (up_ne (by omega)) (fun x hx => ?_) hN
    by_cases c : x = k
    · subst c
      rw [up_eq rfl, eq_nI (by omega) (by omega)]
      exact ⟨fun q => absurd q hv3, fun q => absurd q h3⟩
    · rw [up_ne (by omega)]
  · rw [up_sai]
    exact up_ne (by omega)
theorem Rel_j12 {gX gM : GS_} {n : Nat} (h : Rel gX gM n) {F : List Nat} (hS : SpO gX 0 (gai gM 20 0) (gai gM 20 2) F) (hP : PI (gai gM 20 2) (gai gM 20 0, F) (3000 * n)) (hE : IvE (gai gM 20 0)) {k J v : Nat} (hk : k < tn (gai gM 20 0 4)) (hJ : gar gX 23 0 k = some J) (hv : v = 0 ∨ v = 2 ∨ v = 4) (h1 : gai gM 20 0 (106 + 13 * k + 9) = nI 1) : Rel (sfi gX 38 J (rq (nI v))) (sai gM 20 0 (106 + 13 * k + 12) (nI v)) (n + 1) := by
  have h4 := Iv0_j hS.2.2.1
  have h5 := Iv0_p hS.2.2.1
  have hN := hP.2.2.1
  have hI : Ivd (gai gM 20 0) := hP.2.1
  have k24 : k < 24 := by omega
  refine Rel_TT h hS hP hE (TT_sfi (oT_j (by omega) (by omega) k24 hJ)) KS_sai sai_l rfl ?_ ?_ ?_ ?_ ?_
  · rw [up_sai]
    exact sta_up (dyn_j k24 (by omega) (by omega))
  · rw [up_sai]
    exact XD_j38 h4 h5 hS.1.2 hk hJ (nI v) hS.2.2.2.2
  · rw [up_sai]
    have e : ∀ w, w < 13 → w ≠ 12 → up (gai gM 20 0) (106 + 13 * k + 12) (nI v) (106 + 13 * k + w) = gai gM 20 0 (106 + 13 * k + w) := fun w hw hne => up_ne (by omega)
    refine Ivd_job h4 h5 (j := k) (fun q hq => up_ne (by omega)) (fun _ => ?_) (fun p _ _ _ q => by rw [e 9 (by omega) (by omega)]; exact q) hI
    obtain ⟨j1, j2, j3, j4, j5⟩ := hI.1 k hk
    have e1 : sSH (up (gai gM 20 0) (106 + 13 * k + 12) (nI v)) k = sSH (gai gM 20 0) k := sSH_eq (fun w hw hne => e w (by omega) (by omega))
    unfold JobSt jN at *
    rw [e1, e 4 (by omega) (by omega), e 10 (by omega) (by omega), e 9 (by omega) (by omega), up_eq rfl]
    refine ⟨j1, j2, j3, j4, ?_⟩
    rcases hv with rfl | rfl | rfl
    · exact Or.inl rfl
    · exact Or.inr ⟨Or.inl rfl, h1⟩
    · exact Or.inr ⟨Or.inr rfl, h1⟩
  · rw [up_sai]
    refine DN_iff (up_ne (by omega)) (fun x hx => ?_) hN
    rw [up_ne (by omega)]
  · rw [up_sai]
    exact up_ne (by omega)
theorem nI_ne {a b : Nat} (ha : a < 1000) (hb : b < 1000) (h : a ≠ b) : (nI a = nI b) = False := by rw [eq_nI (by omega) (by omega)]; exact eq_false h
theorem op_hold (j : Int32) : Op (f9_hold 0 j) (f10_hold 0 j) := by
  intro gX gM n hn h
  obtain ⟨F, r0, r1, hX, hS, hP, hE, hM, ⟨d1, d2, d3⟩, ⟨j1, j2, j3⟩, ⟨p1, p2, p3⟩⟩ := ctx h
  have e1 := x_jobAt hX j1 j3 j
  have e2 := m_isJob hM j2 (by omega) j
  by_cases hj : vl j (tn (gai gM 20 0 4))
  · obtain ⟨k, rfl, hk⟩ := vl_ex hj
    obtain ⟨J, Q, w1, w2, w3, w4⟩ := hS.2.2.2.1.2.2.2.2.1 k hk
    rw [if_pos hj, tn_nI (by omega), w1] at e1
    have hj' := eq_true hj
    have k24 : k < 24 := by omega
    have x35 := (hS.2.2.2.2.1 k J hk w1).1
    have hSt := hP.2.1.1 k hk
    obtain ⟨s, hs, hsl⟩ := jst_lt hSt
    have hs' := hs
    dsimp only at hs'
    rw [hs'] at x35
    rcases (show s = 0 ∨ s = 1 ∨ s = 2 ∨ s = 3 ∨ s = 4 by omega) with rfl | rfl | rfl | rfl | rfl
    · refine op_wr (r := nI 2) (Rel_j9 h hS hP hE hk w1 (v := 2) (by omega) (by omega) (by rw [hs']; decide) (by rw [hs']; decide)) ?_ ?_ rfl rfl rfl rfl
      · simp (disch := first | with_reducible assumption | omega | (simp only [MI_sai_iff, MI_sfi_iff]; with_reducible assumption)) only [li, ↓lr_, ↓bd_m, ↓oc_m, ↓reduceIte, bi_0, bi_0n, bi_1, bi_1n, not_true_eq_false, not_false_eq_true, Nat.reduceAdd, Nat.reduceMul, nI_mul, nI_add, inb_T, ix_nI, le_T, le_F, lt_T, lt_F, eq_F, and_self, and_true, true_and, false_and, and_false, or_true, true_or, or_false, false_or, bi_eq, x_within, m_in, f9_hold, r0, e1, f1_isOver, x35, f1_demand, e_gfi_sfi]
      · simp (disch := first | with_reducible assumption | omega | (simp only [MI_sai_iff, MI_sfi_iff]; with_reducible assumption)) only [li, ↓lr_, ↓bd_m, ↓oc_m, ↓reduceIte, bi_0, bi_0n, bi_1, bi_1n, not_true_eq_false, not_false_eq_true, Nat.reduceAdd, Nat.reduceMul, nI_mul, nI_add, inb_T, ix_nI, le_T, le_F, lt_T, lt_F, eq_F, and_self, and_true, true_and, false_and, and_false, or_true, true_or, or_false, false_or, bi_eq, x_within, m_in, f10_hold, e2, hj', m_ofJob, hs', f10_hold_b30, f10_hold_b43, m_setJob, e_gai_sai]
    · refine op_wr (r := nI 1) (Rel_j12 h hS hP hE hk w1 (v := 2) (by omega) hs') ?_ ?_ rfl rfl rfl rfl
      · have q : rq (nI 2) = nI 2 := if_neg (by decide)
        rw [q]
        simp (disch := first | with_reducible assumption | omega | (simp only [MI_sai_iff, MI_sfi_iff]; with_reducible assumption)) only [li, ↓lr_, ↓bd_m, ↓oc_m, ↓reduceIte, bi_0, bi_0n, bi_1, bi_1n, not_true_eq_false, not_false_eq_true, Nat.reduceAdd, Nat.reduceMul, nI_mul, nI_add, inb_T, ix_nI, le_T, le_F, lt_T, lt_F, eq_F, and_self, and_true, true_and, false_and, and_false, or_true, true_or, or_false, false_or, bi_eq, x_within, m_in, f9_hold, r0, e1, f1_isOver, x35, f1_demand, e_gfi_sfi, Nat.reduceEqDiff]
      · simp (disch := first | with_reducible assumption | omega | (simp only [MI_sai_iff, MI_sfi_iff]; with_reducible assumption)) only [li, ↓lr_, ↓bd_m, ↓oc_m, ↓reduceIte, bi_0, bi_0n, bi_1, bi_1n, not_true_eq_false, not_false_eq_true, Nat.reduceAdd, Nat.reduceMul, nI_mul, nI_add, inb_T, ix_nI, le_T, le_F, lt_T, lt_F, eq_F, and_self, and_true, true_and, false_and, and_false, or_true, true_or, or_false, false_or, bi_eq, x_within, m_in, f10_hold, e2, hj', m_ofJob, hs', f10_hold_b30, f10_hold_b43, m_setJob, e_gai_sai, Nat.add_left_cancel_iff, Nat.reduceEqDiff]
    all_goals
      refine op_fin h ?_ ?_ (r := -nI 5)
      · simp (disch := first | with_reducible assumption | omega | (simp only [MI_sai_iff, MI_sfi_iff]; with_reducible assumption)) only [li, ↓lr_, ↓bd_m, ↓oc_m, ↓reduceIte, bi_0, bi_0n, bi_1, bi_1n, not_true_eq_false, not_false_eq_true, Nat.reduceAdd, Nat.reduceMul, nI_mul, nI_add, inb_T, ix_nI, le_T, le_F, lt_T, lt_F, eq_F, and_self, and_true, true_and, false_and, and_false, or_true, true_or, or_false, false_or, bi_eq, x_within, m_in, f9_hold, r0, e1, f1_isOver, x35, f1_isOver_b16]
      · simp (disch := first | with_reducible assumption | omega | (simp only [MI_sai_iff, MI_sfi_iff]; with_reducible assumption)) only [li, ↓lr_, ↓bd_m, ↓oc_m, ↓reduceIte, bi_0, bi_0n, bi_1, bi_1n, not_true_eq_false, not_false_eq_true, Nat.reduceAdd, Nat.reduceMul, nI_mul, nI_add, inb_T, ix_nI, le_T, le_F, lt_T, lt_F, eq_F, and_self, and_true, true_and, false_and, and_false, or_true, true_or, or_false, false_or, bi_eq, x_within, m_in, f10_hold, e2, hj', m_ofJob, hs']
  · rw [if_neg hj] at e1
    refine op_fin h ?_ ?_ (r := -nI 1)
    · simp (disch := first | with_reducible assumption | omega | (simp only [MI_sai_iff, MI_sfi_iff]; with_reducible assumption)) only [li, ↓lr_, ↓bd_m, ↓oc_m, ↓reduceIte, bi_0, bi_0n, bi_1, bi_1n, not_true_eq_false, not_false_eq_true, Nat.reduceAdd, Nat.reduceMul, nI_mul, nI_add, inb_T, ix_nI, le_T, le_F, lt_T, lt_F, eq_F, and_self, and_true, true_and, false_and, and_false, or_true, true_or, or_false, false_or, bi_eq, x_within, m_in, f9_hold, r0, e1]
    · simp (disch := first | with_reducible assumption | omega | (simp only [MI_sai_iff, MI_sfi_iff]; with_reducible assumption)) only [li, ↓lr_, ↓bd_m, ↓oc_m, ↓reduceIte, bi_0, bi_0n, bi_1, bi_1n, not_true_eq_false, not_false_eq_true, Nat.reduceAdd, Nat.reduceMul, nI_mul, nI_add, inb_T, ix_nI, le_T, le_F, lt_T, lt_F, eq_F, and_self, and_true, true_and, false_and, and_false, or_true, true_or, or_false, false_or, bi_eq, x_within, m_in, f10_hold, e2, eq_false hj]
theorem op_cancel (j : Int32) : Op (f9_cancel 0 j) (f10_cancel 0 j) := by
  intro gX gM n hn h
  obtain ⟨F, r0, r1, hX, hS, hP, hE, hM, ⟨d1, d2, d3⟩, ⟨j1, j2, j3⟩, ⟨p1, p2, p3⟩⟩ := ctx h
  have e1 := x_jobAt hX j1 j3 j
  have e2 := m_isJob hM j2 (by omega) j
  by_cases hj : vl j (tn (gai gM 20 0 4))
  · obtain ⟨k, rfl, hk⟩ := vl_ex hj
    obtain ⟨J, Q, w1, w2, w3, w4⟩ := hS.2.2.2.1.2.2.2.2.1 k hk
    rw [if_pos hj, tn_nI (by omega), w1] at e1
    have hj' := eq_true hj
    have k24 : k < 24 := by omega
    have x35 := (hS.2.2.2.2.1 k J hk w1).1
    have hSt := hP.2.1.1 k hk
    obtain ⟨s, hs, hsl⟩ := jst_lt hSt
    have hs' := hs
    dsimp only at hs'
    rw [hs'] at x35
    rcases (show s = 1 ∨ s = 3 ∨ s = 4 ∨ s = 0 ∨ s = 2 by omega) with rfl | rfl | rfl | rfl | rfl
    · refine op_wr (r := nI 1) (Rel_j12 h hS hP hE hk w1 (v := 4) (by omega) hs') ?_ ?_ rfl rfl rfl rfl
      · have q : rq (nI 4) = nI 4 := if_neg (by decide)
        rw [q]
        simp (disch := first | with_reducible assumption | omega | (simp only [MI_sai_iff, MI_sfi_iff]; with_reducible assumption)) only [li, ↓lr_, ↓bd_m, ↓oc_m, ↓reduceIte, bi_0, bi_0n, bi_1, bi_1n, not_true_eq_false, not_false_eq_true, Nat.reduceAdd, Nat.reduceMul, nI_mul, nI_add, inb_T, ix_nI, le_T, le_F, lt_T, lt_F, eq_F, and_self, and_true, true_and, false_and, and_false, or_true, true_or, or_false, false_or, bi_eq, x_within, m_in, f9_cancel, r0, e1, f1_isOver, x35, f1_demand, e_gfi_sfi, Nat.reduceEqDiff]
      · simp (disch := first | with_reducible assumption | omega | (simp only [MI_sai_iff, MI_sfi_iff]; with_reducible assumption)) only [li, ↓lr_, ↓bd_m, ↓oc_m, ↓reduceIte, bi_0, bi_0n, bi_1, bi_1n, not_true_eq_false, not_false_eq_true, Nat.reduceAdd, Nat.reduceMul, nI_mul, nI_add, inb_T, ix_nI, le_T, le_F, lt_T, lt_F, eq_F, and_self, and_true, true_and, false_and, and_false, or_true, true_or, or_false, false_or, bi_eq, x_within, m_in, f10_cancel, e2, hj', f10_isOver, m_ofJob, hs', f10_cancel_b41, m_setJob, e_gai_sai, Nat.add_left_cancel_iff, Nat.reduceEqDiff]
    · refine op_fin h ?_ ?_ (r := -nI 5)
      · simp (disch := first | with_reducible assumption | omega | (simp only [MI_sai_iff, MI_sfi_iff]; with_reducible assumption)) only [li, ↓lr_, ↓bd_m, ↓oc_m, ↓reduceIte, bi_0, bi_0n, bi_1, bi_1n, not_true_eq_false, not_false_eq_true, Nat.reduceAdd, Nat.reduceMul, nI_mul, nI_add, inb_T, ix_nI, le_T, le_F, lt_T, lt_F, eq_F, and_self, and_true, true_and, false_and, and_false, or_true, true_or, or_false, false_or, bi_eq, x_within, m_in, f9_cancel, r0, e1, f1_isOver, x35, f1_isOver_b16]
      · simp (disch := first | with_reducible assumption | omega | (simp only [MI_sai_iff, MI_sfi_iff]; with_reducible assumption)) only [li, ↓lr_, ↓bd_m, ↓oc_m, ↓reduceIte, bi_0, bi_0n, bi_1, bi_1n, not_true_eq_false, not_false_eq_true, Nat.reduceAdd, Nat.reduceMul, nI_mul, nI_add, inb_T, ix_nI, le_T, le_F, lt_T, lt_F, eq_F, and_self, and_true, true_and, false_and, and_false, or_true, true_or, or_false, false_or, bi_eq, x_within, m_in, f10_cancel, e2, hj', f10_isOver, f10_isOver_b22, m_ofJob, hs']
    · refine op_fin h ?_ ?_ (r := -nI 5)
      · simp (disch := first | with_reducible assumption | omega | (simp only [MI_sai_iff, MI_sfi_iff]; with_reducible assumption)) only [li, ↓lr_, ↓bd_m, ↓oc_m, ↓reduceIte, bi_0, bi_0n, bi_1, bi_1n, not_true_eq_false, not_false_eq_true, Nat.reduceAdd, Nat.reduceMul, nI_mul, nI_add, inb_T, ix_nI, le_T, le_F, lt_T, lt_F, eq_F, and_self, and_true, true_and, false_and, and_false, or_true, true_or, or_false, false_or, bi_eq, x_within, m_in, f9_cancel, r0, e1, f1_isOver, x35, f1_isOver_b16]
      · simp (disch := first | with_reducible assumption | omega | (simp only [MI_sai_iff, MI_sfi_iff]; with_reducible assumption)) only [li, ↓lr_, ↓bd_m, ↓oc_m, ↓reduceIte, bi_0, bi_0n, bi_1, bi_1n, not_true_eq_false, not_false_eq_true, Nat.reduceAdd, Nat.reduceMul, nI_mul, nI_add, inb_T, ix_nI, le_T, le_F, lt_T, lt_F, eq_F, and_self, and_true, true_and, false_and, and_false, or_true, true_or, or_false, false_or, bi_eq, x_within, m_in, f10_cancel, e2, hj', f10_isOver, f10_isOver_b22, m_ofJob, hs']
    all_goals
      refine op_wr (r := nI 4) (Rel_j9 h hS hP hE hk w1 (v := 4) (by omega) (by omega) (by rw [hs']; decide) (by rw [hs']; decide)) ?_ ?_ rfl rfl rfl rfl
      · simp (disch := first | with_reducible assumption | omega | (simp only [MI_sai_iff, MI_sfi_iff]; with_reducible assumption)) only [li, ↓lr_, ↓bd_m, ↓oc_m, ↓reduceIte, bi_0, bi_0n, bi_1, bi_1n, not_true_eq_false, not_false_eq_true, Nat.reduceAdd, Nat.reduceMul, nI_mul, nI_add, inb_T, ix_nI, le_T, le_F, lt_T, lt_F, eq_F, and_self, and_true, true_and, false_and, and_false, or_true, true_or, or_false, false_or, bi_eq, x_within, m_in, f9_cancel, r0, e1, f1_isOver, x35, f1_demand, e_gfi_sfi]
      · simp (disch := first | with_reducible assumption | omega | (simp only [MI_sai_iff, MI_sfi_iff]; with_reducible assumption)) only [li, ↓lr_, ↓bd_m, ↓oc_m, ↓reduceIte, bi_0, bi_0n, bi_1, bi_1n, not_true_eq_false, not_false_eq_true, Nat.reduceAdd, Nat.reduceMul, nI_mul, nI_add, inb_T, ix_nI, le_T, le_F, lt_T, lt_F, eq_F, and_self, and_true, true_and, false_and, and_false, or_true, true_or, or_false, false_or, bi_eq, x_within, m_in, f10_cancel, e2, hj', f10_isOver, m_ofJob, hs', f10_cancel_b41, m_setJob, e_gai_sai]
  · rw [if_neg hj] at e1
    refine op_fin h ?_ ?_ (r := -nI 1)
    · simp (disch := first | with_reducible assumption | omega | (simp only [MI_sai_iff, MI_sfi_iff]; with_reducible assumption)) only [li, ↓lr_, ↓bd_m, ↓oc_m, ↓reduceIte, bi_0, bi_0n, bi_1, bi_1n, not_true_eq_false, not_false_eq_true, Nat.reduceAdd, Nat.reduceMul, nI_mul, nI_add, inb_T, ix_nI, le_T, le_F, lt_T, lt_F, eq_F, and_self, and_true, true_and, false_and, and_false, or_true, true_or, or_false, false_or, bi_eq, x_within, m_in, f9_cancel, r0, e1]
    · simp (disch := first | with_reducible assumption | omega | (simp only [MI_sai_iff, MI_sfi_iff]; with_reducible assumption)) only [li, ↓lr_, ↓bd_m, ↓oc_m, ↓reduceIte, bi_0, bi_0n, bi_1, bi_1n, not_true_eq_false, not_false_eq_true, Nat.reduceAdd, Nat.reduceMul, nI_mul, nI_add, inb_T, ix_nI, le_T, le_F, lt_T, lt_F, eq_F, and_self, and_true, true_and, false_and, and_false, or_true, true_or, or_false, false_or, bi_eq, x_within, m_in, f10_cancel, e2, eq_false hj]
theorem op_release (j : Int32) : Op (f9_release 0 j) (f10_release 0 j) := by
  intro gX gM n hn h
  obtain ⟨F, r0, r1, hX, hS, hP, hE, hM, ⟨d1, d2, d3⟩, ⟨j1, j2, j3⟩, ⟨p1, p2, p3⟩⟩ := ctx h
  have e1 := x_jobAt hX j1 j3 j
  have e2 := m_isJob hM j2 (by omega) j
  by_cases hj : vl j (tn (gai gM 20 0 4))
  · obtain ⟨k, rfl, hk⟩ := vl_ex hj
    obtain ⟨J, Q, w1, w2, w3, w4⟩ := hS.2.2.2.1.2.2.2.2.1 k hk
    rw [if_pos hj, tn_nI (by omega), w1] at e1
    have hj' := eq_true hj
    have k24 : k < 24 := by omega
    obtain ⟨x35, -, -, x38⟩ := hS.2.2.2.2.1 k J hk w1
    have hSt := hP.2.1.1 k hk
    have h12 := hSt.2.2.2.2
    dsimp only at h12
    obtain ⟨s, hs, hsl⟩ := jst_lt hSt
    have hs' := hs
    dsimp only at hs'
    rw [hs'] at x35
    have n271 : gfi gX 271 0 = gai gM 20 0 0 := hS.2.2.2.2.2.2.2.2.1
    rcases (show s = 2 ∨ s = 1 ∨ s = 0 ∨ s = 3 ∨ s = 4 by omega) with rfl | rfl | rfl | rfl | rfl
    · have h4 := Iv0_j hS.2.2.1
      have h5 := Iv0_p hS.2.2.1
      have hR : Rel (sfi (sfi gX 35 J (nI 0)) 37 J (gai gM 20 0 0)) (sai (sai gM 20 0 (106 + 13 * k + 9) (nI 0)) 20 0 (106 + 13 * k + 11) (gai gM 20 0 0)) (n + 1) := by
        have hI : Ivd (gai gM 20 0) := hP.2.1
        have t1 : TT 0 gX (sfi gX 35 J (nI 0)) := TT_sfi (oT_j (by omega) (by omega) k24 w1)
        refine Rel_TT h hS hP hE (TT_tr t1 (TT_sfi (oT_j (by omega) (by omega) k24 w1))) (KS_tr KS_sai KS_sai) (sai_l.trans sai_l) rfl ?_ ?_ ?_ ?_ ?_
        · rw [up_sai, up_sai]
          exact sta_tr (sta_up (dyn_j k24 (by omega) (by omega))) (sta_up (dyn_j k24 (by omega) (by omega)))
        · rw [up_sai, up_sai]
          have h4' : tn (up (gai gM 20 0) (106 + 13 * k + 9) (nI 0) 4) ≤ 24 := by rw [up_ne (by omega)]; exact h4
          have h5' : tn (up (gai gM 20 0) (106 + 13 * k + 9) (nI 0) 5) ≤ 3 := by rw [up_ne (by omega)]; exact h5
          exact XD_j37 h4' h5' (XJ_sfi (by omega) hS.1.2) (by rw [up_ne (by omega)]; exact hk) w1 _ (XD_j35 h4 h5 hS.1.2 hk w1 (nI 0) hS.2.2.2.2)
        · rw [up_sai, up_sai]
          have e : ∀ w, w < 13 → w ≠ 9 → w ≠ 11 → up (up (gai gM 20 0) (106 + 13 * k + 9) (nI 0)) (106 + 13 * k + 11) (gai gM 20 0 0) (106 + 13 * k + w) = gai gM 20 0 (106 + 13 * k + w) := fun w hw hne hne2 => by rw [up_ne (by omega), up_ne (by omega)]
          have e9 : up (up (gai gM 20 0) (106 + 13 * k + 9) (nI 0)) (106 + 13 * k + 11) (gai gM 20 0 0) (106 + 13 * k + 9) = nI 0 := by rw [up_ne (by omega), up_eq rfl]
          refine Ivd_job h4 h5 (j := k) (fun q hq => by rw [up_ne (by omega), up_ne (by omega)]) (fun _ => ?_) (fun p _ _ _ q => by rw [hs'] at q; exact absurd q (by decide)) hI
          obtain ⟨y1, y2, y3, y4, y5⟩ := hI.1 k hk
          have es : sSH (up (up (gai gM 20 0) (106 + 13 * k + 9) (nI 0)) (106 + 13 * k + 11) (gai gM 20 0 0)) k = sSH (gai gM 20 0) k := sSH_eq (fun w hw hne => e w (by omega) (by omega) (by omega))
          unfold JobSt jN at *
          rw [es, e 4 (by omega) (by omega) (by omega), e 10 (by omega) (by omega) (by omega), e 12 (by omega) (by omega) (by omega), e9]
          refine ⟨y1, vl_of (by omega) (by omega), y3, fun _ => y4 (by rw [hs']; decide), ?_⟩
          rcases y5 with y5 | ⟨y5, y6⟩
          · exact Or.inl y5
          · exact absurd (hs'.symm.trans y6) (by decide)
        · rw [up_sai, up_sai]
          refine DN_iff (by rw [up_ne (by omega), up_ne (by omega)]) (fun x hx => ?_) hP.2.2.1
          by_cases c : x = k
          · subst c
            rw [up_ne (by omega), up_eq rfl]
            dsimp only
            rw [hs']
            exact ⟨fun q => absurd q (by decide), fun q => absurd q (by decide)⟩
          · rw [up_ne (by omega), up_ne (by omega)]
        · rw [up_sai, up_sai, up_ne (by omega), up_ne (by omega)]
      refine op_wr (r := nI 0) hR ?_ ?_ rfl rfl rfl rfl
      · simp (disch := first | with_reducible assumption | omega | (simp only [MI_sai_iff, MI_sfi_iff]; with_reducible assumption)) only [li, ↓lr_, ↓bd_m, ↓oc_m, ↓reduceIte, bi_0, bi_0n, bi_1, bi_1n, not_true_eq_false, not_false_eq_true, Nat.reduceAdd, Nat.reduceMul, nI_mul, nI_add, inb_T, ix_nI, le_T, le_F, lt_T, lt_F, eq_F, and_self, and_true, true_and, false_and, and_false, or_true, true_or, or_false, false_or, bi_eq, x_within, m_in, f9_release, r0, e1, x35, f1_awaitFrom, n271, e_gfi_sfi, Nat.reduceEqDiff]
      · simp (disch := first | with_reducible assumption | omega | (simp only [MI_sai_iff, MI_sfi_iff]; with_reducible assumption)) only [li, ↓lr_, ↓bd_m, ↓oc_m, ↓reduceIte, bi_0, bi_0n, bi_1, bi_1n, not_true_eq_false, not_false_eq_true, Nat.reduceAdd, Nat.reduceMul, nI_mul, nI_add, inb_T, ix_nI, le_T, le_F, lt_T, lt_F, eq_F, and_self, and_true, true_and, false_and, and_false, or_true, true_or, or_false, false_or, bi_eq, x_within, m_in, f10_release, e2, hj', m_ofJob, hs', f10_becomeWaiting, m_setJob, MI_a hM, MI_n hM, e_gfr_sai, e_gln_sai, e_gai_sai, f10_release_b60, Nat.add_left_cancel_iff, Nat.reduceEqDiff, show ¬ (0 = 106 + 13 * k + 9) by omega]
    · by_cases c : gai gM 20 0 (106 + 13 * k + 12) = nI 0
      · have q : rq (gai gM 20 0 (106 + 13 * k + 12)) = -nI 1 := if_pos c
        rw [q] at x38
        refine op_fin h ?_ ?_ (r := -nI 5)
        · simp (disch := first | with_reducible assumption | omega | (simp only [MI_sai_iff, MI_sfi_iff]; with_reducible assumption)) only [li, ↓lr_, ↓bd_m, ↓oc_m, ↓reduceIte, bi_0, bi_0n, bi_1, bi_1n, not_true_eq_false, not_false_eq_true, Nat.reduceAdd, Nat.reduceMul, nI_mul, nI_add, inb_T, ix_nI, le_T, le_F, lt_T, lt_F, eq_F, and_self, and_true, true_and, false_and, and_false, or_true, true_or, or_false, false_or, bi_eq, x_within, m_in, f9_release, r0, e1, x35, x38]
        · simp (disch := first | with_reducible assumption | omega | (simp only [MI_sai_iff, MI_sfi_iff]; with_reducible assumption)) only [li, ↓lr_, ↓bd_m, ↓oc_m, ↓reduceIte, bi_0, bi_0n, bi_1, bi_1n, not_true_eq_false, not_false_eq_true, Nat.reduceAdd, Nat.reduceMul, nI_mul, nI_add, inb_T, ix_nI, le_T, le_F, lt_T, lt_F, eq_F, and_self, and_true, true_and, false_and, and_false, or_true, true_or, or_false, false_or, bi_eq, x_within, m_in, f10_release, e2, hj', m_ofJob, hs', c]
      · have q : rq (gai gM 20 0 (106 + 13 * k + 12)) = gai gM 20 0 (106 + 13 * k + 12) := if_neg c
        rw [q] at x38
        have c1 : (gai gM 20 0 (106 + 13 * k + 12) = -nI 1) = False := by
          rcases h12 with u | ⟨u | u, -⟩ <;> rw [u] <;> decide
        refine op_wr (r := nI 1) (Rel_j12 h hS hP hE hk w1 (v := 0) (by omega) hs') ?_ ?_ rfl rfl rfl rfl
        · have q : rq (nI 0) = -nI 1 := if_pos rfl
          rw [q]
          simp (disch := first | with_reducible assumption | omega | (simp only [MI_sai_iff, MI_sfi_iff]; with_reducible assumption)) only [li, ↓lr_, ↓bd_m, ↓oc_m, ↓reduceIte, bi_0, bi_0n, bi_1, bi_1n, not_true_eq_false, not_false_eq_true, Nat.reduceAdd, Nat.reduceMul, nI_mul, nI_add, inb_T, ix_nI, le_T, le_F, lt_T, lt_F, eq_F, and_self, and_true, true_and, false_and, and_false, or_true, true_or, or_false, false_or, bi_eq, x_within, m_in, f9_release, r0, e1, x35, x38, c1, e_gfi_sfi, Nat.reduceEqDiff]
        · simp (disch := first | with_reducible assumption | omega | (simp only [MI_sai_iff, MI_sfi_iff]; with_reducible assumption)) only [li, ↓lr_, ↓bd_m, ↓oc_m, ↓reduceIte, bi_0, bi_0n, bi_1, bi_1n, not_true_eq_false, not_false_eq_true, Nat.reduceAdd, Nat.reduceMul, nI_mul, nI_add, inb_T, ix_nI, le_T, le_F, lt_T, lt_F, eq_F, and_self, and_true, true_and, false_and, and_false, or_true, true_or, or_false, false_or, bi_eq, x_within, m_in, f10_release, e2, hj', m_ofJob, hs', eq_false c, m_setJob, f10_release_b60, e_gai_sai, Nat.add_left_cancel_iff, Nat.reduceEqDiff]
    all_goals
      refine op_fin h ?_ ?_ (r := -nI 5)
      · simp (disch := first | with_reducible assumption | omega | (simp only [MI_sai_iff, MI_sfi_iff]; with_reducible assumption)) only [li, ↓lr_, ↓bd_m, ↓oc_m, ↓reduceIte, bi_0, bi_0n, bi_1, bi_1n, not_true_eq_false, not_false_eq_true, Nat.reduceAdd, Nat.reduceMul, nI_mul, nI_add, inb_T, ix_nI, le_T, le_F, lt_T, lt_F, eq_F, and_self, and_true, true_and, false_and, and_false, or_true, true_or, or_false, false_or, bi_eq, x_within, m_in, f9_release, r0, e1, x35]
      · simp (disch := first | with_reducible assumption | omega | (simp only [MI_sai_iff, MI_sfi_iff]; with_reducible assumption)) only [li, ↓lr_, ↓bd_m, ↓oc_m, ↓reduceIte, bi_0, bi_0n, bi_1, bi_1n, not_true_eq_false, not_false_eq_true, Nat.reduceAdd, Nat.reduceMul, nI_mul, nI_add, inb_T, ix_nI, le_T, le_F, lt_T, lt_F, eq_F, and_self, and_true, true_and, false_and, and_false, or_true, true_or, or_false, false_or, bi_eq, x_within, m_in, f10_release, e2, hj', m_ofJob, hs']
  · rw [if_neg hj] at e1
    refine op_fin h ?_ ?_ (r := -nI 1)
    · simp (disch := first | with_reducible assumption | omega | (simp only [MI_sai_iff, MI_sfi_iff]; with_reducible assumption)) only [li, ↓lr_, ↓bd_m, ↓oc_m, ↓reduceIte, bi_0, bi_0n, bi_1, bi_1n, not_true_eq_false, not_false_eq_true, Nat.reduceAdd, Nat.reduceMul, nI_mul, nI_add, inb_T, ix_nI, le_T, le_F, lt_T, lt_F, eq_F, and_self, and_true, true_and, false_and, and_false, or_true, true_or, or_false, false_or, bi_eq, x_within, m_in, f9_release, r0, e1]
    · simp (disch := first | with_reducible assumption | omega | (simp only [MI_sai_iff, MI_sfi_iff]; with_reducible assumption)) only [li, ↓lr_, ↓bd_m, ↓oc_m, ↓reduceIte, bi_0, bi_0n, bi_1, bi_1n, not_true_eq_false, not_false_eq_true, Nat.reduceAdd, Nat.reduceMul, nI_mul, nI_add, inb_T, ix_nI, le_T, le_F, lt_T, lt_F, eq_F, and_self, and_true, true_and, false_and, and_false, or_true, true_or, or_false, false_or, bi_eq, x_within, m_in, f10_release, e2, eq_false hj]
