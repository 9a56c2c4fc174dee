/-! urgency, finisher -/
theorem SpO_34 {g : GS_} {S : Nat} {a l : Nat → Int32} {F : List Nat} (h : SpO g S a l F) (hX : XS g) {k J v : Nat} (hk : k < tn (a 4)) (hJ : gar g 23 S k = some J) : SpO (sfi g 34 J (nI v)) S (up a (106 + 13 * k + 4) (nI v)) l F ∧ TF S g (sfi g 34 J (nI v)) := by
  have hS := h.1.1
  have h4 := Iv0_j h.2.2.1
  have h5 := Iv0_p h.2.2.1
  have k24 : k < 24 := by omega
  have ht : TF S g (sfi g 34 J (nI v)) := TF_sfi (Or.inl ⟨by omega, by omega, k, k24, hJ⟩)
  have hXS := XS_TF ht hX
  obtain ⟨q1, q2, q3⟩ := XT0_parts h.2.2.2.1
  have ek : ∀ q, q ≠ 106 + 13 * k + 4 → up a (106 + 13 * k + 4) (nI v) q = a q := fun q hq => up_ne hq
  refine ⟨⟨⟨hS, XJ_XS hXS hS⟩, hXS.2.1 S hS, Iv0_keys (fun q hq => ek q (by omega)) h.2.2.1, ?_, ?_⟩, ht⟩
  · refine XT0_w ht h.2.2.2.1 h.2.2.1 (fun q hq => ek q (by omega)) (fun f hf => by rw [e_gfi_sfi, if_neg (by omega)]) ?_ (fun q hq => ?_) (fun u hu => ?_) (fun i I hi hI q4 => ?_) (fun f i h1 h2 => by rw [e_gfi_sfi, if_neg (by omega)])
    · rw [e_gfi_sfi, if_neg (by omega), e_gfi_sfi, if_neg (by omega), e_gfi_sfi, if_neg (by omega), ek _ (by omega), ek _ (by omega), ek _ (by omega)]
      exact q1
    · rw [ek _ (by omega)]
      exact q2 q hq
    · rw [ek _ (by omega), ek _ (by omega)]
      exact q3 u hu
    · rw [e_gfi_sfi]
      by_cases c : I = J
      · subst c
        have := (h.1.2 k I k24 hJ).2 i (by omega) hI
        subst this
        rw [if_pos ⟨rfl, rfl⟩, up_eq rfl]
      · rw [if_neg (by omega)]
        have : i ≠ k := by
          rintro rfl
          exact c (Option.some.inj (hI.symm.trans hJ))
        rw [ek _ (by omega)]
        exact q4
  · refine XD_keys h4 h5 (fun q hq => ek q (by omega)) (XD_frame (g := g) rfl (fun f i hf => ?_) (fun c _ _ => rfl) h5 h.2.2.2.2)
    rw [e_gfi_sfi, if_neg (by omega)]
theorem PI_34 {l a : Nat → Int32} {F : List Nat} {n k v : Nat} (hv : v < 10) (hk : k < tn (a 4)) (hP : PI l (a, F) n) : PI l (up a (106 + 13 * k + 4) (nI v), F) n := by
  obtain ⟨i1, i2, i3, i4⟩ := PI_el hP
  have h4 := Iv0_j i1
  have h5 := Iv0_p i1
  have ek : ∀ q, q ≠ 106 + 13 * k + 4 → up a (106 + 13 * k + 4) (nI v) q = a q := fun q hq => up_ne hq
  refine PI_mk (Iv0_keys (fun q hq => ek q (by omega)) i1) ?_ (DN_same (ek _ (by omega)) (fun x hx => ek _ (by omega)) i3) (Lg_eq i4 (ek _ (by omega)))
  refine Ivd_job h4 h5 (j := k) (fun q hq => ek q (by omega)) (fun _ => ?_) (fun p _ _ _ q => by rw [ek _ (by omega)]; exact q) i2
  obtain ⟨y1, y2, y3, y4, y5⟩ := i2.1 k hk
  have es : sSH (up a (106 + 13 * k + 4) (nI v)) k = sSH a k := sSH_eq (fun w hw hne => ek _ (by omega))
  unfold JobSt jN at *
  rw [es, up_eq rfl, ek (106 + 13 * k + 9) (by omega), ek (106 + 13 * k + 10) (by omega), ek (106 + 13 * k + 12) (by omega)]
  exact ⟨vl_of (by omega) (by omega), y2, y3, y4, y5⟩
theorem FD_iff {l : Nat → Int32} {s : TS} {n j L : Nat} {r : Int32} (hP : PI l s n) (hj : j < tn (s.1 4)) (hL : L < 100000) (h : FirstDone l s j L r) : (r = -nI 6) = ¬ ((T_it l L s).1 (106 + 13 * j + 9) = nI 3) := by
  rcases h with ⟨k, h1, h2, h3, rfl⟩ | ⟨h1, rfl⟩
  · rw [neg_eq (by omega) (by omega) (by omega), eq_true (done_stays hP h1 hj h2)]
    exact propext ⟨fun q => q.elim, fun q => q trivial⟩
  · exact propext ⟨fun _ => h1 L (Nat.le_refl _), fun _ => rfl⟩
theorem urg_loop {k L : Nat} (hL1 : 1 ≤ L) (hL : L ≤ 1000) {n : Nat} (hn : n < 600) : ∀ (fuel v : Nat) (gX gM : GS_), v ≤ 10 → 10 - v < fuel → Rel gX gM n → k < tn (gai gM 20 0 4) →
    ∃ r gX' gM', f9_urgency_b42 fuel 0 (nI k) (nI L) (nI v) gX = some (r, gX') ∧ f10_urgency_b37 fuel 0 (nI k) (nI L) (nI v) gM = some (r, gM') ∧ Rel gX' gM' n ∧ ghs gX' ≤ ghs gX + 24 * (10 - v) ∧ gsl gX' ≤ gsl gX + 168 * (10 - v) ∧ ghs gM' = ghs gM ∧ gsl gM' = gsl gM
  | 0, v, _, _, _, h2, _, _ => by omega
  | fuel + 1, v, gX, gM, h1, h2, h, hk => by
    obtain ⟨F, r0, r1, hX, hS, hP, hE, hM, ⟨d1, d2, d3⟩, ⟨j1, j2, j3⟩, ⟨p1, p2, p3⟩⟩ := ctx h
    rw [f9_urgency_b42.eq_2, f10_urgency_b37.eq_2]
    by_cases he : v = 10
    · subst he
      refine ⟨-nI 6, gX, gM, ?_, ?_, h, by omega, by omega, rfl, rfl⟩
      · simp (disch := first | with_reducible assumption | omega | (simp only [MI_sai_iff, MI_sfi_iff]; with_reducible assumption)) only [li, ↓lr_, ↓bd_m, ↓oc_m, ↓reduceIte, bi_0, bi_0n, bi_1, bi_1n, not_true_eq_false, not_false_eq_true, Nat.reduceAdd, Nat.reduceMul, nI_mul, nI_add, inb_T, ix_nI, le_T, le_F, lt_T, lt_F, eq_F, and_self, and_true, true_and, false_and, and_false, or_true, true_or, or_false, false_or, bi_eq, x_within, m_in]
      · simp (disch := first | with_reducible assumption | omega | (simp only [MI_sai_iff, MI_sfi_iff]; with_reducible assumption)) only [li, ↓lr_, ↓bd_m, ↓oc_m, ↓reduceIte, bi_0, bi_0n, bi_1, bi_1n, not_true_eq_false, not_false_eq_true, Nat.reduceAdd, Nat.reduceMul, nI_mul, nI_add, inb_T, ix_nI, le_T, le_F, lt_T, lt_F, eq_F, and_self, and_true, true_and, false_and, and_false, or_true, true_or, or_false, false_or, bi_eq, x_within, m_in, Nat.le_refl]
    · have k24 : k < 24 := by omega
      obtain ⟨g1, a1, a2, a3, a4, ⟨a5, a6⟩, a7, a8⟩ := x_copyFrom (S := 1) (S' := 0) h.1 (by omega) (by omega) (by omega) hS (DN_24 hP)
      obtain ⟨n4, q4⟩ := SpO_n4 a4
      obtain ⟨J, Q, w1, w2, w3, w4⟩ := a4.2.2.2.1.2.2.2.2.1 k hk
      have e1 := x_jobAt (a3.2.1 1 (by omega)) n4 q4 (nI k)
      rw [if_pos (vl_of hk (by omega)), tn_nI (by omega), w1] at e1
      obtain ⟨b1, b2⟩ := SpO_34 (v := v) a4 a3 hk w1
      have hXS1 := XS_TF b2 a3
      have hP2 := PI_34 (v := v) (by omega) hk hP
      have hk2 : k < tn (up (gai gM 20 0) (106 + 13 * k + 4) (nI v) 4) := by rw [up_ne (by omega)]; exact hk
      obtain ⟨r, g2, c1, c2, c3⟩ := x_ticksUntilDone (s := (up (gai gM 20 0) (106 + 13 * k + 4) (nI v), F)) (L := L) b1 hP2 (by omega) (by omega) hk2
      -- the reference
      obtain ⟨m1, u1, u2, u3, u4, u5⟩ := m_putAside hM
      have hM1 := MI_KA hM u2
      have cl : gai m1 20 2 = gai gM 20 2 := u2.2.2.2.2.2.2.1 2 (by omega) (by omega)
      have s1 := m_setJob hM1 k24 (w := 4) (by omega) (nI v)
      have hMs : MI (sai m1 20 0 (106 + 13 * k + 4) (nI v)) := MI_sai hM1
      have ha : gai (sai m1 20 0 (106 + 13 * k + 4) (nI v)) 20 0 = up (gai gM 20 0) (106 + 13 * k + 4) (nI v) := by rw [up_sai, u3]
      have hl : gai (sai m1 20 0 (106 + 13 * k + 4) (nI v)) 20 2 = gai gM 20 2 := sai_l.trans cl
      have h1' : gai (sai m1 20 0 (106 + 13 * k + 4) (nI v)) 20 1 = gai m1 20 1 := up_sai_ne m1 20 0 (106 + 13 * k + 4) 1 (nI v) (by omega)
      have hc : gfi (sai m1 20 0 (106 + 13 * k + 4) (nI v)) 341 0 = nI 0 := u5
      have hKSs : KS m1 (sai m1 20 0 (106 + 13 * k + 4) (nI v)) := KS_sai
      have hks1 : ghs (sai m1 20 0 (106 + 13 * k + 4) (nI v)) = ghs m1 ∧ gsl (sai m1 20 0 (106 + 13 * k + 4) (nI v)) = gsl m1 := ⟨rfl, rfl⟩
      generalize sai m1 20 0 (106 + 13 * k + 4) (nI v) = ms at *
      obtain ⟨m2, f1, f3⟩ := m_inTimeLoop (n := 3000 * n) (F := F) hMs (by rw [hl, ha]; exact hP2) hL (by omega) (show 0 < 8000000 by omega) k24 FU_ 0 ms (by omega) (by unfold FU_; omega) (MAt_0 hc)
      rw [hl, ha] at f1
      have hM2 := MI_MS hMs f3.1
      obtain ⟨m3, y1, y2, y3, y4⟩ := m_putBack hM2
      have hR : Rel g2 m3 n := by
        refine Rel_oth h (by omega) (GF_tr a2 (GF_tr (TF_GF b2) (TF_GF (TT_TF c2)))) (XS_TF (TT_TF c2) hXS1) (KS_tr (KS_KA u2) (KS_tr hKSs (KS_tr (KS_KA (KA_MS f3.1)) (KS_KA y2)))) (fun i hi => ?_) ?_ ?_
        · rw [y4 i hi, f3.1.2.2.2.2.2.2.1 1 (by omega) (by omega), h1', u4 i hi]
        · rw [y2.2.2.2.2.2.2.1 2 (by omega) (by omega), f3.1.2.2.2.2.2.2.1 2 (by omega) (by omega), hl]
        · obtain ⟨c', z1, z2⟩ := f3.2.1
          exact ⟨c', y3.1.trans z1, by omega⟩
      have g0 : gfr g1 289 0 = some 1 := a3.1.2.1
      have g0' : gfr (sfi g1 34 J (nI v)) 289 0 = some 1 := g0
      have eh : ghs g2 ≤ ghs gX + 24 := by rw [c2.1.2.2.2.2.1]; exact a5
      have el : gsl g2 ≤ gsl gX + 168 := by rw [c2.1.2.2.2.2.2]; exact a6
      have eh2 : ghs m3 = ghs gM := by rw [y2.2.2.2.2.1, f3.1.2.2.2.2.1, hks1.1, u2.2.2.2.2.1]
      have el2 : gsl m3 = gsl gM := by rw [y2.2.2.2.2.2.1, f3.1.2.2.2.2.2.1, hks1.2, u2.2.2.2.2.2.1]
      have fd := FD_iff hP2 hk2 (show L < 100000 by omega) c3
      have inT : f10_isInTime 0 (nI k) (nI v) (nI L) gM = some (bi ((T_it (gai gM 20 2) L (up (gai gM 20 0) (106 + 13 * k + 4) (nI v), F)).1 (106 + 13 * k + 9) = nI 3), m3) := by
        simp (disch := first | with_reducible assumption | omega | (simp only [MI_sai_iff, MI_sfi_iff]; with_reducible assumption)) only [li, ↓lr_, ↓bd_m, ↓oc_m, ↓reduceIte, bi_0, bi_0n, bi_1, bi_1n, not_true_eq_false, not_false_eq_true, Nat.reduceAdd, Nat.reduceMul, nI_mul, nI_add, inb_T, ix_nI, le_T, le_F, lt_T, lt_F, eq_F, and_self, and_true, true_and, false_and, and_false, or_true, true_or, or_false, false_or, bi_eq, x_within, m_in, f10_isInTime, u1, s1, f1, f10_isInTime_b46, y1, npp]
      by_cases hd : (T_it (gai gM 20 2) L (up (gai gM 20 0) (106 + 13 * k + 4) (nI v), F)).1 (106 + 13 * k + 9) = nI 3
      · rw [bi_t hd] at inT
        have fd' : (r = -nI 6) = False := fd.trans (eq_false (fun q => q hd))
        refine ⟨nI v, g2, m3, ?_, ?_, hR, by omega, by omega, eh2, el2⟩
        · simp (disch := first | with_reducible assumption | omega | (simp only [MI_sai_iff, MI_sfi_iff]; with_reducible assumption)) only [li, ↓lr_, ↓bd_m, ↓oc_m, ↓reduceIte, bi_0, bi_0n, bi_1, bi_1n, not_true_eq_false, not_false_eq_true, Nat.reduceAdd, Nat.reduceMul, nI_mul, nI_add, inb_T, ix_nI, le_T, le_F, lt_T, lt_F, eq_F, and_self, and_true, true_and, false_and, and_false, or_true, true_or, or_false, false_or, bi_eq, x_within, m_in, r0, r1, a1, g0, e1, g0', c1, fd']
        · simp (disch := first | with_reducible assumption | omega | (simp only [MI_sai_iff, MI_sfi_iff]; with_reducible assumption)) only [li, ↓lr_, ↓bd_m, ↓oc_m, ↓reduceIte, bi_0, bi_0n, bi_1, bi_1n, not_true_eq_false, not_false_eq_true, Nat.reduceAdd, Nat.reduceMul, nI_mul, nI_add, inb_T, ix_nI, le_T, le_F, lt_T, lt_F, eq_F, and_self, and_true, true_and, false_and, and_false, or_true, true_or, or_false, false_or, bi_eq, x_within, m_in, inT]
      · rw [bi_f hd] at inT
        have fd' : (r = -nI 6) = True := fd.trans (eq_true hd)
        have hkm : k < tn (gai m3 20 0 4) := by
          rw [y4 4 (by omega), f3.1.2.2.2.2.2.2.1 1 (by omega) (by omega), h1', u4 4 (by omega)]
          exact hk
        obtain ⟨r', gX', gM', z1, z2, z3, z4, z5, z6, z7⟩ := urg_loop hL1 hL hn fuel (v + 1) g2 m3 (by omega) (by omega) hR hkm
        refine ⟨r', gX', gM', ?_, ?_, z3, by omega, by omega, z6.trans eh2, z7.trans el2⟩
        · simp (disch := first | with_reducible assumption | omega | (simp only [MI_sai_iff, MI_sfi_iff]; with_reducible assumption)) only [li, ↓lr_, ↓bd_m, ↓oc_m, ↓reduceIte, bi_0, bi_0n, bi_1, bi_1n, not_true_eq_false, not_false_eq_true, Nat.reduceAdd, Nat.reduceMul, nI_mul, nI_add, inb_T, ix_nI, le_T, le_F, lt_T, lt_F, eq_F, and_self, and_true, true_and, false_and, and_false, or_true, true_or, or_false, false_or, bi_eq, x_within, m_in, r0, r1, a1, g0, e1, g0', c1, fd', z1]
        · simp (disch := first | with_reducible assumption | omega | (simp only [MI_sai_iff, MI_sfi_iff]; with_reducible assumption)) only [li, ↓lr_, ↓bd_m, ↓oc_m, ↓reduceIte, bi_0, bi_0n, bi_1, bi_1n, not_true_eq_false, not_false_eq_true, Nat.reduceAdd, Nat.reduceMul, nI_mul, nI_add, inb_T, ix_nI, le_T, le_F, lt_T, lt_F, eq_F, and_self, and_true, true_and, false_and, and_false, or_true, true_or, or_false, false_or, bi_eq, x_within, m_in, inT, z2]
theorem op_urgency (j v : Int32) : Op (f9_urgency 0 j v) (f10_urgency 0 j v) := by
  intro gX gM n hn h
  obtain ⟨F, r0, r1, hX, hS, hP, hE, hM, ⟨d1, d2, d3⟩, ⟨j1, j2, j3⟩, ⟨p1, p2, p3⟩⟩ := ctx h
  have e1 := x_jobAt hX j1 j3 j
  have e2 := m_isJob hM j2 (by omega) j
  by_cases hj : vl j (tn (gai gM 20 0 4))
  · obtain ⟨k, rfl, hk⟩ := vl_ex hj
    obtain ⟨J, Q, w1, w2, w3, w4⟩ := hS.2.2.2.1.2.2.2.2.1 k hk
    rw [if_pos hj, tn_nI (by omega), w1] at e1
    have hj' := eq_true hj
    have k24 : k < 24 := by omega
    have x35 := (hS.2.2.2.2.1 k J hk w1).1
    have hSt := hP.2.1.1 k hk
    obtain ⟨s, hs, hsl⟩ := jst_lt hSt
    have hs' := hs
    dsimp only at hs'
    rw [hs'] at x35
    by_cases hv : nI 1 ≤ v ∧ v ≤ nI 1000
    · obtain ⟨L, hL1, hL2, rfl⟩ := (in_ex (by omega) (by omega)).mp hv
      rcases (show s = 3 ∨ s = 4 ∨ s = 0 ∨ s = 1 ∨ s = 2 by omega) with rfl | rfl | hs3
      · refine op_fin h ?_ ?_ (r := -nI 5)
        · simp (disch := first | with_reducible assumption | omega | (simp only [MI_sai_iff, MI_sfi_iff]; with_reducible assumption)) only [li, ↓lr_, ↓bd_m, ↓oc_m, ↓reduceIte, bi_0, bi_0n, bi_1, bi_1n, not_true_eq_false, not_false_eq_true, Nat.reduceAdd, Nat.reduceMul, nI_mul, nI_add, inb_T, ix_nI, le_T, le_F, lt_T, lt_F, eq_F, and_self, and_true, true_and, false_and, and_false, or_true, true_or, or_false, false_or, bi_eq, x_within, m_in, f9_urgency, r0, e1, eq_true hv, f1_isOver, x35, f1_isOver_b16]
        · simp (disch := first | with_reducible assumption | omega | (simp only [MI_sai_iff, MI_sfi_iff]; with_reducible assumption)) only [li, ↓lr_, ↓bd_m, ↓oc_m, ↓reduceIte, bi_0, bi_0n, bi_1, bi_1n, not_true_eq_false, not_false_eq_true, Nat.reduceAdd, Nat.reduceMul, nI_mul, nI_add, inb_T, ix_nI, le_T, le_F, lt_T, lt_F, eq_F, and_self, and_true, true_and, false_and, and_false, or_true, true_or, or_false, false_or, bi_eq, x_within, m_in, f10_urgency, e2, hj', eq_true hv, f10_isOver, f10_isOver_b22, m_ofJob, hs']
      · refine op_fin h ?_ ?_ (r := -nI 5)
        · simp (disch := first | with_reducible assumption | omega | (simp only [MI_sai_iff, MI_sfi_iff]; with_reducible assumption)) only [li, ↓lr_, ↓bd_m, ↓oc_m, ↓reduceIte, bi_0, bi_0n, bi_1, bi_1n, not_true_eq_false, not_false_eq_true, Nat.reduceAdd, Nat.reduceMul, nI_mul, nI_add, inb_T, ix_nI, le_T, le_F, lt_T, lt_F, eq_F, and_self, and_true, true_and, false_and, and_false, or_true, true_or, or_false, false_or, bi_eq, x_within, m_in, f9_urgency, r0, e1, eq_true hv, f1_isOver, x35, f1_isOver_b16]
        · simp (disch := first | with_reducible assumption | omega | (simp only [MI_sai_iff, MI_sfi_iff]; with_reducible assumption)) only [li, ↓lr_, ↓bd_m, ↓oc_m, ↓reduceIte, bi_0, bi_0n, bi_1, bi_1n, not_true_eq_false, not_false_eq_true, Nat.reduceAdd, Nat.reduceMul, nI_mul, nI_add, inb_T, ix_nI, le_T, le_F, lt_T, lt_F, eq_F, and_self, and_true, true_and, false_and, and_false, or_true, true_or, or_false, false_or, bi_eq, x_within, m_in, f10_urgency, e2, hj', eq_true hv, f10_isOver, f10_isOver_b22, m_ofJob, hs']
      · have hn3 : (nI s = nI 3) = False := nI_ne (by omega) (by omega) (by omega)
        have hn4 : (nI s = nI 4) = False := nI_ne (by omega) (by omega) (by omega)
        obtain ⟨r, gX', gM', z1, z2, z3, z4, z5, z6, z7⟩ := urg_loop hL1 hL2 hn FU_ 0 gX gM (by omega) (by unfold FU_; omega) h hk
        refine ⟨r, gX', gM', ?_, ?_, Rel_id z3 KS_rfl rfl rfl rfl, by omega, by omega, z6, z7⟩
        · simp (disch := first | with_reducible assumption | omega | (simp only [MI_sai_iff, MI_sfi_iff]; with_reducible assumption)) only [li, ↓lr_, ↓bd_m, ↓oc_m, ↓reduceIte, bi_0, bi_0n, bi_1, bi_1n, not_true_eq_false, not_false_eq_true, Nat.reduceAdd, Nat.reduceMul, nI_mul, nI_add, inb_T, ix_nI, le_T, le_F, lt_T, lt_F, eq_F, and_self, and_true, true_and, false_and, and_false, or_true, true_or, or_false, false_or, bi_eq, x_within, m_in, f9_urgency, r0, e1, eq_true hv, f1_isOver, x35, hn3, hn4, z1]
        · simp (disch := first | with_reducible assumption | omega | (simp only [MI_sai_iff, MI_sfi_iff]; with_reducible assumption)) only [li, ↓lr_, ↓bd_m, ↓oc_m, ↓reduceIte, bi_0, bi_0n, bi_1, bi_1n, not_true_eq_false, not_false_eq_true, Nat.reduceAdd, Nat.reduceMul, nI_mul, nI_add, inb_T, ix_nI, le_T, le_F, lt_T, lt_F, eq_F, and_self, and_true, true_and, false_and, and_false, or_true, true_or, or_false, false_or, bi_eq, x_within, m_in, f10_urgency, e2, hj', eq_true hv, f10_isOver, m_ofJob, hs', hn3, hn4, z2]
    · refine op_fin h ?_ ?_ (r := -nI 2)
      · simp (disch := first | with_reducible assumption | omega | (simp only [MI_sai_iff, MI_sfi_iff]; with_reducible assumption)) only [li, ↓lr_, ↓bd_m, ↓oc_m, ↓reduceIte, bi_0, bi_0n, bi_1, bi_1n, not_true_eq_false, not_false_eq_true, Nat.reduceAdd, Nat.reduceMul, nI_mul, nI_add, inb_T, ix_nI, le_T, le_F, lt_T, lt_F, eq_F, and_self, and_true, true_and, false_and, and_false, or_true, true_or, or_false, false_or, bi_eq, x_within, m_in, f9_urgency, r0, e1, eq_false hv]
      · simp (disch := first | with_reducible assumption | omega | (simp only [MI_sai_iff, MI_sfi_iff]; with_reducible assumption)) only [li, ↓lr_, ↓bd_m, ↓oc_m, ↓reduceIte, bi_0, bi_0n, bi_1, bi_1n, not_true_eq_false, not_false_eq_true, Nat.reduceAdd, Nat.reduceMul, nI_mul, nI_add, inb_T, ix_nI, le_T, le_F, lt_T, lt_F, eq_F, and_self, and_true, true_and, false_and, and_false, or_true, true_or, or_false, false_or, bi_eq, x_within, m_in, f10_urgency, e2, hj', eq_false hv]
  · rw [if_neg hj] at e1
    refine op_fin h ?_ ?_ (r := -nI 1)
    · simp (disch := first | with_reducible assumption | omega | (simp only [MI_sai_iff, MI_sfi_iff]; with_reducible assumption)) only [li, ↓lr_, ↓bd_m, ↓oc_m, ↓reduceIte, bi_0, bi_0n, bi_1, bi_1n, not_true_eq_false, not_false_eq_true, Nat.reduceAdd, Nat.reduceMul, nI_mul, nI_add, inb_T, ix_nI, le_T, le_F, lt_T, lt_F, eq_F, and_self, and_true, true_and, false_and, and_false, or_true, true_or, or_false, false_or, bi_eq, x_within, m_in, f9_urgency, r0, e1]
    · simp (disch := first | with_reducible assumption | omega | (simp only [MI_sai_iff, MI_sfi_iff]; with_reducible assumption)) only [li, ↓lr_, ↓bd_m, ↓oc_m, ↓reduceIte, bi_0, bi_0n, bi_1, bi_1n, not_true_eq_false, not_false_eq_true, Nat.reduceAdd, Nat.reduceMul, nI_mul, nI_add, inb_T, ix_nI, le_T, le_F, lt_T, lt_F, eq_F, and_self, and_true, true_and, false_and, and_false, or_true, true_or, or_false, false_or, bi_eq, x_within, m_in, f10_urgency, e2, eq_false hj]
theorem Nth_app {F G : List Nat} {i : Nat} : Nth (F ++ G) (F.length + i) = Nth G i := by
  unfold Nth
  rw [List.getElem?_append_right (by omega), Nat.add_sub_cancel_left]
theorem Nth_ge {F : List Nat} {i : Nat} (h : F.length ≤ i) : Nth F i = -nI 6 := by
  unfold Nth
  rw [List.getElem?_eq_none h]
theorem op_finisher (i v : Int32) : Op (f9_finisher 0 i v) (f10_finisher 0 i v) := by
  intro gX gM n hn h
  obtain ⟨F, r0, r1, hX, hS, hP, hE, hM, ⟨d1, d2, d3⟩, ⟨j1, j2, j3⟩, ⟨p1, p2, p3⟩⟩ := ctx h
  by_cases hv : nI 1 ≤ v ∧ v ≤ nI 3000
  · obtain ⟨L, hL1, hL2, rfl⟩ := (in_ex (by omega) (by omega)).mp hv
    -- the reference
    obtain ⟨m1, c1, c2, c3, c4, c5⟩ := m_putAside hM
    have hM1 := MI_KA hM c2
    have cl : gai m1 20 2 = gai gM 20 2 := c2.2.2.2.2.2.2.1 2 (by omega) (by omega)
    have hP1 : PI (gai m1 20 2) (gai m1 20 0, F) (3000 * n) := by rw [cl, c3]; exact hP
    obtain ⟨m2, f3, fu, f1⟩ := m_fsrLoop hM1 hP1 i hL2 (by omega) (show 0 < 8000000 by omega) FU_ 0 m1 (by omega) (by unfold FU_; omega) (MAt_0 c5)
    have hM2 := MI_MS hM1 f3.1
    obtain ⟨m3, y1, y2, y3, y4⟩ := m_putBack hM2
    have hM3 := MI_KA hM2 y2
    obtain ⟨⟨-, -, -, -, -, -, q9⟩, -, -, -, -, -, n9, -⟩ := MI_all hM3
    obtain ⟨i1, i2⟩ := PI_it hP L
    have efst := T_it_fst (l := gai gM 20 2) (a := gai gM 20 0) (F := F) L
    generalize hG : (T_it (gai gM 20 2) L (gai gM 20 0, [])).2 = G at *
    have hlen : F.length + G.length ≤ 24 := by
      have := DN_24 (show PI (gai gM 20 2) ((T_it (gai gM 20 2) L (gai gM 20 0, F)).1, (T_it (gai gM 20 2) L (gai gM 20 0, F)).2) (3000 * n + 3 * L) from i1)
      rw [efst] at this
      simpa using this
    have hFst : Fst m3 G := by
      have q := (f3.2.2 []).2 ⟨c5, fun _ _ q => by simp at q⟩
      rw [cl, c3, hG] at q
      exact Fst_FS y3 (q (by omega))
    obtain ⟨t1, t2⟩ := hFst
    have hRm : ∀ g2, GF 1 gX g2 → XS g2 → Rel g2 m3 (n + 1) := by
      intro g2 G1 G2
      refine Rel_oth h (by omega) G1 G2 (KS_tr (KS_KA c2) (KS_tr (KS_KA (KA_MS f3.1)) (KS_KA y2))) (fun i hi => ?_) ?_ ?_
      · rw [y4 i hi, f3.1.2.2.2.2.2.2.1 1 (by omega) (by omega), c4 i hi]
      · rw [y2.2.2.2.2.2.2.1 2 (by omega) (by omega), f3.1.2.2.2.2.2.2.1 2 (by omega) (by omega), cl]
      · exact ⟨_, t1, by omega⟩
    have eh : ghs m3 = ghs gM := by rw [y2.2.2.2.2.1, f3.1.2.2.2.2.1, c2.2.2.2.2.1]
    have el : gsl m3 = gsl gM := by rw [y2.2.2.2.2.2.1, f3.1.2.2.2.2.2.1, c2.2.2.2.2.2.1]
    have e6 := in_vlb (n := G.length) (by omega) i
    have mres : f10_finisher 0 i (nI L) gM = some (if vl i G.length then Nth G (tn i) else -nI 6, m3) := by
      by_cases hi : vl i G.length
      · obtain ⟨k, rfl, hk⟩ := vl_ex hi
        have uk : (nI k ≤ nI G.length - nI 1) = True := eq_true (show nI 0 ≤ nI k ∧ _ by rw [e6]; exact hi).2
        have hN : Nth G k = gai m3 20 9 k := by
          unfold Nth
          rw [List.getElem?_eq_getElem hk]
          exact (t2 k _ (List.getElem?_eq_getElem hk)).symm
        rw [if_pos hi, tn_nI (by omega), hN]
        have hk24 : k < 24 := by omega
        generalize G.length = gl at *
        simp (disch := first | with_reducible assumption | omega | (simp only [MI_sai_iff, MI_sfi_iff]; with_reducible assumption)) only [li, ↓lr_, ↓bd_m, ↓oc_m, ↓reduceIte, bi_0, bi_0n, bi_1, bi_1n, not_true_eq_false, not_false_eq_true, Nat.reduceAdd, Nat.reduceMul, nI_mul, nI_add, inb_T, ix_nI, le_T, le_F, lt_T, lt_F, eq_F, and_self, and_true, true_and, false_and, and_false, or_true, true_or, or_false, false_or, bi_eq, x_within, m_in, f10_finisher, eq_true hv, c1, f1, f10_finisher_b20, Nat.le_refl, y1, t1, uk, q9, n9]
      · rw [if_neg hi]
        generalize G.length = gl at *
        simp (disch := first | with_reducible assumption | omega | (simp only [MI_sai_iff, MI_sfi_iff]; with_reducible assumption)) only [li, ↓lr_, ↓bd_m, ↓oc_m, ↓reduceIte, bi_0, bi_0n, bi_1, bi_1n, not_true_eq_false, not_false_eq_true, Nat.reduceAdd, Nat.reduceMul, nI_mul, nI_add, inb_T, ix_nI, le_T, le_F, lt_T, lt_F, eq_F, and_self, and_true, true_and, false_and, and_false, or_true, true_or, or_false, false_or, bi_eq, x_within, m_in, f10_finisher, eq_true hv, c1, f1, f10_finisher_b20, Nat.le_refl, y1, t1, e6, eq_false hi]
    by_cases hi : nI 0 ≤ i ∧ i ≤ nI 23
    · obtain ⟨k, -, hk, rfl⟩ := (in_ex (by omega) (by omega)).mp hi
      obtain ⟨g1, a1, a2, a3, a4, ⟨a5, a6⟩, a7, a8⟩ := x_copyFrom (S := 1) (S' := 0) h.1 (by omega) (by omega) (by omega) hS (DN_24 hP)
      have g0 : gfr g1 289 0 = some 1 := a3.1.2.1
      have n268 : gfi g1 268 1 = nI F.length := a4.2.2.2.2.2.2.2.2.2.1
      obtain ⟨s1, s2, s3, s4, s5, s6, s7, s8, s9, s10, s11, s12, s13, s14, s15, s16, s17, s18, s19, s20, s21⟩ := a3.2.1 1 (by omega)
      have mres' : f10_finisher 0 (nI k) (nI L) gM = some (Nth G k, m3) := by
        rw [mres]
        by_cases c : vl (nI k) G.length
        · rw [if_pos c, tn_nI (by omega)]
        · rw [if_neg c, Nth_ge]
          rcases Nat.lt_or_ge k G.length with w | w
          · exact absurd (vl_of w (by omega)) c
          · exact w
      by_cases hk24 : F.length + k < 24
      · obtain ⟨g2, b1, b2⟩ := x_finLoop (s0 := (gai gM 20 0, F)) hP (L := L) (by omega) (by omega) hk24 FU_ 0 g1 (by omega) (by unfold FU_; omega) a4
        rw [efst] at b1
        dsimp only at b1
        rw [Nth_app] at b1
        refine ⟨Nth G k, g2, m3, ?_, mres', hRm g2 (GF_tr a2 (TF_GF (TT_TF b2))) (XS_TF (TT_TF b2) a3), ?_, ?_, eh, el⟩
        · generalize F.length = fl at *
          simp (disch := first | with_reducible assumption | omega | (simp only [MI_sai_iff, MI_sfi_iff]; with_reducible assumption)) only [li, ↓lr_, ↓bd_m, ↓oc_m, ↓reduceIte, bi_0, bi_0n, bi_1, bi_1n, not_true_eq_false, not_false_eq_true, Nat.reduceAdd, Nat.reduceMul, nI_mul, nI_add, inb_T, ix_nI, le_T, le_F, lt_T, lt_F, eq_F, and_self, and_true, true_and, false_and, and_false, or_true, true_or, or_false, false_or, bi_eq, x_within, m_in, f9_finisher, eq_true hv, eq_true hi, r0, r1, a1, g0, n268, f8_jobFinishedAs, s19, s20, ofN, b1]
        · rw [b2.1.2.2.2.2.1]
          omega
        · rw [b2.1.2.2.2.2.2]
          omega
      · have hN6 : Nth G k = -nI 6 := Nth_ge (by omega)
        rw [hN6] at mres'
        refine ⟨-nI 6, g1, m3, ?_, mres', hRm g1 a2 a3, by omega, by omega, eh, el⟩
        have hFl := DN_24 hP
        generalize F.length = fl at *
        simp (disch := first | with_reducible assumption | omega | (simp only [MI_sai_iff, MI_sfi_iff]; with_reducible assumption)) only [li, ↓lr_, ↓bd_m, ↓oc_m, ↓reduceIte, bi_0, bi_0n, bi_1, bi_1n, not_true_eq_false, not_false_eq_true, Nat.reduceAdd, Nat.reduceMul, nI_mul, nI_add, inb_T, ix_nI, le_T, le_F, lt_T, lt_F, eq_F, and_self, and_true, true_and, false_and, and_false, or_true, true_or, or_false, false_or, bi_eq, x_within, m_in, f9_finisher, eq_true hv, eq_true hi, r0, r1, a1, g0, n268, f8_jobFinishedAs, s19, s20, ofN]
    · have hni : ¬ vl i G.length := fun q => hi (by
        obtain ⟨k, rfl, hk⟩ := vl_ex q
        exact ⟨(le_nI (by omega) (by omega)).mpr (by omega), (le_nI (by omega) (by omega)).mpr (by omega)⟩)
      rw [if_neg hni] at mres
      refine ⟨-nI 6, gX, m3, ?_, mres, hRm gX GF_rfl h.1, by omega, by omega, eh, el⟩
      simp (disch := first | with_reducible assumption | omega | (simp only [MI_sai_iff, MI_sfi_iff]; with_reducible assumption)) only [li, ↓lr_, ↓bd_m, ↓oc_m, ↓reduceIte, bi_0, bi_0n, bi_1, bi_1n, not_true_eq_false, not_false_eq_true, Nat.reduceAdd, Nat.reduceMul, nI_mul, nI_add, inb_T, ix_nI, le_T, le_F, lt_T, lt_F, eq_F, and_self, and_true, true_and, false_and, and_false, or_true, true_or, or_false, false_or, bi_eq, x_within, m_in, f9_finisher, eq_true hv, eq_false hi]
  · refine op_fin h ?_ ?_ (r := -nI 2)
    · simp (disch := first | with_reducible assumption | omega | (simp only [MI_sai_iff, MI_sfi_iff]; with_reducible assumption)) only [li, ↓lr_, ↓bd_m, ↓oc_m, ↓reduceIte, bi_0, bi_0n, bi_1, bi_1n, not_true_eq_false, not_false_eq_true, Nat.reduceAdd, Nat.reduceMul, nI_mul, nI_add, inb_T, ix_nI, le_T, le_F, lt_T, lt_F, eq_F, and_self, and_true, true_and, false_and, and_false, or_true, true_or, or_false, false_or, bi_eq, x_within, m_in, f9_finisher, eq_false hv]
    · simp (disch := first | with_reducible assumption | omega | (simp only [MI_sai_iff, MI_sfi_iff]; with_reducible assumption)) only [li, ↓lr_, ↓bd_m, ↓oc_m, ↓reduceIte, bi_0, bi_0n, bi_1, bi_1n, not_true_eq_false, not_false_eq_true, Nat.reduceAdd, Nat.reduceMul, nI_mul, nI_add, inb_T, ix_nI, le_T, le_F, lt_T, lt_F, eq_F, and_self, and_true, true_and, false_and, and_false, or_true, true_or, or_false, false_or, bi_eq, x_within, m_in, f10_finisher, eq_false hv]
