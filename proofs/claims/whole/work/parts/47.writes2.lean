/-! jam, clear, fill, promote -/
theorem up_comm {a : Nat → Int32} {k q : Nat} {v w : Int32} (h : k ≠ q) : up (up a k v) q w = up (up a q w) k v := by
  funext i
  unfold up
  by_cases c : i = q
  · rw [if_pos c, if_pos c, if_neg (by omega)]
  · rw [if_neg c, if_neg c]
theorem leave_up {a : Nat → Int32} {j q : Nat} {v : Int32} (h : q < 106) (h0 : q ≠ 0) : T_leave (up a q v) j = up (T_leave a j) q v := by
  unfold T_leave T_wait
  rw [up_ne (show 106 + 13 * j + 12 ≠ q by omega), up_ne (show 0 ≠ q by omega)]
  split
  · rw [up_comm (show q ≠ 106 + 13 * j + 9 by omega), up_comm (show q ≠ 106 + 13 * j + 11 by omega)]
  · rw [up_comm (show q ≠ 106 + 13 * j + 9 by omega), up_comm (show q ≠ 106 + 13 * j + 12 by omega)]
theorem leave_ne {a : Nat → Int32} {j q : Nat} (h : q < 106 + 13 * j + 9 ∨ 106 + 13 * j + 13 ≤ q ∨ q = 106 + 13 * j + 10) : T_leave a j q = a q := by
  unfold T_leave T_wait
  split
  · rw [up_ne (by omega), up_ne (by omega)]
  · rw [up_ne (by omega), up_ne (by omega)]
theorem leave_9 {a : Nat → Int32} {j : Nat} : T_leave a j (106 + 13 * j + 9) = a (106 + 13 * j + 12) ∧ T_leave a j (106 + 13 * j + 12) = nI 0 := by
  unfold T_leave T_wait
  split
  · rename_i h
    rw [up_ne (by omega), up_eq rfl, up_ne (by omega), up_ne (by omega), h]
    exact ⟨rfl, rfl⟩
  · rw [up_ne (by omega), up_eq rfl, up_eq rfl]
    exact ⟨rfl, rfl⟩
theorem JobSt_leave {a : Nat → Int32} {j : Nat} (h : JobSt a j) (h9 : a (106 + 13 * j + 9) = nI 1) : JobSt (T_leave a j) j := by
  have es : sSH (T_leave a j) j = sSH a j := sSH_eq (fun w hw _ => leave_ne (by omega))
  obtain ⟨j1, j2, j3, j4, j5⟩ := h
  unfold JobSt jN at *
  rw [es, leave_ne (show 106 + 13 * j + 4 < 106 + 13 * j + 9 ∨ _ by omega), leave_ne (q := 106 + 13 * j + 10) (by omega), leave_9.1, leave_9.2]
  refine ⟨j1, ?_, j3, fun _ => j4 (by rw [h9]; decide), Or.inl rfl⟩
  rcases j5 with j5 | ⟨j5 | j5, -⟩ <;> rw [j5] <;> exact vl_of (by omega) (by omega)
theorem op_clear (p : Int32) : Op (f9_clear 0 p) (f10_clear 0 p) := by
  intro gX gM n hn h
  obtain ⟨F, r0, r1, hX, hS, hP, hE, hM, ⟨d1, d2, d3⟩, ⟨j1, j2, j3⟩, ⟨p1, p2, p3⟩⟩ := ctx h
  have e1 := x_printerAt hX p1 p3 p
  have e2 := m_isPrinter hM p2 (by omega) p
  by_cases hp : vl p (tn (gai gM 20 0 5))
  · obtain ⟨k, rfl, hk⟩ := vl_ex hp
    rw [if_pos hp, tn_nI (by omega)] at e1
    have hp' := eq_true hp
    have k3 : k < 3 := by omega
    obtain ⟨b1, b2, b3, b4⟩ := hS.2.2.2.2.2.1 k hk
    by_cases c : gai gM 20 0 (76 + 10 * k + 6) = nI 2
    · have h4 := Iv0_j hS.2.2.1
      have h5 := Iv0_p hS.2.2.1
      have hR : Rel (sfi gX 164 (3 * 0 + k) (nI 0)) (sai gM 20 0 (76 + 10 * k + 6) (nI 0)) (n + 1) := by
        refine Rel_TT h hS hP hE (TT_sfi (oT_p (by omega) (by omega) k3)) KS_sai sai_l rfl ?_ ?_ ?_ ?_ ?_
        · rw [up_sai]
          exact sta_up (dyn_p k3 (by omega) (by omega))
        · rw [up_sai]
          exact XD_p164 h4 h5 hk (nI 0) (fun q => absurd q (by decide)) hS.2.2.2.2
        · rw [up_sai]
          refine Ivd_prn h4 h5 (p := k) (fun q hq => up_ne (by omega)) (fun _ => ?_) (fun q => ?_) hP.2.1
          · obtain ⟨t1, t2, t3, t4⟩ := (hP.2.1.2.1 k hk).1
            unfold PrTr
            rw [up_eq rfl, up_ne (by omega), up_ne (by omega), up_ne (by omega)]
            exact ⟨t1, t2, t3, vl_of (by omega) (by omega)⟩
          · rw [up_eq rfl] at q
            exact absurd q (by decide)
        · rw [up_sai]
          refine DN_iff (up_ne (by omega)) (fun x hx => ?_) hP.2.2.1
          rw [up_ne (by omega)]
        · rw [up_sai]
          exact up_ne (by omega)
      refine op_wr (r := nI 1) hR ?_ ?_ rfl rfl rfl rfl
      · simp (disch := first | with_reducible assumption | omega | (simp only [MI_sai_iff, MI_sfi_iff]; with_reducible assumption)) only [li, ↓lr_, ↓bd_m, ↓oc_m, ↓reduceIte, bi_0, bi_0n, bi_1, bi_1n, not_true_eq_false, not_false_eq_true, Nat.reduceAdd, Nat.reduceMul, nI_mul, nI_add, inb_T, ix_nI, le_T, le_F, lt_T, lt_F, eq_F, and_self, and_true, true_and, false_and, and_false, or_true, true_or, or_false, false_or, bi_eq, x_within, m_in, f9_clear, r0, e1, b2, c]
      · simp (disch := first | with_reducible assumption | omega | (simp only [MI_sai_iff, MI_sfi_iff]; with_reducible assumption)) only [li, ↓lr_, ↓bd_m, ↓oc_m, ↓reduceIte, bi_0, bi_0n, bi_1, bi_1n, not_true_eq_false, not_false_eq_true, Nat.reduceAdd, Nat.reduceMul, nI_mul, nI_add, inb_T, ix_nI, le_T, le_F, lt_T, lt_F, eq_F, and_self, and_true, true_and, false_and, and_false, or_true, true_or, or_false, false_or, bi_eq, x_within, m_in, f10_clear, e2, hp', m_ofPrinter, c, m_setPrinter]
    · refine op_fin h ?_ ?_ (r := -nI 5)
      · simp (disch := first | with_reducible assumption | omega | (simp only [MI_sai_iff, MI_sfi_iff]; with_reducible assumption)) only [li, ↓lr_, ↓bd_m, ↓oc_m, ↓reduceIte, bi_0, bi_0n, bi_1, bi_1n, not_true_eq_false, not_false_eq_true, Nat.reduceAdd, Nat.reduceMul, nI_mul, nI_add, inb_T, ix_nI, le_T, le_F, lt_T, lt_F, eq_F, and_self, and_true, true_and, false_and, and_false, or_true, true_or, or_false, false_or, bi_eq, x_within, m_in, f9_clear, r0, e1, b2, eq_false c]
      · simp (disch := first | with_reducible assumption | omega | (simp only [MI_sai_iff, MI_sfi_iff]; with_reducible assumption)) only [li, ↓lr_, ↓bd_m, ↓oc_m, ↓reduceIte, bi_0, bi_0n, bi_1, bi_1n, not_true_eq_false, not_false_eq_true, Nat.reduceAdd, Nat.reduceMul, nI_mul, nI_add, inb_T, ix_nI, le_T, le_F, lt_T, lt_F, eq_F, and_self, and_true, true_and, false_and, and_false, or_true, true_or, or_false, false_or, bi_eq, x_within, m_in, f10_clear, e2, hp', m_ofPrinter, eq_false c]
  · rw [if_neg hp] at e1
    refine op_fin h ?_ ?_ (r := -nI 1)
    · simp (disch := first | with_reducible assumption | omega | (simp only [MI_sai_iff, MI_sfi_iff]; with_reducible assumption)) only [li, ↓lr_, ↓bd_m, ↓oc_m, ↓reduceIte, bi_0, bi_0n, bi_1, bi_1n, not_true_eq_false, not_false_eq_true, Nat.reduceAdd, Nat.reduceMul, nI_mul, nI_add, inb_T, ix_nI, le_T, le_F, lt_T, lt_F, eq_F, and_self, and_true, true_and, false_and, and_false, or_true, true_or, or_false, false_or, bi_eq, x_within, m_in, f9_clear, r0, e1]
    · simp (disch := first | with_reducible assumption | omega | (simp only [MI_sai_iff, MI_sfi_iff]; with_reducible assumption)) only [li, ↓lr_, ↓bd_m, ↓oc_m, ↓reduceIte, bi_0, bi_0n, bi_1, bi_1n, not_true_eq_false, not_false_eq_true, Nat.reduceAdd, Nat.reduceMul, nI_mul, nI_add, inb_T, ix_nI, le_T, le_F, lt_T, lt_F, eq_F, and_self, and_true, true_and, false_and, and_false, or_true, true_or, or_false, false_or, bi_eq, x_within, m_in, f10_clear, e2, eq_false hp]
theorem op_fill (p z v : Int32) : Op (f9_fill 0 p z v) (f10_fill 0 p z v) := by
  intro gX gM n hn h
  obtain ⟨F, r0, r1, hX, hS, hP, hE, hM, ⟨d1, d2, d3⟩, ⟨j1, j2, j3⟩, ⟨p1, p2, p3⟩⟩ := ctx h
  have e1 := x_printerAt hX p1 p3 p
  have e2 := m_isPrinter hM p2 (by omega) p
  by_cases hp : vl p (tn (gai gM 20 0 5))
  · obtain ⟨k, rfl, hk⟩ := vl_ex hp
    rw [if_pos hp, tn_nI (by omega)] at e1
    have hp' := eq_true hp
    have k3 : k < 3 := by omega
    obtain ⟨b1, b2, b3, b4⟩ := hS.2.2.2.2.2.1 k hk
    by_cases hz : nI 0 ≤ z ∧ z ≤ nI 2
    · obtain ⟨q, -, q0, rfl⟩ := (in_ex (by omega) (by omega)).mp hz
      by_cases hv : -nI 500 ≤ v ∧ v ≤ nI 500
      · have e3 : f5_sheetsIn (3 * 0 + k) (nI q) gX = some (gai gM 20 0 (76 + 10 * k + (3 + q)), gX) := by
          rw [x_sheetsIn hX k3 (by omega), b1 q (by omega)]
        have e4 := fun w => x_changeTray hX k3 (show q < 3 by omega) w
        have e5 := m_ofPrinter hM k3 (w := 3 + q) (by omega)
        have e6 := fun w => m_setPrinter hM k3 (w := 3 + q) (by omega) w
        by_cases hw : nI 0 ≤ gai gM 20 0 (76 + 10 * k + (3 + q)) + v ∧ gai gM 20 0 (76 + 10 * k + (3 + q)) + v ≤ nI 500
        · have h4 := Iv0_j hS.2.2.1
          have h5 := Iv0_p hS.2.2.1
          have hw' := hw
          obtain ⟨m, -, m1, m2⟩ := (in_ex (by omega) (by omega)).mp hw'
          have hR : Rel (sai gX 20 (bb 0 + (6 + k)) q (gai gM 20 0 (76 + 10 * k + (3 + q)) + v)) (sai gM 20 0 (76 + 10 * k + (3 + q)) (gai gM 20 0 (76 + 10 * k + (3 + q)) + v)) (n + 1) := by
            rw [m2]
            refine Rel_TT h hS hP hE (TT_sai (by omega) (by omega)) KS_sai sai_l rfl ?_ ?_ ?_ ?_ ?_
            · rw [up_sai]
              exact sta_up (dyn_p k3 (by omega) (by omega))
            · rw [up_sai]
              exact XD_tray h4 h5 hk (by omega) (nI m) hS.2.2.2.2
            · rw [up_sai]
              refine Ivd_prn h4 h5 (p := k) (fun q hq => up_ne (by omega)) (fun _ => ?_) (fun u => ?_) hP.2.1
              · obtain ⟨t1, t2, t3, t4⟩ := (hP.2.1.2.1 k hk).1
                unfold PrTr up
                have hm : vl (nI m) 501 := vl_of (by omega) (by omega)
                rw [if_neg (show ¬ 76 + 10 * k + 6 = 76 + 10 * k + (3 + q) by omega)]
                refine ⟨?_, ?_, ?_, t4⟩
                · split
                  · exact hm
                  · exact t1
                · split
                  · exact hm
                  · exact t2
                · split
                  · exact hm
                  · exact t3
              · rw [up_ne (by omega)] at u
                exact ⟨u, up_ne (by omega), up_ne (by omega)⟩
            · rw [up_sai]
              refine DN_iff (up_ne (by omega)) (fun x hx => ?_) hP.2.2.1
              rw [up_ne (by omega)]
            · rw [up_sai]
              exact up_ne (by omega)
          refine op_wr hR ?_ ?_ rfl rfl rfl rfl (r := gai gM 20 0 (76 + 10 * k + (3 + q)) + v)
          · simp (disch := first | with_reducible assumption | omega | (simp only [MI_sai_iff, MI_sfi_iff]; with_reducible assumption)) only [li, ↓lr_, ↓bd_m, ↓oc_m, ↓reduceIte, bi_0, bi_0n, bi_1, bi_1n, not_true_eq_false, not_false_eq_true, Nat.reduceAdd, Nat.reduceMul, nI_mul, nI_add, inb_T, ix_nI, le_T, le_F, lt_T, lt_F, eq_F, and_self, and_true, true_and, false_and, and_false, or_true, true_or, or_false, false_or, bi_eq, x_within, m_in, f9_fill, r0, e1, eq_true hv, e3, eq_true hw, e4]
          · simp (disch := first | with_reducible assumption | omega | (simp only [MI_sai_iff, MI_sfi_iff]; with_reducible assumption)) only [li, ↓lr_, ↓bd_m, ↓oc_m, ↓reduceIte, bi_0, bi_0n, bi_1, bi_1n, not_true_eq_false, not_false_eq_true, Nat.reduceAdd, Nat.reduceMul, nI_mul, nI_add, inb_T, ix_nI, le_T, le_F, lt_T, lt_F, eq_F, and_self, and_true, true_and, false_and, and_false, or_true, true_or, or_false, false_or, bi_eq, x_within, m_in, f10_fill, e2, hp', eq_true hv, e5, eq_true hw, e6]
        · refine op_fin h ?_ ?_ (r := -nI 5)
          · simp (disch := first | with_reducible assumption | omega | (simp only [MI_sai_iff, MI_sfi_iff]; with_reducible assumption)) only [li, ↓lr_, ↓bd_m, ↓oc_m, ↓reduceIte, bi_0, bi_0n, bi_1, bi_1n, not_true_eq_false, not_false_eq_true, Nat.reduceAdd, Nat.reduceMul, nI_mul, nI_add, inb_T, ix_nI, le_T, le_F, lt_T, lt_F, eq_F, and_self, and_true, true_and, false_and, and_false, or_true, true_or, or_false, false_or, bi_eq, x_within, m_in, f9_fill, r0, e1, eq_true hv, e3, eq_false hw]
          · simp (disch := first | with_reducible assumption | omega | (simp only [MI_sai_iff, MI_sfi_iff]; with_reducible assumption)) only [li, ↓lr_, ↓bd_m, ↓oc_m, ↓reduceIte, bi_0, bi_0n, bi_1, bi_1n, not_true_eq_false, not_false_eq_true, Nat.reduceAdd, Nat.reduceMul, nI_mul, nI_add, inb_T, ix_nI, le_T, le_F, lt_T, lt_F, eq_F, and_self, and_true, true_and, false_and, and_false, or_true, true_or, or_false, false_or, bi_eq, x_within, m_in, f10_fill, e2, hp', eq_true hv, e5, eq_false hw]
      · refine op_fin h ?_ ?_ (r := -nI 2)
        · simp (disch := first | with_reducible assumption | omega | (simp only [MI_sai_iff, MI_sfi_iff]; with_reducible assumption)) only [li, ↓lr_, ↓bd_m, ↓oc_m, ↓reduceIte, bi_0, bi_0n, bi_1, bi_1n, not_true_eq_false, not_false_eq_true, Nat.reduceAdd, Nat.reduceMul, nI_mul, nI_add, inb_T, ix_nI, le_T, le_F, lt_T, lt_F, eq_F, and_self, and_true, true_and, false_and, and_false, or_true, true_or, or_false, false_or, bi_eq, x_within, m_in, f9_fill, r0, e1, eq_false hv]
        · simp (disch := first | with_reducible assumption | omega | (simp only [MI_sai_iff, MI_sfi_iff]; with_reducible assumption)) only [li, ↓lr_, ↓bd_m, ↓oc_m, ↓reduceIte, bi_0, bi_0n, bi_1, bi_1n, not_true_eq_false, not_false_eq_true, Nat.reduceAdd, Nat.reduceMul, nI_mul, nI_add, inb_T, ix_nI, le_T, le_F, lt_T, lt_F, eq_F, and_self, and_true, true_and, false_and, and_false, or_true, true_or, or_false, false_or, bi_eq, x_within, m_in, f10_fill, e2, hp', eq_false hv]
    · refine op_fin h ?_ ?_ (r := -nI 2)
      · simp (disch := first | with_reducible assumption | omega | (simp only [MI_sai_iff, MI_sfi_iff]; with_reducible assumption)) only [li, ↓lr_, ↓bd_m, ↓oc_m, ↓reduceIte, bi_0, bi_0n, bi_1, bi_1n, not_true_eq_false, not_false_eq_true, Nat.reduceAdd, Nat.reduceMul, nI_mul, nI_add, inb_T, ix_nI, le_T, le_F, lt_T, lt_F, eq_F, and_self, and_true, true_and, false_and, and_false, or_true, true_or, or_false, false_or, bi_eq, x_within, m_in, f9_fill, r0, e1, eq_false hz]
      · simp (disch := first | with_reducible assumption | omega | (simp only [MI_sai_iff, MI_sfi_iff]; with_reducible assumption)) only [li, ↓lr_, ↓bd_m, ↓oc_m, ↓reduceIte, bi_0, bi_0n, bi_1, bi_1n, not_true_eq_false, not_false_eq_true, Nat.reduceAdd, Nat.reduceMul, nI_mul, nI_add, inb_T, ix_nI, le_T, le_F, lt_T, lt_F, eq_F, and_self, and_true, true_and, false_and, and_false, or_true, true_or, or_false, false_or, bi_eq, x_within, m_in, f10_fill, e2, hp', eq_false hz]
  · rw [if_neg hp] at e1
    refine op_fin h ?_ ?_ (r := -nI 1)
    · simp (disch := first | with_reducible assumption | omega | (simp only [MI_sai_iff, MI_sfi_iff]; with_reducible assumption)) only [li, ↓lr_, ↓bd_m, ↓oc_m, ↓reduceIte, bi_0, bi_0n, bi_1, bi_1n, not_true_eq_false, not_false_eq_true, Nat.reduceAdd, Nat.reduceMul, nI_mul, nI_add, inb_T, ix_nI, le_T, le_F, lt_T, lt_F, eq_F, and_self, and_true, true_and, false_and, and_false, or_true, true_or, or_false, false_or, bi_eq, x_within, m_in, f9_fill, r0, e1]
    · simp (disch := first | with_reducible assumption | omega | (simp only [MI_sai_iff, MI_sfi_iff]; with_reducible assumption)) only [li, ↓lr_, ↓bd_m, ↓oc_m, ↓reduceIte, bi_0, bi_0n, bi_1, bi_1n, not_true_eq_false, not_false_eq_true, Nat.reduceAdd, Nat.reduceMul, nI_mul, nI_add, inb_T, ix_nI, le_T, le_F, lt_T, lt_F, eq_F, and_self, and_true, true_and, false_and, and_false, or_true, true_or, or_false, false_or, bi_eq, x_within, m_in, f10_fill, e2, eq_false hp]
theorem op_jam (p : Int32) : Op (f9_jam 0 p) (f10_jam 0 p) := by
  intro gX gM n hn h
  obtain ⟨F, r0, r1, hX, hS, hP, hE, hM, ⟨d1, d2, d3⟩, ⟨j1, j2, j3⟩, ⟨p1, p2, p3⟩⟩ := ctx h
  have e1 := x_printerAt hX p1 p3 p
  have e2 := m_isPrinter hM p2 (by omega) p
  by_cases hp : vl p (tn (gai gM 20 0 5))
  · obtain ⟨k, rfl, hk⟩ := vl_ex hp
    rw [if_pos hp, tn_nI (by omega)] at e1
    have hp' := eq_true hp
    have k3 : k < 3 := by omega
    have h4 := Iv0_j hS.2.2.1
    have h5 := Iv0_p hS.2.2.1
    obtain ⟨b1, b2, b3, b4⟩ := hS.2.2.2.2.2.1 k hk
    obtain ⟨hTr, hWk⟩ := hP.2.1.2.1 k hk
    have hTr' := hTr
    dsimp only at hTr'
    obtain ⟨t1, t2, t3, t4⟩ := hTr'
    have g6 := vl_nI t4
    generalize hs6 : tn (gai gM 20 0 (76 + 10 * k + 6)) = s6 at *
    obtain ⟨g6, g6l⟩ := g6
    rcases (show s6 = 2 ∨ s6 = 0 ∨ s6 = 1 by omega) with rfl | rfl | rfl
    · refine op_fin h ?_ ?_ (r := -nI 5)
      · simp (disch := first | with_reducible assumption | omega | (simp only [MI_sai_iff, MI_sfi_iff]; with_reducible assumption)) only [li, ↓lr_, ↓bd_m, ↓oc_m, ↓reduceIte, bi_0, bi_0n, bi_1, bi_1n, not_true_eq_false, not_false_eq_true, Nat.reduceAdd, Nat.reduceMul, nI_mul, nI_add, inb_T, ix_nI, le_T, le_F, lt_T, lt_F, eq_F, and_self, and_true, true_and, false_and, and_false, or_true, true_or, or_false, false_or, bi_eq, x_within, m_in, f9_jam, r0, e1, b2, g6]
      · simp (disch := first | with_reducible assumption | omega | (simp only [MI_sai_iff, MI_sfi_iff]; with_reducible assumption)) only [li, ↓lr_, ↓bd_m, ↓oc_m, ↓reduceIte, bi_0, bi_0n, bi_1, bi_1n, not_true_eq_false, not_false_eq_true, Nat.reduceAdd, Nat.reduceMul, nI_mul, nI_add, inb_T, ix_nI, le_T, le_F, lt_T, lt_F, eq_F, and_self, and_true, true_and, false_and, and_false, or_true, true_or, or_false, false_or, bi_eq, x_within, m_in, f10_jam, e2, hp', m_ofPrinter, g6]
    · have hR : Rel (sfi gX 164 (3 * 0 + k) (nI 2)) (sai gM 20 0 (76 + 10 * k + 6) (nI 2)) (n + 1) := by
        refine Rel_TT h hS hP hE (TT_sfi (oT_p (by omega) (by omega) k3)) KS_sai sai_l rfl ?_ ?_ ?_ ?_ ?_
        · rw [up_sai]
          exact sta_up (dyn_p k3 (by omega) (by omega))
        · rw [up_sai]
          exact XD_p164 h4 h5 hk (nI 2) (fun q => absurd q (by decide)) hS.2.2.2.2
        · rw [up_sai]
          refine Ivd_prn h4 h5 (p := k) (fun q hq => up_ne (by omega)) (fun _ => ?_) (fun q => ?_) hP.2.1
          · unfold PrTr
            rw [up_eq rfl, up_ne (by omega), up_ne (by omega), up_ne (by omega)]
            exact ⟨t1, t2, t3, vl_of (by omega) (by omega)⟩
          · rw [up_eq rfl] at q
            exact absurd q (by decide)
        · rw [up_sai]
          refine DN_iff (up_ne (by omega)) (fun x hx => ?_) hP.2.2.1
          rw [up_ne (by omega)]
        · rw [up_sai]
          exact up_ne (by omega)
      refine op_wr (r := nI 0) hR ?_ ?_ rfl rfl rfl rfl
      · simp (disch := first | with_reducible assumption | omega | (simp only [MI_sai_iff, MI_sfi_iff]; with_reducible assumption)) only [li, ↓lr_, ↓bd_m, ↓oc_m, ↓reduceIte, bi_0, bi_0n, bi_1, bi_1n, not_true_eq_false, not_false_eq_true, Nat.reduceAdd, Nat.reduceMul, nI_mul, nI_add, inb_T, ix_nI, le_T, le_F, lt_T, lt_F, eq_F, and_self, and_true, true_and, false_and, and_false, or_true, true_or, or_false, false_or, bi_eq, x_within, m_in, f9_jam, r0, e1, b2, g6, f9_jam_b39, f9_jam_b52]
      · simp (disch := first | with_reducible assumption | omega | (simp only [MI_sai_iff, MI_sfi_iff]; with_reducible assumption)) only [li, ↓lr_, ↓bd_m, ↓oc_m, ↓reduceIte, bi_0, bi_0n, bi_1, bi_1n, not_true_eq_false, not_false_eq_true, Nat.reduceAdd, Nat.reduceMul, nI_mul, nI_add, inb_T, ix_nI, le_T, le_F, lt_T, lt_F, eq_F, and_self, and_true, true_and, false_and, and_false, or_true, true_or, or_false, false_or, bi_eq, x_within, m_in, f10_jam, e2, hp', m_ofPrinter, g6, m_setPrinter]
    · obtain ⟨c1, c2⟩ := b3 g6
      have hWk' := hWk g6
      dsimp only at hWk'
      obtain ⟨v1, v2, v3, v4⟩ := hWk'
      obtain ⟨v5, v6⟩ := vl_nI v1
      unfold pN at v2
      generalize tn (gai gM 20 0 (76 + 10 * k + 7)) = j at *
      have j24 : j < 24 := by omega
      obtain ⟨J, Q, w1, w2, w3, w4⟩ := hS.2.2.2.1.2.2.2.2.1 j v6
      have e3 := x_jobAt hX j1 j3 (nI j)
      rw [if_pos (vl_of v6 (by omega)), tn_nI (by omega), w1] at e3
      have hSt := hP.2.1.1 j v6
      have hSt' := hSt
      dsimp only at hSt'
      have hrq : gai gM 20 0 (106 + 13 * j + 12) = nI 0 ∨ gai gM 20 0 (106 + 13 * j + 12) = nI 2 ∨ gai gM 20 0 (106 + 13 * j + 12) = nI 4 := by
        rcases hSt'.2.2.2.2 with q | ⟨q | q, -⟩
        · exact Or.inl q
        · exact Or.inr (Or.inl q)
        · exact Or.inr (Or.inr q)
      obtain ⟨g1, f1, f2, f3⟩ := x_stop hS.1.2 h4 h5 hS.2.2.2.2 v6 w1 hrq
      have c1 : gfi gX 165 (3 * 0 + k) = nI j := c1.trans v5
      -- the class
      have hs1 : sta (gai gM 20 0) (T_leave (gai gM 20 0) j) := sta_leave j24
      have l4 : T_leave (gai gM 20 0) j 4 = gai gM 20 0 4 := leave_ne (by omega)
      have l5 : T_leave (gai gM 20 0) j 5 = gai gM 20 0 5 := leave_ne (by omega)
      have l9 : T_leave (gai gM 20 0) j (76 + 10 * k + 9) = gai gM 20 0 (76 + 10 * k + 9) := leave_ne (by omega)
      have D0 := f3
      obtain ⟨-, y2, y3, y4⟩ := f3.2.1 k (by rw [l5]; exact hk)
      rw [l9] at y4
      have D1 := XD_p164 (v := nI 2) (by rw [l4]; exact h4) (by rw [l5]; exact h5) (by rw [l5]; exact hk) (fun q => absurd q (by decide)) D0
      have D2 := XD_p165n (by rw [up_ne (by omega), l4]; exact h4) (by rw [up_ne (by omega), l5]; exact h5) (p := k) (by rw [up_ne (by omega), l5]; exact hk) (-nI 6) (by rw [up_eq rfl]; decide) D1
      have D3 := XD_p167 (by rw [up_ne (by omega), l4]; exact h4) (by rw [up_ne (by omega), l5]; exact h5) (p := k) (by rw [up_ne (by omega), l5]; exact hk) (gai gM 20 0 (76 + 10 * k + 9) + nI 1) D2
      have tt : TT 0 gX (sfi (sfi (sfi g1 164 (3 * 0 + k) (nI 2)) 165 (3 * 0 + k) (-nI 6)) 167 (3 * 0 + k) (gai gM 20 0 (76 + 10 * k + 9) + nI 1)) :=
        TT_tr f2 (TT_tr (TT_sfi (oT_p (by omega) (by omega) k3)) (TT_tr (TT_sfi (oT_p (by omega) (by omega) k3)) (TT_sfi (oT_p (by omega) (by omega) k3))))
      -- the reference
      let gM1 := sai (sai gM 20 0 (76 + 10 * k + 6) (nI 2)) 20 0 (76 + 10 * k + 9) (gai gM 20 0 (76 + 10 * k + 9) + nI 1)
      have hM1 : MI gM1 := hM
      have ha1 : gai gM1 20 0 = up (up (gai gM 20 0) (76 + 10 * k + 6) (nI 2)) (76 + 10 * k + 9) (gai gM 20 0 (76 + 10 * k + 9) + nI 1) := by
        show gai (sai (sai gM 20 0 (76 + 10 * k + 6) (nI 2)) 20 0 (76 + 10 * k + 9) _) 20 0 = _
        rw [up_sai, up_sai]
      obtain ⟨gM2, u1, u2, u3, u4⟩ := m_leave hM1 j24
      rw [ha1, leave_up (by omega) (by omega), leave_up (by omega) (by omega)] at u4
      have k1 : KS gM gM1 := KS_tr KS_sai KS_sai
      have k2 : KS gM1 gM2 := KS_KA (KA_MS u2)
      have hl2 : gai gM2 20 2 = gai gM 20 2 := (u2.2.2.2.2.2.2.1 2 (by omega) (by omega)).trans (sai_l.trans sai_l)
      have hI1 : Ivd (gai gM1 20 0) := by
        rw [ha1]
        refine Ivd_prn h4 h5 (p := k) (fun q hq => by rw [up_ne (by omega), up_ne (by omega)]) (fun _ => ?_) (fun q => ?_) hP.2.1
        · unfold PrTr
          rw [up_ne (by omega), up_ne (by omega), up_ne (by omega), up_ne (by omega), up_ne (by omega), up_ne (by omega), up_ne (by omega), up_eq rfl]
          exact ⟨t1, t2, t3, vl_of (by omega) (by omega)⟩
        · rw [up_ne (by omega), up_eq rfl] at q
          exact absurd q (by decide)
      have e14 : gai gM1 20 0 4 = gai gM 20 0 4 := by rw [ha1, up_ne (by omega), up_ne (by omega)]
      have e15 : gai gM1 20 0 5 = gai gM 20 0 5 := by rw [ha1, up_ne (by omega), up_ne (by omega)]
      have u4' : gai gM2 20 0 = T_leave (gai gM1 20 0) j := by
        rw [u4, ha1, leave_up (by omega) (by omega), leave_up (by omega) (by omega)]
      have ej : ∀ w, w < 13 → gai gM1 20 0 (106 + 13 * j + w) = gai gM 20 0 (106 + 13 * j + w) := fun w hw => by rw [ha1, up_ne (by omega), up_ne (by omega)]
      have hR : Rel (sfi (sfi (sfi g1 164 (3 * 0 + k) (nI 2)) 165 (3 * 0 + k) (-nI 6)) 167 (3 * 0 + k) (gai gM 20 0 (76 + 10 * k + 9) + nI 1)) gM2 (n + 1) := by
        refine Rel_TT h hS hP hE tt (KS_tr k1 k2) hl2 u3.1 ?_ ?_ ?_ ?_ ?_
        · rw [u4]
          exact sta_tr hs1 (sta_tr (sta_up (dyn_p k3 (by omega) (by omega))) (sta_up (dyn_p k3 (by omega) (by omega))))
        · rw [u4]
          exact D3
        · rw [u4']
          refine Ivd_job (by rw [e14]; exact h4) (by rw [e15]; exact h5) (j := j) (fun q hq => leave_ne (by omega)) (fun _ => JobSt_leave (hI1.1 j (by rw [e14]; exact v6)) (by rw [ej 9 (by omega)]; exact v2)) (fun q hq q6 q7 _ => ?_) hI1
          rw [e15] at hq
          by_cases c : q = k
          · subst c
            rw [ha1, up_ne (by omega), up_eq rfl] at q6
            exact absurd q6 (by decide)
          · rw [ha1, up_ne (by omega), up_ne (by omega)] at q6 q7
            exact absurd (show (gai gM 20 0, F).fst (76 + 10 * q + 7) = (gai gM 20 0, F).fst (76 + 10 * k + 7) from q7.trans v5.symm) (hP.2.1.2.2 q k hq hk c q6 g6)
        · rw [u4']
          refine DN_iff (by rw [leave_ne (by omega), e14]) (fun x hx => ?_) hP.2.2.1
          by_cases c : x = j
          · subst c
            rw [leave_9.1, ej 12 (by omega)]
            dsimp only
            rw [v2]
            refine ⟨fun q => ?_, fun q => absurd q (by decide)⟩
            rcases hrq with r | r | r <;> rw [r] at q <;> exact absurd q (by decide)
          · rw [leave_ne (by omega), ha1, up_ne (by omega), up_ne (by omega)]
        · rw [u4']
          rw [leave_ne (by omega), ha1, up_ne (by omega), up_ne (by omega)]
      have m3 := m_setPrinter hM k3 (w := 6) (by omega) (nI 2)
      have hMa : MI (sai gM 20 0 (76 + 10 * k + 6) (nI 2)) := hM
      have m4 := m_ofPrinter hMa k3 (w := 9) (by omega)
      rw [up_sai, up_ne (by omega)] at m4
      have m5 := m_setPrinter hMa k3 (w := 9) (by omega) (gai gM 20 0 (76 + 10 * k + 9) + nI 1)
      have m6 := m_ofPrinter hM1 k3 (w := 7) (by omega)
      rw [ha1, up_ne (by omega), up_ne (by omega), v5] at m6
      have n167 : gfi (sfi g1 165 (3 * 0 + k) (-nI 6)) 167 (3 * 0 + k) = gai gM 20 0 (76 + 10 * k + 9) := by
        rw [e_gfi_sfi, if_neg (by omega)]
        exact y4
      have s0 : gfr g1 288 0 = some 0 := by rw [f2.1.1]; exact r0
      refine op_wr (r := nI 1) hR ?_ ?_ ?_ ?_ ?_ ?_
      · have hperm : sfi (sfi (sfi g1 165 (3 * 0 + k) (-nI 6)) 167 (3 * 0 + k) (gai gM 20 0 (76 + 10 * k + 9) + nI 1)) 164 (3 * 0 + k) (nI 2) = sfi (sfi (sfi g1 164 (3 * 0 + k) (nI 2)) 165 (3 * 0 + k) (-nI 6)) 167 (3 * 0 + k) (gai gM 20 0 (76 + 10 * k + 9) + nI 1) := by
          rw [sfi_comm (show 167 ≠ 164 by omega), sfi_comm (show 165 ≠ 164 by omega)]
        rw [← hperm]
        simp (disch := first | with_reducible assumption | omega | (simp only [MI_sai_iff, MI_sfi_iff]; with_reducible assumption)) only [li, ↓lr_, ↓bd_m, ↓oc_m, ↓reduceIte, bi_0, bi_0n, bi_1, bi_1n, not_true_eq_false, not_false_eq_true, Nat.reduceAdd, Nat.reduceMul, nI_mul, nI_add, inb_T, ix_nI, le_T, le_F, lt_T, lt_F, eq_F, and_self, and_true, true_and, false_and, and_false, or_true, true_or, or_false, false_or, bi_eq, x_within, m_in, f9_jam, r0, e1, b2, g6, f9_jam_b39, f8_loseSheet, c1, e3, f1, f8_loseSheet_b21, n167, f9_jam_b52]
      · have m2 := m_ofPrinter hM k3 (w := 6) (by omega)
        have m6' : f10_ofPrinter 0 (nI k) (nI 7) (sai (sai gM 20 0 (76 + 10 * k + 6) (nI 2)) 20 0 (76 + 10 * k + 9) (gai gM 20 0 (76 + 10 * k + 9) + nI 1)) = some (nI j, sai (sai gM 20 0 (76 + 10 * k + 6) (nI 2)) 20 0 (76 + 10 * k + 9) (gai gM 20 0 (76 + 10 * k + 9) + nI 1)) := m6
        have u1' : f10_leave 0 (nI j) (sai (sai gM 20 0 (76 + 10 * k + 6) (nI 2)) 20 0 (76 + 10 * k + 9) (gai gM 20 0 (76 + 10 * k + 9) + nI 1)) = some ((), gM2) := u1
        simp (disch := first | with_reducible assumption | omega | (simp only [MI_sai_iff, MI_sfi_iff]; with_reducible assumption)) only [li, ↓lr_, ↓bd_m, ↓oc_m, ↓reduceIte, bi_0, bi_0n, bi_1, bi_1n, not_true_eq_false, not_false_eq_true, Nat.reduceAdd, Nat.reduceMul, nI_mul, nI_add, inb_T, ix_nI, le_T, le_F, lt_T, lt_F, eq_F, and_self, and_true, true_and, false_and, and_false, or_true, true_or, or_false, false_or, bi_eq, x_within, m_in, f10_jam, e2, hp', m2, g6, m3, m4, m5, m6', u1']
      · exact f2.1.2.2.2.2.1
      · exact f2.1.2.2.2.2.2
      · exact u2.2.2.2.2.1
      · exact u2.2.2.2.2.2.1
  · rw [if_neg hp] at e1
    refine op_fin h ?_ ?_ (r := -nI 1)
    · simp (disch := first | with_reducible assumption | omega | (simp only [MI_sai_iff, MI_sfi_iff]; with_reducible assumption)) only [li, ↓lr_, ↓bd_m, ↓oc_m, ↓reduceIte, bi_0, bi_0n, bi_1, bi_1n, not_true_eq_false, not_false_eq_true, Nat.reduceAdd, Nat.reduceMul, nI_mul, nI_add, inb_T, ix_nI, le_T, le_F, lt_T, lt_F, eq_F, and_self, and_true, true_and, false_and, and_false, or_true, true_or, or_false, false_or, bi_eq, x_within, m_in, f9_jam, r0, e1]
    · simp (disch := first | with_reducible assumption | omega | (simp only [MI_sai_iff, MI_sfi_iff]; with_reducible assumption)) only [li, ↓lr_, ↓bd_m, ↓oc_m, ↓reduceIte, bi_0, bi_0n, bi_1, bi_1n, not_true_eq_false, not_false_eq_true, Nat.reduceAdd, Nat.reduceMul, nI_mul, nI_add, inb_T, ix_nI, le_T, le_F, lt_T, lt_F, eq_F, and_self, and_true, true_and, false_and, and_false, or_true, true_or, or_false, false_or, bi_eq, x_within, m_in, f10_jam, e2, eq_false hp]
