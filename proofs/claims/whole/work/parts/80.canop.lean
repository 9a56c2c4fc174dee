/-! canonical -/
theorem Rel_can {gX gX' gM gM' : GS_} {n : Nat} (h : Rel gX gM n) (hX : FX gX gX') (hM : FMc gM gM') : Rel gX' gM' (n + 1) := by
  obtain ⟨h1, h2, ⟨F, h3, h3', h3''⟩, h4, c, h5, h6⟩ := h
  have e0 : gai gM' 20 0 = gai gM 20 0 := hM.2.2 20 0 (by omega)
  have e2 : gai gM' 20 2 = gai gM 20 2 := hM.2.2 20 2 (by omega)
  have e3 : gai gM' 20 3 = gai gM 20 3 := hM.2.2 20 3 (by omega)
  have e4 : gai gM' 20 4 = gai gM 20 4 := hM.2.2 20 4 (by omega)
  have e5 : gai gM' 21 0 = gai gM 21 0 := hM.2.2 21 0 (by omega)
  refine ⟨XS_FX hX h1, MI_FMc h2 hM, ⟨F, ?_⟩, fun s hs => ?_, c, (by rw [hM.2.1]; exact h5), by omega⟩
  · rw [e0, e2]
    exact ⟨SpO_FX hX h1 h3, PI_mono h3' (by omega), h3''⟩
  · obtain ⟨k1, k2⟩ := h4 s hs
    have ea : aS gM' s = aS gM s := by funext i; show gai gM' 20 3 _ = _; rw [e3]
    have el : lS gM' s = lS gM s := by funext i; show gai gM' 20 4 _ = _; rw [e4]
    rw [e5, ea, el, FX_f hX (by omega)]
    refine ⟨k1, ?_⟩
    rcases k2 with k2 | ⟨k2, F', k3⟩
    · exact Or.inl k2
    · exact Or.inr ⟨k2, F', SpO_FX hX h1 k3.1, PI_mono k3.2.1 (by omega), k3.2.2⟩
theorem txt_congr {x K K' : Nat → Nat} {m : Nat} (hK : ∀ j, j < m → K j = K' j) : ∀ n i, txt x K m n i = txt x K' m n i
  | 0, i => rfl
  | n + 1, i => by
    rw [txt, txt]
    by_cases h : m ≤ i
    · rw [if_pos h, if_pos h]
    · rw [if_neg h, if_neg h, hK i (by omega)]
      by_cases q : i + K' i = m
      · rw [if_pos q, if_pos q]
      · rw [if_neg q, if_neg q, txt_congr hK n]
theorem op_canonical (j p : Int32) : Op (f9_canonical 0 j p) (f10_canonical 0 j p) := by
  intro gX gM n hn h
  obtain ⟨F, r0, r1, hX, hS, hP, hE, hM, ⟨d1, d2, d3⟩, ⟨j1, j2, j3⟩, ⟨p1, p2, p3⟩⟩ := ctx h
  have e1 := x_jobAt hX j1 j3 j
  have e2 := m_isJob hM j2 (by omega) j
  by_cases hj : vl j (tn (gai gM 20 0 4))
  · obtain ⟨k, rfl, hk⟩ := vl_ex hj
    obtain ⟨J, Q, w1, w2, w3, w4⟩ := hS.2.2.2.1.2.2.2.2.1 k hk
    have hJ := hS.2.2.1.2.2.2.2.2.1 k hk
    rw [if_pos hj, tn_nI (by omega), w1] at e1
    rw [bi_t hj] at e2
    have k24 : k < 24 := by omega
    obtain ⟨-, -, -, ⟨A, q1, q2, q3, q4, q5⟩, -⟩ := w3
    have hJ' := hJ
    obtain ⟨-, -, -, -, -, -, -, -, c7, c8, -, c10⟩ := hJ'
    obtain ⟨c7a, c7b⟩ := vl_nI c7
    have c7e : gai gM 20 0 (106 + 13 * k + 7) = nI (jN (gai gM 20 0) k 7) := c7a
    have c7l : jN (gai gM 20 0) k 7 < 401 := c7b
    generalize jN (gai gM 20 0) k 7 = m at *
    have hxs : ∀ i, i < m → gai gM 20 2 (400 * k + i) = nI (tn (gai gM 20 2 (400 * k + i))) ∧ tn (gai gM 20 2 (400 * k + i)) < 1000 := fun i hi => by
      obtain ⟨z1, z2⟩ := vl_nI (c10 i hi).1
      exact ⟨z1, by omega⟩
    obtain ⟨x, hx⟩ : ∃ x : Nat → Nat, ∀ i, x i = tn (gai gM 20 2 (400 * k + i)) := ⟨_, fun _ => rfl⟩
    have hPA : PA gX A m x := ⟨q2, q4, by omega, fun i hi => by
      rw [q5 i hi, hx i]
      exact hxs i hi⟩
    have hMR : MRw gM k m x := ⟨k24, by omega, c7e, fun i hi => by
      rw [hx i]
      exact hxs i hi⟩
    obtain ⟨⟨-, -, -, -, -, -, -, -, -, r292, s1, s2, s3, s4, l1, l2, l3, l4, -⟩, -⟩ := id h.1
    have hC : CSh gX := ⟨s1, s2, s3, s4, l1, l2, l3, l4⟩
    obtain ⟨gX', a1, a2, a3, a4, a5, a6⟩ := x_describe hC hPA c8
    obtain ⟨gM', b1, b2, b3⟩ := m_layText hM hMR
    have hRel := Rel_can h a2 b2
    have hM' := MI_FMc hM b2
    have hMR' := MRw_FMc b2 hMR
    have uq := fun j hj => ABq_uq a3 b3 m j (by omega) hj
    obtain ⟨t1, t2, t3, u1, u2, u3⟩ := MC_r hM'
    have hC' := CSh_FX a2 hC
    obtain ⟨s1', s2', s3', s4', l1', l2', l3', l4'⟩ := id hC'
    have r292' : gfr gX' 292 0 = some 0 := by rw [a2.1.1]; exact r292
    obtain ⟨⟨C1, C2⟩, ⟨C3, C4⟩, -⟩ := a3.2 0 (by omega) (by omega)
    obtain ⟨⟨D1, D2⟩, ⟨D3, D4⟩, -⟩ := b3 0 (by omega) (by omega)
    obtain ⟨U1, U2, -⟩ := uq 0 (by omega)
    have C1' : gai gX' 20 19 0 = nI (cC gX' 0) := C1
    have D1' : gai gM' 20 6 0 = nI (cC gX' 0) := by rw [D1, ← U1]
    have D3' : gai gM' 20 7 0 = gai gX' 20 20 0 := by rw [D3, ← U2]; exact C3.symm
    have eT : txt x (cK gX') m m 0 = txt x (mK gM') m m 0 := txt_congr (fun j hj => (uq j hj).2.2) m 0
    rw [eT] at a4 a5
    obtain ⟨L1, L2⟩ := a4
    rw [a5] at L1
    have hpos : 0 < cC gX' 0 := by
      obtain ⟨-, -, -, B0⟩ := a3.2 0 (by omega) (by omega)
      have := B0.2.1
      have e : cC gX' 0 = cst x (cC gX') m 0 (cK gX' 0) := this
      rw [e]
      unfold cst lnI
      have d := dgs_pos (x 0)
      split <;> omega
    have eg : ∀ g : GS_, ghs g = ghs g := fun _ => rfl
    have x0 : ∀ r, ((p = (-1 : Int32) ∧ some (r, gX') = some (gfi gX' 228 0, gX')) ∨ (¬ p = (-1 : Int32) ∧ p = (-2 : Int32) ∧ some (r, gX') = bd_ (f7_itemCount 0 gX') fun z17 g16 => some (z17, g16)) ∨ (¬ p = (-1 : Int32) ∧ ¬ p = (-2 : Int32) ∧ some (r, gX') = bd_ (f7_has 0 p gX') fun z21 g20 => if z21 = 0 then some ((-6 : Int32), g20) else lr_ (gfr g20 292 0) fun x22 => oc_ x22 none fun a23 => bd_ (f7_characterAt a23 p g20) fun z25 g24 => some (z25, g24))) → f9_canonical 0 (nI k) p gX = some (r, gX') := by
      intro r hr
      rw [f9_canonical, r0, lr_at, oc_some, e1, bd_some, oc_some, r292, lr_at, w2, lr_at, oc_some, q1, lr_at, oc_some, a1, bd_some]
      rcases hr with ⟨z1, z2⟩ | ⟨z1, z2, z3⟩ | ⟨z1, z2, z3⟩
      · rw [if_pos z1, r292', lr_at, oc_some, z2]
      · rw [if_neg z1, if_pos z2, r292', lr_at, oc_some, z3]
      · rw [if_neg z1, if_neg z2, r292', lr_at, oc_some, z3]
    have m0 : ∀ r, ((p = (-1 : Int32) ∧ some (r, gM') = some (gai gM' 20 6 0, gM')) ∨ (¬ p = (-1 : Int32) ∧ p = (-2 : Int32) ∧ some (r, gM') = some (gai gM' 20 7 0, gM')) ∨ (¬ p = (-1 : Int32) ∧ ¬ p = (-2 : Int32) ∧ some (r, gM') = bd_ (f10_in p (0 : Int32) (nI (cC gX' 0) - (1 : Int32)) gM') fun z27 g26 => if z27 = 0 then some ((-6 : Int32), g26) else bd_ (f10_ofJob 0 (nI k) (7 : Int32) g26) fun z29 g28 => f10_canonical_b73 FU_ 0 (nI k) (0 : Int32) p z29 g28)) → f10_canonical 0 (nI k) p gM = some (r, gM') := by
      intro r hr
      have i0 : inb (0 : Int32) 401 := (inb_nI (n := 0) (by omega)).mpr (by omega)
      rw [f10_canonical, e2, bd_some, if_neg (show ¬ (1 : Int32) = 0 by decide), b1, bd_some]
      rcases hr with ⟨z1, z2⟩ | ⟨z1, z2, z3⟩ | ⟨z1, z2, z3⟩
      · rw [if_pos z1, t1, lr_at, oc_some, u1, if_pos i0, z2]
        rfl
      · rw [if_neg z1, if_pos z2, t2, lr_at, oc_some, u2, if_pos i0, z3]
        rfl
      · rw [if_neg z1, if_neg z2, t1, lr_at, oc_some, u1, if_pos i0, show (0 : Int32).toInt.toNat = 0 from rfl, D1', z3]
    have fin : ∀ r, f9_canonical 0 (nI k) p gX = some (r, gX') → f10_canonical 0 (nI k) p gM = some (r, gM') → ∃ r gX' gM', f9_canonical 0 (nI k) p gX = some (r, gX') ∧ f10_canonical 0 (nI k) p gM = some (r, gM') ∧ Rel gX' gM' (n + 1) ∧ ghs gX' ≤ ghs gX + 1000 ∧ gsl gX' ≤ gsl gX + 14000 ∧ ghs gM' = ghs gM ∧ gsl gM' = gsl gM := by
      intro r z1 z2
      refine ⟨r, gX', gM', z1, z2, hRel, ?_, ?_, b2.1.2.2.2.2.1, b2.1.2.2.2.2.2⟩
      · rw [a2.1.2.2.2.2.1]; omega
      · rw [a2.1.2.2.2.2.2]; omega
    by_cases c1 : p = (-1 : Int32)
    · exact fin (nI (cC gX' 0)) (x0 _ (Or.inl ⟨c1, by rw [L1]⟩)) (m0 _ (Or.inl ⟨c1, by rw [D1']⟩))
    · by_cases c2 : p = (-2 : Int32)
      · refine fin (gai gX' 20 20 0) (x0 _ (Or.inr (Or.inl ⟨c1, c2, ?_⟩))) (m0 _ (Or.inr (Or.inl ⟨c1, c2, by rw [D3']⟩)))
        rw [f7_itemCount, s2', lr_at, oc_some, l2', if_pos (show inb (0 : Int32) 401 from (inb_nI (n := 0) (by omega)).mpr (by omega)), bd_some]
        rfl
      · have eN : nI (cC gX' 0) - (1 : Int32) = nI (cC gX' 0) - nI 1 := rfl
        have e6 := in_vlb (n := cC gX' 0) (by omega) p
        by_cases c3 : vl p (cC gX' 0)
        · obtain ⟨q, rfl, hq⟩ := vl_ex c3
          have hl : q < (txt x (mK gM') m m 0).length := by rw [a5]; exact hq
          have hs := List.getElem?_eq_getElem hl
          generalize (txt x (mK gM') m m 0)[q] = s at hs
          refine fin (nI s) (x0 _ (Or.inr (Or.inr ⟨c1, c2, ?_⟩))) (m0 _ (Or.inr (Or.inr ⟨c1, c2, ?_⟩)))
          · have hh : f7_has 0 (nI q) gX' = some ((1 : Int32), gX') := by
              rw [f7_has, if_neg (show ¬ nI q < (0 : Int32) from fun w => by have := (lt_nI (b := 0) (by omega) (by omega)).mp w; omega), L1, if_neg (fun w => by have := (le_nI (by omega) (by omega)).mp w; omega), s4', lr_at, oc_some, l4', if_neg (show ¬ Int32.ofNat 1600 ≤ nI q from fun w => by have := (le_nI (a := 1600) (by omega) (by omega)).mp w; omega)]
            rw [hh, bd_some, if_neg (show ¬ (1 : Int32) = 0 by decide), r292', lr_at, oc_some, f7_characterAt, hh, bd_some, if_neg (show ¬ (1 : Int32) = 0 by decide), s4', lr_at, oc_some, l4', if_pos ((inb_nI (by omega)).mpr (by omega)), ix_nI (by omega), L2 q s hs, bd_some]
          · have o7 : f10_ofJob 0 (nI k) (7 : Int32) gM' = some (nI m, gM') := by
              have := m_ofJob hM' k24 (w := 7) (by omega)
              rw [hMR'.2.2.1] at this
              exact this
            have c3' : (0 : Int32) ≤ nI q ∧ nI q ≤ nI (cC gX' 0) - nI 1 := by
              exact e6.symm.mp c3
            rw [m_in, bd_some, eN, bi_t c3', if_neg (show ¬ (1 : Int32) = 0 by decide), o7, bd_some]
            exact (m_signLoop hM' hMR' b3 m FU_ 0 q s (by unfold FU_; omega) (by omega) (by omega) (by omega) hs).symm
        · refine fin (-nI 6) (x0 _ (Or.inr (Or.inr ⟨c1, c2, ?_⟩))) (m0 _ (Or.inr (Or.inr ⟨c1, c2, ?_⟩)))
          · have hh : f7_has 0 p gX' = some ((0 : Int32), gX') := by
              rcases int_cases p with q | ⟨q, hq, rfl⟩
              · rw [f7_has, if_pos (show p < (0 : Int32) from q)]
                rfl
              · have : cC gX' 0 ≤ q := by
                  rcases Nat.lt_or_ge q (cC gX' 0) with w | w
                  · exact absurd (vl_of w (by omega)) c3
                  · exact w
                rw [f7_has, if_neg (show ¬ nI q < (0 : Int32) from fun w => by have := (lt_nI (b := 0) (by omega) (by omega)).mp w; omega), L1, if_pos ((le_nI (by omega) (by omega)).mpr this)]
                rfl
            rw [hh, bd_some, if_pos rfl]
            rfl
          · have c3' : ¬ ((0 : Int32) ≤ p ∧ p ≤ nI (cC gX' 0) - nI 1) := fun w => c3 (e6.mp w)
            rw [m_in, bd_some, eN, bi_f c3', if_pos rfl]
            rfl
  · rw [if_neg hj] at e1
    rw [bi_f hj] at e2
    refine op_fin h (r := -nI 1) ?_ ?_
    · rw [f9_canonical, r0, lr_at, oc_some, e1, bd_some, oc_none]
      rfl
    · rw [f10_canonical, e2, bd_some, if_pos rfl]
      rfl
