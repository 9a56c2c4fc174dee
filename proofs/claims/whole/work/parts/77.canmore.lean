/-! the reference compares items -/
theorem m_cmp {g : GS_} {jb m i t : Nat} {x : Nat → Nat} {s : Int32} (hM : MI g) (hP : MRw g jb m x) (hV : Va x m i t) (hs : 2 ≤ t → s = sI x m i) (hn : ∀ j, i < j → j < m → (gai g 20 6 j = nI (tn (gai g 20 6 j)) ∧ tn (gai g 20 6 j) ≤ 1700) ∧ (gai g 20 7 j = nI (tn (gai g 20 7 j)) ∧ tn (gai g 20 7 j) ≤ 500))
    (hi : (t = 1 ∧ gai g 20 8 i = nI 0) ∨ (2 ≤ t ∧ (gai g 20 6 i = nI (tn (gai g 20 6 i)) ∧ tn (gai g 20 6 i) ≤ 1700 ∧ gai g 20 7 i = nI (tn (gai g 20 7 i)) ∧ tn (gai g 20 7 i) ≤ 500) ∧ ∃ kk, gai g 20 8 i = nI kk ∧ 1 ≤ kk ∧ kk < 1000)) :
    f10_takeItem 0 (nI jb) (nI i) (nI t) s g = some ((), if t = 1 ∨ lxl (cst x (mC g) m i t) (itm (mT g) m i t) (mC g i) (mT g i) then W3m g i (nI (cst x (mC g) m i t)) (nI (itm (mT g) m i t)) (nI t) else g) := by
  obtain ⟨s1, s2, s3, l1, l2, l3⟩ := MC_r hM
  have sg := m_signs hM hP hV hs
  obtain ⟨p1, p2, p3, p4⟩ := hP
  obtain ⟨v1, v2, v3, v4⟩ := hV
  have hln : lnI x i t ≤ 8 := by
    have d1 := dgs_pos (x i)
    have d2 := dgs_pos (x (i + t - 1))
    unfold lnI spd
    split <;> (try split) <;> omega
  have e1 : nI i + nI t = nI (i + t) := nI_add _ _
  have o7 : f10_ofJob 0 (nI jb) (7 : Int32) g = some (nI m, g) := by
    have := m_ofJob hM p1 (w := 7) (by omega)
    rw [p3] at this
    exact this
  -- the costs
  have cc : ∃ cc oo, cst x (mC g) m i t = cc ∧ itm (mT g) m i t = oo ∧ cc ≤ 2000 ∧ oo ≤ 600 ∧ f10_takeItem 0 (nI jb) (nI i) (nI t) s g = (if gai g 20 8 i = (0 : Int32) then f10_takeItem_b116 0 (nI i) (nI t) (nI cc) (nI oo) g else if nI cc < gai g 20 6 i then f10_takeItem_b116 0 (nI i) (nI t) (nI cc) (nI oo) g else if nI cc = gai g 20 6 i then (if gai g 20 7 i < nI oo then some ((), g) else f10_takeItem_b116 0 (nI i) (nI t) (nI cc) (nI oo) g) else some ((), g)) := by
    have b71 : ∀ cc oo : Nat, f10_takeItem_b71 0 (nI i) (nI t) (nI cc) (1 : Int32) (nI oo) g = (if gai g 20 8 i = (0 : Int32) then f10_takeItem_b116 0 (nI i) (nI t) (nI cc) (nI (1 + oo)) g else if nI cc < gai g 20 6 i then f10_takeItem_b116 0 (nI i) (nI t) (nI cc) (nI (1 + oo)) g else if nI cc = gai g 20 6 i then (if gai g 20 7 i < nI (1 + oo) then some ((), g) else f10_takeItem_b116 0 (nI i) (nI t) (nI cc) (nI (1 + oo)) g) else some ((), g)) := by
      intro cc oo
      have a1 : (1 : Int32) + nI oo = nI (1 + oo) := nI_add 1 oo
      rw [f10_takeItem_b71, a1, lr_at, s3, lr_at, oc_some, l3, if_pos ((inb_nI (by omega)).mpr (by omega)), ix_nI (by omega), s1, lr_at, oc_some, l1, if_pos ((inb_nI (by omega)).mpr (by omega)), lr_at, oc_some, l1, if_pos ((inb_nI (by omega)).mpr (by omega)), s2, lr_at, oc_some, l2, if_pos ((inb_nI (by omega)).mpr (by omega))]
    by_cases c : i + t = m
    · refine ⟨lnI x i t, 1, ?_, ?_, by omega, by omega, ?_⟩
      · unfold cst
        rw [if_pos c]
        rfl
      · unfold itm
        rw [if_pos c]
      · have a2 : nI (lnI x i t) + (0 : Int32) = nI (lnI x i t) := nI_add _ 0
        rw [f10_takeItem, e1, lr_at, o7, bd_some, if_pos (by rw [c]), f10_takeItem_b22, sg, bd_some, if_neg (show ¬ (1 : Int32) = 0 by decide), f10_takeItem_b51, a2, lr_at, if_neg (show ¬ (1 : Int32) = 0 by decide)]
        exact b71 _ 0
    · obtain ⟨⟨a1, a2⟩, a3, a4⟩ := hn (i + t) (by omega) (by omega)
      refine ⟨lnI x i t + (1 + mC g (i + t)), 1 + mT g (i + t), ?_, ?_, ?_, ?_, ?_⟩
      · unfold cst
        rw [if_neg c]
      · unfold itm
        rw [if_neg c]
      · show lnI x i t + (1 + tn (gai g 20 6 (i + t))) ≤ 2000
        omega
      · show 1 + tn (gai g 20 7 (i + t)) ≤ 600
        omega
      · have w1 : (1 : Int32) + nI (tn (gai g 20 6 (i + t))) = nI (1 + tn (gai g 20 6 (i + t))) := nI_add 1 _
        have hgen := b71 (lnI x i t + (1 + tn (gai g 20 6 (i + t)))) (tn (gai g 20 7 (i + t)))
        rw [f10_takeItem, e1, lr_at, o7, bd_some, if_neg (fun q => c ((eq_nI (by omega) (by omega)).mp q)), f10_takeItem_b22, sg, bd_some, if_pos (show (0 : Int32) = 0 from rfl), s1, lr_at, oc_some, l1, if_pos ((inb_nI (by omega)).mpr (by omega)), ix_nI (by omega), a1, w1, f10_takeItem_b51, nI_add, lr_at, if_pos (show (0 : Int32) = 0 from rfl), s2, lr_at, oc_some, l2, if_pos ((inb_nI (by omega)).mpr (by omega)), ix_nI (by omega), a3]
        exact hgen
  obtain ⟨cc, oo, h1, h2, h3, h4, h5⟩ := cc
  rw [h1, h2, h5]
  have w116 := m_116 (t := t) (c := nI cc) (o := nI oo) hM (show i ≤ 400 by omega)
  rw [w116]
  rcases hi with ⟨ht, hk⟩ | ⟨ht, ⟨b1, b2, b3, b4⟩, kk, b5, b6, b7⟩
  · rw [hk, if_pos (show nI 0 = (0 : Int32) from rfl), if_pos (Or.inl ht)]
  · rw [b5, if_neg (show ¬ nI kk = (0 : Int32) from fun q => by have := (eq_nI (b := 0) (by omega) (by omega)).mp q; omega)]
    generalize hcg : gai g 20 6 i = cg at *
    generalize hog : gai g 20 7 i = og at *
    have mc : mC g i = tn cg := by show tn (gai g 20 6 i) = _; rw [hcg]
    have mt : mT g i = tn og := by show tn (gai g 20 7 i) = _; rw [hog]
    rw [mc, mt, b1, b3]
    rw [tn_nI (show tn cg < 2147483648 by omega), tn_nI (show tn og < 2147483648 by omega)]
    unfold lxl
    by_cases q1 : cc < tn cg
    · rw [if_pos ((lt_nI (by omega) (by omega)).mpr q1), if_pos (Or.inr (Or.inl q1))]
    · rw [if_neg (fun q => q1 ((lt_nI (by omega) (by omega)).mp q))]
      by_cases q2 : cc = tn cg
      · rw [if_pos (by rw [q2])]
        by_cases q3 : tn og < oo
        · rw [if_pos ((lt_nI (by omega) (by omega)).mpr q3), if_neg (by omega)]
        · rw [if_neg (fun q => q3 ((lt_nI (by omega) (by omega)).mp q)), if_pos (by omega)]
      · rw [if_neg (fun q => q2 ((eq_nI (by omega) (by omega)).mp q)), if_neg (by omega)]
/-- another one is compared -/
theorem m_more {g : GS_} {jb m i t : Nat} {x : Nat → Nat} {P : Nat → Prop} {s : Int32} (hM : MI g) (hP : MRw g jb m x) (hi : i < m) (hV : Va x m i t) (hs : 2 ≤ t → s = sI x m i) (hA : ABm x m g (i + 1)) (ht : (t = 1 ∧ gai g 20 8 i = nI 0) ∨ (CUm x m g i P ∧ mC g i ≤ 1600 ∧ mT g i ≤ 400 ∧ (1 ≤ mK g i ∧ mK g i ≤ 400) ∧ 2 ≤ t ∧ ∀ u, P u → 1 ≤ u ∧ u < t)) :
    ∃ g', f10_takeItem 0 (nI jb) (nI i) (nI t) s g = some ((), g') ∧ FMc g g' ∧ ABm x m g' (i + 1) ∧ ((t = 1 ∧ CUm x m g' i (fun u => u = 1)) ∨ (¬ t = 1 ∧ CUm x m g' i (fun u => P u ∨ u = t))) ∧ (t ≠ 1 → mC g' i ≤ mC g i) ∧ mT g' i ≤ 400 ∧ (t = 1 → mC g' i ≤ 1600) ∧ (1 ≤ mK g' i ∧ mK g' i ≤ 400) := by
  have p3 := hP.2.1
  have hn : ∀ j, i < j → j < m → (gai g 20 6 j = nI (tn (gai g 20 6 j)) ∧ tn (gai g 20 6 j) ≤ 1700) ∧ (gai g 20 7 j = nI (tn (gai g 20 7 j)) ∧ tn (gai g 20 7 j) ≤ 500) := fun j h1 h2 => by
    obtain ⟨⟨b1, b2⟩, ⟨b3, b4⟩, -⟩ := hA j (by omega) h2
    exact ⟨⟨b1, by omega⟩, b3, by omega⟩
  have e := m_cmp hM hP hV hs hn (by
    rcases ht with q | ⟨⟨q1, q2, q2', -⟩, q3, q4, ⟨q5, q5'⟩, q6, -⟩
    · exact Or.inl q
    · exact Or.inr ⟨q6, ⟨q1, by show mC g i ≤ 1700; omega, q2, by show mT g i ≤ 500; omega⟩, mK g i, q2', q5, by omega⟩)
  obtain ⟨b1, b2⟩ := cst_bdm hi hV hA
  have v1 := hV.1
  have hW : ∀ cc oo, (∀ j, j ≠ i → gai (W3m g i cc oo (nI t)) 20 6 j = gai g 20 6 j ∧ gai (W3m g i cc oo (nI t)) 20 7 j = gai g 20 7 j ∧ gai (W3m g i cc oo (nI t)) 20 8 j = gai g 20 8 j) ∧ gai (W3m g i cc oo (nI t)) 20 6 i = cc ∧ gai (W3m g i cc oo (nI t)) 20 7 i = oo ∧ gai (W3m g i cc oo (nI t)) 20 8 i = nI t := fun cc oo => by
    refine ⟨fun j hj => ?_, ?_, ?_, ?_⟩
    · obtain ⟨w1, w2, w3⟩ := W3m_a (g := g) (i := i) (c := cc) (o := oo) (k := nI t) j
      rw [if_neg hj] at w1 w2 w3
      exact ⟨w1, w2, w3⟩
    · exact (W3m_a i).1.trans (if_pos rfl)
    · exact (W3m_a i).2.1.trans (if_pos rfl)
    · exact (W3m_a i).2.2.trans (if_pos rfl)
  have keepAB : ∀ g', (∀ j, j ≠ i → gai g' 20 6 j = gai g 20 6 j ∧ gai g' 20 7 j = gai g 20 7 j ∧ gai g' 20 8 j = gai g 20 8 j) → ABm x m g' (i + 1) := by
    intro g' hj
    intro j j1 j2
    obtain ⟨w1, w2, w3⟩ := hj j (by omega)
    obtain ⟨c1, c2, c3, c4⟩ := hA j j1 j2
    rw [w1, w2, w3]
    refine ⟨c1, c2, c3, ?_⟩
    unfold Bst at c4 ⊢
    show LM x (fun q => tn (gai g' 20 6 q)) (fun q => tn (gai g' 20 7 q)) m j (Va x m j) (tn (gai g' 20 6 j)) (tn (gai g' 20 7 j)) (tn (gai g' 20 8 j))
    rw [w1, w2, w3]
    refine LM_congr (fun u hu => hu.1) (fun q hq => ?_) (fun q hq => ?_) c4
    · show tn (gai g' 20 6 q) = tn (gai g 20 6 q)
      rw [(hj q (by omega)).1]
    · show tn (gai g' 20 7 q) = tn (gai g 20 7 q)
      rw [(hj q (by omega)).2.1]
  by_cases hc : t = 1 ∨ lxl (cst x (mC g) m i t) (itm (mT g) m i t) (mC g i) (mT g i)
  · rw [if_pos hc] at e
    obtain ⟨w1, w2, w3, w4⟩ := hW (nI (cst x (mC g) m i t)) (nI (itm (mT g) m i t))
    refine ⟨_, e, W3m_FX, keepAB _ w1, ?_⟩
    generalize W3m g i (nI (cst x (mC g) m i t)) (nI (itm (mT g) m i t)) (nI t) = g' at *
    have cB : cst x (mC g) m i t ≤ 1600 := by
      rcases hc with q | q
      · have := b2 q
        omega
      · rcases ht with w | ⟨-, w, -, -⟩
        · have := b2 w.1
          omega
        · unfold lxl at q
          have : cst x (mC g) m i t ≤ mC g i := by omega
          omega
    have hCi : mC g' i = cst x (mC g) m i t := by show tn (gai g' 20 6 i) = _; rw [w2, tn_nI (by omega)]
    have hTi : mT g' i = itm (mT g) m i t := by show tn (gai g' 20 7 i) = _; rw [w3, tn_nI (by omega)]
    have htm := hV.2.1
    have hKi : mK g' i = t := by show tn (gai g' 20 8 i) = _; rw [w4, tn_nI (by omega)]
    have cg : ∀ q, i < q → mC g' q = mC g q ∧ mT g' q = mT g q := fun q hq => by
      obtain ⟨z1, z2, -⟩ := w1 q (by omega)
      exact ⟨by show tn (gai g' 20 6 q) = _; rw [z1], by show tn (gai g' 20 7 q) = _; rw [z2]⟩
    have head : ∀ Q, LM x (mC g) (mT g) m i Q (cst x (mC g) m i t) (itm (mT g) m i t) t → (∀ u, Q u → 1 ≤ u) → CUm x m g' i Q := by
      intro Q hQ h1
      refine ⟨by rw [hCi]; exact w2, by rw [hTi]; exact w3, by rw [hKi]; exact w4, ?_⟩
      rw [hCi, hTi, hKi]
      exact LM_congr h1 (fun q hq => (cg q hq).1) (fun q hq => (cg q hq).2) hQ
    refine ⟨?_, fun hne => ?_, by omega, fun _ => by omega, by omega⟩
    · by_cases h1 : t = 1
      · left
        refine ⟨h1, head _ ?_ (fun u hu => by omega)⟩
        subst h1
        exact LM_one
      · right
        obtain ⟨⟨-, -, -, q1⟩, -, -, -, -, q2⟩ := ht.resolve_left (fun w => h1 w.1)
        refine ⟨h1, head _ ((LM_step q1 (fun u hu => (q2 u hu).2)).1 (hc.resolve_left h1)) ?_⟩
        rintro u (hu | rfl)
        · exact (q2 u hu).1
        · exact v1
    · have := hc.resolve_left hne
      unfold lxl at this
      omega
  · rw [if_neg hc] at e
    have h1 : ¬ t = 1 := fun q => hc (Or.inl q)
    obtain ⟨⟨q1, q2, q3, q4⟩, q5, q6, q8, q9, q7⟩ := ht.resolve_left (fun w => h1 w.1)
    exact ⟨g, e, FMc_rfl, hA, Or.inr ⟨h1, q1, q2, q3, (LM_step q4 (fun u hu => (q7 u hu).2)).2 (fun q => hc (Or.inr q))⟩, fun _ => Nat.le_refl _, q6, fun q => absurd q h1, q8⟩
