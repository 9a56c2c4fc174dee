/-! the class chooses, from the last page on -/
abbrev cC (g : GS_) : Nat → Nat := fun q => tn (gai g 20 19 q)
abbrev cT (g : GS_) : Nat → Nat := fun q => tn (gai g 20 20 q)
abbrev cK (g : GS_) : Nat → Nat := fun q => tn (gai g 20 21 q)
/-- the arrays at i are the best of some -/
def CU (x : Nat → Nat) (m : Nat) (g : GS_) (i : Nat) (P : Nat → Prop) : Prop :=
  gai g 20 19 i = nI (cC g i) ∧ gai g 20 20 i = nI (cT g i) ∧ gai g 20 21 i = nI (cK g i) ∧ LM x (cC g) (cT g) m i P (cC g i) (cT g i) (cK g i)
def ABg (x : Nat → Nat) (m : Nat) (g : GS_) (i : Nat) : Prop := AB x m (gai g 20 19) (gai g 20 20) (gai g 20 21) i
theorem cst_bd {x : Nat → Nat} {m i t : Nat} {g : GS_} (hi : i < m) (hV : Va x m i t) (hA : ABg x m g (i + 1)) : itm (cT g) m i t ≤ m - i ∧ (t = 1 → cst x (cC g) m i t ≤ 4 * (m - i)) := by
  obtain ⟨v1, v2, -, -⟩ := hV
  obtain ⟨a1, a2⟩ := hA
  constructor
  · unfold itm
    by_cases c : i + t = m
    · rw [if_pos c]; omega
    · rw [if_neg c]
      have := (a2 (i + t) (by omega) (by omega)).2.1.2
      show 1 + tn (gai g 20 20 (i + t)) ≤ m - i
      omega
  · rintro rfl
    have d := dgs_pos (x i)
    unfold cst lnI
    rw [if_pos rfl]
    by_cases c : i + 1 = m
    · rw [if_pos c]; omega
    · rw [if_neg c]
      have := (a2 (i + 1) (by omega) (by omega)).1.2
      show dgs (x i) + (1 + tn (gai g 20 19 (i + 1))) ≤ 4 * (m - i)
      omega
/-- another one is compared -/
theorem x_more {g : GS_} {A m i t : Nat} {x : Nat → Nat} {P : Nat → Prop} (hS : CSh g) (hP : PA g A m x) (hi : i < m) (hV : Va x m i t) (hA : ABg x m g (i + 1)) (ht : t = 1 ∨ (CU x m g i P ∧ cC g i ≤ 1600 ∧ cT g i ≤ 400 ∧ ∀ u, P u → 1 ≤ u ∧ u < t)) :
    ∃ g', f7_compare 0 (some A) (nI i) (nI t) (nI m) g = some ((), g') ∧ FX g g' ∧ ABg x m g' (i + 1) ∧ ((t = 1 ∧ CU x m g' i (fun u => u = 1)) ∨ (¬ t = 1 ∧ CU x m g' i (fun u => P u ∨ u = t))) ∧ (t ≠ 1 → cC g' i ≤ cC g i) ∧ cT g' i ≤ 400 ∧ (t = 1 → cC g' i ≤ 1600) := by
  have p3 := hP.2.2.1
  have hn : ∀ j, i < j → j < m → (gai g 20 19 j = nI (tn (gai g 20 19 j)) ∧ tn (gai g 20 19 j) ≤ 1700) ∧ (gai g 20 20 j = nI (tn (gai g 20 20 j)) ∧ tn (gai g 20 20 j) ≤ 500) := fun j h1 h2 => by
    obtain ⟨⟨b1, b2⟩, ⟨b3, b4⟩, -⟩ := hA.2 j (by omega) h2
    exact ⟨⟨b1, by omega⟩, b3, by omega⟩
  have e := x_cmp hS hP hV hA.1 hn (by
    rcases ht with q | ⟨⟨q1, q2, -, -⟩, q3, q4, -⟩
    · exact Or.inl q
    · exact Or.inr ⟨q1, by show cC g i ≤ 1700; omega, q2, by show cT g i ≤ 500; omega⟩)
  obtain ⟨b1, b2⟩ := cst_bd hi hV hA
  have v1 := hV.1
  have hW : ∀ cc oo, (∀ j, j ≠ i → gai (W3 g i cc oo (nI t)) 20 19 j = gai g 20 19 j ∧ gai (W3 g i cc oo (nI t)) 20 20 j = gai g 20 20 j ∧ gai (W3 g i cc oo (nI t)) 20 21 j = gai g 20 21 j) ∧ gai (W3 g i cc oo (nI t)) 20 19 i = cc ∧ gai (W3 g i cc oo (nI t)) 20 20 i = oo ∧ gai (W3 g i cc oo (nI t)) 20 21 i = nI t := fun cc oo => by
    refine ⟨fun j hj => ?_, ?_, ?_, ?_⟩
    · obtain ⟨w1, w2, w3⟩ := W3_a (g := g) (i := i) (c := cc) (o := oo) (k := nI t) j
      rw [if_neg hj] at w1 w2 w3
      exact ⟨w1, w2, w3⟩
    · exact (W3_a i).1.trans (if_pos rfl)
    · exact (W3_a i).2.1.trans (if_pos rfl)
    · exact (W3_a i).2.2.trans (if_pos rfl)
  have keepAB : ∀ g', (∀ j, j ≠ i → gai g' 20 19 j = gai g 20 19 j ∧ gai g' 20 20 j = gai g 20 20 j ∧ gai g' 20 21 j = gai g 20 21 j) → ABg x m g' (i + 1) := by
    intro g' hj
    refine ⟨⟨by rw [(hj m (by omega)).1]; exact hA.1.1, by rw [(hj m (by omega)).2.1]; exact hA.1.2⟩, fun j j1 j2 => ?_⟩
    obtain ⟨w1, w2, w3⟩ := hj j (by omega)
    obtain ⟨c1, c2, c3, c4⟩ := hA.2 j j1 j2
    rw [w1, w2, w3]
    refine ⟨c1, c2, c3, ?_⟩
    unfold Bst at c4 ⊢
    show LM x (fun q => tn (gai g' 20 19 q)) (fun q => tn (gai g' 20 20 q)) m j (Va x m j) (tn (gai g' 20 19 j)) (tn (gai g' 20 20 j)) (tn (gai g' 20 21 j))
    rw [w1, w2, w3]
    refine LM_congr (fun u hu => hu.1) (fun q hq => ?_) (fun q hq => ?_) c4
    · show tn (gai g' 20 19 q) = tn (gai g 20 19 q)
      rw [(hj q (by omega)).1]
    · show tn (gai g' 20 20 q) = tn (gai g 20 20 q)
      rw [(hj q (by omega)).2.1]
  by_cases hc : t = 1 ∨ lxl (cst x (cC g) m i t) (itm (cT g) m i t) (cC g i) (cT g i)
  · rw [if_pos hc] at e
    obtain ⟨w1, w2, w3, w4⟩ := hW (nI (cst x (cC g) m i t)) (nI (itm (cT g) m i t))
    refine ⟨_, e, W3_FX, keepAB _ w1, ?_⟩
    generalize W3 g i (nI (cst x (cC g) m i t)) (nI (itm (cT g) m i t)) (nI t) = g' at *
    have cB : cst x (cC g) m i t ≤ 1600 := by
      rcases hc with q | q
      · have := b2 q
        omega
      · rcases ht with w | ⟨-, w, -, -⟩
        · have := b2 w
          omega
        · unfold lxl at q
          have : cst x (cC g) m i t ≤ cC g i := by omega
          omega
    have hCi : cC g' i = cst x (cC g) m i t := by show tn (gai g' 20 19 i) = _; rw [w2, tn_nI (by omega)]
    have hTi : cT g' i = itm (cT g) m i t := by show tn (gai g' 20 20 i) = _; rw [w3, tn_nI (by omega)]
    have htm := hV.2.1
    have hKi : cK g' i = t := by show tn (gai g' 20 21 i) = _; rw [w4, tn_nI (by omega)]
    have cg : ∀ q, i < q → cC g' q = cC g q ∧ cT g' q = cT g q := fun q hq => by
      obtain ⟨z1, z2, -⟩ := w1 q (by omega)
      exact ⟨by show tn (gai g' 20 19 q) = _; rw [z1], by show tn (gai g' 20 20 q) = _; rw [z2]⟩
    have head : ∀ Q, LM x (cC g) (cT g) m i Q (cst x (cC g) m i t) (itm (cT g) m i t) t → (∀ u, Q u → 1 ≤ u) → CU x m g' i Q := by
      intro Q hQ h1
      refine ⟨by rw [hCi]; exact w2, by rw [hTi]; exact w3, by rw [hKi]; exact w4, ?_⟩
      rw [hCi, hTi, hKi]
      exact LM_congr h1 (fun q hq => (cg q hq).1) (fun q hq => (cg q hq).2) hQ
    refine ⟨?_, fun hne => ?_, by omega, fun _ => by omega⟩
    · by_cases h1 : t = 1
      · left
        refine ⟨h1, head _ ?_ (fun u hu => by omega)⟩
        subst h1
        exact LM_one
      · right
        obtain ⟨⟨-, -, -, q1⟩, -, -, q2⟩ := ht.resolve_left h1
        refine ⟨h1, head _ ((LM_step q1 (fun u hu => (q2 u hu).2)).1 (hc.resolve_left h1)) ?_⟩
        rintro u (hu | rfl)
        · exact (q2 u hu).1
        · exact v1
    · have := hc.resolve_left hne
      unfold lxl at this
      omega
  · rw [if_neg hc] at e
    have h1 : ¬ t = 1 := fun q => hc (Or.inl q)
    obtain ⟨⟨q1, q2, q3, q4⟩, q5, q6, q7⟩ := ht.resolve_left h1
    exact ⟨g, e, FX_rfl, hA, Or.inr ⟨h1, q1, q2, q3, (LM_step q4 (fun u hu => (q7 u hu).2)).2 (fun q => hc (Or.inr q))⟩, fun _ => Nat.le_refl _, q6, fun q => absurd q h1⟩
theorem CU_AB {x : Nat → Nat} {m i R : Nat} {g : GS_} (hi : i < m) (hR : IsR x m i R) (hA : ABg x m g (i + 1)) (h : CU x m g i (fun u => u = 1 ∨ (2 ≤ u ∧ (u = R ∨ u + 1 = R)))) : ABg x m g i := by
  obtain ⟨h1, h2, h3, h4⟩ := h
  have hB : ∀ j, i < j → j < m → Bst x (cC g) (cT g) (cK g) m j := fun j j1 j2 => (hA.2 j (by omega) j2).2.2.2
  have hL := three hR hB h4
  refine ⟨hA.1, fun j j1 j2 => ?_⟩
  by_cases c : j = i
  · subst c
    obtain ⟨l1, l2, l3, l4⟩ := id hL
    have hV1 := Va_down hR.1 (Nat.le_refl 1) hR.1.1
    have z := (l4 1 hV1).1 l1.1
    obtain ⟨-, b2⟩ := cst_bd hi hV1 hA
    obtain ⟨b1, -⟩ := cst_bd hi l1 hA
    have b3 := b2 rfl
    rw [← l3] at b1
    unfold lxl at z
    refine ⟨⟨h1, ?_⟩, ⟨h2, b1⟩, h3, ?_⟩
    · show cC g j ≤ _
      omega
    · exact hL
  · exact hA.2 j (by omega) j2
theorem x_choose {g : GS_} {A m i R : Nat} {x : Nat → Nat} (hS : CSh g) (hP : PA g A m x) (hi : i < m) (hR : IsR x m i R) (hA : ABg x m g (i + 1)) :
    ∃ g', f7_chooseFirstItem 0 (some A) (nI i) (nI R) (nI m) g = some ((), g') ∧ FX g g' ∧ ABg x m g' i := by
  have hV := hR.1
  have r1 := hV.1
  have r2 := hV.2.1
  have p3 := hP.2.2.1
  obtain ⟨g1, a1, a2, a3, a4, -, a6, a7⟩ := x_more (P := fun _ => False) hS hP hi (Va_down hV (Nat.le_refl 1) r1) hA (Or.inl rfl)
  have a4' : CU x m g1 i (fun u => u = 1) := by
    rcases a4 with ⟨-, q⟩ | ⟨q, -⟩
    · exact q
    · exact absurd rfl q
  have a7' := a7 rfl
  have CUiff : ∀ {G : GS_} {P Q : Nat → Prop}, (∀ u, P u ↔ Q u) → CU x m G i P → CU x m G i Q := fun hPQ h => ⟨h.1, h.2.1, h.2.2.1, LM_iff hPQ h.2.2.2⟩
  rw [f7_chooseFirstItem]
  have a1' : f7_compare 0 (some A) (nI i) (1 : Int32) (nI m) g = some ((), g1) := a1
  rw [a1', bd_some]
  by_cases c1 : R = 1
  · subst c1
    refine ⟨g1, ?_, a2, CU_AB hi hR a3 (CUiff (fun u => by omega) a4')⟩
    rw [if_pos (show nI 1 ≤ (2 : Int32) by decide), f7_chooseFirstItem_b25, if_pos (show nI 1 ≤ (1 : Int32) by decide)]
  · by_cases c2 : R = 2
    · subst c2
      obtain ⟨g2, b1, b2, b3, b4, -⟩ := x_more (P := fun u => u = 1) (CSh_FX a2 hS) (PA_FX a2 hP) hi hV a3 (Or.inr ⟨a4', a7', a6, fun u hu => by omega⟩)
      have b4' : CU x m g2 i (fun u => u = 1 ∨ u = 2) := by
        rcases b4 with ⟨q, -⟩ | ⟨-, q⟩
        · omega
        · exact q
      refine ⟨g2, ?_, FX_tr a2 b2, CU_AB hi hR b3 (CUiff (fun u => by omega) b4')⟩
      rw [if_pos (show nI 2 ≤ (2 : Int32) by decide), f7_chooseFirstItem_b25, if_neg (show ¬ nI 2 ≤ (1 : Int32) by decide), b1, bd_some]
    · obtain ⟨g2, b1, b2, b3, b4, b5, b6, -⟩ := x_more (P := fun u => u = 1) (CSh_FX a2 hS) (PA_FX a2 hP) hi (Va_down hV (show 1 ≤ R - 1 by omega) (by omega)) a3 (Or.inr ⟨a4', a7', a6, fun u hu => by omega⟩)
      have b4' : CU x m g2 i (fun u => u = 1 ∨ u = R - 1) := by
        rcases b4 with ⟨q, -⟩ | ⟨-, q⟩
        · omega
        · exact q
      have b5' := b5 (by omega)
      obtain ⟨g3, d1, d2, d3, d4, -⟩ := x_more (P := fun u => u = 1 ∨ u = R - 1) (CSh_FX b2 (CSh_FX a2 hS)) (PA_FX b2 (PA_FX a2 hP)) hi hV b3 (Or.inr ⟨b4', by omega, b6, fun u hu => by omega⟩)
      have d4' : CU x m g3 i (fun u => (u = 1 ∨ u = R - 1) ∨ u = R) := by
        rcases d4 with ⟨q, -⟩ | ⟨-, q⟩
        · omega
        · exact q
      have e1 : nI R - (1 : Int32) = nI (R - 1) := nI_sub (b := 1) (by omega)
      refine ⟨g3, ?_, FX_tr a2 (FX_tr b2 d2), CU_AB hi hR d3 (CUiff (fun u => by omega) d4')⟩
      rw [if_neg (show ¬ nI R ≤ (2 : Int32) from fun q => by have := (le_nI (b := 2) (by omega) (by omega)).mp q; omega), e1, b1, bd_some, f7_chooseFirstItem_b25, if_neg (show ¬ nI R ≤ (1 : Int32) from fun q => by have := (le_nI (b := 1) (by omega) (by omega)).mp q; omega), d1, bd_some]
