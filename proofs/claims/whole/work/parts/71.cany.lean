/-! the class chooses an item -/
def CSh (g : GS_) : Prop := gfr g 224 0 = some 19 ∧ gfr g 225 0 = some 20 ∧ gfr g 226 0 = some 21 ∧ gfr g 227 0 = some 22 ∧ gln g 20 19 = 401 ∧ gln g 20 20 = 401 ∧ gln g 20 21 = 401 ∧ gln g 20 22 = 1600
theorem CSh_FX {g g' : GS_} (h : FX g g') (hC : CSh g) : CSh g' := by
  unfold CSh
  rw [h.1.1, h.1.2.1]
  exact hC
def PA (g : GS_) (A m : Nat) (x : Nat → Nat) : Prop := 41 ≤ A ∧ gln g 20 A = m ∧ m ≤ 400 ∧ ∀ i, i < m → gai g 20 A i = nI (x i) ∧ x i < 1000
theorem PA_FX {g g' : GS_} {A m : Nat} {x : Nat → Nat} (h : FX g g') (hP : PA g A m x) : PA g' A m x := by
  obtain ⟨h1, h2, h3, h4⟩ := hP
  refine ⟨h1, by rw [h.1.2.1]; exact h2, h3, fun i hi => ?_⟩
  rw [FX_a h (by omega)]
  exact h4 i hi
def W3 (g : GS_) (i : Nat) (c o k : Int32) : GS_ := sai (sai (sai g 20 19 i c) 20 20 i o) 20 21 i k
theorem W3_FX {g : GS_} {i : Nat} {c o k : Int32} : FX g (W3 g i c o k) := FX_tr (FX_sai (by omega)) (FX_tr (FX_sai (by omega)) (FX_sai (by omega)))
theorem W3_a {g : GS_} {i : Nat} {c o k : Int32} (j : Nat) : gai (W3 g i c o k) 20 19 j = (if j = i then c else gai g 20 19 j) ∧ gai (W3 g i c o k) 20 20 j = (if j = i then o else gai g 20 20 j) ∧ gai (W3 g i c o k) 20 21 j = (if j = i then k else gai g 20 21 j) := by
  unfold W3
  refine ⟨?_, ?_, ?_⟩
  · rw [e_gai_sai, if_neg (by omega), e_gai_sai, if_neg (by omega), e_gai_sai]
    by_cases q : j = i
    · rw [if_pos ⟨rfl, rfl, q⟩, if_pos q]
    · rw [if_neg (by omega), if_neg q]
  · rw [e_gai_sai, if_neg (by omega), e_gai_sai]
    by_cases q : j = i
    · rw [if_pos ⟨rfl, rfl, q⟩, if_pos q]
    · rw [if_neg (by omega), if_neg q, e_gai_sai, if_neg (by omega)]
  · rw [e_gai_sai]
    by_cases q : j = i
    · rw [if_pos ⟨rfl, rfl, q⟩, if_pos q]
    · rw [if_neg (by omega), if_neg q, e_gai_sai, if_neg (by omega), e_gai_sai, if_neg (by omega)]
theorem x_140 {g : GS_} {i t : Nat} {c o : Int32} (hS : CSh g) (hi : i ≤ 400) : f7_compare_b140 0 (nI i) (nI t) c o g = some ((), W3 g i c o (nI t)) := by
  obtain ⟨s1, s2, s3, s4, l1, l2, l3, l4⟩ := hS
  have r2 : gfr (sai g 20 19 i c) 225 0 = some 20 := s2
  have m2 : gln (sai g 20 19 i c) 20 20 = 401 := l2
  have r3 : gfr (sai (sai g 20 19 i c) 20 20 i o) 226 0 = some 21 := s3
  have m3 : gln (sai (sai g 20 19 i c) 20 20 i o) 20 21 = 401 := l3
  rw [f7_compare_b140, s1, lr_at, oc_some, l1, if_pos ((inb_nI (by omega)).mpr (by omega)), ix_nI (by omega), lr_at, r2, lr_at, oc_some, m2, if_pos ((inb_nI (by omega)).mpr (by omega)), lr_at, r3, lr_at, oc_some, m3, if_pos ((inb_nI (by omega)).mpr (by omega)), lr_at]
  rfl
theorem x_cmp {g : GS_} {A m i t : Nat} {x : Nat → Nat} (hS : CSh g) (hP : PA g A m x) (hV : Va x m i t) (hc0 : gai g 20 19 m = nI 0 ∧ gai g 20 20 m = nI 0) (hn : ∀ j, i < j → j < m → (gai g 20 19 j = nI (tn (gai g 20 19 j)) ∧ tn (gai g 20 19 j) ≤ 1700) ∧ (gai g 20 20 j = nI (tn (gai g 20 20 j)) ∧ tn (gai g 20 20 j) ≤ 500))
    (hi : t = 1 ∨ (gai g 20 19 i = nI (tn (gai g 20 19 i)) ∧ tn (gai g 20 19 i) ≤ 1700 ∧ gai g 20 20 i = nI (tn (gai g 20 20 i)) ∧ tn (gai g 20 20 i) ≤ 500)) :
    f7_compare 0 (some A) (nI i) (nI t) (nI m) g = some ((), if t = 1 ∨ lxl (cst x (fun q => tn (gai g 20 19 q)) m i t) (itm (fun q => tn (gai g 20 20 q)) m i t) (tn (gai g 20 19 i)) (tn (gai g 20 20 i)) then W3 g i (nI (cst x (fun q => tn (gai g 20 19 q)) m i t)) (nI (itm (fun q => tn (gai g 20 20 q)) m i t)) (nI t) else g) := by
  obtain ⟨s1, s2, s3, s4, l1, l2, l3, l4⟩ := id hS
  obtain ⟨p1, p2, p3, p4⟩ := id hP
  obtain ⟨v1, v2, v3, v4⟩ := id hV
  have hil := x_itemLength (g := g) p3 hV (fun j hj => (p4 j hj).2)
  have hln : lnI x i t ≤ 8 := by
    have d1 := dgs_pos (x i)
    have d2 := dgs_pos (x (i + t - 1))
    unfold lnI spd
    split <;> (try split) <;> omega
  have e1 : nI i + nI t = nI (i + t) := nI_add _ _
  have f1 := p4 i (by omega)
  have f2 := p4 (i + t - 1) (by omega)
  -- the sums
  have hcv : ∃ cv ov, gai g 20 19 (i + t) = nI cv ∧ gai g 20 20 (i + t) = nI ov ∧ cv ≤ 1700 ∧ ov ≤ 500 ∧ (if i + t = m then 0 else 1 + tn (gai g 20 19 (i + t))) = (if i + t = m then 0 else 1) + cv ∧ (if i + t = m then 0 else tn (gai g 20 20 (i + t))) = ov := by
    by_cases c : i + t = m
    · rw [c, hc0.1, hc0.2]
      exact ⟨0, 0, rfl, rfl, by omega, by omega, by rw [if_pos rfl, if_pos rfl], by rw [if_pos rfl]⟩
    · obtain ⟨⟨a1, a2⟩, a3, a4⟩ := hn (i + t) (by omega) (by omega)
      exact ⟨_, _, a1, a3, a2, a4, by rw [if_neg c, if_neg c], by rw [if_neg c]⟩
  obtain ⟨cv, ov, g1, g2, g3, g4, g5, g6⟩ := hcv
  have hcs : cst x (fun q => tn (gai g 20 19 q)) m i t = lnI x i t + (if i + t = m then 0 else 1) + cv := by
    show lnI x i t + (if i + t = m then 0 else 1 + tn (gai g 20 19 (i + t))) = _
    rw [g5, Nat.add_assoc]
  have hit : itm (fun q => tn (gai g 20 20 q)) m i t = 1 + ov := by
    show 1 + (if i + t = m then 0 else tn (gai g 20 20 (i + t))) = _
    rw [g6]
  have hcb : cst x (fun q => tn (gai g 20 19 q)) m i t ≤ 2000 := by
    rw [hcs]
    split <;> omega
  have hib : itm (fun q => tn (gai g 20 20 q)) m i t ≤ 600 := by omega
  -- the comparison's head
  have comma : ∀ cm : Nat, cm = (if i + t = m then 0 else 1) → f7_compare_b51 0 (some A) (nI i) (nI t) (nI (i + t)) (nI cm) g = (if nI (cst x (fun q => tn (gai g 20 19 q)) m i t) < gai g 20 19 i then f7_compare_b123 0 (nI i) (nI t) (nI (cst x (fun q => tn (gai g 20 19 q)) m i t)) (nI (itm (fun q => tn (gai g 20 20 q)) m i t)) g else if nI (cst x (fun q => tn (gai g 20 19 q)) m i t) = gai g 20 19 i then (if gai g 20 20 i < nI (itm (fun q => tn (gai g 20 20 q)) m i t) then f7_compare_b127 0 (nI i) (nI t) (nI (cst x (fun q => tn (gai g 20 19 q)) m i t)) (nI (itm (fun q => tn (gai g 20 20 q)) m i t)) g else f7_compare_b123 0 (nI i) (nI t) (nI (cst x (fun q => tn (gai g 20 19 q)) m i t)) (nI (itm (fun q => tn (gai g 20 20 q)) m i t)) g) else f7_compare_b127 0 (nI i) (nI t) (nI (cst x (fun q => tn (gai g 20 19 q)) m i t)) (nI (itm (fun q => tn (gai g 20 20 q)) m i t)) g) := by
    intro cm hcm
    have e2 : nI (i + t) - (1 : Int32) = nI (i + t - 1) := nI_sub (b := 1) (by omega)
    have e3 : nI (lnI x i t) + nI cm + nI cv = nI (cst x (fun q => tn (gai g 20 19 q)) m i t) := by rw [nI_add, nI_add, hcs, hcm]
    have e4 : (1 : Int32) + nI ov = nI (itm (fun q => tn (gai g 20 20 q)) m i t) := by rw [hit]; exact nI_add 1 ov
    rw [f7_compare_b51, oc_some, p2, if_pos ((inb_nI (by omega)).mpr (by omega)), e2, if_pos ((inb_nI (by omega)).mpr (by omega)), ix_nI (by omega), ix_nI (by omega), f1.1, f2.1, hil, bd_some, s1, lr_at, oc_some, l1, if_pos ((inb_nI (by omega)).mpr (by omega)), ix_nI (by omega), g1, e3, lr_at, s2, lr_at, oc_some, l2, if_pos ((inb_nI (by omega)).mpr (by omega)), g2, e4, lr_at, lr_at, oc_some, l1, if_pos ((inb_nI (by omega)).mpr (by omega)), lr_at, oc_some, l1, if_pos ((inb_nI (by omega)).mpr (by omega)), lr_at, oc_some, l2, if_pos ((inb_nI (by omega)).mpr (by omega))]
  have start : f7_compare 0 (some A) (nI i) (nI t) (nI m) g = f7_compare_b51 0 (some A) (nI i) (nI t) (nI (i + t)) (nI (if i + t = m then 0 else 1)) g := by
    rw [f7_compare, e1, lr_at, if_neg (show ¬ nI i < (0 : Int32) from fun q => by have := (lt_nI (b := 0) (by omega) (by omega)).mp q; omega), if_neg (show ¬ nI t < (1 : Int32) from fun q => by have := (lt_nI (b := 1) (by omega) (by omega)).mp q; omega), if_neg (fun q => by have := (lt_nI (by omega) (by omega)).mp q; omega), s1, lr_at, oc_some, l1, ofN, if_neg (fun q => by have := (le_nI (by omega) (by omega)).mp q; omega), oc_some, p2, ofN, if_pos ((le_nI (by omega) (by omega)).mpr (Nat.le_refl _))]
    by_cases c : i + t = m
    · rw [if_pos ((le_nI (by omega) (by omega)).mpr (by omega)), if_pos c]
      rfl
    · rw [if_neg (fun q => by have := (le_nI (by omega) (by omega)).mp q; omega), if_neg c]
      rfl
  rw [start, comma _ rfl]
  generalize cst x (fun q => tn (gai g 20 19 q)) m i t = cc at *
  generalize itm (fun q => tn (gai g 20 20 q)) m i t = oo at *
  have w140 := x_140 (t := t) (c := nI cc) (o := nI oo) hS (show i ≤ 400 by omega)
  by_cases ht : t = 1
  · subst ht
    have b123 : f7_compare_b123 0 (nI i) (nI 1) (nI cc) (nI oo) g = some ((), W3 g i (nI cc) (nI oo) (nI 1)) := by
      rw [f7_compare_b123, f7_compare_b128, if_pos (show nI 1 = (1 : Int32) from rfl)]
      exact w140
    have b127 : f7_compare_b127 0 (nI i) (nI 1) (nI cc) (nI oo) g = some ((), W3 g i (nI cc) (nI oo) (nI 1)) := by
      rw [f7_compare_b127, f7_compare_b128, if_pos (show nI 1 = (1 : Int32) from rfl)]
      exact w140
    rw [b123, b127, if_pos (Or.inl rfl)]
    split
    · rfl
    · split
      · split
        · rfl
        · rfl
      · rfl
  · obtain ⟨h1, h2, h3, h4⟩ := hi.resolve_left ht
    have nt : ¬ nI t = (1 : Int32) := fun q => ht ((eq_nI (b := 1) (by omega) (by omega)).mp q)
    have b123 : f7_compare_b123 0 (nI i) (nI t) (nI cc) (nI oo) g = some ((), W3 g i (nI cc) (nI oo) (nI t)) := by
      rw [f7_compare_b123, f7_compare_b128, if_neg nt, if_neg (by decide)]
      exact w140
    have b127 : f7_compare_b127 0 (nI i) (nI t) (nI cc) (nI oo) g = some ((), g) := by
      rw [f7_compare_b127, f7_compare_b128, if_neg nt, if_pos (by decide)]
    rw [b123, b127, h1, h3]
    rw [tn_nI (show tn (gai g 20 19 i) < 2147483648 by omega), tn_nI (show tn (gai g 20 20 i) < 2147483648 by omega)]
    unfold lxl
    by_cases q1 : cc < tn (gai g 20 19 i)
    · rw [if_pos ((lt_nI (by omega) (by omega)).mpr q1), if_pos (Or.inr (Or.inl q1))]
    · rw [if_neg (fun q => q1 ((lt_nI (by omega) (by omega)).mp q))]
      by_cases q2 : cc = tn (gai g 20 19 i)
      · rw [if_pos (by rw [q2])]
        by_cases q3 : tn (gai g 20 20 i) < oo
        · rw [if_pos ((lt_nI (by omega) (by omega)).mpr q3), if_neg (by omega)]
        · rw [if_neg (fun q => q3 ((lt_nI (by omega) (by omega)).mp q)), if_pos (by omega)]
      · rw [if_neg (fun q => q2 ((eq_nI (by omega) (by omega)).mp q)), if_neg (by omega)]
