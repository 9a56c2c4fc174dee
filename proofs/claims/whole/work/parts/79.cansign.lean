/-! the sign at a place, in the reference -/
theorem m_figure {v i : Nat} {s : Nat} (hv : v < 1000) (hs : (sgN v)[i]? = some s) {g : GS_} : f10_figure (nI v) (nI i) g = some (nI s, g) := by
  have hi : i < dgs v := by
    rcases Nat.lt_or_ge i (dgs v) with q | q
    · exact q
    · rw [List.getElem?_eq_none (by rw [sgN_len]; exact q)] at hs; cases hs
  have er : ∀ w : Nat, w < 1000 → (48 : Int32) + jrem (nI w) (10 : Int32) = nI (48 + w % 10) := fun w hw => by
    have e : jrem (nI w) (10 : Int32) = nI (w % 10) := rem_nI (d := 10) (by omega) (by omega) (by omega)
    rw [e]
    exact nI_add 48 _
  have ed : ∀ w : Nat, w < 1000 → nI w / (10 : Int32) = nI (w / 10) := fun w hw => div_nI (d := 10) (by omega) (by omega) (by omega)
  have go : ∀ f, f10_figure_b12 (f + 3) (nI i) (nI v) (nI (dgs v - 1)) g = some (nI s, g) := by
    intro f
    unfold sgN at hs
    unfold dgs at hi ⊢
    by_cases h1 : v < 10
    · rw [if_pos h1] at hs hi ⊢
      have : i = 0 := by omega
      subst this
      have : 48 + v = s := by simpa using hs
      rw [f10_figure_b12, if_pos (show nI (1 - 1) ≤ nI 0 by decide), er v (by omega), ← this, Nat.mod_eq_of_lt h1]
    · by_cases h2 : v < 100
      · rw [if_neg h1, if_pos h2] at hs hi ⊢
        rcases (show i = 0 ∨ i = 1 by omega) with rfl | rfl
        · have : 48 + v / 10 = s := by simpa using hs
          rw [f10_figure_b12, if_neg (show ¬ nI (2 - 1) ≤ nI 0 by decide), lr_at, ed v (by omega), show nI (2 - 1) + (-1 : Int32) = nI 0 by decide, f10_figure_b12, if_pos (show nI 0 ≤ nI 0 by decide), er _ (by omega), ← this, Nat.mod_eq_of_lt (by omega)]
        · have : 48 + v % 10 = s := by simpa using hs
          rw [f10_figure_b12, if_pos (show nI (2 - 1) ≤ nI 1 by decide), er v (by omega), ← this]
      · rw [if_neg h1, if_neg h2] at hs hi ⊢
        rcases (show i = 0 ∨ i = 1 ∨ i = 2 by omega) with rfl | rfl | rfl
        · have : 48 + v / 100 = s := by simpa using hs
          rw [f10_figure_b12, if_neg (show ¬ nI (3 - 1) ≤ nI 0 by decide), lr_at, ed v (by omega), show nI (3 - 1) + (-1 : Int32) = nI 1 by decide, f10_figure_b12, if_neg (show ¬ nI 1 ≤ nI 0 by decide), lr_at, ed _ (by omega), show nI 1 + (-1 : Int32) = nI 0 by decide, f10_figure_b12, if_pos (show nI 0 ≤ nI 0 by decide), er _ (by omega), ← this, Nat.div_div_eq_div_mul, Nat.mod_eq_of_lt (by omega)]
        · have : 48 + v / 10 % 10 = s := by simpa using hs
          rw [f10_figure_b12, if_neg (show ¬ nI (3 - 1) ≤ nI 1 by decide), lr_at, ed v (by omega), show nI (3 - 1) + (-1 : Int32) = nI 1 by decide, f10_figure_b12, if_pos (show nI 1 ≤ nI 1 by decide), er _ (by omega), ← this]
        · have : 48 + v % 10 = s := by simpa using hs
          rw [f10_figure_b12, if_pos (show nI (3 - 1) ≤ nI 2 by decide), er v (by omega), ← this]
  have d := dgs_pos v
  have e1 : nI (dgs v) - (1 : Int32) = nI (dgs v - 1) := nI_sub (b := 1) (by omega)
  rw [f10_figure, m_figures hv, bd_some, e1, lr_at]
  exact go 19997
theorem sgI_at {x : Nat → Nat} {i t p s : Nat} (h : (sgI x i t)[p]? = some s) : (p < dgs (x i) ∧ (sgN (x i))[p]? = some s) ∨ (t ≠ 1 ∧ p = dgs (x i) ∧ s = 45) ∨ (t ≠ 1 ∧ dgs (x i) + 1 ≤ p ∧ p - dgs (x i) - 1 < dgs (x (i + t - 1)) ∧ (sgN (x (i + t - 1)))[p - dgs (x i) - 1]? = some s) ∨ (t ≠ 1 ∧ dgs (x i) + 1 ≤ p ∧ dgs (x (i + t - 1)) ≤ p - dgs (x i) - 1 ∧ s = if x i % 2 = 1 then 111 else 101) := by
  unfold sgI at h
  have gl : ∀ (v p : Nat), (sgN v)[p]? = some s → p < dgs v := fun v p hp => by
    rcases Nat.lt_or_ge p (dgs v) with q | q
    · exact q
    · rw [List.getElem?_eq_none (by rw [sgN_len]; exact q)] at hp; cases hp
  by_cases c : t = 1
  · rw [if_pos c] at h
    exact Or.inl ⟨gl _ _ h, h⟩
  · rw [if_neg c] at h
    rcases Nat.lt_or_ge p (dgs (x i)) with q | q
    · rw [List.getElem?_append_left (by rw [sgN_len]; exact q)] at h
      exact Or.inl ⟨q, h⟩
    · rw [List.getElem?_append_right (by rw [sgN_len]; exact q), sgN_len] at h
      obtain ⟨w, rfl⟩ : ∃ w, p = dgs (x i) + w := ⟨p - dgs (x i), by omega⟩
      rw [Nat.add_sub_cancel_left] at h
      cases w with
      | zero =>
        rw [List.getElem?_cons_zero] at h
        exact Or.inr (Or.inl ⟨c, rfl, (Option.some.inj h).symm⟩)
      | succ w =>
        rw [List.getElem?_cons_succ] at h
        have e : dgs (x i) + (w + 1) - dgs (x i) - 1 = w := by omega
        rw [e]
        rcases Nat.lt_or_ge w (dgs (x (i + t - 1))) with z | z
        · rw [List.getElem?_append_left (by rw [sgN_len]; exact z)] at h
          exact Or.inr (Or.inr (Or.inl ⟨c, by omega, z, h⟩))
        · rw [List.getElem?_append_right (by rw [sgN_len]; exact z), sgN_len] at h
          refine Or.inr (Or.inr (Or.inr ⟨c, by omega, z, ?_⟩))
          by_cases sp : spd (stp x i) = 1
          · rw [if_pos sp] at h
            cases hh : w - dgs (x (i + t - 1)) with
            | zero => rw [hh, List.getElem?_cons_zero] at h; exact (Option.some.inj h).symm
            | succ r => rw [hh, List.getElem?_cons_succ] at h; simp at h
          · rw [if_neg sp] at h
            simp at h
theorem m_signOf {g : GS_} {jb m i p s : Nat} {x : Nat → Nat} (hM : MI g) (hR : MRw g jb m x) (hi : i < m) (h1 : 1 ≤ mK g i) (h2 : i + mK g i ≤ m) (hk : gai g 20 8 i = nI (mK g i)) (hs : (sgI x i (mK g i))[p]? = some s) : f10_signOf 0 (nI jb) (nI i) (nI p) g = some (nI s, g) := by
  obtain ⟨p1, p2, p3, p4⟩ := hR
  obtain ⟨s1, s2, s3, l1, l2, l3⟩ := MC_r hM
  have r2 : gfr g 322 0 = some 2 := MI_l hM
  have n2 : gln g 20 2 = 9600 := MI_ln hM
  generalize mK g i = t at *
  have ei : (400 : Int32) * nI jb + nI i = nI (400 * jb + i) := by
    have : (400 : Int32) * nI jb = nI (400 * jb) := nI_mul 400 jb
    rw [this, nI_add]
  have e2 : nI (400 * jb + i) + nI t - (1 : Int32) = nI (400 * jb + (i + t - 1)) := by
    rw [nI_add, show 400 * jb + (i + t - 1) = 400 * jb + i + t - 1 by omega]
    exact nI_sub (b := 1) (by omega)
  obtain ⟨v1, v2⟩ := p4 i hi
  obtain ⟨w1, w2⟩ := p4 (i + t - 1) (by omega)
  have d1 := dgs_pos (x i)
  have d2 := dgs_pos (x (i + t - 1))
  have pb : p < 100 := by
    have := sgI_len (x := x) (i := i) (t := t)
    have hl : (sgI x i t).length ≤ 8 := by
      rw [this]
      unfold lnI spd
      split <;> (try split) <;> omega
    rcases Nat.lt_or_ge p 100 with q | q
    · exact q
    · rw [List.getElem?_eq_none (by omega)] at hs; cases hs
  rw [f10_signOf, s3, lr_at, oc_some, l3, if_pos ((inb_nI (by omega)).mpr (by omega)), ix_nI (by omega), hk, lr_at, r2, lr_at, oc_some, ei, n2, if_pos ((inb_nI (by omega)).mpr (by omega)), ix_nI (by omega), v1, lr_at, lr_at, oc_some, n2, e2, if_pos ((inb_nI (by omega)).mpr (by omega)), ix_nI (by omega), w1, lr_at, m_figures v2, bd_some]
  rcases sgI_at hs with ⟨c1, c2⟩ | ⟨c0, c1, c2⟩ | ⟨c0, c1, c2, c3⟩ | ⟨c0, c1, c2, c3⟩
  · rw [if_neg (fun q => by have := (le_nI (by omega) (by omega)).mp q; omega), m_figure v2 c2, bd_some]
  · have e3 : nI p - nI (dgs (x i)) - (1 : Int32) = -nI 1 := by
      rw [c1, Int32.sub_self]
      rfl
    rw [if_pos ((le_nI (by omega) (by omega)).mpr (by omega)), m_figures v2, bd_some, e3, lr_at, if_neg (show ¬ (0 : Int32) ≤ -nI 1 by decide), c2]
    rfl
  · have e3 : nI p - nI (dgs (x i)) - (1 : Int32) = nI (p - dgs (x i) - 1) := by
      rw [nI_sub (by omega)]
      exact nI_sub (b := 1) (by omega)
    rw [if_pos ((le_nI (by omega) (by omega)).mpr (by omega)), m_figures v2, bd_some, e3, lr_at, if_pos (show (0 : Int32) ≤ nI (p - dgs (x i) - 1) from (le_nI (a := 0) (by omega) (by omega)).mpr (by omega)), m_figures w2, bd_some, if_neg (fun q => by have := (le_nI (by omega) (by omega)).mp q; omega), m_figure w2 c3, bd_some]
  · have e3 : nI p - nI (dgs (x i)) - (1 : Int32) = nI (p - dgs (x i) - 1) := by
      rw [nI_sub (by omega)]
      exact nI_sub (b := 1) (by omega)
    have e4 : jrem (nI (x i)) (2 : Int32) = nI (x i % 2) := rem_nI (d := 2) (by omega) (by omega) (by omega)
    rw [if_pos ((le_nI (by omega) (by omega)).mpr (by omega)), m_figures v2, bd_some, e3, lr_at, if_pos (show (0 : Int32) ≤ nI (p - dgs (x i) - 1) from (le_nI (a := 0) (by omega) (by omega)).mpr (by omega)), m_figures w2, bd_some, if_pos ((le_nI (by omega) (by omega)).mpr c2), e4, c3]
    by_cases q : x i % 2 = 1
    · rw [if_pos q, q, if_pos (show nI 1 = (1 : Int32) from rfl)]
      rfl
    · rw [if_neg q, if_neg (show ¬ nI (x i % 2) = (1 : Int32) from fun w => q ((eq_nI (b := 1) (by omega) (by omega)).mp w))]
      rfl
theorem m_signLoop {g : GS_} {jb m : Nat} {x : Nat → Nat} (hM : MI g) (hR : MRw g jb m x) (hA : ABm x m g 0) : ∀ (n fuel i p s : Nat), n < fuel → m - i ≤ n → i < m → p < 100000 → (txt x (mK g) m n i)[p]? = some s → f10_canonical_b73 fuel 0 (nI jb) (nI i) (nI p) (nI m) g = some (nI s, g)
  | 0, fuel, i, p, s, _, h1, h2, _, _ => by omega
  | n + 1, fuel, i, p, s, h0, h1, h2, hp, hs => by
    obtain ⟨f, rfl⟩ : ∃ f, fuel = f + 1 := ⟨fuel - 1, by omega⟩
    obtain ⟨p1, p2, p3, p4⟩ := id hR
    obtain ⟨s1, s2, s3, l1, l2, l3⟩ := MC_r hM
    obtain ⟨-, -, a3, a4⟩ := hA i (by omega) h2
    have hV : Va x m i (mK g i) := a4.1
    have k1 := hV.1
    have k2 := hV.2.1
    have a3' : gai g 20 8 i = nI (mK g i) := a3
    have sg : ∀ st : Int32, (2 ≤ mK g i → st = sI x m i) → f10_signsOf 0 (nI jb) (nI i) (nI (mK g i)) st g = some (nI (lnI x i (mK g i)), g) := fun st hst => m_signs hM hR hV hst
    have so : ∀ s', (sgI x i (mK g i))[p]? = some s' → f10_signOf 0 (nI jb) (nI i) (nI p) g = some (nI s', g) := fun s' q => m_signOf hM hR h2 k1 k2 a3' q
    have lnB : lnI x i (mK g i) ≤ 8 := by
      have d1 := dgs_pos (x i)
      have d2 := dgs_pos (x (i + mK g i - 1))
      unfold lnI spd
      split <;> (try split) <;> omega
    have hl : (sgI x i (mK g i)).length = lnI x i (mK g i) := sgI_len
    have hnx : i + mK g i < m → ∀ p', p' < 100000 → (txt x (mK g) m n (i + mK g i))[p']? = some s → f10_canonical_b73 f 0 (nI jb) (nI (i + mK g i)) (nI p') (nI m) g = some (nI s, g) := fun q p' hp' w => m_signLoop hM hR hA n f (i + mK g i) p' s (by omega) (by omega) q hp' w
    rw [txt, if_neg (by omega)] at hs
    have body : ∀ st : Int32, (2 ≤ mK g i → st = sI x m i) → f10_canonical_b93 (f10_canonical_b73 f) 0 (nI jb) (nI i) (nI p) (nI m) st g = some (nI s, g) := by
      intro st hst
      rw [f10_canonical_b93, s3, lr_at, oc_some, l3, if_pos ((inb_nI (by omega)).mpr (by omega)), ix_nI (by omega), a3', sg st hst, bd_some]
      generalize mK g i = t at *
      rcases Nat.lt_or_ge p (lnI x i t) with q | q
      · rw [List.getElem?_append_left (by omega)] at hs
        rw [if_neg (fun w => by have := (le_nI (by omega) (by omega)).mp w; omega), so s hs, bd_some]
      · rw [List.getElem?_append_right (by omega), hl] at hs
        rw [if_pos ((le_nI (by omega) (by omega)).mpr q)]
        by_cases c : i + t = m
        · rw [if_pos c] at hs
          simp at hs
        · rw [if_neg c] at hs
          by_cases d : p = lnI x i t
          · rw [d, Nat.sub_self, List.getElem?_cons_zero] at hs
            have : s = 44 := (Option.some.inj hs).symm
            rw [if_pos (by rw [d]), this]
            rfl
          · obtain ⟨r, rfl⟩ : ∃ r, p = lnI x i t + 1 + r := ⟨p - lnI x i t - 1, by omega⟩
            rw [show lnI x i t + 1 + r - lnI x i t = r + 1 by omega, List.getElem?_cons_succ] at hs
            have e1 : nI (lnI x i t) + (1 : Int32) = nI (lnI x i t + 1) := nI_add _ 1
            have e2 : nI (lnI x i t + 1 + r) - nI (lnI x i t + 1) = nI r := by
              rw [nI_sub (by omega), Nat.add_sub_cancel_left]
            rw [if_neg (fun w => d ((eq_nI (by omega) (by omega)).mp w)), lr_at, s3, oc_some, l3, if_pos ((inb_nI (by omega)).mpr (by omega)), a3', nI_add, if_pos ((lt_nI (by omega) (by omega)).mpr (by omega)), e1, e2, lr_at, lr_at, oc_some, l3, if_pos ((inb_nI (by omega)).mpr (by omega)), a3', nI_add, lr_at]
            exact hnx (by omega) r (by omega) hs
    rw [f10_canonical_b73.eq_2, s3, lr_at, oc_some, l3, if_pos ((inb_nI (by omega)).mpr (by omega)), ix_nI (by omega), a3']
    by_cases c : mK g i = 1
    · rw [c, if_pos (show nI 1 ≤ (1 : Int32) by decide)]
      exact body _ (fun q => by omega)
    · have hm2 : i + 1 < m := by omega
      rw [if_neg (fun q => by have := (le_nI (b := 1) (by omega) (by omega)).mp q; omega), m_stepAt hM hR hm2, bd_some]
      refine body _ (fun q => ?_)
      unfold sI
      rw [if_neg (by omega)]
/-- the reference lays the text -/
theorem m_layText {g : GS_} {jb m : Nat} {x : Nat → Nat} (hM : MI g) (hR : MRw g jb m x) : ∃ g', f10_layText 0 (nI jb) g = some ((), g') ∧ FMc g g' ∧ ABm x m g' 0 := by
  obtain ⟨p1, p2, p3, p4⟩ := id hR
  obtain ⟨g', a1, a2, a3⟩ := m_layLoop m FU_ g (by unfold FU_; omega) (Nat.le_refl _) hM hR (fun j h1 h2 => by omega)
  refine ⟨g', ?_, a2, a3⟩
  have o7 : f10_ofJob 0 (nI jb) (7 : Int32) g = some (nI m, g) := by
    have := m_ofJob hM p1 (w := 7) (by omega)
    rw [p3] at this
    exact this
  have e1 : nI m - (1 : Int32) = nI m + -nI 1 := Int32.sub_eq_add_neg _ _
  rw [f10_layText, o7, bd_some, e1, lr_at]
  exact a1
