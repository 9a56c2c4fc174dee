/-! ticks in which nothing happens -/
abbrev isL (N i : Nat) : Prop := 76 ≤ i ∧ i < 76 + 10 * N ∧ (i - 76) % 10 = 8
/-- so many quiet ticks -/
def qt (k : Nat) (a : Nat → Int32) : Nat → Int32 := fun i => if i = 0 then a 0 + nI k else if isL (tn (a 5)) i ∧ a (i - 2) = nI 1 then a i - nI k else a i
theorem qt_0' {k : Nat} {a : Nat → Int32} : qt k a 0 = a 0 + nI k := if_pos rfl
theorem qt_L {k p : Nat} {a : Nat → Int32} (hp : p < tn (a 5)) (hw : a (76 + 10 * p + 6) = nI 1) : qt k a (76 + 10 * p + 8) = a (76 + 10 * p + 8) - nI k := by
  unfold qt
  rw [if_neg (by omega), if_pos ⟨⟨by omega, by omega, by omega⟩, by rw [show 76 + 10 * p + 8 - 2 = 76 + 10 * p + 6 by omega]; exact hw⟩]
theorem qt_n {k i : Nat} {a : Nat → Int32} (h0 : i ≠ 0) (hL : ∀ p, p < tn (a 5) → a (76 + 10 * p + 6) = nI 1 → i ≠ 76 + 10 * p + 8) : qt k a i = a i := by
  unfold qt
  rw [if_neg h0, if_neg]
  rintro ⟨⟨h1, h2, h3⟩, h4⟩
  refine hL ((i - 76) / 10) (by omega) ?_ (by omega)
  rw [← h4]
  congr 1
  omega
theorem qt_ne {k i : Nat} {a : Nat → Int32} (h0 : i ≠ 0) (hL : i < 76 ∨ 106 ≤ i ∨ (i - 76) % 10 ≠ 8) (h5 : tn (a 5) ≤ 3) : qt k a i = a i := qt_n h0 (fun p hp _ => by omega)
theorem add_nI0 (x : Int32) : x + nI 0 = x := Int32.add_zero x
theorem sub_nI0 (x : Int32) : x - nI 0 = x := by
  have : x - nI 0 = x - 0 := rfl
  rw [this]
  exact Int32.sub_zero x
theorem sub_sub_nI (x : Int32) (k m : Nat) : x - nI k - nI m = x - nI (k + m) := by
  rw [← nI_add]
  simp only [Int32.sub_eq_add_neg, Int32.neg_add, Int32.add_assoc]
theorem qt_zero {a : Nat → Int32} : qt 0 a = a := by
  funext i
  unfold qt
  split
  · rename_i h
    rw [h, add_nI0]
  · split
    · rw [sub_nI0]
    · rfl
theorem qt_add {k m : Nat} {a : Nat → Int32} (h5 : tn (a 5) ≤ 3) : qt m (qt k a) = qt (k + m) a := by
  have e5 : qt k a 5 = a 5 := qt_ne (by omega) (by omega) h5
  have e6 : ∀ i, isL (tn (a 5)) i → qt k a (i - 2) = a (i - 2) := fun i hi => qt_ne (by unfold isL at hi; omega) (by unfold isL at hi; omega) h5
  funext i
  show (if i = 0 then qt k a 0 + nI m else if isL (tn (qt k a 5)) i ∧ qt k a (i - 2) = nI 1 then qt k a i - nI m else qt k a i) = _
  rw [e5]
  by_cases h0 : i = 0
  · subst h0
    rw [if_pos rfl, qt_0', qt_0', Int32.add_assoc, nI_add]
  · rw [if_neg h0]
    by_cases hc : isL (tn (a 5)) i ∧ a (i - 2) = nI 1
    · rw [if_pos ⟨hc.1, by rw [e6 i hc.1]; exact hc.2⟩]
      unfold qt
      rw [if_neg h0, if_pos hc, if_neg h0, if_pos hc, sub_sub_nI]
    · rw [if_neg (fun q => hc ⟨q.1, by rw [← e6 i q.1]; exact q.2⟩)]
      unfold qt
      rw [if_neg h0, if_neg hc, if_neg h0, if_neg hc]
/-- nothing is printable on an idle printer -/
def NoP (a : Nat → Int32) : Prop := ∀ p, p < tn (a 5) → a (76 + 10 * p + 6) = nI 0 → sBF a p = none
theorem sBF_none {a : Nat → Int32} {p : Nat} : sBF a p = none ↔ ∀ j, j < tn (a 4) → ¬ prt a j p := by
  unfold sBF
  rw [bst_none]
  constructor
  · intro h j hj q
    have := h j hj
    rw [decide_eq_false_iff_not] at this
    exact this q
  · intro h j hj
    rw [decide_eq_false_iff_not]
    exact h j hj
theorem NoP_qt {k : Nat} {a : Nat → Int32} (h4 : tn (a 4) ≤ 24) (h5 : tn (a 5) ≤ 3) (hd : ∀ j, j < tn (a 4) → jN a j 6 < 10 ∧ dN a (jN a j 6) 1 < 3 ∧ jN a j 5 < 6) (h : NoP a) : NoP (qt k a) := by
  have e5 : qt k a 5 = a 5 := qt_ne (by omega) (by omega) h5
  have e4 : qt k a 4 = a 4 := qt_ne (by omega) (by omega) h5
  intro p hp hw
  rw [e5] at hp
  rw [qt_ne (by omega) (by omega) h5] at hw
  have h1 := sBF_none.mp (h p hp hw)
  rw [sBF_none, e4]
  intro j hj
  obtain ⟨d1, d2, d3⟩ := hd j hj
  have ej : ∀ w, w < 13 → jN (qt k a) j w = jN a j w := fun w hw => by unfold jN; rw [qt_ne (by omega) (by omega) h5]
  have ed : dN (qt k a) (jN a j 6) 1 = dN a (jN a j 6) 1 := by unfold dN; rw [qt_ne (by omega) (by omega) h5]
  have := h1 j hj
  unfold prt at this ⊢
  rw [ej _ (by omega), ej _ (by omega), ej _ (by omega), ej _ (by omega), ed, qt_ne (i := 76 + 10 * p + 2) (by omega) (by omega) h5, qt_ne (i := 106 + 13 * j + 9) (by omega) (by omega) h5, qt_ne (i := 76 + 10 * p + (3 + dN a (jN a j 6) 1)) (by omega) (by omega) h5, qt_ne (i := 14 + jN a j 5) (by omega) (by omega) h5, qt_ne (i := 20 + jN a j 5) (by omega) (by omega) h5]
  exact this
def qk (k : Nat) (a : Nat → Int32) : Nat → Int32 := fun i => if i = 0 then a 0 + nI 1 else if isL k i ∧ a (i - 2) = nI 1 then a i - nI 1 else a i
theorem tick_quiet {l a : Nat → Int32} {F : List Nat} (h5 : tn (a 5) ≤ 3) (h4 : tn (a 4) ≤ 24) (hd : ∀ j, j < tn (a 4) → jN a j 6 < 10 ∧ dN a (jN a j 6) 1 < 3 ∧ jN a j 5 < 6) (hN : NoP a) (hL : ∀ p, p < tn (a 5) → a (76 + 10 * p + 6) = nI 1 → a (76 + 10 * p + 8) ≠ nI 1) : T_tick l (a, F) = (qt 1 a, F) := by
  have e0 : T_time (a, F) = (up a 0 (a 0 + nI 1), F) := rfl
  have ph1 : ∀ k, k ≤ tn (a 5) → T_ph (T_p1 l) k (up a 0 (a 0 + nI 1), F) = (qk k a, F) := by
    intro k
    induction k with
    | zero =>
      intro _
      rw [T_ph_0]
      refine Prod.ext ?_ rfl
      funext i
      dsimp only
      unfold up qk
      split
      · rfl
      · rw [if_neg]
        rintro ⟨⟨q1, q2, -⟩, -⟩
        omega
    | succ k ih =>
      intro hk
      rw [T_ph_s, ih (by omega)]
      have e6 : qk k a (76 + 10 * k + 6) = a (76 + 10 * k + 6) := by
        unfold qk
        rw [if_neg (by omega), if_neg]
        rintro ⟨⟨-, -, q⟩, -⟩
        omega
      have e8 : qk k a (76 + 10 * k + 8) = a (76 + 10 * k + 8) := by
        unfold qk
        rw [if_neg (by omega), if_neg]
        rintro ⟨⟨-, q, -⟩, -⟩
        omega
      by_cases hw : a (76 + 10 * k + 6) = nI 1
      · have e9 : T_p1 l (qk k a, F) k = T_p1b (up (qk k a) (76 + 10 * k + 8) (qk k a (76 + 10 * k + 8) - nI 1)) l F k := if_pos (e6.trans hw)
        rw [e9, e8]
        unfold T_p1b
        rw [up_eq rfl, if_neg]
        · refine Prod.ext ?_ rfl
          funext i
          dsimp only
          by_cases hi : i = 76 + 10 * k + 8
          · subst hi
            unfold qk
            rw [up_eq rfl, if_neg (by omega), if_pos ⟨⟨by omega, by omega, by omega⟩, by rw [show 76 + 10 * k + 8 - 2 = 76 + 10 * k + 6 by omega]; exact hw⟩]
          · rw [up_ne hi]
            have : (isL (k + 1) i ∧ a (i - 2) = nI 1) ↔ (isL k i ∧ a (i - 2) = nI 1) := by
              constructor
              · rintro ⟨⟨q1, q2, q3⟩, q4⟩; exact ⟨⟨q1, by omega, q3⟩, q4⟩
              · rintro ⟨⟨q1, q2, q3⟩, q4⟩; exact ⟨⟨q1, by omega, q3⟩, q4⟩
            unfold qk
            simp only [this]
        · intro q
          refine hL k (by omega) hw ?_
          have : a (76 + 10 * k + 8) - nI 1 + nI 1 = nI 0 + nI 1 := by rw [q]
          rw [Int32.sub_add_cancel] at this
          rw [this, nI_add]
      · have e9 : T_p1 l (qk k a, F) k = (qk k a, F) := if_neg (fun q => hw (e6.symm.trans q))
        rw [e9]
        refine Prod.ext ?_ rfl
        funext i
        dsimp only
        have : (isL (k + 1) i ∧ a (i - 2) = nI 1) ↔ (isL k i ∧ a (i - 2) = nI 1) := by
          constructor
          · rintro ⟨⟨q1, q2, q3⟩, q4⟩
            refine ⟨⟨q1, ?_, q3⟩, q4⟩
            rcases Nat.lt_or_ge i (76 + 10 * k) with w | w
            · exact w
            · exact absurd (by rw [← q4]; congr 1; omega) hw
          · rintro ⟨⟨q1, q2, q3⟩, q4⟩; exact ⟨⟨q1, by omega, q3⟩, q4⟩
        unfold qk
        simp only [this]
  have e1 : T_ph (T_p1 l) (tn (a 5)) (T_time (a, F)) = (qt 1 a, F) := by
    rw [e0, ph1 _ (Nat.le_refl _)]
    rfl
  have e5 : qt 1 a 5 = a 5 := qt_ne (by omega) (by omega) h5
  have hN1 := NoP_qt (k := 1) h4 h5 hd hN
  have ph2 : ∀ k, k ≤ tn (a 5) → T_ph (T_p2 l) k (qt 1 a, F) = (qt 1 a, F) := by
    intro k
    induction k with
    | zero => intro _; rfl
    | succ k ih =>
      intro hk
      rw [T_ph_s, ih (by omega)]
      unfold T_p2
      rw [if_neg]
      rintro ⟨q1, q2⟩
      dsimp only at q1 q2
      rw [hN1 k (by rw [e5]; omega) q1] at q2
      simp at q2
  unfold T_tick
  rw [e1, ph2 _ (Nat.le_refl _)]
/-- ticks one after another -/
def T_it (l : Nat → Int32) (n : Nat) (s : TS) : TS := match n with
  | 0 => s
  | n + 1 => T_tick l (T_it l n s)
theorem T_it_0 (l : Nat → Int32) (s : TS) : T_it l 0 s = s := rfl
theorem T_it_s (l : Nat → Int32) (n : Nat) (s : TS) : T_it l (n + 1) s = T_tick l (T_it l n s) := rfl
theorem T_it_add (l : Nat → Int32) (n m : Nat) (s : TS) : T_it l (n + m) s = T_it l m (T_it l n s) := by
  induction m with
  | zero => rfl
  | succ m ih => rw [T_it_s, ← ih]; rfl
theorem it_quiet {l a : Nat → Int32} {F : List Nat} (h5 : tn (a 5) ≤ 3) (h4 : tn (a 4) ≤ 24) (hd : ∀ j, j < tn (a 4) → jN a j 6 < 10 ∧ dN a (jN a j 6) 1 < 3 ∧ jN a j 5 < 6) (hN : NoP a) {q : Nat} (hL : ∀ p, p < tn (a 5) → a (76 + 10 * p + 6) = nI 1 → ∃ L, a (76 + 10 * p + 8) = nI L ∧ q < L ∧ L < 100000) : ∀ k, k ≤ q → T_it l k (a, F) = (qt k a, F)
  | 0, _ => by rw [T_it_0, qt_zero]
  | k + 1, hk => by
    rw [T_it_s, it_quiet h5 h4 hd hN hL k (by omega)]
    have e5 : qt k a 5 = a 5 := qt_ne (by omega) (by omega) h5
    have e4 : qt k a 4 = a 4 := qt_ne (by omega) (by omega) h5
    rw [tick_quiet (by rw [e5]; exact h5) (by rw [e4]; exact h4) ?_ (NoP_qt h4 h5 hd hN), qt_add h5]
    · intro p hp hw
      rw [e5] at hp
      rw [qt_ne (by omega) (by omega) h5] at hw
      obtain ⟨L, l1, l2, l3⟩ := hL p hp hw
      rw [qt_L hp hw, l1, nI_sub (by omega), ne_eq, eq_nI (by omega) (by omega)]
      omega
    · rw [e4]
      intro j hj
      have ej : ∀ w, w < 13 → jN (qt k a) j w = jN a j w := fun w hw => by unfold jN; rw [qt_ne (by omega) (by omega) h5]
      have ed : dN (qt k a) (jN a j 6) 1 = dN a (jN a j 6) 1 := by
        have := (hd j hj).1
        unfold dN; rw [qt_ne (by omega) (by omega) h5]
      rw [ej _ (by omega), ej _ (by omega), ed]
      exact hd j hj
