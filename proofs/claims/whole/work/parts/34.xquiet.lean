/-! ticks in which nothing happens -/
abbrev isL (N i : Nat) : Prop := 76 ≤ i ∧ i < 76 + 10 * N ∧ (i - 76) % 10 = 8
/-- so many quiet ticks -/
def qt (k : Nat) (a : Nat → Int32) : Nat → Int32 := fun i => if i = 0 then a 0 + nI k else if isL (tn (a 5)) i ∧ a (i - 2) = nI 1 then a i - nI k else a i
theorem qt_0' {k : Nat} {a : Nat → Int32} : qt k a 0 = a 0 + nI k := if_pos rfl
theorem qt_L {k p : Nat} {a : Nat → Int32} (hp : p < tn (a 5)) (hw : a (76 + 10 * p + 6) = nI 1) : qt k a (76 + 10 * p + 8) = a (76 + 10 * p + 8) - nI k := by
  unfold qt
  rw [if_neg (by omega), if_pos ⟨⟨by omega, by omega, by omega⟩, by rw [show 76 + 10 * p + 8 - 2 = 76 + 10 * p + 6 by omega]; exact hw⟩]
theorem qt_n {k i : Nat} {a : Nat → Int32} (h0 : i ≠ 0) (hL : ∀ p, p < tn (a 5) → a (76 + 10 * p + 6) = nI 1 → i ≠ 76 + 10 * p + 8) : qt k a i = a i := by
  unfold qt
  rw [if_neg h0, if_neg]
  rintro ⟨⟨h1, h2, h3⟩, h4⟩
  refine hL ((i - 76) / 10) (by omega) ?_ (by omega)
  rw [← h4]
  congr 1
  omega
theorem qt_ne {k i : Nat} {a : Nat → Int32} (h0 : i ≠ 0) (hL : i < 76 ∨ 106 ≤ i ∨ (i - 76) % 10 ≠ 8) (h5 : tn (a 5) ≤ 3) : qt k a i = a i := qt_n h0 (fun p hp _ => by omega)
theorem add_nI0 (x : Int32) : x + nI 0 = x := Int32.add_zero x
theorem sub_nI0 (x : Int32) : x - nI 0 = x := by
  have : x - nI 0 = x - 0 := rfl
  rw [this]
  exact Int32.sub_zero x
theorem sub_sub_nI (x : Int32) (k m : Nat) : x - nI k - nI m = x - nI (k + m) := by
  rw [← nI_add]
  simp only [Int32.sub_eq_add_neg, Int32.neg_add, Int32.add_assoc]
theorem qt_zero {a : Nat → Int32} : qt 0 a = a := by
  funext i
  unfold qt
  split
  · rename_i h
    rw [h, add_nI0]
  · split
    · rw [sub_nI0]
    · rfl
theorem qt_add {k m : Nat} {a : Nat → Int32} (h5 : tn (a 5) ≤ 3) : qt m (qt k a) = qt (k + m) a := by
  have e5 : qt k a 5 = a 5 := qt_ne (by omega) (by omega) h5
  have e6 : ∀ i, isL (tn (a 5)) i → qt k a (i - 2) = a (i - 2) := fun i hi => qt_ne (by unfold isL at hi; omega) (by unfold isL at hi; omega) h5
  funext i
  show (if i = 0 then qt k a 0 + nI m else if isL (tn (qt k a 5)) i ∧ qt k a (i - 2) = nI 1 then qt k a i - nI m else qt k a i) = _
  rw [e5]
  by_cases h0 : i = 0
  · subst h0
    rw [if_pos rfl, qt_0', qt_0', Int32.add_assoc, nI_add]
  · rw [if_neg h0]
    by_cases hc : isL (tn (a 5)) i ∧ a (i - 2) = nI 1
    · rw [if_pos ⟨hc.1, by rw [e6 i hc.1]; exact hc.2⟩]
      unfold qt
      rw [if_neg h0, if_pos hc, if_neg h0, if_pos hc, sub_sub_nI]
    · rw [if_neg (fun q => hc ⟨q.1, by rw [← e6 i q.1]; exact q.2⟩)]
      unfold qt
      rw [if_neg h0, if_neg hc, if_neg h0, if_neg hc]
/-- nothing is printable on an idle printer -/
def NoP (a : Nat → Int32) : Prop := ∀ p, p < tn (a 5) → a (76 + 10 * p + 6) = nI 0 → sBF a p = none
theorem sBF_none {a : Nat → Int32} {p : Nat} : sBF a p = none ↔ ∀ j, j < tn (a 4) → ¬ prt a j p := by
  unfold sBF
  rw [bst_none]
  constructor
  · intro h j hj q
    have := h j hj
    rw [decide_eq_false_iff_not] at this
    exact this q
  · intro h j hj
    rw [decide_eq_false_iff_not]
    exact h j hj
theorem NoP_qt {k : Nat} {a : Nat → Int32} (h4 : tn (a 4) ≤ 24) (h5 : tn (a 5) ≤ 3) (hd : ∀ j, j < tn (a 4) → jN a j 6 < 10 ∧ dN a (jN a j 6) 1 < 3 ∧ jN a j 5 < 6) (h : NoP a) : NoP (qt k a) := by
  have e5 : qt k a 5 = a 5 := qt_ne (by omega) (by omega) h5
  have e4 : qt k a 4 = a 4 := qt_ne (by omega) (by omega) h5
  intro p hp hw
  rw [e5] at hp
  rw [qt_ne (by omega) (by omega) h5] at hw
  have h1 := sBF_none.mp (h p hp hw)
  rw [sBF_none, e4]
  intro j hj
  obtain ⟨d1, d2, d3⟩ := hd j hj
  have ej : ∀ w, w < 13 → jN (qt k a) j w = jN a j w := fun w hw => by unfold jN; rw [qt_ne (by omega) (by omega) h5]
  have ed : dN (qt k a) (jN a j 6) 1 = dN a (jN a j 6) 1 := by unfold dN; rw [qt_ne (by omega) (by omega) h5]
  have := h1 j hj
  unfold prt at this ⊢
  rw [ej _ (by omega), ej _ (by omega), ej _ (by omega), ej _ (by omega), ed, qt_ne (i := 76 + 10 * p + 2) (by omega) (by omega) h5, qt_ne (i := 106 + 13 * j + 9) (by omega) (by omega) h5, qt_ne (i := 76 + 10 * p + (3 + dN a (jN a j 6) 1)) (by omega) (by omega) h5, qt_ne (i := 14 + jN a j 5) (by omega) (by omega) h5, qt_ne (i := 20 + jN a j 5) (by omega) (by omega) h5]
  exact this
def qk (k : Nat) (a : Nat → Int32) : Nat → Int32 := fun i => if i = 0 then a 0 + nI 1 else if isL k i ∧ a (i - 2) = nI 1 then a i - nI 1 else a i
theorem tick_quiet {l a : Nat → Int32} {F : List Nat} (h5 : tn (a 5) ≤ 3) (h4 : tn (a 4) ≤ 24) (hd : ∀ j, j < tn (a 4) → jN a j 6 < 10 ∧ dN a (jN a j 6) 1 < 3 ∧ jN a j 5 < 6) (hN : NoP a) (hL : ∀ p, p < tn (a 5) → a (76 + 10 * p + 6) = nI 1 → a (76 + 10 * p + 8) ≠ nI 1) : T_tick l (a, F) = (qt 1 a, F) := by
  have e0 : T_time (a, F) = (up a 0 (a 0 + nI 1), F) := rfl
  have ph1 : ∀ k, k ≤ tn (a 5) → T_ph (T_p1 l) k (up a 0 (a 0 + nI 1), F) = (qk k a, F) := by
    intro k
    induction k with
    | zero =>
      intro _
      rw [T_ph_0]
      refine Prod.ext ?_ rfl
      funext i
      dsimp only
      unfold up qk
      split
      · rfl
      · rw [if_neg]
        rintro ⟨⟨q1, q2, -⟩, -⟩
        omega
    | succ k ih =>
      intro hk
      rw [T_ph_s, ih (by omega)]
      have e6 : qk k a (76 + 10 * k + 6) = a (76 + 10 * k + 6) := by
        unfold qk
        rw [if_neg (by omega), if_neg]
        rintro ⟨⟨-, -, q⟩, -⟩
        omega
      have e8 : qk k a (76 + 10 * k + 8) = a (76 + 10 * k + 8) := by
        unfold qk
        rw [if_neg (by omega), if_neg]
        rintro ⟨⟨-, q, -⟩, -⟩
        omega
      by_cases hw : a (76 + 10 * k + 6) = nI 1
      · have e9 : T_p1 l (qk k a, F) k = T_p1b (up (qk k a) (76 + 10 * k + 8) (qk k a (76 + 10 * k + 8) - nI 1)) l F k := if_pos (e6.trans hw)
        rw [e9, e8]
        unfold T_p1b
        rw [up_eq rfl, if_neg]
        · refine Prod.ext ?_ rfl
          funext i
          dsimp only
          by_cases hi : i = 76 + 10 * k + 8
          · subst hi
            unfold qk
            rw [up_eq rfl, if_neg (by omega), if_pos ⟨⟨by omega, by omega, by omega⟩, by rw [show 76 + 10 * k + 8 - 2 = 76 + 10 * k + 6 by omega]; exact hw⟩]
          · rw [up_ne hi]
            have : (isL (k + 1) i ∧ a (i - 2) = nI 1) ↔ (isL k i ∧ a (i - 2) = nI 1) := by
              constructor
              · rintro ⟨⟨q1, q2, q3⟩, q4⟩; exact ⟨⟨q1, by omega, q3⟩, q4⟩
              · rintro ⟨⟨q1, q2, q3⟩, q4⟩; exact ⟨⟨q1, by omega, q3⟩, q4⟩
            unfold qk
            simp only [this]
        · intro q
          refine hL k (by omega) hw ?_
          have : a (76 + 10 * k + 8) - nI 1 + nI 1 = nI 0 + nI 1 := by rw [q]
          rw [Int32.sub_add_cancel] at this
          rw [this, nI_add]
      · have e9 : T_p1 l (qk k a, F) k = (qk k a, F) := if_neg (fun q => hw (e6.symm.trans q))
        rw [e9]
        refine Prod.ext ?_ rfl
        funext i
        dsimp only
        have : (isL (k + 1) i ∧ a (i - 2) = nI 1) ↔ (isL k i ∧ a (i - 2) = nI 1) := by
          constructor
          · rintro ⟨⟨q1, q2, q3⟩, q4⟩
            refine ⟨⟨q1, ?_, q3⟩, q4⟩
            rcases Nat.lt_or_ge i (76 + 10 * k) with w | w
            · exact w
            · exact absurd (by rw [← q4]; congr 1; omega) hw
          · rintro ⟨⟨q1, q2, q3⟩, q4⟩; exact ⟨⟨q1, by omega, q3⟩, q4⟩
        unfold qk
        simp only [this]
  have e1 : T_ph (T_p1 l) (tn (a 5)) (T_time (a, F)) = (qt 1 a, F) := by
    rw [e0, ph1 _ (Nat.le_refl _)]
    rfl
  have e5 : qt 1 a 5 = a 5 := qt_ne (by omega) (by omega) h5
  have hN1 := NoP_qt (k := 1) h4 h5 hd hN
  have ph2 : ∀ k, k ≤ tn (a 5) → T_ph (T_p2 l) k (qt 1 a, F) = (qt 1 a, F) := by
    intro k
    induction k with
    | zero => intro _; rfl
    | succ k ih =>
      intro hk
      rw [T_ph_s, ih (by omega)]
      unfold T_p2
      rw [if_neg]
      rintro ⟨q1, q2⟩
      dsimp only at q1 q2
      rw [hN1 k (by rw [e5]; omega) q1] at q2
      simp at q2
  unfold T_tick
  rw [e1, ph2 _ (Nat.le_refl _)]
/-- ticks one after another -/
def T_it (l : Nat → Int32) (n : Nat) (s : TS) : TS := match n with
  | 0 => s
  | n + 1 => T_tick l (T_it l n s)
theorem T_it_0 (l : Nat → Int32) (s : TS) : T_it l 0 s = s := rfl
theorem T_it_s (l : Nat → Int32) (n : Nat) (s : TS) : T_it l (n + 1) s = T_tick l (T_it l n s) := rfl
theorem T_it_add (l : Nat → Int32) (n m : Nat) (s : TS) : T_it l (n + m) s = T_it l m (T_it l n s) := by
  induction m with
  | zero => rfl
  | succ m ih => rw [T_it_s, ← ih]; rfl
theorem it_quiet {l a : Nat → Int32} {F : List Nat} (h5 : tn (a 5) ≤ 3) (h4 : tn (a 4) ≤ 24) (hd : ∀ j, j < tn (a 4) → jN a j 6 < 10 ∧ dN a (jN a j 6) 1 < 3 ∧ jN a j 5 < 6) (hN : NoP a) {q : Nat} (hL : ∀ p, p < tn (a 5) → a (76 + 10 * p + 6) = nI 1 → ∃ L, a (76 + 10 * p + 8) = nI L ∧ q < L ∧ L < 100000) : ∀ k, k ≤ q → T_it l k (a, F) = (qt k a, F)
  | 0, _ => by rw [T_it_0, qt_zero]
  | k + 1, hk => by
    rw [T_it_s, it_quiet h5 h4 hd hN hL k (by omega)]
    have e5 : qt k a 5 = a 5 := qt_ne (by omega) (by omega) h5
    have e4 : qt k a 4 = a 4 := qt_ne (by omega) (by omega) h5
    rw [tick_quiet (by rw [e5]; exact h5) (by rw [e4]; exact h4) ?_ (NoP_qt h4 h5 hd hN), qt_add h5]
    · intro p hp hw
      rw [e5] at hp
      rw [qt_ne (by omega) (by omega) h5] at hw
      obtain ⟨L, l1, l2, l3⟩ := hL p hp hw
      rw [qt_L hp hw, l1, nI_sub (by omega), ne_eq, eq_nI (by omega) (by omega)]
      omega
    · rw [e4]
      intro j hj
      have ej : ∀ w, w < 13 → jN (qt k a) j w = jN a j w := fun w hw => by unfold jN; rw [qt_ne (by omega) (by omega) h5]
      have ed : dN (qt k a) (jN a j 6) 1 = dN a (jN a j 6) 1 := by
        have := (hd j hj).1
        unfold dN; rw [qt_ne (by omega) (by omega) h5]
      rw [ej _ (by omega), ej _ (by omega), ed]
      exact hd j hj
theorem NoP_ph2 {l : Nat → Int32} {s : TS} {n : Nat} (h : PI l s n) : ∀ k, k ≤ tn (s.1 5) → ∀ p, p < k → (T_ph (T_p2 l) k s).1 (76 + 10 * p + 6) = nI 0 → sBF (T_ph (T_p2 l) k s).1 p = none
  | 0, _, p, hp, _ => by omega
  | k + 1, hk, p, hp, hw => by
    obtain ⟨i1, i2⟩ := PI_ph2 h k (by omega)
    have e5 : (T_ph (T_p2 l) k s).1 5 = s.1 5 := sta_sc i2 (by omega)
    have ih := NoP_ph2 h k (by omega)
    rw [T_ph_s] at hw ⊢
    generalize T_ph (T_p2 l) k s = t at *
    obtain ⟨a, F⟩ := t
    dsimp only at *
    obtain ⟨p1, p2, p3, p4⟩ := i1
    dsimp only at p1 p2 p3 p4
    have hnj := Iv0_j p1
    have hnp := Iv0_p p1
    rw [← e5] at hk
    unfold T_p2 at hw ⊢
    by_cases hc : a (76 + 10 * k + 6) = nI 0 ∧ (sBF a k).isSome
    · obtain ⟨b, hb⟩ := Option.isSome_iff_exists.mp hc.2
      obtain ⟨hbl, hpr⟩ := sBF_some hb
      have hDoc := Iv0_dj p1 hbl
      have hz : dN a (jN a b 6) 1 < 3 := (vl_nI hDoc.1.2.2.1).2
      rw [if_pos hc] at hw ⊢
      dsimp only at hw ⊢
      rw [hb] at hw ⊢
      have hgo := T_go_eq (l := l) (show b < 24 by omega) (show k < 3 by omega) hDoc.2 hz
      have e : (some b).getD 0 = b := rfl
      rw [e, hgo] at hw
      rw [e, hgo]
      generalize nI (sTK a l b (jN a b 10) k) = T at *
      generalize dN a (jN a b 6) 1 = z at *
      by_cases hpk : p = k
      · subst hpk
        rw [up_ne (by omega), up_eq rfl, eq_nI (by omega) (by omega)] at hw
        omega
      · rw [up_ne (by omega), up_ne (by omega), up_ne (by omega), up_ne (by omega), up_ne (by omega)] at hw
        have h1 := sBF_none.mp (ih p (by omega) hw)
        rw [sBF_none]
        intro j hj
        rw [up_ne (by omega), up_ne (by omega), up_ne (by omega), up_ne (by omega), up_ne (by omega)] at hj
        have hdj := Iv0_dj p1 hj
        have hzj : dN a (jN a j 6) 1 < 3 := (vl_nI hdj.1.2.2.1).2
        have huj : jN a j 5 < 6 := (vl_nI (p1.2.2.2.2.2.1 j hj).2.2.2.2.2.2.1).2
        by_cases hjb : j = b
        · subst hjb
          intro q
          have := q.2.1
          rw [up_eq rfl, eq_nI (by omega) (by omega)] at this
          omega
        · have := h1 j hj
          intro q
          refine this ?_
          unfold prt at q ⊢
          have n9 : ∀ w, w < 9 → jN (up (up (up (up (up a (76 + 10 * k + (3 + z)) (a (76 + 10 * k + (3 + z)) - nI 1)) (76 + 10 * k + 8) T) (76 + 10 * k + 7) (nI b)) (76 + 10 * k + 6) (nI 1)) (106 + 13 * b + 9) (nI 1)) j w = jN a j w := by
            intro w hw
            unfold jN
            simp (disch := first | assumption | omega) only [up_ne]
          have n3 : dN (up (up (up (up (up a (76 + 10 * k + (3 + z)) (a (76 + 10 * k + (3 + z)) - nI 1)) (76 + 10 * k + 8) T) (76 + 10 * k + 7) (nI b)) (76 + 10 * k + 6) (nI 1)) (106 + 13 * b + 9) (nI 1)) (jN a j 6) 1 = dN a (jN a j 6) 1 := by
            have := hdj.2
            unfold dN
            simp (disch := first | assumption | omega) only [up_ne]
          rw [n9 _ (by omega), n9 _ (by omega), n9 _ (by omega), n9 _ (by omega), n3] at q
          have hpz : 76 + 10 * p + (3 + dN a (jN a j 6) 1) ≠ 76 + 10 * k + (3 + z) := by omega
          simp (disch := first | assumption | omega) only [up_ne] at q
          exact q
    · rw [if_neg hc] at hw ⊢
      by_cases hpk : p = k
      · subst hpk
        cases hb : sBF a p with
        | none => rfl
        | some b => exact absurd ⟨hw, by rw [hb]; rfl⟩ hc
      · exact ih p (by omega) hw
theorem NoP_tick {l : Nat → Int32} {s : TS} {n : Nat} (h : PI l s n) : NoP (T_tick l s).1 := by
  obtain ⟨t1, t2⟩ := PI_time h
  have e5 : (T_time s).1 5 = s.1 5 := sta_sc t2 (by omega)
  obtain ⟨u1, u2⟩ := PI_ph1 t1 (tn (s.1 5)) (by rw [e5]; omega)
  have e6 : (T_ph (T_p1 l) (tn (s.1 5)) (T_time s)).1 5 = s.1 5 := (sta_sc u2 (by omega)).trans e5
  have e7 : (T_tick l s).1 5 = s.1 5 := sta_sc (PI_tick h).2 (by omega)
  intro p hp hw
  rw [e7] at hp
  exact NoP_ph2 u1 (tn (s.1 5)) (by rw [e6]; omega) p hp hw
theorem PI_it {l : Nat → Int32} {s : TS} {n : Nat} (h : PI l s n) : ∀ k, PI l (T_it l k s) (n + 3 * k) ∧ sta s.1 (T_it l k s).1
  | 0 => ⟨h, sta_rfl⟩
  | k + 1 => by
    obtain ⟨i1, i2⟩ := PI_it h k
    obtain ⟨j1, j2⟩ := PI_tick i1
    rw [T_it_s]
    exact ⟨j1, sta_tr i2 j2⟩
def qq (q k : Nat) (a : Nat → Int32) : Nat → Int32 := fun i => if i = 0 then a 0 + nI q else if isL k i ∧ a (i - 2) = nI 1 then a i - nI q else a i
theorem qq_6 {q k p : Nat} {a : Nat → Int32} : qq q k a (76 + 10 * p + 6) = a (76 + 10 * p + 6) := by
  unfold qq
  rw [if_neg (by omega), if_neg]
  rintro ⟨⟨-, -, q⟩, -⟩
  omega
theorem qq_8 {q k : Nat} {a : Nat → Int32} : qq q k a (76 + 10 * k + 8) = a (76 + 10 * k + 8) := by
  unfold qq
  rw [if_neg (by omega), if_neg]
  rintro ⟨⟨-, q, -⟩, -⟩
  omega
theorem qq_s {q k : Nat} {a : Nat → Int32} : qq q (k + 1) a = if a (76 + 10 * k + 6) = nI 1 then up (qq q k a) (76 + 10 * k + 8) (a (76 + 10 * k + 8) - nI q) else qq q k a := by
  by_cases hw : a (76 + 10 * k + 6) = nI 1
  · rw [if_pos hw]
    funext i
    by_cases hi : i = 76 + 10 * k + 8
    · subst hi
      unfold qq
      rw [up_eq rfl, if_neg (by omega), if_pos ⟨⟨by omega, by omega, by omega⟩, by rw [show 76 + 10 * k + 8 - 2 = 76 + 10 * k + 6 by omega]; exact hw⟩]
    · rw [up_ne hi]
      have : (isL (k + 1) i ∧ a (i - 2) = nI 1) ↔ (isL k i ∧ a (i - 2) = nI 1) := by
        constructor
        · rintro ⟨⟨q1, q2, q3⟩, q4⟩; exact ⟨⟨q1, by omega, q3⟩, q4⟩
        · rintro ⟨⟨q1, q2, q3⟩, q4⟩; exact ⟨⟨q1, by omega, q3⟩, q4⟩
      unfold qq
      simp only [this]
  · rw [if_neg hw]
    funext i
    have : (isL (k + 1) i ∧ a (i - 2) = nI 1) ↔ (isL k i ∧ a (i - 2) = nI 1) := by
      constructor
      · rintro ⟨⟨q1, q2, q3⟩, q4⟩
        refine ⟨⟨q1, ?_, q3⟩, q4⟩
        rcases Nat.lt_or_ge i (76 + 10 * k) with w | w
        · exact w
        · exact absurd (by rw [← q4]; congr 1; omega) hw
      · rintro ⟨⟨q1, q2, q3⟩, q4⟩; exact ⟨⟨q1, by omega, q3⟩, q4⟩
    unfold qq
    simp only [this]
theorem qq_sta {q k : Nat} {a : Nat → Int32} (hk : k ≤ 3) : sta a (qq q k a) := by
  intro i hi
  unfold qq
  unfold dyn at hi
  rw [if_neg (by omega), if_neg]
  rintro ⟨⟨q1, q2, q3⟩, -⟩
  omega
/-- how many are quiet -/
def mq (a : Nat → Int32) (M k : Nat) : Nat := match k with
  | 0 => M
  | k + 1 => if a (76 + 10 * k + 6) = nI 1 then min (mq a M k) (pN a k 8 - 1) else mq a M k
theorem mq_0 {a : Nat → Int32} {M : Nat} : mq a M 0 = M := rfl
theorem mq_s {a : Nat → Int32} {M k : Nat} : mq a M (k + 1) = if a (76 + 10 * k + 6) = nI 1 then min (mq a M k) (pN a k 8 - 1) else mq a M k := rfl
theorem mq_le {a : Nat → Int32} {M : Nat} : ∀ k, mq a M k ≤ M
  | 0 => Nat.le_refl _
  | k + 1 => by
    rw [mq_s]
    have := mq_le (a := a) (M := M) k
    split <;> omega
theorem mq_lt {a : Nat → Int32} {M : Nat} : ∀ k p, p < k → a (76 + 10 * p + 6) = nI 1 → mq a M k ≤ pN a p 8 - 1
  | 0, p, hp, _ => by omega
  | k + 1, p, hp, hw => by
    rw [mq_s]
    by_cases e : p = k
    · subst e
      rw [if_pos hw]
      omega
    · have := mq_lt (a := a) (M := M) k p (by omega) hw
      split <;> omega
theorem jmin_nI {x y : Nat} (hx : x < 2147483648) (hy : y < 2147483648) : jmin (nI x) (nI y) = nI (min x y) := by
  unfold jmin
  by_cases h : y < x
  · rw [if_pos ((lt_nI hy hx).mpr h), Nat.min_eq_right (by omega)]
  · rw [if_neg (fun q => h ((lt_nI hy hx).mp q)), Nat.min_eq_left (by omega)]
theorem x_skip {g : GS_} {S : Nat} {a l : Nat → Int32} {F : List Nat} {n M : Nat} (h : SpO g S a l F) (hP : PI l (a, F) n) (hN : NoP a) (hM : M < 100000000) :
    ∃ q g', f8_skipQuietTicks S (nI M) g = some (nI q, g') ∧ q ≤ M ∧ TT S g g' ∧ SpO g' S (T_it l q (a, F)).1 l F ∧ ∀ k, k ≤ q → T_it l k (a, F) = (qt k a, F) := by
  obtain ⟨p1, p2, p3, p4⟩ := hP
  dsimp only at p1 p2 p3 p4
  obtain ⟨n5, h5⟩ := SpO_n5 h
  have hX := h.2.1
  have hD := h.2.2.2.2
  have h4 := Iv0_j p1
  have hd : ∀ j, j < tn (a 4) → jN a j 6 < 10 ∧ dN a (jN a j 6) 1 < 3 ∧ jN a j 5 < 6 := fun j hj =>
    ⟨(Iv0_dj p1 hj).2, (vl_nI (Iv0_dj p1 hj).1.2.2.1).2, (vl_nI (p1.2.2.2.2.2.1 j hj).2.2.2.2.2.2.1).2⟩
  have hlf : ∀ p, p < tn (a 5) → a (76 + 10 * p + 6) = nI 1 → a (76 + 10 * p + 8) = nI (pN a p 8) ∧ pN a p 8 < 200 ∧ 1 ≤ pN a p 8 := fun p hp hw => by
    obtain ⟨-, w⟩ := p2.2.1 p hp
    obtain ⟨-, -, w3, w4⟩ := w hw
    exact ⟨(vl_nI w3).1, (vl_nI w3).2, w4⟩
  have hall : ∀ k, k ≤ mq a M (tn (a 5)) → T_it l k (a, F) = (qt k a, F) := by
    refine it_quiet h5 h4 hd hN (fun p hp hw => ?_)
    obtain ⟨w1, w2, w3⟩ := hlf p hp hw
    have := mq_lt (a := a) (M := M) (tn (a 5)) p hp hw
    exact ⟨_, w1, by omega, by omega⟩
  have loop1 : ∀ fuel k, k ≤ tn (a 5) → tn (a 5) - k < fuel → f8_skipQuietTicks_b4 fuel S (nI (mq a M k)) (nI k) g = (if 0 < mq a M (tn (a 5)) then f8_skipQuietTicks_b69 FU_ S (nI (mq a M (tn (a 5)))) (nI 0) (sfi g 271 S (a 0 + nI (mq a M (tn (a 5))))) else some (nI 0, g)) := by
    intro fuel
    induction fuel with
    | zero => intro k _ h2; omega
    | succ fuel ih =>
      intro k hk hf
      have hle := mq_le (a := a) (M := M) k
      rw [f8_skipQuietTicks_b4.eq_2]
      by_cases he : k = tn (a 5)
      · subst he
        have n271 : gfi g 271 S = a 0 := hD.2.2.2.2.1
        by_cases hz : 0 < mq a M (tn (a 5))
        · rw [if_pos hz]
          simp (disch := first | with_reducible assumption | omega | (simp only [MI_sai_iff, MI_sfi_iff]; with_reducible assumption)) only [li, ↓lr_, ↓bd_m, ↓oc_m, ↓reduceIte, bi_0, bi_0n, bi_1, bi_1n, not_true_eq_false, not_false_eq_true, Nat.reduceAdd, Nat.reduceMul, nI_mul, nI_add, inb_T, ix_nI, le_T, le_F, lt_T, lt_F, eq_F, n5, n271]
        · rw [if_neg hz]
          simp (disch := first | with_reducible assumption | omega | (simp only [MI_sai_iff, MI_sfi_iff]; with_reducible assumption)) only [li, ↓lr_, ↓bd_m, ↓oc_m, ↓reduceIte, bi_0, bi_0n, bi_1, bi_1n, not_true_eq_false, not_false_eq_true, Nat.reduceAdd, Nat.reduceMul, nI_mul, nI_add, inb_T, ix_nI, le_T, le_F, lt_T, lt_F, eq_F, n5]
      · have hkl : k < tn (a 5) := by omega
        have e1 := x_printerAt hX n5 h5 (nI k)
        rw [if_pos (vl_of hkl (by omega)), tn_nI (by omega)] at e1
        have n164 : gfi g 164 (3 * S + k) = a (76 + 10 * k + 6) := (hD.2.1 k hkl).2.1
        have nx := ih (k + 1) (by omega) (by omega)
        rw [mq_s] at nx
        by_cases hw : a (76 + 10 * k + 6) = nI 1
        · obtain ⟨w1, w2, w3⟩ := hlf k hkl hw
          have n166 : gfi g 166 (3 * S + k) = nI (pN a k 8) := ((hD.2.1 k hkl).2.2.1 hw).2.trans w1
          have esub : nI (pN a k 8) - nI 1 = nI (pN a k 8 - 1) := nI_sub w3
          have emin : jmin (nI (mq a M k)) (nI (pN a k 8 - 1)) = nI (min (mq a M k) (pN a k 8 - 1)) := jmin_nI (by omega) (by omega)
          rw [if_pos hw] at nx
          simp (disch := first | with_reducible assumption | omega | (simp only [MI_sai_iff, MI_sfi_iff]; with_reducible assumption)) only [li, ↓lr_, ↓bd_m, ↓oc_m, ↓reduceIte, bi_0, bi_0n, bi_1, bi_1n, not_true_eq_false, not_false_eq_true, Nat.reduceAdd, Nat.reduceMul, nI_mul, nI_add, inb_T, ix_nI, le_T, le_F, lt_T, lt_F, eq_F, n5, e1, n164, hw, n166, esub, emin, f8_skipQuietTicks_b45, nx]
        · rw [if_neg hw] at nx
          simp (disch := first | with_reducible assumption | omega | (simp only [MI_sai_iff, MI_sfi_iff]; with_reducible assumption)) only [li, ↓lr_, ↓bd_m, ↓oc_m, ↓reduceIte, bi_0, bi_0n, bi_1, bi_1n, not_true_eq_false, not_false_eq_true, Nat.reduceAdd, Nat.reduceMul, nI_mul, nI_add, inb_T, ix_nI, le_T, le_F, lt_T, lt_F, eq_F, n5, e1, n164, eq_false hw, f8_skipQuietTicks_b45, nx]
  have l1 := loop1 FU_ 0 (by omega) (by unfold FU_; omega)
  rw [mq_0] at l1
  have hmle := mq_le (a := a) (M := M) (tn (a 5))
  by_cases hz : 0 < mq a M (tn (a 5))
  · rw [if_pos hz] at l1
    generalize hq : mq a M (tn (a 5)) = q at *
    have D0 := XD_time h4 h5 (a 0 + nI q) hD
    have T0 : TT S g (sfi g 271 S (a 0 + nI q)) := TT_sfi (oT_s (by omega))
    have u0 : up a 0 (a 0 + nI q) = qq q 0 a := by
      funext i
      unfold up qq
      split
      · rfl
      · rw [if_neg]
        rintro ⟨⟨q1, q2, -⟩, -⟩
        omega
    rw [u0] at D0
    have loop2 : ∀ fuel k g1, k ≤ tn (a 5) → tn (a 5) - k < fuel → TT S g g1 → XD g1 S (qq q k a) F → ∃ g', f8_skipQuietTicks_b69 fuel S (nI q) (nI k) g1 = some (nI q, g') ∧ TT S g g' ∧ XD g' S (qq q (tn (a 5)) a) F := by
      intro fuel
      induction fuel with
      | zero => intro k g1 _ h2; omega
      | succ fuel ih =>
        intro k g1 hk hf T1 D1
        have n5' : gfi g1 261 S = nI (tn (a 5)) := by rw [T1.2.1 _ _ (by unfold oT; omega)]; exact n5
        rw [f8_skipQuietTicks_b69.eq_2]
        by_cases he : k = tn (a 5)
        · subst he
          exact ⟨g1, by simp (disch := first | with_reducible assumption | omega | (simp only [MI_sai_iff, MI_sfi_iff]; with_reducible assumption)) only [li, ↓lr_, ↓bd_m, ↓oc_m, ↓reduceIte, bi_0, bi_0n, bi_1, bi_1n, not_true_eq_false, not_false_eq_true, Nat.reduceAdd, Nat.reduceMul, nI_mul, nI_add, inb_T, ix_nI, le_T, le_F, lt_T, lt_F, eq_F, n5'], T1, D1⟩
        · have hkl : k < tn (a 5) := by omega
          have e1 := x_printerAt (XSp_NR T1.1 hX) n5' h5 (nI k)
          rw [if_pos (vl_of hkl (by omega)), tn_nI (by omega)] at e1
          have s5 : qq q k a 5 = a 5 := sta_sc (qq_sta (by omega)) (by omega)
          have s4 : qq q k a 4 = a 4 := sta_sc (qq_sta (by omega)) (by omega)
          have hkl' : k < tn (qq q k a 5) := by rw [s5]; exact hkl
          have n164 : gfi g1 164 (3 * S + k) = a (76 + 10 * k + 6) := (D1.2.1 k hkl').2.1.trans qq_6
          by_cases hw : a (76 + 10 * k + 6) = nI 1
          · have n166 : gfi g1 166 (3 * S + k) = a (76 + 10 * k + 8) := ((D1.2.1 k hkl').2.2.1 (qq_6.trans hw)).2.trans qq_8
            have D2 := XD_p166 (by rw [s4]; exact h4) (by rw [s5]; exact h5) hkl' (a (76 + 10 * k + 8) - nI q) D1
            obtain ⟨g', r1, r2, r3⟩ := ih (k + 1) (sfi g1 166 (3 * S + k) (a (76 + 10 * k + 8) - nI q)) (by omega) (by omega) (TT_tr T1 (TT_sfi (oT_p (by omega) (by omega) (by omega)))) (by rw [qq_s, if_pos hw]; exact D2)
            refine ⟨g', ?_, r2, r3⟩
            simp (disch := first | with_reducible assumption | omega | (simp only [MI_sai_iff, MI_sfi_iff]; with_reducible assumption)) only [li, ↓lr_, ↓bd_m, ↓oc_m, ↓reduceIte, bi_0, bi_0n, bi_1, bi_1n, not_true_eq_false, not_false_eq_true, Nat.reduceAdd, Nat.reduceMul, nI_mul, nI_add, inb_T, ix_nI, le_T, le_F, lt_T, lt_F, eq_F, n5', e1, n164, hw, n166, f8_skipQuietTicks_b109, r1]
          · obtain ⟨g', r1, r2, r3⟩ := ih (k + 1) g1 (by omega) (by omega) T1 (by rw [qq_s, if_neg hw]; exact D1)
            refine ⟨g', ?_, r2, r3⟩
            simp (disch := first | with_reducible assumption | omega | (simp only [MI_sai_iff, MI_sfi_iff]; with_reducible assumption)) only [li, ↓lr_, ↓bd_m, ↓oc_m, ↓reduceIte, bi_0, bi_0n, bi_1, bi_1n, not_true_eq_false, not_false_eq_true, Nat.reduceAdd, Nat.reduceMul, nI_mul, nI_add, inb_T, ix_nI, le_T, le_F, lt_T, lt_F, eq_F, n5', e1, n164, eq_false hw, f8_skipQuietTicks_b109, r1]
    obtain ⟨g', r1, r2, r3⟩ := loop2 FU_ 0 _ (by omega) (by unfold FU_; omega) T0 D0
    refine ⟨q, g', ?_, hmle, r2, ?_, hall⟩
    · unfold f8_skipQuietTicks
      exact l1.trans r1
    · rw [hall q (Nat.le_refl _)]
      show SpO g' S (qq q (tn (a 5)) a) l F
      exact SpO_step h r2 (qq_sta h5) (sta_sc (qq_sta h5) (by omega)) r3
  · rw [if_neg hz] at l1
    refine ⟨0, g, ?_, by omega, TT_rfl, h, fun k hk => hall k (by omega)⟩
    unfold f8_skipQuietTicks
    exact l1
