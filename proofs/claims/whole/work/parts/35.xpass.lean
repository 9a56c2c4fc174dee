/-! time passes: class and reference -/
theorem addneg_nI {a b : Nat} (h : b ≤ a) : nI a + -nI b = nI (a - b) := by
  rw [← nI_sub h, Int32.sub_eq_add_neg]
-- finished jobs only grow
theorem T_p1_fst {l a : Nat → Int32} {F : List Nat} {p : Nat} : T_p1 l (a, F) p = ((T_p1 l (a, []) p).1, F ++ (T_p1 l (a, []) p).2) := by
  unfold T_p1
  split
  · dsimp only
    unfold T_p1b
    split
    · unfold T_end
      dsimp only
      unfold T_end2
      split
      · rfl
      · split
        · split
          · simp
          · split <;> simp
        · simp
    · simp
  · simp
theorem T_p2_fst {l a : Nat → Int32} {F : List Nat} {p : Nat} : T_p2 l (a, F) p = ((T_p2 l (a, []) p).1, F ++ (T_p2 l (a, []) p).2) := by
  unfold T_p2
  split <;> simp
theorem T_ph_fst {f : TS → Nat → TS} (hf : ∀ a F p, f (a, F) p = ((f (a, []) p).1, F ++ (f (a, []) p).2)) {a : Nat → Int32} {F : List Nat} : ∀ k, T_ph f k (a, F) = ((T_ph f k (a, [])).1, F ++ (T_ph f k (a, [])).2)
  | 0 => by simp [T_ph_0]
  | k + 1 => by
    rw [T_ph_s, T_ph_s, T_ph_fst hf k]
    have e : T_ph f k (a, []) = ((T_ph f k (a, [])).1, (T_ph f k (a, [])).2) := rfl
    generalize (T_ph f k (a, [])).1 = b at *
    generalize (T_ph f k (a, [])).2 = G at *
    rw [e, hf b (F ++ G), hf b G]
    simp
theorem T_tick_fst {l a : Nat → Int32} {F : List Nat} : T_tick l (a, F) = ((T_tick l (a, [])).1, F ++ (T_tick l (a, [])).2) := by
  unfold T_tick
  have e0 : ∀ G, T_time (a, G) = (up a 0 (a 0 + nI 1), G) := fun _ => rfl
  rw [e0, e0, T_ph_fst (fun _ _ _ => T_p1_fst)]
  dsimp only
  generalize hs : T_ph (T_p1 l) (tn (a 5)) (up a 0 (a 0 + nI 1), []) = s
  obtain ⟨b, G⟩ := s
  dsimp only
  rw [T_ph_fst (F := F ++ G) (fun _ _ _ => T_p2_fst), T_ph_fst (F := G) (fun _ _ _ => T_p2_fst)]
  simp
theorem T_it_fst {l a : Nat → Int32} {F : List Nat} : ∀ k, T_it l k (a, F) = ((T_it l k (a, [])).1, F ++ (T_it l k (a, [])).2)
  | 0 => by simp [T_it_0]
  | k + 1 => by
    rw [T_it_s, T_it_s, T_it_fst k]
    generalize T_it l k (a, []) = s
    obtain ⟨b, G⟩ := s
    dsimp only
    rw [T_tick_fst (F := F ++ G), T_tick_fst (F := G)]
    simp
theorem T_it_grow {l : Nat → Int32} {s : TS} {k m : Nat} (h : k ≤ m) : ∃ G, (T_it l m s).2 = (T_it l k s).2 ++ G := by
  obtain ⟨d, rfl⟩ := Nat.exists_eq_add_of_le h
  rw [T_it_add]
  generalize T_it l k s = t
  obtain ⟨b, F⟩ := t
  rw [T_it_fst]
  exact ⟨_, rfl⟩
theorem done_stays {l : Nat → Int32} {s : TS} {n j k m : Nat} (hP : PI l s n) (h : k ≤ m) (hj : j < tn (s.1 4)) (hd : (T_it l k s).1 (106 + 13 * j + 9) = nI 3) : (T_it l m s).1 (106 + 13 * j + 9) = nI 3 := by
  obtain ⟨⟨-, -, d1, -⟩, t1⟩ := PI_it hP k
  obtain ⟨⟨-, -, d2, -⟩, t2⟩ := PI_it hP m
  obtain ⟨G, hG⟩ := T_it_grow (l := l) (s := s) h
  have e1 : (T_it l k s).1 4 = s.1 4 := sta_sc t1 (by omega)
  have h1 : j ∈ (T_it l k s).2 := (d1.2 j).mpr ⟨by rw [e1]; exact hj, hd⟩
  have h2 : j ∈ (T_it l m s).2 := by rw [hG]; exact List.mem_append_left _ h1
  exact ((d2.2 j).mp h2).2
-- the class
theorem x_pass {S : Nat} {l : Nat → Int32} : ∀ (fuel r : Nat) (g : GS_) (s : TS) (n : Nat), r < fuel → SpO g S s.1 l s.2 → PI l s n → n + 3 * r < 10000000 →
    ∃ g', f8_pass_b2 fuel S (nI r) g = some ((), g') ∧ TT S g g' ∧ SpO g' S (T_it l r s).1 l (T_it l r s).2
  | 0, r, g, s, n, h1, _, _, _ => by omega
  | fuel + 1, r, g, s, n, h1, h2, h3, h4 => by
    rw [f8_pass_b2.eq_2]
    by_cases h0 : r = 0
    · subst h0
      exact ⟨g, by simp (disch := first | with_reducible assumption | omega | (simp only [MI_sai_iff, MI_sfi_iff]; with_reducible assumption)) only [li, ↓lr_, ↓bd_m, ↓oc_m, ↓reduceIte, bi_0, bi_0n, bi_1, bi_1n, not_true_eq_false, not_false_eq_true, Nat.reduceAdd, Nat.reduceMul, nI_mul, nI_add, inb_T, ix_nI, le_T, le_F, lt_T, lt_F, eq_F, Nat.le_refl], TT_rfl, h2⟩
    · obtain ⟨g1, a1, a2, a3⟩ := x_passTick h2 h3 (by omega)
      have hP1 := (PI_tick h3).1
      obtain ⟨q, g2, b1, b2, b3, b4, b5⟩ := x_skip (M := r - 1) (F := (T_tick l s).2) a3 hP1 (NoP_tick h3) (by omega)
      have eF : T_it l q ((T_tick l s).1, (T_tick l s).2) = ((T_it l q (T_tick l s)).1, (T_tick l s).2) := by
        have := b5 q (Nat.le_refl _)
        rw [show T_it l q (T_tick l s) = T_it l q ((T_tick l s).1, (T_tick l s).2) from rfl, this]
      have e1 : T_it l q (T_tick l s) = T_it l (1 + q) s := by rw [T_it_add]; rfl
      have hP2 := (PI_it hP1 q).1
      have b4' : SpO g2 S (T_it l q (T_tick l s)).1 l (T_it l q (T_tick l s)).2 := by
        have e2 : (T_it l q (T_tick l s)).2 = (T_tick l s).2 := by rw [show T_it l q (T_tick l s) = T_it l q ((T_tick l s).1, (T_tick l s).2) from rfl, eF]
        rw [e2]
        exact b4
      obtain ⟨g3, c1, c2, c3⟩ := x_pass fuel (r - 1 - q) g2 (T_it l q (T_tick l s)) (n + 3 + 3 * q) (by omega) b4' hP2 (by omega)
      rw [e1, ← T_it_add, show 1 + q + (r - 1 - q) = r by omega] at c3
      refine ⟨g3, ?_, TT_tr a2 (TT_tr b3 c2), c3⟩
      have e3 : nI r + -nI 1 = nI (r - 1) := addneg_nI (by omega)
      have e4 : nI (r - 1) - nI q = nI (r - 1 - q) := nI_sub b2
      simp (disch := first | with_reducible assumption | omega | (simp only [MI_sai_iff, MI_sfi_iff]; with_reducible assumption)) only [li, ↓lr_, ↓bd_m, ↓oc_m, ↓reduceIte, bi_0, bi_0n, bi_1, bi_1n, not_true_eq_false, not_false_eq_true, Nat.reduceAdd, Nat.reduceMul, nI_mul, nI_add, inb_T, ix_nI, le_T, le_F, lt_T, lt_F, eq_F, a1, e3, b1, e4, c1]
/-- the first time at which a job is done -/
def FirstDone (l : Nat → Int32) (s : TS) (j L : Nat) (r : Int32) : Prop := (∃ k, k ≤ L ∧ (T_it l k s).1 (106 + 13 * j + 9) = nI 3 ∧ (∀ i, i < k → (T_it l i s).1 (106 + 13 * j + 9) ≠ nI 3) ∧ r = nI k) ∨ ((∀ i, i ≤ L → (T_it l i s).1 (106 + 13 * j + 9) ≠ nI 3) ∧ r = -nI 6)
theorem FirstDone_uq {l : Nat → Int32} {s : TS} {j L : Nat} {r r' : Int32} (h : FirstDone l s j L r) (h' : FirstDone l s j L r') : r = r' := by
  rcases h with ⟨k, h1, h2, h3, h4⟩ | ⟨h1, h2⟩ <;> rcases h' with ⟨k', h1', h2', h3', h4'⟩ | ⟨h1', h2'⟩
  · have : k = k' := by
      rcases Nat.lt_trichotomy k k' with w | w | w
      · exact absurd h2 (h3' k w)
      · exact w
      · exact absurd h2' (h3 k' w)
    rw [h4, h4', this]
  · exact absurd h2 (h1' k h1)
  · exact absurd h2' (h1 k' h1')
  · rw [h2, h2']
theorem x_untilLoop {S j J : Nat} {l : Nat → Int32} {s0 : TS} {n L : Nat} (h0 : PI l s0 n) (hL : L ≤ 100000) (hn : n + 3 * L < 9000000) (hj : j < tn (s0.1 4)) : ∀ (fuel k : Nat) (g : GS_), k ≤ L → L - k < fuel → SpO g S (T_it l k s0).1 l (T_it l k s0).2 → gar g 23 S j = some J → (∀ i, i ≤ k → (T_it l i s0).1 (106 + 13 * j + 9) ≠ nI 3) →
    ∃ r g', f8_ticksUntilDone_b26 fuel S (nI L) (some J) (nI k) g = some (r, g') ∧ TT S g g' ∧ FirstDone l s0 j L r
  | 0, k, g, h1, h2, _, _, _ => by omega
  | fuel + 1, k, g, h1, h2, h3, h4, h5 => by
    rw [f8_ticksUntilDone_b26.eq_2]
    by_cases he : k = L
    · subst he
      exact ⟨-nI 6, g, by simp (disch := first | with_reducible assumption | omega | (simp only [MI_sai_iff, MI_sfi_iff]; with_reducible assumption)) only [li, ↓lr_, ↓bd_m, ↓oc_m, ↓reduceIte, bi_0, bi_0n, bi_1, bi_1n, not_true_eq_false, not_false_eq_true, Nat.reduceAdd, Nat.reduceMul, nI_mul, nI_add, inb_T, ix_nI, le_T, le_F, lt_T, lt_F, eq_F, Nat.le_refl], TT_rfl, Or.inr ⟨h5, rfl⟩⟩
    · have hk := (PI_it h0 k).1
      obtain ⟨g1, a1, a2, a3⟩ := x_passTick h3 hk (by omega)
      have e0 : T_tick l (T_it l k s0) = T_it l (k + 1) s0 := rfl
      rw [e0] at a3
      obtain ⟨hk1, ht1⟩ := PI_it h0 (k + 1)
      have hJ1 : gar g1 23 S j = some J := by rw [a2.1.2.2.1]; exact h4
      have e4 : (T_it l (k + 1) s0).1 4 = s0.1 4 := sta_sc ht1 (by omega)
      have n35 := (a3.2.2.2.2.1 j J (by rw [e4]; exact hj) hJ1).1
      by_cases hd : (T_it l (k + 1) s0).1 (106 + 13 * j + 9) = nI 3
      · refine ⟨nI (k + 1), g1, ?_, a2, Or.inl ⟨k + 1, by omega, hd, fun i hi => h5 i (by omega), rfl⟩⟩
        simp (disch := first | with_reducible assumption | omega | (simp only [MI_sai_iff, MI_sfi_iff]; with_reducible assumption)) only [li, ↓lr_, ↓bd_m, ↓oc_m, ↓reduceIte, bi_0, bi_0n, bi_1, bi_1n, not_true_eq_false, not_false_eq_true, Nat.reduceAdd, Nat.reduceMul, nI_mul, nI_add, inb_T, ix_nI, le_T, le_F, lt_T, lt_F, eq_F, a1, n35, hd]
      · obtain ⟨q, g2, b1, b2, b3, b4, b5⟩ := x_skip (M := L - (k + 1)) (F := (T_it l (k + 1) s0).2) a3 hk1 (NoP_tick hk) (by omega)
        have eP : ∀ i, i ≤ q → T_it l (k + 1 + i) s0 = (qt i (T_it l (k + 1) s0).1, (T_it l (k + 1) s0).2) := fun i hi => by
          rw [T_it_add]
          exact b5 i hi
        have e9 : ∀ i, i ≤ q → (T_it l (k + 1 + i) s0).1 (106 + 13 * j + 9) ≠ nI 3 := fun i hi => by
          rw [eP i hi]
          dsimp only
          have h24 := Iv0_j hk1.1
          rw [e4] at h24
          rw [qt_ne (by omega) (by omega) (Iv0_p hk1.1)]
          exact hd
        have b4' : SpO g2 S (T_it l (k + 1 + q) s0).1 l (T_it l (k + 1 + q) s0).2 := by
          have w1 : (T_it l (k + 1 + q) s0).1 = (T_it l q ((T_it l (k + 1) s0).1, (T_it l (k + 1) s0).2)).1 := by rw [T_it_add]
          have w2 : (T_it l (k + 1 + q) s0).2 = (T_it l (k + 1) s0).2 := by rw [eP q (Nat.le_refl _)]
          rw [w1, w2]
          exact b4
        obtain ⟨r, g3, c1, c2, c3⟩ := x_untilLoop h0 hL hn hj fuel (k + 1 + q) g2 (by omega) (by omega) b4' (by rw [b3.1.2.2.1]; exact hJ1) (fun i hi => by
          rcases Nat.lt_or_ge i (k + 1) with w | w
          · exact h5 i (by omega)
          · have := e9 (i - (k + 1)) (by omega)
            rw [show k + 1 + (i - (k + 1)) = i by omega] at this
            exact this)
        refine ⟨r, g3, ?_, TT_tr a2 (TT_tr b3 c2), c3⟩
        have e5 : nI L - nI (k + 1) = nI (L - (k + 1)) := nI_sub (by omega)
        simp (disch := first | with_reducible assumption | omega | (simp only [MI_sai_iff, MI_sfi_iff]; with_reducible assumption)) only [li, ↓lr_, ↓bd_m, ↓oc_m, ↓reduceIte, bi_0, bi_0n, bi_1, bi_1n, not_true_eq_false, not_false_eq_true, Nat.reduceAdd, Nat.reduceMul, nI_mul, nI_add, inb_T, ix_nI, le_T, le_F, lt_T, lt_F, eq_F, a1, n35, eq_false hd, e5, b1, c1]
theorem x_ticksUntilDone {g : GS_} {S j : Nat} {l : Nat → Int32} {s : TS} {n L : Nat} (h : SpO g S s.1 l s.2) (h0 : PI l s n) (hL : L ≤ 10000) (hn : n + 3 * L < 9000000) (hj : j < tn (s.1 4)) :
    ∃ r g', f8_ticksUntilDone S (nI j) (nI L) g = some (r, g') ∧ TT S g g' ∧ FirstDone l s j L r := by
  obtain ⟨n4, h4⟩ := SpO_n4 h
  obtain ⟨J, Q, q1, -⟩ := h.2.2.2.1.2.2.2.2.1 j hj
  have e1 := x_jobAt h.2.1 n4 h4 (nI j)
  rw [if_pos (vl_of hj (by omega)), tn_nI (by omega), q1] at e1
  have n35 := (h.2.2.2.2.1 j J hj q1).1
  by_cases hd : s.1 (106 + 13 * j + 9) = nI 3
  · refine ⟨nI 0, g, ?_, TT_rfl, Or.inl ⟨0, by omega, hd, fun i hi => by omega, rfl⟩⟩
    simp (disch := first | with_reducible assumption | omega | (simp only [MI_sai_iff, MI_sfi_iff]; with_reducible assumption)) only [li, ↓lr_, ↓bd_m, ↓oc_m, ↓reduceIte, bi_0, bi_0n, bi_1, bi_1n, not_true_eq_false, not_false_eq_true, Nat.reduceAdd, Nat.reduceMul, nI_mul, nI_add, inb_T, ix_nI, le_T, le_F, lt_T, lt_F, eq_F, f8_ticksUntilDone, e1, n35, hd]
  · obtain ⟨r, g', c1, c2, c3⟩ := x_untilLoop (S := S) (J := J) h0 (by omega) hn hj FU_ 0 g (by omega) (by unfold FU_; omega) h q1 (fun i hi => by
      rw [show i = 0 by omega]
      exact hd)
    refine ⟨r, g', ?_, c2, c3⟩
    simp (disch := first | with_reducible assumption | omega | (simp only [MI_sai_iff, MI_sfi_iff]; with_reducible assumption)) only [li, ↓lr_, ↓bd_m, ↓oc_m, ↓reduceIte, bi_0, bi_0n, bi_1, bi_1n, not_true_eq_false, not_false_eq_true, Nat.reduceAdd, Nat.reduceMul, nI_mul, nI_add, inb_T, ix_nI, le_T, le_F, lt_T, lt_F, eq_F, f8_ticksUntilDone, e1, n35, eq_false hd, c1]
/-- the job that is the next one to be done after so many -/
def Nth (F : List Nat) (i : Nat) : Int32 := match F[i]? with
  | none => -nI 6
  | some x => nI x
theorem x_finLoop {S num : Nat} {l : Nat → Int32} {s0 : TS} {n L : Nat} (h0 : PI l s0 n) (hL : L ≤ 100000) (hn : n + 3 * L < 9000000) (hnum : num < 24) : ∀ (fuel k : Nat) (g : GS_), k ≤ L → L - k < fuel → SpO g S (T_it l k s0).1 l (T_it l k s0).2 →
    ∃ g', f8_jobFinishedAs_b18 fuel S (nI num) (nI L) (nI k) g = some (Nth (T_it l L s0).2 num, g') ∧ TT S g g'
  | 0, k, g, h1, h2, _ => by omega
  | fuel + 1, k, g, h1, h2, h3 => by
    have hk := (PI_it h0 k).1
    have n268 : gfi g 268 S = nI (T_it l k s0).2.length := h3.2.2.2.2.2.2.2.2.2.1
    have hlen := DN_len hk.2.2.1 (Iv0_j hk.1)
    have n5 := h3.2.2.2.2.2.2.2.2.2.2
    obtain ⟨s1, s2, s3, s4, s5, s6, s7, s8, s9, s10, s11, s12, s13, s14, s15, s16, s17, s18, s19, s20, s21⟩ := id h3.2.1
    rw [f8_jobFinishedAs_b18.eq_2]
    by_cases hb : num < (T_it l k s0).2.length
    · obtain ⟨G, hG⟩ := T_it_grow (l := l) (s := s0) h1
      have e1 : (T_it l L s0).2[num]? = some (T_it l k s0).2[num] := by
        rw [hG, List.getElem?_append_left hb, List.getElem?_eq_getElem hb]
      have e2 : Nth (T_it l L s0).2 num = nI (T_it l k s0).2[num] := by unfold Nth; rw [e1]
      have e3 := n5 num (T_it l k s0).2[num] (List.getElem?_eq_getElem hb)
      rw [e2]
      refine ⟨g, ?_, TT_rfl⟩
      by_cases he : k = L
      · subst he
        simp (disch := first | with_reducible assumption | omega | (simp only [MI_sai_iff, MI_sfi_iff]; with_reducible assumption)) only [li, ↓lr_, ↓bd_m, ↓oc_m, ↓reduceIte, bi_0, bi_0n, bi_1, bi_1n, not_true_eq_false, not_false_eq_true, Nat.reduceAdd, Nat.reduceMul, nI_mul, nI_add, inb_T, ix_nI, le_T, le_F, lt_T, lt_F, eq_F, Nat.le_refl, f8_jobFinishedAs_b51, n268, s19, s20, e3]
      · simp (disch := first | with_reducible assumption | omega | (simp only [MI_sai_iff, MI_sfi_iff]; with_reducible assumption)) only [li, ↓lr_, ↓bd_m, ↓oc_m, ↓reduceIte, bi_0, bi_0n, bi_1, bi_1n, not_true_eq_false, not_false_eq_true, Nat.reduceAdd, Nat.reduceMul, nI_mul, nI_add, inb_T, ix_nI, le_T, le_F, lt_T, lt_F, eq_F, n268, f8_jobFinishedAs_b51, s19, s20, e3]
    · by_cases he : k = L
      · subst he
        have e2 : Nth (T_it l k s0).2 num = -nI 6 := by unfold Nth; rw [List.getElem?_eq_none (by omega)]
        rw [e2]
        refine ⟨g, ?_, TT_rfl⟩
        simp (disch := first | with_reducible assumption | omega | (simp only [MI_sai_iff, MI_sfi_iff]; with_reducible assumption)) only [li, ↓lr_, ↓bd_m, ↓oc_m, ↓reduceIte, bi_0, bi_0n, bi_1, bi_1n, not_true_eq_false, not_false_eq_true, Nat.reduceAdd, Nat.reduceMul, nI_mul, nI_add, inb_T, ix_nI, le_T, le_F, lt_T, lt_F, eq_F, Nat.le_refl, f8_jobFinishedAs_b51, n268]
      · obtain ⟨g1, a1, a2, a3⟩ := x_passTick h3 hk (by omega)
        have e0 : T_tick l (T_it l k s0) = T_it l (k + 1) s0 := rfl
        rw [e0] at a3
        obtain ⟨hk1, ht1⟩ := PI_it h0 (k + 1)
        obtain ⟨q, g2, b1, b2, b3, b4, b5⟩ := x_skip (M := L - (k + 1)) (F := (T_it l (k + 1) s0).2) a3 hk1 (NoP_tick hk) (by omega)
        have b4' : SpO g2 S (T_it l (k + 1 + q) s0).1 l (T_it l (k + 1 + q) s0).2 := by
          have w1 : (T_it l (k + 1 + q) s0).1 = (T_it l q ((T_it l (k + 1) s0).1, (T_it l (k + 1) s0).2)).1 := by rw [T_it_add]
          have w2 : (T_it l (k + 1 + q) s0).2 = (T_it l (k + 1) s0).2 := by rw [T_it_add, show T_it l q (T_it l (k + 1) s0) = T_it l q ((T_it l (k + 1) s0).1, (T_it l (k + 1) s0).2) from rfl, b5 q (Nat.le_refl _)]
          rw [w1, w2]
          exact b4
        obtain ⟨g3, c1, c2⟩ := x_finLoop h0 hL hn hnum fuel (k + 1 + q) g2 (by omega) (by omega) b4'
        refine ⟨g3, ?_, TT_tr a2 (TT_tr b3 c2)⟩
        have e5 : nI L - nI (k + 1) = nI (L - (k + 1)) := nI_sub (by omega)
        simp (disch := first | with_reducible assumption | omega | (simp only [MI_sai_iff, MI_sfi_iff]; with_reducible assumption)) only [li, ↓lr_, ↓bd_m, ↓oc_m, ↓reduceIte, bi_0, bi_0n, bi_1, bi_1n, not_true_eq_false, not_false_eq_true, Nat.reduceAdd, Nat.reduceMul, nI_mul, nI_add, inb_T, ix_nI, le_T, le_F, lt_T, lt_F, eq_F, n268, a1, e5, b1, c1]
