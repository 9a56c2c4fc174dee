/-! the class's tick is the pure one -/
theorem nodup_len : ∀ (n : Nat) (L : List Nat), L.Nodup → (∀ x, x ∈ L → x < n) → L.length ≤ n
  | 0, L, _, h2 => by
    cases L with
    | nil => exact Nat.le_refl _
    | cons x L => exact absurd (h2 x (List.mem_cons_self)) (by omega)
  | n + 1, L, h1, h2 => by
    by_cases h : n ∈ L
    · have h3 := nodup_len n (L.erase n) (h1.erase n) (fun x hx => by
        have h4 := (List.Nodup.mem_erase_iff h1).mp hx
        have := h2 x h4.2
        have := h4.1
        omega)
      rw [List.length_erase_of_mem h] at h3
      omega
    · have h3 := nodup_len n L h1 (fun x hx => by
        have := h2 x hx
        have : x ≠ n := fun e => h (e ▸ hx)
        omega)
      omega
/-- the finished jobs are those that are done -/
def DN (a : Nat → Int32) (F : List Nat) : Prop := F.Nodup ∧ ∀ x, x ∈ F ↔ x < tn (a 4) ∧ a (106 + 13 * x + 9) = nI 3
theorem DN_len {a : Nat → Int32} {F : List Nat} (h : DN a F) (h4 : tn (a 4) ≤ 24) : F.length ≤ 24 := nodup_len 24 F h.1 (fun x hx => by have := ((h.2 x).mp hx).1; omega)
theorem DN_lt {a : Nat → Int32} {F : List Nat} {j : Nat} (h : DN a F) (h4 : tn (a 4) ≤ 24) (hj : j < tn (a 4)) (hn : a (106 + 13 * j + 9) ≠ nI 3) : F.length < 24 := by
  have hm : j ∉ F := fun q => hn ((h.2 j).mp q).2
  have := nodup_len 24 (j :: F) (List.nodup_cons.mpr ⟨hm, h.1⟩) (fun x hx => by
    rcases List.mem_cons.mp hx with e | e
    · omega
    · have := ((h.2 x).mp e).1; omega)
  simp at this
  omega
theorem DN_same {a b : Nat → Int32} {F : List Nat} (e4 : b 4 = a 4) (e : ∀ x, x < tn (a 4) → b (106 + 13 * x + 9) = a (106 + 13 * x + 9)) (h : DN a F) : DN b F := by
  refine ⟨h.1, fun x => ?_⟩
  rw [h.2 x, e4]
  constructor
  · intro q; exact ⟨q.1, by rw [e x q.1]; exact q.2⟩
  · intro q; exact ⟨q.1, by rw [← e x q.1]; exact q.2⟩
theorem DN_of {a b : Nat → Int32} {F : List Nat} {j : Nat} (e4 : b 4 = a 4) (hj : j < tn (a 4)) (e : ∀ x, x < tn (a 4) → x ≠ j → b (106 + 13 * x + 9) = a (106 + 13 * x + 9)) (h1 : a (106 + 13 * j + 9) ≠ nI 3) (h2 : b (106 + 13 * j + 9) ≠ nI 3) (h : DN a F) : DN b F := by
  refine ⟨h.1, fun x => ?_⟩
  rw [h.2 x, e4]
  by_cases c : x = j
  · subst c
    exact ⟨fun q => absurd q.2 h1, fun q => absurd q.2 h2⟩
  · constructor
    · intro q; exact ⟨q.1, by rw [e x q.1 c]; exact q.2⟩
    · intro q; exact ⟨q.1, by rw [← e x q.1 c]; exact q.2⟩
theorem DN_add {a b : Nat → Int32} {F : List Nat} {j : Nat} (e4 : b 4 = a 4) (hj : j < tn (a 4)) (e : ∀ x, x < tn (a 4) → x ≠ j → b (106 + 13 * x + 9) = a (106 + 13 * x + 9)) (h1 : a (106 + 13 * j + 9) ≠ nI 3) (h2 : b (106 + 13 * j + 9) = nI 3) (h : DN a F) : DN b (F ++ [j]) := by
  have hm : j ∉ F := fun q => h1 ((h.2 j).mp q).2
  refine ⟨?_, fun x => ?_⟩
  · rw [List.nodup_append]
    refine ⟨h.1, by simp, ?_⟩
    intro y hy z hz
    simp at hz
    subst hz
    intro w
    subst w
    exact hm hy
  · rw [e4, List.mem_append, List.mem_singleton]
    by_cases c : x = j
    · subst c
      exact ⟨fun _ => ⟨hj, h2⟩, fun _ => Or.inr rfl⟩
    · rw [h.2 x]
      constructor
      · rintro (q | q)
        · exact ⟨q.1, by rw [e x q.1 c]; exact q.2⟩
        · exact absurd q c
      · intro q; exact Or.inl ⟨q.1, by rw [← e x q.1 c]; exact q.2⟩
theorem ne13 {x : Int32} (h : x = nI 0 ∨ x = nI 1 ∨ x = nI 2 ∨ x = nI 4) : x ≠ nI 3 := by
  rcases h with rfl | rfl | rfl | rfl <;> decide
theorem end_DN {a l : Nat → Int32} {F : List Nat} {j p : Nat} (h0 : Iv0 a l) (hE : PE a j p) (hN : DN a F) : DN (T_end (a, F) l j p).1 (T_end (a, F) l j p).2 := by
  have hs := sta_end (F := F) h0 hE.1 hE.2.1
  obtain ⟨hj, hp, hJS, hPS, hTr, hUq, h6, h7, h9⟩ := hE
  have hnj := Iv0_j h0
  have hnp := Iv0_p h0
  have hJ := h0.2.2.2.2.2.1 j hj
  have hu : jN a j 5 < 6 := (vl_nI hJ.2.2.2.2.2.2.1).2
  have hDoc := Iv0_dj h0 hj
  have hz : dN a (jN a j 6) 1 < 3 := (vl_nI hDoc.1.2.2.1).2
  have h1 : a (106 + 13 * j + 9) ≠ nI 3 := ne13 (Or.inr (Or.inl h9))
  have rne : ∀ x, x < 24 → T_rec a j p (106 + 13 * x + 9) = a (106 + 13 * x + 9) := fun x hx => rec_ne hu (by omega) (by omega) (by omega) (by omega)
  have r12 : T_rec a j p (106 + 13 * j + 12) = a (106 + 13 * j + 12) := rec_ne hu (by omega) (by omega) (by omega) (by omega)
  have rz : dN (T_rec a j p) (jN (T_rec a j p) j 6) 1 < 3 := by
    have s1 : sta a (T_rec a j p) := sta_rec (by omega) hu
    rw [sta_jN s1 (by omega) (by omega), sta_dN s1 hDoc.2 (by omega)]; exact hz
  have hrq := (hJS j hj).2.2.2.2
  have e4 : (T_end (a, F) l j p).1 4 = a 4 := sta_sc hs (by omega)
  have hj24 : j < 24 := by omega
  have hp3 : p < 3 := by omega
  show DN (T_end2 (T_rec a j p) l F j p).1 (T_end2 (T_rec a j p) l F j p).2
  have e4' : (T_end2 (T_rec a j p) l F j p).1 4 = a 4 := e4
  unfold T_end2 at e4' ⊢
  by_cases c1 : T_rec a j p (106 + 13 * j + 10) = T_rec a j p (106 + 13 * j + 8)
  · rw [if_pos c1] at e4' ⊢
    refine DN_add e4' hj (fun x hx hne => ?_) h1 ?_ hN
    · dsimp only
      rw [up_ne (by omega), up_ne (by omega), up_ne (by omega), rne x (by omega)]
    · dsimp only
      rw [up_ne (by omega), up_ne (by omega), up_eq rfl]
  · rw [if_neg c1] at e4' ⊢
    have wait : DN (up (T_wait (T_rec a j p) j) (76 + 10 * p + 6) (nI 0)) F := by
      refine DN_of (j := j) ?_ hj (fun x hx hne => ?_) h1 ?_ hN
      · unfold T_wait
        rw [up_ne (by omega), up_ne (by omega), up_ne (by omega)]
        exact rec_ne hu (by omega) (by omega) (by omega) (by omega)
      · unfold T_wait
        rw [up_ne (by omega), up_ne (by omega), up_ne (by omega), rne x (by omega)]
      · unfold T_wait
        rw [up_ne (by omega), up_ne (by omega), up_eq rfl]
        exact ne13 (Or.inl rfl)
    by_cases c2 : T_rec a j p (106 + 13 * j + 12) = nI 0
    · rw [if_pos c2] at e4' ⊢
      split
      · exact wait
      · split
        · exact wait
        · obtain ⟨z, hz3, ez⟩ := trk_eq (p := p) rz
          refine DN_same ?_ (fun x hx => ?_) hN
          · unfold T_begin
            rw [ez]
            dsimp only
            rw [up_ne (by omega), up_ne (by omega)]
            exact rec_ne hu (by omega) (by omega) (by omega) (by omega)
          · unfold T_begin
            rw [ez]
            dsimp only
            rw [up_ne (by omega), up_ne (by omega), rne x (by omega)]
    · rw [if_neg c2] at e4' ⊢
      refine DN_of (j := j) e4' hj (fun x hx hne => ?_) h1 ?_ hN
      · unfold T_leave
        rw [if_neg c2]
        dsimp only
        rw [up_ne (by omega), up_ne (by omega), up_ne (by omega), rne x (by omega)]
      · unfold T_leave
        rw [if_neg c2]
        dsimp only
        rw [up_ne (by omega), up_ne (by omega), up_eq rfl, r12]
        rw [r12] at c2
        rcases hrq with q | ⟨q | q, -⟩
        · exact absurd q c2
        · exact ne13 (Or.inr (Or.inr (Or.inl q)))
        · exact ne13 (Or.inr (Or.inr (Or.inr q)))
theorem p1_DN {a l : Nat → Int32} {F : List Nat} {p : Nat} (h0 : Iv0 a l) (hI : Ivd a) (hN : DN a F) (hp : p < tn (a 5)) : DN (T_p1 l (a, F) p).1 (T_p1 l (a, F) p).2 := by
  have hnp := Iv0_p h0
  have hnj := Iv0_j h0
  unfold T_p1
  by_cases hw : a (76 + 10 * p + 6) = nI 1
  · obtain ⟨j, L, hj, h7, h9, h8, hL, hup, hE, hne⟩ := p1_start h0 hI hp hw
    have hs : sta a (up a (76 + 10 * p + 8) (nI L)) := sta_up (dyn_p (by omega) (by omega) (by omega))
    have hN1 : DN (up a (76 + 10 * p + 8) (nI L)) F := DN_same (up_ne (by omega)) (fun x hx => up_ne (by omega)) hN
    rw [if_pos hw]
    dsimp only
    rw [hup]
    unfold T_p1b
    rw [up_eq rfl]
    by_cases hz : L = 0
    · subst hz
      rw [if_pos rfl]
      have e7 : pN (up a (76 + 10 * p + 8) (nI 0)) p 7 = j := by unfold pN; rw [up_ne (by omega), h7, tn_nI (by omega)]
      rw [e7]
      exact end_DN (Iv0_sta hs h0) hE hN1
    · rw [if_neg (by rw [eq_nI (by omega) (by omega)]; exact hz)]
      exact hN1
  · rw [if_neg hw]
    exact hN
theorem p2_DN {a l : Nat → Int32} {F : List Nat} {p : Nat} (h0 : Iv0 a l) (hN : DN a F) (hp : p < tn (a 5)) : DN (T_p2 l (a, F) p).1 (T_p2 l (a, F) p).2 := by
  have hnp := Iv0_p h0
  have hnj := Iv0_j h0
  unfold T_p2
  by_cases hc : a (76 + 10 * p + 6) = nI 0 ∧ (sBF a p).isSome
  · obtain ⟨b, hb⟩ := Option.isSome_iff_exists.mp hc.2
    obtain ⟨hbl, hpr⟩ := sBF_some hb
    rw [if_pos hc]
    dsimp only
    rw [hb]
    show DN (T_go a l b p) F
    have hDoc := Iv0_dj h0 hbl
    have hz : dN a (jN a b 6) 1 < 3 := (vl_nI hDoc.1.2.2.1).2
    rw [T_go_eq (by omega) (by omega) hDoc.2 hz]
    refine DN_of (j := b) ?_ hbl (fun x hx hne => ?_) (ne13 (Or.inl hpr.2.1)) ?_ hN
    · simp (disch := first | assumption | omega) only [up_ne]
    · simp (disch := first | assumption | omega) only [up_ne]
    · rw [up_eq rfl]
      exact ne13 (Or.inr (Or.inl rfl))
  · rw [if_neg hc]
    exact hN
/-- all that is known of the pure state -/
def PI (l : Nat → Int32) (s : TS) (n : Nat) : Prop := Iv0 s.1 l ∧ Ivd s.1 ∧ DN s.1 s.2 ∧ Lg s.1 n
theorem PI_p1 {l : Nat → Int32} {s : TS} {n p : Nat} (h : PI l s n) (hp : p < tn (s.1 5)) : PI l (T_p1 l s p) (n + 1) ∧ sta s.1 (T_p1 l s p).1 := by
  obtain ⟨h1, h2, h3, h4⟩ := h
  obtain ⟨i1, i2⟩ := p1_Ivd (F := s.2) h1 h2 hp
  exact ⟨⟨Iv0_sta i2 h1, i1, p1_DN h1 h2 h3 hp, p1_Lg (F := s.2) h4⟩, i2⟩
theorem PI_p2 {l : Nat → Int32} {s : TS} {n p : Nat} (h : PI l s n) (hp : p < tn (s.1 5)) : PI l (T_p2 l s p) n ∧ sta s.1 (T_p2 l s p).1 := by
  obtain ⟨h1, h2, h3, h4⟩ := h
  obtain ⟨i1, i2⟩ := p2_Ivd (F := s.2) h1 h2 hp
  exact ⟨⟨Iv0_sta i2 h1, i1, p2_DN h1 h3 hp, p2_Lg (F := s.2) h4⟩, i2⟩
theorem PI_time {l : Nat → Int32} {s : TS} {n : Nat} (h : PI l s n) : PI l (T_time s) n ∧ sta s.1 (T_time s).1 := by
  obtain ⟨h1, h2, h3, h4⟩ := h
  obtain ⟨t1, t2, t3⟩ := time_inv h1 h2
  refine ⟨⟨t1, t2, DN_same (sta_sc t3 (by omega)) (fun x hx => ?_) h3, Lg_eq h4 (show up s.1 0 (s.1 0 + nI 1) 6 = s.1 6 from up_ne (by omega))⟩, t3⟩
  exact (show up s.1 0 (s.1 0 + nI 1) (106 + 13 * x + 9) = s.1 (106 + 13 * x + 9) from up_ne (by omega))
theorem PI_ph1 {l : Nat → Int32} {s : TS} {n : Nat} (h : PI l s n) : ∀ k, k ≤ tn (s.1 5) → PI l (T_ph (T_p1 l) k s) (n + k) ∧ sta s.1 (T_ph (T_p1 l) k s).1
  | 0, _ => ⟨h, sta_rfl⟩
  | k + 1, hk => by
    obtain ⟨i1, i2⟩ := PI_ph1 h k (by omega)
    have e5 : (T_ph (T_p1 l) k s).1 5 = s.1 5 := sta_sc i2 (by omega)
    obtain ⟨j1, j2⟩ := PI_p1 i1 (p := k) (by rw [e5]; omega)
    rw [T_ph_s]
    exact ⟨j1, sta_tr i2 j2⟩
theorem PI_ph2 {l : Nat → Int32} {s : TS} {n : Nat} (h : PI l s n) : ∀ k, k ≤ tn (s.1 5) → PI l (T_ph (T_p2 l) k s) n ∧ sta s.1 (T_ph (T_p2 l) k s).1
  | 0, _ => ⟨h, sta_rfl⟩
  | k + 1, hk => by
    obtain ⟨i1, i2⟩ := PI_ph2 h k (by omega)
    have e5 : (T_ph (T_p2 l) k s).1 5 = s.1 5 := sta_sc i2 (by omega)
    obtain ⟨j1, j2⟩ := PI_p2 i1 (p := k) (by rw [e5]; omega)
    rw [T_ph_s]
    exact ⟨j1, sta_tr i2 j2⟩
theorem PI_tick {l : Nat → Int32} {s : TS} {n : Nat} (h : PI l s n) : PI l (T_tick l s) (n + 3) ∧ sta s.1 (T_tick l s).1 := by
  obtain ⟨t1, t2⟩ := PI_time h
  have e5 : (T_time s).1 5 = s.1 5 := sta_sc t2 (by omega)
  obtain ⟨u1, u2⟩ := PI_ph1 t1 (tn (s.1 5)) (by rw [e5]; omega)
  have e6 : (T_ph (T_p1 l) (tn (s.1 5)) (T_time s)).1 5 = s.1 5 := (sta_sc u2 (by omega)).trans e5
  obtain ⟨v1, v2⟩ := PI_ph2 u1 (tn (s.1 5)) (by rw [e6]; omega)
  have h5 := Iv0_p h.1
  obtain ⟨w1, w2, w3, m, w4, w5⟩ := v1
  exact ⟨⟨w1, w2, w3, m, w4, by omega⟩, sta_tr t2 (sta_tr u2 v2)⟩
theorem SpO_TT {g g' : GS_} {S : Nat} {s s' : TS} {l : Nat → Int32} (h : SpO g S s.1 l s.2) (ht : TT S g g') (hs : sta s.1 s'.1) (hD : XD g' S s'.1 s'.2) : SpO g' S s'.1 l s'.2 := SpO_step h ht hs (sta_sc hs (by omega)) hD
theorem x_ph1 {S : Nat} {l : Nat → Int32} {s0 : TS} {n : Nat} (h0 : PI l s0 n) (hn : n < 10000000) : ∀ (fuel k : Nat) (g : GS_), k ≤ tn (s0.1 5) → tn (s0.1 5) - k < fuel → SpO g S (T_ph (T_p1 l) k s0).1 l (T_ph (T_p1 l) k s0).2 →
    ∃ g', f8_passTick_b12 fuel S (nI k) g = f8_passTick_b69 FU_ S (nI 0) g' ∧ TT S g g' ∧ SpO g' S (T_ph (T_p1 l) (tn (s0.1 5)) s0).1 l (T_ph (T_p1 l) (tn (s0.1 5)) s0).2
  | 0, k, g, hk, hf, hT => by omega
  | fuel + 1, k, g, hk, hf, hT => by
    have h5 := Iv0_p h0.1
    obtain ⟨i1, i2⟩ := PI_ph1 h0 k hk
    have e5 : (T_ph (T_p1 l) k s0).1 5 = s0.1 5 := sta_sc i2 (by omega)
    obtain ⟨n5, n5'⟩ := SpO_n5 hT
    rw [e5] at n5
    by_cases he : k = tn (s0.1 5)
    · subst he
      refine ⟨g, ?_, TT_rfl, hT⟩
      rw [f8_passTick_b12.eq_2]
      simp (disch := first | with_reducible assumption | omega | (simp only [MI_sai_iff, MI_sfi_iff]; with_reducible assumption)) only [li, ↓lr_, ↓bd_m, ↓oc_m, ↓reduceIte, bi_0, bi_0n, bi_1, bi_1n, not_true_eq_false, not_false_eq_true, Nat.reduceAdd, Nat.reduceMul, nI_mul, nI_add, inb_T, ix_nI, le_T, le_F, lt_T, lt_F, eq_F, n5]
    · have hkl : k < tn (s0.1 5) := by omega
      have nx : ∀ g1, TT S g g1 → XD g1 S (T_p1 l (T_ph (T_p1 l) k s0) k).1 (T_p1 l (T_ph (T_p1 l) k s0) k).2 → f8_passTick_b12 (fuel + 1) S (nI k) g = f8_passTick_b12 fuel S (nI (k + 1)) g1 →
          ∃ g', f8_passTick_b12 (fuel + 1) S (nI k) g = f8_passTick_b69 FU_ S (nI 0) g' ∧ TT S g g' ∧ SpO g' S (T_ph (T_p1 l) (tn (s0.1 5)) s0).1 l (T_ph (T_p1 l) (tn (s0.1 5)) s0).2 := by
        intro g1 q1 q2 q3
        obtain ⟨-, j2⟩ := PI_p1 i1 (p := k) (by rw [e5]; exact hkl)
        obtain ⟨g', r1, r2, r3⟩ := x_ph1 (S := S) h0 hn fuel (k + 1) g1 (by omega) (by omega) (by rw [T_ph_s]; exact SpO_TT hT q1 j2 q2)
        exact ⟨g', q3.trans r1, TT_tr q1 r2, r3⟩
      generalize T_ph (T_p1 l) k s0 = s at *
      obtain ⟨a, F⟩ := s
      dsimp only at *
      have hp : k < tn (a 5) := by rw [e5]; exact hkl
      obtain ⟨p1, p2, p3, p4⟩ := i1
      dsimp only at p1 p2 p3 p4
      have hX := hT.2.1
      have hD := hT.2.2.2.2
      have e1 := x_printerAt hX n5 h5 (nI k)
      rw [if_pos (vl_of hkl (by omega)), tn_nI (by omega)] at e1
      have n164 : gfi g 164 (3 * S + k) = a (76 + 10 * k + 6) := (hD.2.1 k hp).2.1
      by_cases hw : a (76 + 10 * k + 6) = nI 1
      · obtain ⟨j, L, hj, h7, h9, h8, hL2, hup, hE, hne⟩ := p1_start p1 p2 hp hw
        have hj24 : j < 24 := by have := Iv0_j p1; omega
        have n166 : gfi g 166 (3 * S + k) = nI (L + 1) := ((hD.2.1 k hp).2.2.1 hw).2.trans h8
        have esub : nI (L + 1) - nI 1 = nI L := nI_sub (by omega)
        have D1 := XD_p166 (Iv0_j p1) (Iv0_p p1) hp (nI L) hD
        have T1 : TT S g (sfi g 166 (3 * S + k) (nI L)) := TT_sfi (oT_p (by omega) (by omega) (by omega))
        have eT : T_p1 l (a, F) k = T_p1b (up a (76 + 10 * k + 8) (nI L)) l F k := by
          unfold T_p1
          rw [if_pos hw, hup]
        have s1 : sta a (up a (76 + 10 * k + 8) (nI L)) := sta_up (dyn_p (by omega) (by omega) (by omega))
        by_cases hz : L = 0
        · subst hz
          have hS1 := SpO_step hT T1 s1 (sta_sc s1 (by omega)) D1
          obtain ⟨m, hm1, hm2⟩ := p4
          have hlt := DN_lt p3 (Iv0_j p1) hj (ne13 (Or.inr (Or.inl h9)))
          obtain ⟨g1, f1, f2, f3⟩ := x_endSheet hS1 hE (m := m) (by rw [up_ne (by omega)]; exact hm1) (by omega) hlt
          have e7 : pN (up a (76 + 10 * k + 8) (nI 0)) k 7 = j := by unfold pN; rw [up_ne (by omega), h7, tn_nI (by omega)]
          have eT2 : T_p1 l (a, F) k = T_end (up a (76 + 10 * k + 8) (nI 0), F) l j k := by
            rw [eT]
            unfold T_p1b
            rw [if_pos (up_eq rfl), e7]
          refine nx g1 (TT_tr T1 f2) (by rw [eT2]; exact f3) ?_
          rw [f8_passTick_b12.eq_2]
          simp (disch := first | with_reducible assumption | omega | (simp only [MI_sai_iff, MI_sfi_iff]; with_reducible assumption)) only [li, ↓lr_, ↓bd_m, ↓oc_m, ↓reduceIte, bi_0, bi_0n, bi_1, bi_1n, not_true_eq_false, not_false_eq_true, Nat.reduceAdd, Nat.reduceMul, nI_mul, nI_add, inb_T, ix_nI, le_T, le_F, lt_T, lt_F, eq_F, n5, e1, n164, hw, n166, esub, e_gfi_sfi, and_self, f1, f8_passTick_b61]
        · have eT2 : T_p1 l (a, F) k = (up a (76 + 10 * k + 8) (nI L), F) := by
            rw [eT]
            unfold T_p1b
            rw [if_neg (by rw [up_eq rfl, eq_nI (by omega) (by omega)]; exact hz)]
          refine nx _ T1 (by rw [eT2]; exact D1) ?_
          rw [f8_passTick_b12.eq_2]
          simp (disch := first | with_reducible assumption | omega | (simp only [MI_sai_iff, MI_sfi_iff]; with_reducible assumption)) only [li, ↓lr_, ↓bd_m, ↓oc_m, ↓reduceIte, bi_0, bi_0n, bi_1, bi_1n, not_true_eq_false, not_false_eq_true, Nat.reduceAdd, Nat.reduceMul, nI_mul, nI_add, inb_T, ix_nI, le_T, le_F, lt_T, lt_F, eq_F, n5, e1, n164, hw, n166, esub, e_gfi_sfi, and_self, f8_passTick_b61]
      · have eT2 : T_p1 l (a, F) k = (a, F) := by
          unfold T_p1
          rw [if_neg hw]
        refine nx g TT_rfl (by rw [eT2]; exact hD) ?_
        rw [f8_passTick_b12.eq_2]
        simp (disch := first | with_reducible assumption | omega | (simp only [MI_sai_iff, MI_sfi_iff]; with_reducible assumption)) only [li, ↓lr_, ↓bd_m, ↓oc_m, ↓reduceIte, bi_0, bi_0n, bi_1, bi_1n, not_true_eq_false, not_false_eq_true, Nat.reduceAdd, Nat.reduceMul, nI_mul, nI_add, inb_T, ix_nI, le_T, le_F, lt_T, lt_F, eq_F, n5, e1, n164, eq_false hw, f8_passTick_b61]
theorem x_ph2 {S : Nat} {l : Nat → Int32} {s0 : TS} {n : Nat} (h0 : PI l s0 n) : ∀ (fuel k : Nat) (g : GS_), k ≤ tn (s0.1 5) → tn (s0.1 5) - k < fuel → SpO g S (T_ph (T_p2 l) k s0).1 l (T_ph (T_p2 l) k s0).2 →
    ∃ g', f8_passTick_b69 fuel S (nI k) g = some ((), g') ∧ TT S g g' ∧ SpO g' S (T_ph (T_p2 l) (tn (s0.1 5)) s0).1 l (T_ph (T_p2 l) (tn (s0.1 5)) s0).2
  | 0, k, g, hk, hf, hT => by omega
  | fuel + 1, k, g, hk, hf, hT => by
    have h5 := Iv0_p h0.1
    obtain ⟨i1, i2⟩ := PI_ph2 h0 k hk
    have e5 : (T_ph (T_p2 l) k s0).1 5 = s0.1 5 := sta_sc i2 (by omega)
    obtain ⟨n5, n5'⟩ := SpO_n5 hT
    rw [e5] at n5
    by_cases he : k = tn (s0.1 5)
    · subst he
      refine ⟨g, ?_, TT_rfl, hT⟩
      rw [f8_passTick_b69.eq_2]
      simp (disch := first | with_reducible assumption | omega | (simp only [MI_sai_iff, MI_sfi_iff]; with_reducible assumption)) only [li, ↓lr_, ↓bd_m, ↓oc_m, ↓reduceIte, bi_0, bi_0n, bi_1, bi_1n, not_true_eq_false, not_false_eq_true, Nat.reduceAdd, Nat.reduceMul, nI_mul, nI_add, inb_T, ix_nI, le_T, le_F, lt_T, lt_F, eq_F, n5]
    · have hkl : k < tn (s0.1 5) := by omega
      have nx : ∀ g1, TT S g g1 → XD g1 S (T_p2 l (T_ph (T_p2 l) k s0) k).1 (T_p2 l (T_ph (T_p2 l) k s0) k).2 → f8_passTick_b69 (fuel + 1) S (nI k) g = f8_passTick_b69 fuel S (nI (k + 1)) g1 →
          ∃ g', f8_passTick_b69 (fuel + 1) S (nI k) g = some ((), g') ∧ TT S g g' ∧ SpO g' S (T_ph (T_p2 l) (tn (s0.1 5)) s0).1 l (T_ph (T_p2 l) (tn (s0.1 5)) s0).2 := by
        intro g1 q1 q2 q3
        obtain ⟨-, j2⟩ := PI_p2 i1 (p := k) (by rw [e5]; exact hkl)
        obtain ⟨g', r1, r2, r3⟩ := x_ph2 (S := S) h0 fuel (k + 1) g1 (by omega) (by omega) (by rw [T_ph_s]; exact SpO_TT hT q1 j2 q2)
        exact ⟨g', q3.trans r1, TT_tr q1 r2, r3⟩
      generalize T_ph (T_p2 l) k s0 = s at *
      obtain ⟨a, F⟩ := s
      dsimp only at *
      have hp : k < tn (a 5) := by rw [e5]; exact hkl
      obtain ⟨p1, p2, p3, p4⟩ := i1
      dsimp only at p1 p2 p3 p4
      have hX := hT.2.1
      have hD := hT.2.2.2.2
      have e1 := x_printerAt hX n5 h5 (nI k)
      rw [if_pos (vl_of hkl (by omega)), tn_nI (by omega)] at e1
      have n164 : gfi g 164 (3 * S + k) = a (76 + 10 * k + 6) := (hD.2.1 k hp).2.1
      have e3 := x_bestFor hT hp
      by_cases hw : a (76 + 10 * k + 6) = nI 0
      · cases hbf : sBF a k with
        | none =>
          rw [hbf] at e3
          have eT2 : T_p2 l (a, F) k = (a, F) := by
            unfold T_p2
            dsimp only
            rw [hbf, if_neg (by simp)]
          refine nx g TT_rfl (by rw [eT2]; exact hD) ?_
          rw [f8_passTick_b69.eq_2]
          simp (disch := first | with_reducible assumption | omega | (simp only [MI_sai_iff, MI_sfi_iff]; with_reducible assumption)) only [li, ↓lr_, ↓bd_m, ↓oc_m, ↓reduceIte, bi_0, bi_0n, bi_1, bi_1n, not_true_eq_false, not_false_eq_true, Nat.reduceAdd, Nat.reduceMul, nI_mul, nI_add, inb_T, ix_nI, le_T, le_F, lt_T, lt_F, eq_F, n5, e1, n164, hw, e3, jr, f8_passTick_b110]
        | some j =>
          rw [hbf] at e3
          obtain ⟨hj, hpr⟩ := sBF_some hbf
          obtain ⟨J, Q, q1, -⟩ := hT.2.2.2.1.2.2.2.2.1 j hj
          have hS := p2.1 j hj
          have hx := vl_nI hS.2.2.1
          have hb9 : a (106 + 13 * j + 9) = nI 0 := hpr.2.1
          have hxl : jN a j 10 < sSH a j := hS.2.2.2.1 (by rw [hb9, ne_eq, eq_nI (by omega) (by omega)]; omega)
          have hSH := SH_le (p1.2.2.2.2.2.1 j hj)
          obtain ⟨g1, f1, f2, f3⟩ := x_beginSheet hT hj hp q1 (by rw [hx.1]; exact vl_of hxl (by omega))
          have eT2 : T_p2 l (a, F) k = (T_go a l j k, F) := by
            unfold T_p2
            dsimp only
            rw [hbf, if_pos ⟨hw, rfl⟩]
            rfl
          have ej : jr g S (some j) = some J := q1
          refine nx g1 f2 (by rw [eT2]; exact f3) ?_
          rw [f8_passTick_b69.eq_2]
          simp (disch := first | with_reducible assumption | omega | (simp only [MI_sai_iff, MI_sfi_iff]; with_reducible assumption)) only [li, ↓lr_, ↓bd_m, ↓oc_m, ↓reduceIte, bi_0, bi_0n, bi_1, bi_1n, not_true_eq_false, not_false_eq_true, Nat.reduceAdd, Nat.reduceMul, nI_mul, nI_add, inb_T, ix_nI, le_T, le_F, lt_T, lt_F, eq_F, n5, e1, n164, hw, e3, ej, f1, f8_passTick_b110]
      · have eT2 : T_p2 l (a, F) k = (a, F) := by
          unfold T_p2
          rw [if_neg (fun q => hw q.1)]
        refine nx g TT_rfl (by rw [eT2]; exact hD) ?_
        rw [f8_passTick_b69.eq_2]
        simp (disch := first | with_reducible assumption | omega | (simp only [MI_sai_iff, MI_sfi_iff]; with_reducible assumption)) only [li, ↓lr_, ↓bd_m, ↓oc_m, ↓reduceIte, bi_0, bi_0n, bi_1, bi_1n, not_true_eq_false, not_false_eq_true, Nat.reduceAdd, Nat.reduceMul, nI_mul, nI_add, inb_T, ix_nI, le_T, le_F, lt_T, lt_F, eq_F, n5, e1, n164, eq_false hw, f8_passTick_b110]
theorem x_passTick {g : GS_} {S : Nat} {l : Nat → Int32} {s : TS} {n : Nat} (h : SpO g S s.1 l s.2) (hP : PI l s n) (hn : n < 10000000) :
    ∃ g', f8_passTick S g = some ((), g') ∧ TT S g g' ∧ SpO g' S (T_tick l s).1 l (T_tick l s).2 := by
  obtain ⟨t1, t2⟩ := PI_time hP
  have h5 := Iv0_p hP.1
  have hD := h.2.2.2.2
  have n271 : gfi g 271 S = s.1 0 := hD.2.2.2.2.1
  have D1 := XD_time (Iv0_j hP.1) h5 (s.1 0 + nI 1) hD
  have T1 : TT S g (sfi g 271 S (s.1 0 + nI 1)) := TT_sfi (oT_s (by omega))
  have S1 : SpO (sfi g 271 S (s.1 0 + nI 1)) S (T_time s).1 l (T_time s).2 := SpO_TT h T1 t2 D1
  have e5 : (T_time s).1 5 = s.1 5 := sta_sc t2 (by omega)
  obtain ⟨g1, a1, a2, a3⟩ := x_ph1 (S := S) t1 hn FU_ 0 _ (by omega) (by rw [e5]; unfold FU_; omega) S1
  obtain ⟨u1, u2⟩ := PI_ph1 t1 (tn (s.1 5)) (by rw [e5]; omega)
  rw [e5] at a3
  have e6 : (T_ph (T_p1 l) (tn (s.1 5)) (T_time s)).1 5 = s.1 5 := (sta_sc u2 (by omega)).trans e5
  obtain ⟨g2, b1, b2, b3⟩ := x_ph2 (S := S) u1 FU_ 0 g1 (by omega) (by rw [e6]; unfold FU_; omega) a3
  rw [e6] at b3
  refine ⟨g2, ?_, TT_tr T1 (TT_tr a2 b2), b3⟩
  simp (disch := first | with_reducible assumption | omega | (simp only [MI_sai_iff, MI_sfi_iff]; with_reducible assumption)) only [li, ↓lr_, ↓bd_m, ↓oc_m, ↓reduceIte, bi_0, bi_0n, bi_1, bi_1n, not_true_eq_false, not_false_eq_true, Nat.reduceAdd, Nat.reduceMul, nI_mul, nI_add, inb_T, ix_nI, le_T, le_F, lt_T, lt_F, eq_F, f8_passTick, n271, a1, b1]
