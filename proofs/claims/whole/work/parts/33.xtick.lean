/-! the class's tick is the pure one -/
theorem nodup_len : ∀ (n : Nat) (L : List Nat), L.Nodup → (∀ x, x ∈ L → x < n) → L.length ≤ n
  | 0, L, _, h2 => by
    cases L with
    | nil => exact Nat.le_refl _
    | cons x L => exact absurd (h2 x (List.mem_cons_self)) (by omega)
  | n + 1, L, h1, h2 => by
    by_cases h : n ∈ L
    · have h3 := nodup_len n (L.erase n) (h1.erase n) (fun x hx => by
        have h4 := (List.Nodup.mem_erase_iff h1).mp hx
        have := h2 x h4.2
        have := h4.1
        omega)
      rw [List.length_erase_of_mem h] at h3
      omega
    · have h3 := nodup_len n L h1 (fun x hx => by
        have := h2 x hx
        have : x ≠ n := fun e => h (e ▸ hx)
        omega)
      omega
/-- the finished jobs are those that are done -/
def DN (a : Nat → Int32) (F : List Nat) : Prop := F.Nodup ∧ ∀ x, x ∈ F ↔ x < tn (a 4) ∧ a (106 + 13 * x + 9) = nI 3
theorem DN_len {a : Nat → Int32} {F : List Nat} (h : DN a F) (h4 : tn (a 4) ≤ 24) : F.length ≤ 24 := nodup_len 24 F h.1 (fun x hx => by have := ((h.2 x).mp hx).1; omega)
theorem DN_lt {a : Nat → Int32} {F : List Nat} {j : Nat} (h : DN a F) (h4 : tn (a 4) ≤ 24) (hj : j < tn (a 4)) (hn : a (106 + 13 * j + 9) ≠ nI 3) : F.length < 24 := by
  have hm : j ∉ F := fun q => hn ((h.2 j).mp q).2
  have := nodup_len 24 (j :: F) (List.nodup_cons.mpr ⟨hm, h.1⟩) (fun x hx => by
    rcases List.mem_cons.mp hx with e | e
    · omega
    · have := ((h.2 x).mp e).1; omega)
  simp at this
  omega
theorem DN_same {a b : Nat → Int32} {F : List Nat} (e4 : b 4 = a 4) (e : ∀ x, x < tn (a 4) → b (106 + 13 * x + 9) = a (106 + 13 * x + 9)) (h : DN a F) : DN b F := by
  refine ⟨h.1, fun x => ?_⟩
  rw [h.2 x, e4]
  constructor
  · intro q; exact ⟨q.1, by rw [e x q.1]; exact q.2⟩
  · intro q; exact ⟨q.1, by rw [← e x q.1]; exact q.2⟩
theorem DN_of {a b : Nat → Int32} {F : List Nat} {j : Nat} (e4 : b 4 = a 4) (hj : j < tn (a 4)) (e : ∀ x, x < tn (a 4) → x ≠ j → b (106 + 13 * x + 9) = a (106 + 13 * x + 9)) (h1 : a (106 + 13 * j + 9) ≠ nI 3) (h2 : b (106 + 13 * j + 9) ≠ nI 3) (h : DN a F) : DN b F := by
  refine ⟨h.1, fun x => ?_⟩
  rw [h.2 x, e4]
  by_cases c : x = j
  · subst c
    exact ⟨fun q => absurd q.2 h1, fun q => absurd q.2 h2⟩
  · constructor
    · intro q; exact ⟨q.1, by rw [e x q.1 c]; exact q.2⟩
    · intro q; exact ⟨q.1, by rw [← e x q.1 c]; exact q.2⟩
theorem DN_add {a b : Nat → Int32} {F : List Nat} {j : Nat} (e4 : b 4 = a 4) (hj : j < tn (a 4)) (e : ∀ x, x < tn (a 4) → x ≠ j → b (106 + 13 * x + 9) = a (106 + 13 * x + 9)) (h1 : a (106 + 13 * j + 9) ≠ nI 3) (h2 : b (106 + 13 * j + 9) = nI 3) (h : DN a F) : DN b (F ++ [j]) := by
  have hm : j ∉ F := fun q => h1 ((h.2 j).mp q).2
  refine ⟨?_, fun x => ?_⟩
  · rw [List.nodup_append]
    refine ⟨h.1, by simp, ?_⟩
    intro y hy z hz
    simp at hz
    subst hz
    intro w
    subst w
    exact hm hy
  · rw [e4, List.mem_append, List.mem_singleton]
    by_cases c : x = j
    · subst c
      exact ⟨fun _ => ⟨hj, h2⟩, fun _ => Or.inr rfl⟩
    · rw [h.2 x]
      constructor
      · rintro (q | q)
        · exact ⟨q.1, by rw [e x q.1 c]; exact q.2⟩
        · exact absurd q c
      · intro q; exact Or.inl ⟨q.1, by rw [← e x q.1 c]; exact q.2⟩
theorem ne13 {x : Int32} (h : x = nI 0 ∨ x = nI 1 ∨ x = nI 2 ∨ x = nI 4) : x ≠ nI 3 := by
  rcases h with rfl | rfl | rfl | rfl <;> decide
theorem end_DN {a l : Nat → Int32} {F : List Nat} {j p : Nat} (h0 : Iv0 a l) (hE : PE a j p) (hN : DN a F) : DN (T_end (a, F) l j p).1 (T_end (a, F) l j p).2 := by
  have hs := sta_end (F := F) h0 hE.1 hE.2.1
  obtain ⟨hj, hp, hJS, hPS, hTr, hUq, h6, h7, h9⟩ := hE
  have hnj := Iv0_j h0
  have hnp := Iv0_p h0
  have hJ := h0.2.2.2.2.2.1 j hj
  have hu : jN a j 5 < 6 := (vl_nI hJ.2.2.2.2.2.2.1).2
  have hDoc := Iv0_dj h0 hj
  have hz : dN a (jN a j 6) 1 < 3 := (vl_nI hDoc.1.2.2.1).2
  have h1 : a (106 + 13 * j + 9) ≠ nI 3 := ne13 (Or.inr (Or.inl h9))
  have rne : ∀ x, x < 24 → T_rec a j p (106 + 13 * x + 9) = a (106 + 13 * x + 9) := fun x hx => rec_ne hu (by omega) (by omega) (by omega) (by omega)
  have r12 : T_rec a j p (106 + 13 * j + 12) = a (106 + 13 * j + 12) := rec_ne hu (by omega) (by omega) (by omega) (by omega)
  have rz : dN (T_rec a j p) (jN (T_rec a j p) j 6) 1 < 3 := by
    have s1 : sta a (T_rec a j p) := sta_rec (by omega) hu
    rw [sta_jN s1 (by omega) (by omega), sta_dN s1 hDoc.2 (by omega)]; exact hz
  have hrq := (hJS j hj).2.2.2.2
  have e4 : (T_end (a, F) l j p).1 4 = a 4 := sta_sc hs (by omega)
  have hj24 : j < 24 := by omega
  have hp3 : p < 3 := by omega
  show DN (T_end2 (T_rec a j p) l F j p).1 (T_end2 (T_rec a j p) l F j p).2
  have e4' : (T_end2 (T_rec a j p) l F j p).1 4 = a 4 := e4
  unfold T_end2 at e4' ⊢
  by_cases c1 : T_rec a j p (106 + 13 * j + 10) = T_rec a j p (106 + 13 * j + 8)
  · rw [if_pos c1] at e4' ⊢
    refine DN_add e4' hj (fun x hx hne => ?_) h1 ?_ hN
    · dsimp only
      rw [up_ne (by omega), up_ne (by omega), up_ne (by omega), rne x (by omega)]
    · dsimp only
      rw [up_ne (by omega), up_ne (by omega), up_eq rfl]
  · rw [if_neg c1] at e4' ⊢
    have wait : DN (up (T_wait (T_rec a j p) j) (76 + 10 * p + 6) (nI 0)) F := by
      refine DN_of (j := j) ?_ hj (fun x hx hne => ?_) h1 ?_ hN
      · unfold T_wait
        rw [up_ne (by omega), up_ne (by omega), up_ne (by omega)]
        exact rec_ne hu (by omega) (by omega) (by omega) (by omega)
      · unfold T_wait
        rw [up_ne (by omega), up_ne (by omega), up_ne (by omega), rne x (by omega)]
      · unfold T_wait
        rw [up_ne (by omega), up_ne (by omega), up_eq rfl]
        exact ne13 (Or.inl rfl)
    by_cases c2 : T_rec a j p (106 + 13 * j + 12) = nI 0
    · rw [if_pos c2] at e4' ⊢
      split
      · exact wait
      · split
        · exact wait
        · obtain ⟨z, hz3, ez⟩ := trk_eq (p := p) rz
          refine DN_same ?_ (fun x hx => ?_) hN
          · unfold T_begin
            rw [ez]
            dsimp only
            rw [up_ne (by omega), up_ne (by omega)]
            exact rec_ne hu (by omega) (by omega) (by omega) (by omega)
          · unfold T_begin
            rw [ez]
            dsimp only
            rw [up_ne (by omega), up_ne (by omega), rne x (by omega)]
    · rw [if_neg c2] at e4' ⊢
      refine DN_of (j := j) e4' hj (fun x hx hne => ?_) h1 ?_ hN
      · unfold T_leave
        rw [if_neg c2]
        dsimp only
        rw [up_ne (by omega), up_ne (by omega), up_ne (by omega), rne x (by omega)]
      · unfold T_leave
        rw [if_neg c2]
        dsimp only
        rw [up_ne (by omega), up_ne (by omega), up_eq rfl, r12]
        rw [r12] at c2
        rcases hrq with q | ⟨q | q, -⟩
        · exact absurd q c2
        · exact ne13 (Or.inr (Or.inr (Or.inl q)))
        · exact ne13 (Or.inr (Or.inr (Or.inr q)))
theorem p1_DN {a l : Nat → Int32} {F : List Nat} {p : Nat} (h0 : Iv0 a l) (hI : Ivd a) (hN : DN a F) (hp : p < tn (a 5)) : DN (T_p1 l (a, F) p).1 (T_p1 l (a, F) p).2 := by
  have hnp := Iv0_p h0
  have hnj := Iv0_j h0
  unfold T_p1
  by_cases hw : a (76 + 10 * p + 6) = nI 1
  · obtain ⟨j, L, hj, h7, h9, h8, hL, hup, hE, hne⟩ := p1_start h0 hI hp hw
    have hs : sta a (up a (76 + 10 * p + 8) (nI L)) := sta_up (dyn_p (by omega) (by omega) (by omega))
    have hN1 : DN (up a (76 + 10 * p + 8) (nI L)) F := DN_same (up_ne (by omega)) (fun x hx => up_ne (by omega)) hN
    rw [if_pos hw]
    dsimp only
    rw [hup]
    unfold T_p1b
    rw [up_eq rfl]
    by_cases hz : L = 0
    · subst hz
      rw [if_pos rfl]
      have e7 : pN (up a (76 + 10 * p + 8) (nI 0)) p 7 = j := by unfold pN; rw [up_ne (by omega), h7, tn_nI (by omega)]
      rw [e7]
      exact end_DN (Iv0_sta hs h0) hE hN1
    · rw [if_neg (by rw [eq_nI (by omega) (by omega)]; exact hz)]
      exact hN1
  · rw [if_neg hw]
    exact hN
theorem p2_DN {a l : Nat → Int32} {F : List Nat} {p : Nat} (h0 : Iv0 a l) (hN : DN a F) (hp : p < tn (a 5)) : DN (T_p2 l (a, F) p).1 (T_p2 l (a, F) p).2 := by
  have hnp := Iv0_p h0
  have hnj := Iv0_j h0
  unfold T_p2
  by_cases hc : a (76 + 10 * p + 6) = nI 0 ∧ (sBF a p).isSome
  · obtain ⟨b, hb⟩ := Option.isSome_iff_exists.mp hc.2
    obtain ⟨hbl, hpr⟩ := sBF_some hb
    rw [if_pos hc]
    dsimp only
    rw [hb]
    show DN (T_go a l b p) F
    have hDoc := Iv0_dj h0 hbl
    have hz : dN a (jN a b 6) 1 < 3 := (vl_nI hDoc.1.2.2.1).2
    rw [T_go_eq (by omega) (by omega) hDoc.2 hz]
    refine DN_of (j := b) ?_ hbl (fun x hx hne => ?_) (ne13 (Or.inl hpr.2.1)) ?_ hN
    · simp (disch := first | assumption | omega) only [up_ne]
    · simp (disch := first | assumption | omega) only [up_ne]
    · rw [up_eq rfl]
      exact ne13 (Or.inr (Or.inl rfl))
  · rw [if_neg hc]
    exact hN
/-- all that is known of the pure state -/
def PI (l : Nat → Int32) (s : TS) (n : Nat) : Prop := Iv0 s.1 l ∧ Ivd s.1 ∧ DN s.1 s.2 ∧ Lg s.1 n
theorem PI_p1 {l : Nat → Int32} {s : TS} {n p : Nat} (h : PI l s n) (hp : p < tn (s.1 5)) : PI l (T_p1 l s p) (n + 1) ∧ sta s.1 (T_p1 l s p).1 := by
  obtain ⟨h1, h2, h3, h4⟩ := h
  obtain ⟨i1, i2⟩ := p1_Ivd (F := s.2) h1 h2 hp
  exact ⟨⟨Iv0_sta i2 h1, i1, p1_DN h1 h2 h3 hp, p1_Lg (F := s.2) h4⟩, i2⟩
theorem PI_p2 {l : Nat → Int32} {s : TS} {n p : Nat} (h : PI l s n) (hp : p < tn (s.1 5)) : PI l (T_p2 l s p) n ∧ sta s.1 (T_p2 l s p).1 := by
  obtain ⟨h1, h2, h3, h4⟩ := h
  obtain ⟨i1, i2⟩ := p2_Ivd (F := s.2) h1 h2 hp
  exact ⟨⟨Iv0_sta i2 h1, i1, p2_DN h1 h3 hp, p2_Lg (F := s.2) h4⟩, i2⟩
theorem PI_time {l : Nat → Int32} {s : TS} {n : Nat} (h : PI l s n) : PI l (T_time s) n ∧ sta s.1 (T_time s).1 := by
  obtain ⟨h1, h2, h3, h4⟩ := h
  obtain ⟨t1, t2, t3⟩ := time_inv h1 h2
  refine ⟨⟨t1, t2, DN_same (sta_sc t3 (by omega)) (fun x hx => ?_) h3, Lg_eq h4 (show up s.1 0 (s.1 0 + nI 1) 6 = s.1 6 from up_ne (by omega))⟩, t3⟩
  exact (show up s.1 0 (s.1 0 + nI 1) (106 + 13 * x + 9) = s.1 (106 + 13 * x + 9) from up_ne (by omega))
theorem PI_ph1 {l : Nat → Int32} {s : TS} {n : Nat} (h : PI l s n) : ∀ k, k ≤ tn (s.1 5) → PI l (T_ph (T_p1 l) k s) (n + k) ∧ sta s.1 (T_ph (T_p1 l) k s).1
  | 0, _ => ⟨h, sta_rfl⟩
  | k + 1, hk => by
    obtain ⟨i1, i2⟩ := PI_ph1 h k (by omega)
    have e5 : (T_ph (T_p1 l) k s).1 5 = s.1 5 := sta_sc i2 (by omega)
    obtain ⟨j1, j2⟩ := PI_p1 i1 (p := k) (by rw [e5]; omega)
    rw [T_ph_s]
    exact ⟨j1, sta_tr i2 j2⟩
theorem PI_ph2 {l : Nat → Int32} {s : TS} {n : Nat} (h : PI l s n) : ∀ k, k ≤ tn (s.1 5) → PI l (T_ph (T_p2 l) k s) n ∧ sta s.1 (T_ph (T_p2 l) k s).1
  | 0, _ => ⟨h, sta_rfl⟩
  | k + 1, hk => by
    obtain ⟨i1, i2⟩ := PI_ph2 h k (by omega)
    have e5 : (T_ph (T_p2 l) k s).1 5 = s.1 5 := sta_sc i2 (by omega)
    obtain ⟨j1, j2⟩ := PI_p2 i1 (p := k) (by rw [e5]; omega)
    rw [T_ph_s]
    exact ⟨j1, sta_tr i2 j2⟩
theorem PI_tick {l : Nat → Int32} {s : TS} {n : Nat} (h : PI l s n) : PI l (T_tick l s) (n + 3) ∧ sta s.1 (T_tick l s).1 := by
  obtain ⟨t1, t2⟩ := PI_time h
  have e5 : (T_time s).1 5 = s.1 5 := sta_sc t2 (by omega)
  obtain ⟨u1, u2⟩ := PI_ph1 t1 (tn (s.1 5)) (by rw [e5]; omega)
  have e6 : (T_ph (T_p1 l) (tn (s.1 5)) (T_time s)).1 5 = s.1 5 := (sta_sc u2 (by omega)).trans e5
  obtain ⟨v1, v2⟩ := PI_ph2 u1 (tn (s.1 5)) (by rw [e6]; omega)
  have h5 := Iv0_p h.1
  obtain ⟨w1, w2, w3, m, w4, w5⟩ := v1
  exact ⟨⟨w1, w2, w3, m, w4, by omega⟩, sta_tr t2 (sta_tr u2 v2)⟩
