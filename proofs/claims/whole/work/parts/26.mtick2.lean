/-! time keeps what always holds; the reference's tick -/
theorem Ivd_same {a b : Nat → Int32} (h : ∀ k, k = 4 ∨ k = 5 ∨ (76 ≤ k ∧ k < 106) ∨ (106 ≤ k ∧ k < 418) → b k = a k) (hnj : tn (a 4) ≤ 24) (hnp : tn (a 5) ≤ 3) (hI : Ivd a) : Ivd b := by
  obtain ⟨h1, h2, h3⟩ := hI
  have e4 : b 4 = a 4 := h 4 (by omega)
  have e5 : b 5 = a 5 := h 5 (by omega)
  refine ⟨?_, ?_, ?_⟩
  · rw [e4]
    intro j hj
    have hq := h1 j hj
    have ej : ∀ w, w < 13 → b (106 + 13 * j + w) = a (106 + 13 * j + w) := fun w hw => h _ (by omega)
    unfold JobSt sSH sSC jN at hq ⊢
    simp (disch := first | assumption | omega) only [ej]
    exact hq
  · rw [e5]
    intro p hp
    obtain ⟨q1, q2⟩ := h2 p hp
    have ep : ∀ w, w < 10 → b (76 + 10 * p + w) = a (76 + 10 * p + w) := fun w hw => h _ (by omega)
    refine ⟨?_, ?_⟩
    · unfold PrTr at q1 ⊢
      simp (disch := first | assumption | omega) only [ep]
      exact q1
    · unfold PrWk pN at q2 ⊢
      simp (disch := first | assumption | omega) only [ep, e4]
      intro hw
      obtain ⟨u1, u2, u3⟩ := q2 hw
      have := (vl_nI u1).2
      rw [h _ (by omega)]
      exact ⟨u1, u2, u3⟩
  · unfold PrUq at h3 ⊢
    rw [e5]
    intro p q hp hq hne
    rw [h (76 + 10 * p + 6) (by omega), h (76 + 10 * q + 6) (by omega), h (76 + 10 * p + 7) (by omega), h (76 + 10 * q + 7) (by omega)]
    exact h3 p q hp hq hne
theorem sta_end {a l : Nat → Int32} {F : List Nat} {j p : Nat} (h0 : Iv0 a l) (hj : j < tn (a 4)) (hp : p < tn (a 5)) : sta a (T_end (a, F) l j p).1 := by
  have hnj := Iv0_j h0
  have hnp := Iv0_p h0
  have hJ := h0.2.2.2.2.2.1 j hj
  have hu : jN a j 5 < 6 := (vl_nI hJ.2.2.2.2.2.2.1).2
  have hDoc := Iv0_dj h0 hj
  have hz : dN a (jN a j 6) 1 < 3 := (vl_nI hDoc.1.2.2.1).2
  have s1 : sta a (T_rec a j p) := sta_rec (by omega) hu
  have r6 : jN (T_rec a j p) j 6 = jN a j 6 := sta_jN s1 (by omega) (by omega)
  have rz : dN (T_rec a j p) (jN (T_rec a j p) j 6) 1 < 3 := by rw [r6, sta_dN s1 hDoc.2 (by omega)]; exact hz
  exact sta_tr s1 (sta_end2 (by omega) (by omega) rz)
/-- what a printing printer's tick begins with -/
theorem p1_start {a l : Nat → Int32} {p : Nat} (h0 : Iv0 a l) (hI : Ivd a) (hp : p < tn (a 5)) (hw : a (76 + 10 * p + 6) = nI 1) :
    ∃ j L, j < tn (a 4) ∧ a (76 + 10 * p + 7) = nI j ∧ a (106 + 13 * j + 9) = nI 1 ∧ a (76 + 10 * p + 8) = nI (L + 1) ∧ L < 199 ∧ up a (76 + 10 * p + 8) (a (76 + 10 * p + 8) - nI 1) = up a (76 + 10 * p + 8) (nI L) ∧ PE (up a (76 + 10 * p + 8) (nI L)) j p ∧ (L ≠ 0 → Ivd (up a (76 + 10 * p + 8) (nI L))) := by
  have hnj := Iv0_j h0
  have hnp := Iv0_p h0
  obtain ⟨hJS, hPS, hUq⟩ := hI
  obtain ⟨t1, t2⟩ := hPS p hp
  obtain ⟨u1, u2, u3, u4⟩ := t2 hw
  have h7 := vl_nI u1
  have h8 := vl_nI u3
  have e7 : pN a p 7 = tn (a (76 + 10 * p + 7)) := rfl
  rw [e7] at u2
  have e8 : pN a p 8 = tn (a (76 + 10 * p + 8)) := rfl
  rw [e8] at u4
  generalize tn (a (76 + 10 * p + 7)) = j at *
  obtain ⟨L, hL⟩ : ∃ L, tn (a (76 + 10 * p + 8)) = L + 1 := ⟨tn (a (76 + 10 * p + 8)) - 1, by omega⟩
  rw [hL] at h8
  have hs : sta a (up a (76 + 10 * p + 8) (nI L)) := sta_up (dyn_p (by omega) (by omega) (by omega))
  have e4 : up a (76 + 10 * p + 8) (nI L) 4 = a 4 := up_ne (by omega)
  have e5 : up a (76 + 10 * p + 8) (nI L) 5 = a 5 := up_ne (by omega)
  have jb : ∀ i, i < tn (a 4) → JobSt (up a (76 + 10 * p + 8) (nI L)) i := by
    intro i hi
    have h1 := hJS i hi
    unfold JobSt jN at h1 ⊢
    rw [sta_SH hs (by omega)]
    simp (disch := first | assumption | omega) only [up_ne]
    exact h1
  have pq : ∀ q, q < tn (a 5) → q ≠ p → PrTr (up a (76 + 10 * p + 8) (nI L)) q ∧ PrWk (up a (76 + 10 * p + 8) (nI L)) q := by
    intro q hq hne
    obtain ⟨v1, v2⟩ := hPS q hq
    refine ⟨?_, ?_⟩
    · unfold PrTr at v1 ⊢
      simp (disch := first | assumption | omega) only [up_ne]
      exact v1
    · unfold PrWk at v2 ⊢
      rw [e4]
      have q7 : pN (up a (76 + 10 * p + 8) (nI L)) q 7 = pN a q 7 := by unfold pN; rw [up_ne (by omega)]
      have q8 : pN (up a (76 + 10 * p + 8) (nI L)) q 8 = pN a q 8 := by unfold pN; rw [up_ne (by omega)]
      rw [q7, q8]
      simp (disch := first | assumption | omega) only [up_ne]
      exact v2
  have tp : PrTr (up a (76 + 10 * p + 8) (nI L)) p := by
    unfold PrTr at t1 ⊢
    simp (disch := first | assumption | omega) only [up_ne]
    exact t1
  have uq : PrUq (up a (76 + 10 * p + 8) (nI L)) := by
    unfold PrUq at hUq ⊢
    rw [e5]
    intro q q' hq hq' hne
    simp (disch := first | assumption | omega) only [up_ne]
    exact hUq q q' hq hq' hne
  refine ⟨j, L, h7.2, h7.1, u2, h8.1, by omega, ?_, ?_, ?_⟩
  · rw [h8.1, nI_sub (by omega)]
    rfl
  · unfold PE
    rw [e4, e5]
    refine ⟨h7.2, hp, jb, pq, tp, uq, ?_, ?_, ?_⟩
    · simp (disch := first | assumption | omega) only [up_ne]; exact hw
    · simp (disch := first | assumption | omega) only [up_ne]; exact h7.1
    · simp (disch := first | assumption | omega) only [up_ne]; exact u2
  · intro hL0
    refine ⟨?_, ?_, uq⟩
    · rw [e4]; exact jb
    · rw [e5]
      intro q hq
      by_cases e : q = p
      · subst e
        refine ⟨tp, ?_⟩
        unfold PrWk
        rw [e4]
        have q7 : pN (up a (76 + 10 * q + 8) (nI L)) q 7 = j := by unfold pN; rw [up_ne (by omega), h7.1, tn_nI (by omega)]
        have q8 : pN (up a (76 + 10 * q + 8) (nI L)) q 8 = L := by unfold pN; rw [up_eq rfl, tn_nI (by omega)]
        rw [q7, q8]
        simp (disch := first | assumption | omega) only [up_ne, up_eq]
        exact fun _ => ⟨u1, u2, vl_of (by omega) (by omega), by omega⟩
      · exact pq q hq e
theorem p1_Ivd {a l : Nat → Int32} {F : List Nat} {p : Nat} (h0 : Iv0 a l) (hI : Ivd a) (hp : p < tn (a 5)) : Ivd (T_p1 l (a, F) p).1 ∧ sta a (T_p1 l (a, F) p).1 := by
  have hnp := Iv0_p h0
  have hnj := Iv0_j h0
  unfold T_p1
  by_cases hw : a (76 + 10 * p + 6) = nI 1
  · obtain ⟨j, L, hj, h7, h9, h8, hL, hup, hE, hne⟩ := p1_start h0 hI hp hw
    have hs : sta a (up a (76 + 10 * p + 8) (nI L)) := sta_up (dyn_p (by omega) (by omega) (by omega))
    rw [if_pos hw]
    show Ivd (T_p1b (up a (76 + 10 * p + 8) (a (76 + 10 * p + 8) - nI 1)) l F p).1 ∧ sta a (T_p1b (up a (76 + 10 * p + 8) (a (76 + 10 * p + 8) - nI 1)) l F p).1
    rw [hup]
    unfold T_p1b
    rw [up_eq rfl]
    by_cases hz : L = 0
    · subst hz
      rw [if_pos rfl]
      have e7 : pN (up a (76 + 10 * p + 8) (nI 0)) p 7 = j := by unfold pN; rw [up_ne (by omega), h7, tn_nI (by omega)]
      rw [e7]
      have h0' := Iv0_sta hs h0
      exact ⟨end_Ivd h0' hE, sta_tr hs (sta_end h0' hE.1 hE.2.1)⟩
    · rw [if_neg (by rw [eq_nI (by omega) (by omega)]; exact hz)]
      exact ⟨hne hz, hs⟩
  · rw [if_neg hw]
    exact ⟨hI, sta_rfl⟩
theorem sBF_some {a : Nat → Int32} {p b : Nat} (h : sBF a p = some b) : b < tn (a 4) ∧ prt a b p := by
  have := bst_lt h
  exact ⟨this.1, of_decide_eq_true this.2⟩
theorem p2_Ivd {a l : Nat → Int32} {F : List Nat} {p : Nat} (h0 : Iv0 a l) (hI : Ivd a) (hp : p < tn (a 5)) : Ivd (T_p2 l (a, F) p).1 ∧ sta a (T_p2 l (a, F) p).1 := by
  have hnp := Iv0_p h0
  have hnj := Iv0_j h0
  unfold T_p2
  by_cases hc : a (76 + 10 * p + 6) = nI 0 ∧ (sBF a p).isSome
  · obtain ⟨b, hb⟩ := Option.isSome_iff_exists.mp hc.2
    obtain ⟨hbl, hpr⟩ := sBF_some hb
    rw [if_pos hc]
    show Ivd (T_go a l ((sBF a p).getD 0) p) ∧ sta a (T_go a l ((sBF a p).getD 0) p)
    rw [hb]
    show Ivd (T_go a l b p) ∧ sta a (T_go a l b p)
    obtain ⟨hJS, hPS, hUq⟩ := hI
    obtain ⟨t1, t2⟩ := hPS p hp
    have hJ := h0.2.2.2.2.2.1 b hbl
    have hDoc := Iv0_dj h0 hbl
    have hz : dN a (jN a b 6) 1 < 3 := (vl_nI hDoc.1.2.2.1).2
    have hS := hJS b hbl
    have hSH := SH_le hJ
    have hx := vl_nI hS.2.2.1
    have hb9 : a (106 + 13 * b + 9) = nI 0 := hpr.2.1
    have hxl : jN a b 10 < sSH a b := hS.2.2.2.1 (by rw [hb9, ne_eq, eq_nI (by omega) (by omega)]; omega)
    have h12 : a (106 + 13 * b + 12) = nI 0 := by
      rcases hS.2.2.2.2 with q | ⟨-, q⟩
      · exact q
      · rw [hb9, eq_nI (by omega) (by omega)] at q; omega
    have nob : ∀ q, q < tn (a 5) → a (76 + 10 * q + 6) = nI 1 → a (76 + 10 * q + 7) ≠ nI b := by
      intro q hq hw e
      obtain ⟨-, v2⟩ := hPS q hq
      obtain ⟨-, w2, -⟩ := v2 hw
      have : pN a q 7 = b := by unfold pN; rw [e, tn_nI (by omega)]
      rw [this, hb9, eq_nI (by omega) (by omega)] at w2
      omega
    unfold T_go
    generalize ha1 : up (up (up a (106 + 13 * b + 9) (nI 1)) (76 + 10 * p + 6) (nI 1)) (76 + 10 * p + 7) (nI b) = a1
    have s1 : sta a a1 := by
      rw [← ha1]
      exact sta_tr (sta_tr (sta_up (dyn_j (by omega) (by omega) (by omega))) (sta_up (dyn_p (by omega) (by omega) (by omega)))) (sta_up (dyn_p (by omega) (by omega) (by omega)))
    have ne1 : ∀ k, k ≠ 106 + 13 * b + 9 → k ≠ 76 + 10 * p + 6 → k ≠ 76 + 10 * p + 7 → a1 k = a k := by
      intro k k1 k2 k3
      rw [← ha1, up_ne k3, up_ne k2, up_ne k1]
    have a6 : a1 (76 + 10 * p + 6) = nI 1 := by rw [← ha1, up_ne (by omega), up_eq rfl]
    have a7 : a1 (76 + 10 * p + 7) = nI b := by rw [← ha1, up_eq rfl]
    have a9 : a1 (106 + 13 * b + 9) = nI 1 := by rw [← ha1, up_ne (by omega), up_ne (by omega), up_eq rfl]
    have r6 : jN a1 b 6 = jN a b 6 := sta_jN s1 (by omega) (by omega)
    have rz : dN a1 (jN a1 b 6) 1 < 3 := by rw [r6, sta_dN s1 hDoc.2 (by omega)]; exact hz
    have s2 : sta a1 (T_begin a1 l b p) := sta_begin (by omega) rz
    have s3 := sta_tr s1 s2
    refine ⟨?_, s3⟩
    have hP := h0.2.2.2.2.2.2 p hp
    have hJr := sta_Job s1 (show b < 24 by omega) hJ
    have hxr : jN a1 b 10 = jN a b 10 := by unfold jN; rw [ne1 _ (by omega) (by omega) (by omega)]
    have hSHr : ∀ c : Nat → Int32, sta a1 c → sSH c b = sSH a b := fun c hc => sta_SH (sta_tr s1 hc) (by omega)
    have hxs : jN a1 b 10 < sSH a1 b := by rw [hxr, hSHr a1 sta_rfl]; omega
    have ht1 := sTK_pos (p := p) hJr hxs
    have ht2 := sTK_le (l := l) (j := b) (x := jN a1 b 10) (sta_Pr s1 (show p < 3 by omega) hP)
    have ez0 : trk a1 b p = 76 + 10 * p + (3 + dN a (jN a b 6) 1) := by unfold trk; rw [r6, sta_dN s1 hDoc.2 (by omega)]
    have htr := PrTr_tray t1 hz
    have hne0 : a (76 + 10 * p + (3 + dN a (jN a b 6) 1)) ≠ nI 0 := by
      intro e
      have h9 := hpr.2.2.1
      rw [e] at h9
      exact h9 (by rw [le_nI (by omega) (by omega)]; omega)
    have hv := vl_dec htr hne0 (by omega)
    generalize dN a (jN a b 6) 1 = z at *
    have tray : a1 (76 + 10 * p + (3 + z)) = a (76 + 10 * p + (3 + z)) := ne1 _ (by omega) (by omega) (by omega)
    unfold T_begin at s2 s3 ⊢
    rw [ez0, tray] at s2 s3 ⊢
    generalize a (76 + 10 * p + (3 + z)) - nI 1 = v at *
    generalize sTK a1 l b (jN a1 b 10) p = T at *
    refine Ivd_of (j := b) (p := p) s3 hnj hnp (fun i hi _ => hJS i hi) ?_ ?_ (fun q hq _ => hPS q hq) ?_ ?_ (fun q q' hq hq' _ _ hne => hUq q q' hq hq' hne) (fun q hq _ hw => nob q hq hw) ?_
    · intro i w hi hne g1 g2
      simp (disch := first | assumption | omega) only [up_ne, ne1]
    · intro _
      unfold JobSt
      rw [hSHr _ s2]
      have e10 : jN (up (up a1 (76 + 10 * p + (3 + z)) v) (76 + 10 * p + 8) (nI T)) b 10 = jN a b 10 := by
        unfold jN
        simp (disch := first | assumption | omega) only [up_ne, ne1]
      rw [e10]
      simp (disch := first | assumption | omega) only [up_ne, a9]
      rw [ne1 _ (by omega) (by omega) (by omega), ne1 (106 + 13 * b + 10) (by omega) (by omega) (by omega), ne1 (106 + 13 * b + 12) (by omega) (by omega) (by omega)]
      exact ⟨hS.1, vl_of (by omega) (by omega), hS.2.2.1, fun _ => hxl, Or.inl h12⟩
    · intro q w hq hne g1 g2
      simp (disch := first | assumption | omega) only [up_ne, ne1]
    · refine ⟨?_, ?_⟩
      · unfold PrTr
        rcases (show z = 0 ∨ z = 1 ∨ z = 2 by omega) with rfl | rfl | rfl
        · simp (disch := first | assumption | omega) only [up_ne, up_eq, a6, ne1]
          exact ⟨hv, t1.2.1, t1.2.2.1, vl_of (by omega) (by omega)⟩
        · simp (disch := first | assumption | omega) only [up_ne, up_eq, a6, ne1]
          exact ⟨t1.1, hv, t1.2.2.1, vl_of (by omega) (by omega)⟩
        · simp (disch := first | assumption | omega) only [up_ne, up_eq, a6, ne1]
          exact ⟨t1.1, t1.2.1, hv, vl_of (by omega) (by omega)⟩
      · unfold PrWk
        intro _
        have e7 : pN (up (up a1 (76 + 10 * p + (3 + z)) v) (76 + 10 * p + 8) (nI T)) p 7 = b := by
          unfold pN
          simp (disch := first | assumption | omega) only [up_ne, a7, tn_nI]
        have e8 : pN (up (up a1 (76 + 10 * p + (3 + z)) v) (76 + 10 * p + 8) (nI T)) p 8 = T := by
          unfold pN
          simp (disch := first | assumption | omega) only [up_eq, tn_nI]
        rw [e7, e8]
        simp (disch := first | assumption | omega) only [up_ne, up_eq, a7, a9, ne1]
        exact ⟨vl_of (by omega) (by omega), trivial, vl_of (by omega) (by omega), ht1⟩
    · intro _ q hq hne hw
      simp (disch := first | assumption | omega) only [up_ne, a7]
      exact nob q hq hw
  · rw [if_neg hc]
    exact ⟨hI, sta_rfl⟩
theorem ph_inv {l : Nat → Int32} {f : TS → Nat → TS} (N : Nat) (hN : N ≤ 3) (hf : ∀ (a : Nat → Int32) (F : List Nat) (p : Nat), Iv0 a l → Ivd a → tn (a 5) = N → p < N → Ivd (f (a, F) p).1 ∧ sta a (f (a, F) p).1) : ∀ (n : Nat) (s : TS), n ≤ N → Iv0 s.1 l → Ivd s.1 → tn (s.1 5) = N → Iv0 (T_ph f n s).1 l ∧ Ivd (T_ph f n s).1 ∧ sta s.1 (T_ph f n s).1 ∧ tn ((T_ph f n s).1 5) = N
  | 0, s, _, h1, h2, h3 => ⟨h1, h2, sta_rfl, h3⟩
  | n + 1, s, hn, h1, h2, h3 => by
    obtain ⟨i1, i2, i3, i4⟩ := ph_inv N hN hf n s (by omega) h1 h2 h3
    rw [T_ph_s]
    obtain ⟨j1, j2⟩ := hf (T_ph f n s).1 (T_ph f n s).2 n i1 i2 i4 (by omega)
    exact ⟨Iv0_sta j2 i1, j1, sta_tr i3 j2, by rw [sta_sc j2 (by omega)]; exact i4⟩
theorem time_inv {l : Nat → Int32} {s : TS} (h0 : Iv0 s.1 l) (hI : Ivd s.1) : Iv0 (T_time s).1 l ∧ Ivd (T_time s).1 ∧ sta s.1 (T_time s).1 := by
  have hs : sta s.1 (T_time s).1 := sta_up (Or.inl rfl)
  refine ⟨Iv0_sta hs h0, Ivd_same (a := s.1) ?_ (Iv0_j h0) (Iv0_p h0) hI, hs⟩
  intro k hk
  exact up_ne (by omega)
theorem tick_inv {l : Nat → Int32} {s : TS} (h0 : Iv0 s.1 l) (hI : Ivd s.1) : Iv0 (T_tick l s).1 l ∧ Ivd (T_tick l s).1 ∧ sta s.1 (T_tick l s).1 := by
  obtain ⟨t1, t2, t3⟩ := time_inv h0 hI
  have e5 : tn ((T_time s).1 5) = tn (s.1 5) := by rw [sta_sc t3 (by omega)]
  obtain ⟨u1, u2, u3, u4⟩ := ph_inv (l := l) (f := T_p1 l) (tn (s.1 5)) (Iv0_p h0) (fun a F p g1 g2 g3 g4 => p1_Ivd g1 g2 (by omega)) (tn (s.1 5)) (T_time s) (Nat.le_refl _) t1 t2 e5
  obtain ⟨v1, v2, v3, v4⟩ := ph_inv (l := l) (f := T_p2 l) (tn (s.1 5)) (Iv0_p h0) (fun a F p g1 g2 g3 g4 => p2_Ivd g1 g2 (by omega)) (tn (s.1 5)) _ (Nat.le_refl _) u1 u2 u4
  exact ⟨v1, v2, sta_tr t3 (sta_tr u3 v3)⟩
-- the log's count
def Lg (a : Nat → Int32) (n : Nat) : Prop := ∃ m, a 6 = nI m ∧ m ≤ n
theorem Lg_up {a : Nat → Int32} {n : Nat} (h : Lg a n) : Lg a (n + 1) := by
  obtain ⟨m, h1, h2⟩ := h
  exact ⟨m, h1, by omega⟩
theorem Lg_eq {a b : Nat → Int32} {n : Nat} (h : Lg a n) (e : b 6 = a 6) : Lg b n := by
  obtain ⟨m, h1, h2⟩ := h
  exact ⟨m, e.trans h1, h2⟩
theorem T_begin_6 {a l : Nat → Int32} {j p : Nat} : T_begin a l j p 6 = a 6 := by
  have h : 76 ≤ trk a j p := by unfold trk; omega
  unfold T_begin
  rw [up_ne (by omega), up_ne (by omega)]
theorem T_wait_6 {a : Nat → Int32} {j : Nat} : T_wait a j 6 = a 6 := by
  unfold T_wait
  rw [up_ne (by omega), up_ne (by omega)]
theorem T_leave_6 {a : Nat → Int32} {j : Nat} : T_leave a j 6 = a 6 := by
  unfold T_leave
  split
  · exact T_wait_6
  · rw [up_ne (by omega), up_ne (by omega)]
theorem T_end2_6 {a l : Nat → Int32} {F : List Nat} {j p : Nat} : (T_end2 a l F j p).1 6 = a 6 := by
  unfold T_end2
  split
  · show up _ _ _ 6 = _
    rw [up_ne (by omega), up_ne (by omega), up_ne (by omega)]
  · split
    · split
      · show up _ _ _ 6 = _
        rw [up_ne (by omega), T_wait_6]
      · split
        · show up _ _ _ 6 = _
          rw [up_ne (by omega), T_wait_6]
        · show T_begin a l j p 6 = a 6
          exact T_begin_6 (l := l)
    · show up _ _ _ 6 = _
      rw [up_ne (by omega), T_leave_6]
theorem T_rec_6 {a : Nat → Int32} {j p : Nat} : T_rec a j p 6 = a 6 + nI 1 := by
  unfold T_rec
  rw [up_ne (by omega), up_ne (by omega), up_eq rfl]
theorem p1_Lg {a l : Nat → Int32} {F : List Nat} {p n : Nat} (h : Lg a n) : Lg (T_p1 l (a, F) p).1 (n + 1) := by
  unfold T_p1
  split
  · show Lg (T_p1b _ l F p).1 (n + 1)
    unfold T_p1b
    split
    · obtain ⟨m, h1, h2⟩ := h
      refine ⟨m + 1, ?_, by omega⟩
      unfold T_end
      dsimp only
      rw [T_end2_6, T_rec_6, up_ne (by omega), h1, nI_add]
    · have e : up a (76 + 10 * p + 8) (a (76 + 10 * p + 8) - nI 1) 6 = a 6 := up_ne (by omega)
      exact Lg_up (Lg_eq h e)
  · exact Lg_up h
theorem T_go_6 {a l : Nat → Int32} {b p : Nat} : T_go a l b p 6 = a 6 := by
  have e := T_begin_6 (a := up (up (up a (106 + 13 * b + 9) (nI 1)) (76 + 10 * p + 6) (nI 1)) (76 + 10 * p + 7) (nI b)) (l := l) (j := b) (p := p)
  rw [up_ne (by omega), up_ne (by omega), up_ne (by omega)] at e
  exact e
theorem p2_Lg {a l : Nat → Int32} {F : List Nat} {p n : Nat} (h : Lg a n) : Lg (T_p2 l (a, F) p).1 n := by
  unfold T_p2
  generalize (sBF (a, F).1 p) = o
  by_cases hc : (a, F).1 (76 + 10 * p + 6) = nI 0 ∧ o.isSome = true
  · rw [if_pos hc]
    have e := T_go_6 (a := a) (l := l) (b := o.getD 0) (p := p)
    show Lg (T_go a l (o.getD 0) p) n
    generalize T_go a l (o.getD 0) p = b at *
    exact Lg_eq h e
  · rw [if_neg hc]
    exact h
theorem ph1_Lg {l : Nat → Int32} : ∀ (k : Nat) (s : TS) (n : Nat), Lg s.1 n → Lg (T_ph (T_p1 l) k s).1 (n + k)
  | 0, s, n, h => h
  | k + 1, s, n, h => by
    rw [T_ph_s]
    exact p1_Lg (F := (T_ph (T_p1 l) k s).2) (ph1_Lg k s n h)
theorem ph2_Lg {l : Nat → Int32} : ∀ (k : Nat) (s : TS) (n : Nat), Lg s.1 n → Lg (T_ph (T_p2 l) k s).1 n
  | 0, s, n, h => h
  | k + 1, s, n, h => by
    rw [T_ph_s]
    exact p2_Lg (F := (T_ph (T_p2 l) k s).2) (ph2_Lg k s n h)
theorem tick_Lg {l : Nat → Int32} {s : TS} {n : Nat} (h0 : Iv0 s.1 l) (h : Lg s.1 n) : Lg (T_tick l s).1 (n + 3) := by
  have h5 := Iv0_p h0
  have h1 : Lg (T_time s).1 n := Lg_eq h (show up s.1 0 (s.1 0 + nI 1) 6 = s.1 6 from up_ne (by omega))
  obtain ⟨m, q1, q2⟩ := ph2_Lg (l := l) (tn (s.1 5)) _ _ (ph1_Lg (l := l) (tn (s.1 5)) (T_time s) n h1)
  exact ⟨m, q1, by omega⟩
