/-! the class keeps a job -/
theorem x_b59 {g : GS_} {Q J N : Nat} {pri t0 : Int32} (hX : gfr g 263 0 = some (bb 0 + 1) ∧ gln g 20 (bb 0 + 1) = 6) (hp : gai g 20 (bb 0 + 1) 4 = pri) (ht : gfi g 271 0 = t0) (hn : gfi g 259 0 = nI N) (hN : N < 24) :
    ∃ g', f8_keepJob_b59 0 (some Q) (some J) g = some (nI N, g') ∧ (∀ f i, ¬ (34 ≤ f ∧ f < 39 ∧ i = J) → ¬ (f = 259 ∧ i = 0) → gfi g' f i = gfi g f i) ∧ (∀ f i, ¬ (f = 33 ∧ i = J) → gfr g' f i = gfr g f i) ∧
      (gfi g' 34 J = pri ∧ gfi g' 35 J = nI 0 ∧ gfi g' 36 J = nI 0 ∧ gfi g' 37 J = t0 ∧ gfi g' 38 J = -nI 1 ∧ gfr g' 33 J = some Q) ∧ gfi g' 259 0 = nI (N + 1) ∧ gai g' = gai g ∧ gar g' = gar g ∧ gln g' = gln g ∧ gcn g' = gcn g ∧ ghs g' = ghs g ∧ gsl g' = gsl g := by
  have e1 : f8_settingAt 0 (4 : Int32) g = some (pri, g) := x_set0 (u := 4) hX (by omega) hp
  have hb : f1_beginLife J (some Q) pri t0 g = some ((), sfi (sfi (sfi (sfi (sfi (sfr g 33 J (some Q)) 34 J pri) 36 J (nI 0)) 38 J (-nI 1)) 35 J (nI 0)) 37 J t0) := by
    simp (disch := first | with_reducible assumption | omega | (simp only [MI_sai_iff, MI_sfi_iff]; with_reducible assumption)) only [li, ↓lr_, ↓bd_m, ↓oc_m, ↓reduceIte, bi_0, bi_0n, bi_1, bi_1n, not_true_eq_false, not_false_eq_true, Nat.reduceAdd, Nat.reduceMul, nI_mul, nI_add, inb_T, ix_nI, le_T, le_F, lt_T, lt_F, eq_F, and_self, and_true, true_and, false_and, and_false, or_true, true_or, or_false, false_or, bi_eq, x_within, m_in, f1_beginLife, f1_awaitFrom]
  have hi : ∀ f i, gfi (sfi (sfi (sfi (sfi (sfi (sfr g 33 J (some Q)) 34 J pri) 36 J (nI 0)) 38 J (-nI 1)) 35 J (nI 0)) 37 J t0) f i = if f = 37 ∧ i = J then t0 else if f = 35 ∧ i = J then nI 0 else if f = 38 ∧ i = J then -nI 1 else if f = 36 ∧ i = J then nI 0 else if f = 34 ∧ i = J then pri else gfi g f i := fun f i => by
    rw [e_gfi_sfi, e_gfi_sfi, e_gfi_sfi, e_gfi_sfi, e_gfi_sfi, e_gfi_sfr]
  have hr : ∀ f i, gfr (sfi (sfi (sfi (sfi (sfi (sfr g 33 J (some Q)) 34 J pri) 36 J (nI 0)) 38 J (-nI 1)) 35 J (nI 0)) 37 J t0) f i = if f = 33 ∧ i = J then some Q else gfr g f i := fun f i => by
    show gfr (sfr g 33 J (some Q)) f i = _
    rw [e_gfr_sfr]
  have h1 : gai (sfi (sfi (sfi (sfi (sfi (sfr g 33 J (some Q)) 34 J pri) 36 J (nI 0)) 38 J (-nI 1)) 35 J (nI 0)) 37 J t0) = gai g := rfl
  have h2 : gar (sfi (sfi (sfi (sfi (sfi (sfr g 33 J (some Q)) 34 J pri) 36 J (nI 0)) 38 J (-nI 1)) 35 J (nI 0)) 37 J t0) = gar g := rfl
  have h3 : gln (sfi (sfi (sfi (sfi (sfi (sfr g 33 J (some Q)) 34 J pri) 36 J (nI 0)) 38 J (-nI 1)) 35 J (nI 0)) 37 J t0) = gln g := rfl
  have h4 : gcn (sfi (sfi (sfi (sfi (sfi (sfr g 33 J (some Q)) 34 J pri) 36 J (nI 0)) 38 J (-nI 1)) 35 J (nI 0)) 37 J t0) = gcn g := rfl
  have h5 : ghs (sfi (sfi (sfi (sfi (sfi (sfr g 33 J (some Q)) 34 J pri) 36 J (nI 0)) 38 J (-nI 1)) 35 J (nI 0)) 37 J t0) = ghs g := rfl
  have h6 : gsl (sfi (sfi (sfi (sfi (sfi (sfr g 33 J (some Q)) 34 J pri) 36 J (nI 0)) 38 J (-nI 1)) 35 J (nI 0)) 37 J t0) = gsl g := rfl
  generalize sfi (sfi (sfi (sfi (sfi (sfr g 33 J (some Q)) 34 J pri) 36 J (nI 0)) 38 J (-nI 1)) 35 J (nI 0)) 37 J t0 = G at *
  have n259 : gfi G 259 0 = nI N := by rw [hi, if_neg (by omega), if_neg (by omega), if_neg (by omega), if_neg (by omega), if_neg (by omega)]; exact hn
  have a1 : nI N + (1 : Int32) = nI (N + 1) := nI_add _ _
  have a2 : nI (N + 1) - (1 : Int32) = nI N := by
    have := nI_sub (a := N + 1) (b := 1) (by omega)
    rw [Nat.add_sub_cancel] at this
    exact this
  refine ⟨sfi G 259 0 (nI (N + 1)), ?_, fun f i q1 q2 => ?_, fun f i q => ?_, ⟨?_, ?_, ?_, ?_, ?_, ?_⟩, ?_, h1, h2, h3, h4, h5, h6⟩
  · rw [f8_keepJob_b59, e1, bd_some, oc_some, ht, hb, bd_some, n259, a1, lr_at]
    have : gfi (sfi G 259 0 (nI (N + 1))) 259 0 = nI (N + 1) := by rw [e_gfi_sfi, if_pos ⟨rfl, rfl⟩]
    rw [this, a2]
  · rw [e_gfi_sfi, if_neg q2, hi, if_neg (by omega), if_neg (by omega), if_neg (by omega), if_neg (by omega), if_neg (by omega)]
  · show gfr G f i = _
    rw [hr, if_neg q]
  · rw [e_gfi_sfi, if_neg (by omega), hi, if_neg (by omega), if_neg (by omega), if_neg (by omega), if_neg (by omega), if_pos ⟨rfl, rfl⟩]
  · rw [e_gfi_sfi, if_neg (by omega), hi, if_neg (by omega), if_pos ⟨rfl, rfl⟩]
  · rw [e_gfi_sfi, if_neg (by omega), hi, if_neg (by omega), if_neg (by omega), if_neg (by omega), if_pos ⟨rfl, rfl⟩]
  · rw [e_gfi_sfi, if_neg (by omega), hi, if_pos ⟨rfl, rfl⟩]
  · rw [e_gfi_sfi, if_neg (by omega), hi, if_neg (by omega), if_neg (by omega), if_pos ⟨rfl, rfl⟩]
  · show gfr G 33 J = _
    rw [hr, if_pos ⟨rfl, rfl⟩]
  · rw [e_gfi_sfi, if_pos ⟨rfl, rfl⟩]
theorem PlV_keep {g g' : GS_} {Q j : Nat} {a l : Nat → Int32} (hi : ∀ f i, f / 32 = 0 ∨ f / 32 = 4 → gfi g' f i = gfi g f i) (hr : ∀ f i, f / 32 = 4 → gfr g' f i = gfr g f i) (ha : ∀ i, gai g' 20 i = gai g 20 i) (hl : ∀ i, gln g' 20 i = gln g 20 i) (hc : gcn g' 0 = gcn g 0 ∧ gcn g' 4 = gcn g 4 ∧ gcn g' 20 = gcn g 20) (hP : PlV g Q a l j) : PlV g' Q a l j := by
  obtain ⟨p1, ⟨D, p2, p3, p3'⟩, p4, ⟨A, p5, p6, p7, p8, p9⟩, q1, q2, q3, q4, q5, q6, q7, q8, q9, B, r1, r2, r3, r4, r5⟩ := hP
  unfold PlV DocV
  rw [hc.1, hc.2.1, hc.2.2, hr _ _ (by omega), hr _ _ (by omega), hr _ _ (by omega), hi 129 Q (by omega), hi 131 Q (by omega), hi 132 Q (by omega), hi 133 Q (by omega), hi 134 Q (by omega), hi 135 Q (by omega), hi 136 Q (by omega), hi 137 Q (by omega), hi 138 Q (by omega), hi 139 Q (by omega)]
  refine ⟨p1, ⟨D, p2, p3, fun w hw => ?_⟩, p4, ⟨A, p5, p6, p7, by rw [hl]; exact p8, fun i h => by rw [ha]; exact p9 i h⟩, q1, q2, q3, q4, q5, q6, q7, q8, q9, B, r1, r2, r3, by rw [hl]; exact r4, fun t s ht hs => by rw [ha]; exact r5 t s ht hs⟩
  rw [hi _ _ (by omega)]
  exact p3' w hw
theorem x_keep {g g5 : GS_} {N : Nat} {pri t0 : Int32} (hX : XS g) (hM : MP g g5 (gcn g 4) 0) (hN : N < 24) (hn : gfi g 259 0 = nI N) (hp : gai g 20 (bb 0 + 1) 4 = pri) (ht : gfi g 271 0 = t0) :
    ∃ J g', f8_keepJob 0 (some (gcn g 4)) g5 = some (nI N, g') ∧ MJ g g' N J pri t0 ∧ (∀ a l j, PlV g5 (gcn g 4) a l j → PlV g' (gcn g 4) a l j) ∧ ghs g' ≤ ghs g5 + 1 ∧ gsl g' ≤ gsl g5 + 7 := by
  obtain ⟨k1, k2, k3, k4, k5, k6, k7, k8⟩ := hM
  obtain ⟨⟨-, -, -, -, -, -, -, -, -, -, -, -, -, -, -, -, -, -, hc20, -⟩, hXs, hXj⟩ := id hX
  obtain ⟨s1, s2, s3, s4, s5, s6, s7, s8, s9, s10, s11, -⟩ := hXs 0 (by omega)
  have hb0 : bb 0 = 0 := rfl
  have hset : gfr g5 263 0 = some (bb 0 + 1) ∧ gln g5 20 (bb 0 + 1) = 6 := ⟨by rw [k2 _ _ (by omega)]; exact s10, by rw [(k3 20 (bb 0 + 1) (fun _ => by omega)).2]; exact s11⟩
  have hp5 : gai g5 20 (bb 0 + 1) 4 = pri := by rw [(k3 20 (bb 0 + 1) (fun _ => by omega)).1]; exact hp
  have ht5 : gfi g5 271 0 = t0 := by rw [k1 _ _ (by omega) (by omega)]; exact ht
  have hn5 : gfi g5 259 0 = nI N := by rw [k1 _ _ (by omega) (by omega)]; exact hn
  have r258 : gfr g5 258 0 = some 0 := by rw [k2 _ _ (by omega)]; exact s3
  have l23 : gln g5 23 0 = 24 := by rw [(k3 23 0 (fun q => by omega)).2]; exact s4
  have g23 : gar g5 23 0 = gar g 23 0 := k4 23 0 (by omega)
  have c1 : gcn g5 1 = gcn g 1 := by rw [k5, if_neg (by omega), if_neg (by omega)]
  have start : f8_keepJob 0 (some (gcn g 4)) g5 = oc_ (gar g5 23 0 N) (no_ g5 1 7 fun a12 g13 => bd_ (f1_init a12 (gfi g13 259 0) (some (gcn g 4)) g13) fun _ g14 => lr_ (gfr g14 258 0) fun x15 => oc_ x15 none fun a16 => if inb (gfi g14 259 0) (gln g14 23 a16) then lr_ (sar g14 23 a16 (gfi g14 259 0).toInt.toNat (some a12)) (fun g17 => f8_keepJob_b59 0 (some (gcn g 4)) (some a12) g17) else none) fun a11 => f8_keepJob_b59 0 (some (gcn g 4)) (some a11) g5 := by
    rw [f8_keepJob, hn5, if_neg (show ¬ nI N < (0 : Int32) from fun q => by have := (lt_nI (b := 0) (by omega) (by omega)).mp q; omega), r258, lr_at, oc_some, l23, if_pos (show nI N < Int32.ofNat 24 from (lt_nI (b := 24) (by omega) (by omega)).mpr hN), lr_at, oc_some, l23, if_pos ((inb_nI (by omega)).mpr hN), ix_nI (by omega), lr_at]
  cases hJ : gar g 23 0 N with
  | some J =>
    obtain ⟨z1, z2, z3⟩ := hXj 0 N J (by omega) hN hJ
    obtain ⟨g', a1, a2, a3, a4, a5, a6, a7, a8, a9, a10, a11⟩ := x_b59 (Q := gcn g 4) (J := J) hset hp5 ht5 hn5 hN
    refine ⟨J, g', ?_, ⟨fun f i p1 p2 p3 p4 => ?_, fun f i p1 p2 => ?_, fun t i p => ⟨?_, ?_⟩, fun t i p1 p2 => ?_, fun k => ?_, fun t => ⟨?_, fun p1 p2 p3 => ?_⟩, Or.inl hJ, ⟨?_, ?_⟩, a4, a5, ?_⟩, fun a l j hP => ?_, by omega, by omega⟩
    · rw [start, g23, hJ, oc_some]
      exact a1
    · rw [a2 f i (fun w => p4 ⟨by omega, w.2.2, Or.inr ⟨w.1, w.2.1⟩⟩) p3]
      exact k1 f i (fun w => p1 ⟨w.1, by rw [w.2]; exact Nat.le_refl _⟩) p2
    · rw [a3 f i (fun w => p2 ⟨by omega, w.2, Or.inr w.1⟩)]
      exact k2 f i (fun w => p1 ⟨w.1, by rw [w.2]; exact Nat.le_refl _⟩)
    · rw [a6]; exact (k3 t i p).1
    · rw [a8]; exact (k3 t i p).2
    · rw [a7]; exact k4 t i p1
    · rw [a7, g23]
      by_cases c : k = N
      · rw [if_pos c, c, hJ]
      · rw [if_neg c]
    · rw [a9, k5]
      split
      · rename_i c; rw [c]; omega
      · split
        · rename_i c; rw [c]; omega
        · exact Nat.le_refl _
    · rw [a9, k5, if_neg p2, if_neg p3]
    · rw [a9, c1]; exact z1
    · rw [a2 32 J (by omega) (by omega), k1 32 J (by omega) (by omega)]; exact z2
    · rw [a2 193 0 (by omega) (by omega)]; exact k6
    · exact PlV_keep (fun f i h => a2 f i (by omega) (by omega)) (fun f i h => a3 f i (by omega)) (fun i => by rw [a6]) (fun i => by rw [a8]) (by rw [a9]; exact ⟨rfl, rfl, rfl⟩) hP
  | none =>
    have hcw : gcn (nwo g5 1 7) 1 = gcn g 1 + 1 := by rw [e_gcn_nwo, if_pos rfl, c1]
    obtain ⟨g6, i1, i2, i3, i4, i5, i6, i7, i8, i9, i10⟩ := x_jobNew (g := nwo g5 1 7) (N := gcn g 1) (v := nI N) (x := some (gcn g 4))
    have hi : ∀ f i, ¬ (f / 32 = 1 ∧ i = gcn g 1) → gfi g6 f i = gfi g5 f i := fun f i q => by rw [i2 f i q, e_gfi_nwo, if_neg (by rw [c1]; exact q)]
    have hr : ∀ f i, ¬ (f / 32 = 1 ∧ i = gcn g 1) → gfr g6 f i = gfr g5 f i := fun f i q => by rw [i4 f i q, e_gfr_nwo, if_neg (by rw [c1]; exact q)]
    have ha6 : gai g6 = gai g5 := i5
    have hg6 : gar g6 = gar g5 := i6
    have hl6 : gln g6 = gln g5 := i7
    have hc6 : ∀ t, gcn g6 t = if t = 1 then gcn g5 1 + 1 else gcn g5 t := fun t => by rw [i8, e_gcn_nwo]
    have hh6 : ghs g6 = ghs g5 + 1 := by rw [i9]; rfl
    have hs6 : gsl g6 = gsl g5 + 7 := by rw [i10]; rfl
    -- the job's place
    have S1 : ∀ f i, gfi (sar g6 23 0 N (some (gcn g 1))) f i = gfi g6 f i := fun _ _ => rfl
    have S2 : ∀ f i, gfr (sar g6 23 0 N (some (gcn g 1))) f i = gfr g6 f i := fun _ _ => rfl
    have S3 : gai (sar g6 23 0 N (some (gcn g 1))) = gai g6 := rfl
    have S4 : gln (sar g6 23 0 N (some (gcn g 1))) = gln g6 := rfl
    have S5 : gcn (sar g6 23 0 N (some (gcn g 1))) = gcn g6 := rfl
    have S6 : ghs (sar g6 23 0 N (some (gcn g 1))) = ghs g6 := rfl
    have S7 : gsl (sar g6 23 0 N (some (gcn g 1))) = gsl g6 := rfl
    have S8 : ∀ t i k, gar (sar g6 23 0 N (some (gcn g 1))) t i k = if t = 23 ∧ i = 0 ∧ k = N then some (gcn g 1) else gar g6 t i k := fun t i k => by rw [e_gar_sar]
    have n6 : gfi g6 259 0 = nI N := by rw [hi _ _ (by omega)]; exact hn5
    have goS : f8_keepJob 0 (some (gcn g 4)) g5 = f8_keepJob_b59 0 (some (gcn g 4)) (some (gcn g 1)) (sar g6 23 0 N (some (gcn g 1))) := by
      have nw : gfi (nwo g5 1 7) 259 0 = nI N := by rw [e_gfi_nwo, if_neg (by omega)]; exact hn5
      have r6 : gfr g6 258 0 = some 0 := by rw [hr _ _ (by omega)]; exact r258
      have l6 : gln g6 23 0 = 24 := by rw [hl6]; exact l23
      rw [start, g23, hJ, oc_none, no_, c1, nw, i1, bd_some, r6, lr_at, oc_some, n6, l6, if_pos ((inb_nI (by omega)).mpr hN), ix_nI (by omega), lr_at]
    generalize sar g6 23 0 N (some (gcn g 1)) = g7 at *
    obtain ⟨g', a1, a2, a3, a4, a5, a6, a7, a8, a9, a10, a11⟩ := x_b59 (g := g7) (Q := gcn g 4) (J := gcn g 1) (pri := pri) (t0 := t0) ⟨by rw [S2, hr _ _ (by omega)]; exact hset.1, by rw [S4, hl6]; exact hset.2⟩ (by rw [S3, ha6]; exact hp5) (by rw [S1, hi _ _ (by omega)]; exact ht5) (by rw [S1]; exact n6) hN
    refine ⟨gcn g 1, g', goS.trans a1, ⟨fun f i p1 p2 p3 p4 => ?_, fun f i p1 p2 => ?_, fun t i p => ⟨?_, ?_⟩, fun t i p1 p2 => ?_, fun k => ?_, fun t => ⟨?_, fun p1 p2 p3 => ?_⟩, Or.inr (Nat.le_refl _), ⟨?_, ?_⟩, a4, a5, ?_⟩, fun a l j hP => ?_, by omega, by omega⟩
    · have p4' : ¬ (f / 32 = 1 ∧ i = gcn g 1) := fun w => p4 ⟨w.1, w.2, Or.inl (Nat.le_refl _)⟩
      rw [a2 f i (fun w => p4' ⟨by omega, w.2.2⟩) p3, S1, hi f i p4']
      exact k1 f i (fun w => p1 ⟨w.1, by rw [w.2]; exact Nat.le_refl _⟩) p2
    · have p4' : ¬ (f / 32 = 1 ∧ i = gcn g 1) := fun w => p2 ⟨w.1, w.2, Or.inl (Nat.le_refl _)⟩
      rw [a3 f i (fun w => p4' ⟨by omega, w.2⟩), S2, hr f i p4']
      exact k2 f i (fun w => p1 ⟨w.1, by rw [w.2]; exact Nat.le_refl _⟩)
    · rw [a6, S3, ha6]; exact (k3 t i p).1
    · rw [a8, S4, hl6]; exact (k3 t i p).2
    · funext k
      rw [a7, S8, if_neg (fun w => p2 ⟨w.1, w.2.1⟩), hg6, k4 t i p1]
    · rw [a7, S8, hg6, g23]
      by_cases c : k = N
      · rw [if_pos ⟨rfl, rfl, c⟩, if_pos c]
      · rw [if_neg (fun w => c w.2.2), if_neg c]
    · rw [a9, S5, hc6, k5, k5]
      split
      · rename_i c; rw [c, if_neg (by omega), if_neg (by omega)]; omega
      · split
        · rename_i c; rw [c]; omega
        · split
          · rename_i c; rw [c]; omega
          · exact Nat.le_refl _
    · rw [a9, S5, hc6, if_neg p1, k5, if_neg p2, if_neg p3]
    · rw [a9, S5, hc6, if_pos rfl, c1]; omega
    · rw [a2 32 _ (by omega) (by omega), S1]; exact i3
    · rw [a2 193 0 (by omega) (by omega), S1, hi _ _ (by omega)]; exact k6
    · exact PlV_keep (fun f i h => by rw [a2 f i (by omega) (by omega), S1, hi f i (by omega)]) (fun f i h => by rw [a3 f i (by omega), S2, hr f i (by omega)]) (fun i => by rw [a6, S3, ha6]) (fun i => by rw [a8, S4, hl6]) (by rw [a9, S5, hc6, hc6, hc6]; exact ⟨rfl, rfl, rfl⟩) hP
