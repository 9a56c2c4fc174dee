/-! the class: what a write does to the moving part of a spool -/
theorem hc1 {c p : Nat} (h : c < 6) : (c = 6 + p) = False := eq_false (by omega)
theorem hc2 {c p : Nat} (h : c < 6) : (6 + p = c) = False := eq_false (by omega)
theorem hc3 {c p : Nat} (h : c < 164) (hp : 164 ≤ p) : (c = p) = False := eq_false (by omega)
theorem hc4 {c p : Nat} (h : c < 164) (hp : 164 ≤ p) : (p = c) = False := eq_false (by omega)
theorem XD_j35 {g : GS_} {S : Nat} {a : Nat → Int32} {F : List Nat} (h4 : tn (a 4) ≤ 24) (h5 : tn (a 5) ≤ 3) {j J : Nat} (hU : XJ g S) (hj : j < tn (a 4)) (hJ : gar g 23 S j = some J) (v : Int32) (h : XD g S a F) : XD (sfi g 35 J v) S (up a (106 + 13 * j + 9) v) (F) := by
  obtain ⟨d1, d2, ⟨d3, d3'⟩, d4, d5, d6, d7⟩ := h
  have e4 : (up a (106 + 13 * j + 9) v) 4 = a 4 := up_ne (by omega)
  have e5 : (up a (106 + 13 * j + 9) v) 5 = a 5 := up_ne (by omega)
  unfold XD
  rw [e4, e5]
  refine ⟨?_, ?_, ⟨?_, ?_⟩, ?_, ?_, ?_, ?_⟩
  · intro i I hi hI
    have hI' : gar g 23 S i = some I := hI
    obtain ⟨k1, k2, k3, k4⟩ := d1 i I hi hI'
    by_cases e : i = j
    · subst e
      rw [hJ] at hI'
      cases hI'
      simp (disch := first | assumption | omega) only [e_gfi_sfi, gai_sfi, e_gar_sfi, e_gai_sai, e_gar_sai, e_gfi_sai, Nat.reduceEqDiff, false_and, and_false, true_and, and_true, and_self, ↓reduceIte, Nat.add_left_cancel_iff, hc1, hc2, hc3, hc4, up_eq, up_ne, k1, k2, k3, k4]
    · have hne : (I = J) = False := eq_false (fun q => e (by subst q; exact (hU j I (by omega) hJ).2 i (by omega) hI'))
      simp (disch := first | assumption | omega) only [e_gfi_sfi, gai_sfi, e_gar_sfi, e_gai_sai, e_gar_sai, e_gfi_sai, Nat.reduceEqDiff, false_and, and_false, true_and, and_true, and_self, ↓reduceIte, Nat.add_left_cancel_iff, hc1, hc2, hc3, hc4, hne, up_ne, k1, k2, k3, k4]
  · intro q hq
    obtain ⟨k1, k2, k3, k4⟩ := d2 q hq
    refine ⟨fun z hz => ?_, ?_, ?_, ?_⟩
    · have k := k1 z hz
      simp (disch := first | assumption | omega) only [e_gfi_sfi, gai_sfi, e_gar_sfi, e_gai_sai, e_gar_sai, e_gfi_sai, Nat.reduceEqDiff, false_and, and_false, true_and, and_true, and_self, ↓reduceIte, Nat.add_left_cancel_iff, hc1, hc2, hc3, hc4, up_ne, k]
    · simp (disch := first | assumption | omega) only [e_gfi_sfi, gai_sfi, e_gar_sfi, e_gai_sai, e_gar_sai, e_gfi_sai, Nat.reduceEqDiff, false_and, and_false, true_and, and_true, and_self, ↓reduceIte, Nat.add_left_cancel_iff, hc1, hc2, hc3, hc4, up_ne, k2]
    · simp (disch := first | assumption | omega) only [e_gfi_sfi, gai_sfi, e_gar_sfi, e_gai_sai, e_gar_sai, e_gfi_sai, Nat.reduceEqDiff, false_and, and_false, true_and, and_true, and_self, ↓reduceIte, Nat.add_left_cancel_iff, hc1, hc2, hc3, hc4, up_ne]
      exact k3
    · simp (disch := first | assumption | omega) only [e_gfi_sfi, gai_sfi, e_gar_sfi, e_gai_sai, e_gar_sai, e_gfi_sai, Nat.reduceEqDiff, false_and, and_false, true_and, and_true, and_self, ↓reduceIte, Nat.add_left_cancel_iff, hc1, hc2, hc3, hc4, up_ne, k4]
  · simp (disch := first | assumption | omega) only [e_gfi_sfi, gai_sfi, e_gar_sfi, e_gai_sai, e_gar_sai, e_gfi_sai, Nat.reduceEqDiff, false_and, and_false, true_and, and_true, and_self, ↓reduceIte, Nat.add_left_cancel_iff, hc1, hc2, hc3, hc4, up_ne, d3]
  · intro k hk
    have := d3' k hk
    simp (disch := first | assumption | omega) only [e_gfi_sfi, gai_sfi, e_gar_sfi, e_gai_sai, e_gar_sai, e_gfi_sai, Nat.reduceEqDiff, false_and, and_false, true_and, and_true, and_self, ↓reduceIte, Nat.add_left_cancel_iff, hc1, hc2, hc3, hc4, up_ne, this]
  · intro u hu
    have := d4 u hu
    simp (disch := first | assumption | omega) only [e_gfi_sfi, gai_sfi, e_gar_sfi, e_gai_sai, e_gar_sai, e_gfi_sai, Nat.reduceEqDiff, false_and, and_false, true_and, and_true, and_self, ↓reduceIte, Nat.add_left_cancel_iff, hc1, hc2, hc3, hc4, up_ne, this]
  · simp (disch := first | assumption | omega) only [e_gfi_sfi, gai_sfi, e_gar_sfi, e_gai_sai, e_gar_sai, e_gfi_sai, Nat.reduceEqDiff, false_and, and_false, true_and, and_true, and_self, ↓reduceIte, Nat.add_left_cancel_iff, hc1, hc2, hc3, hc4, up_ne, d5]
  · simp (disch := first | assumption | omega) only [e_gfi_sfi, gai_sfi, e_gar_sfi, e_gai_sai, e_gar_sai, e_gfi_sai, Nat.reduceEqDiff, false_and, and_false, true_and, and_true, and_self, ↓reduceIte, Nat.add_left_cancel_iff, hc1, hc2, hc3, hc4, up_ne, d6]
  · intro i x hi
    have := d7 i x hi
    simp (disch := first | assumption | omega) only [e_gfi_sfi, gai_sfi, e_gar_sfi, e_gai_sai, e_gar_sai, e_gfi_sai, Nat.reduceEqDiff, false_and, and_false, true_and, and_true, and_self, ↓reduceIte, Nat.add_left_cancel_iff, hc1, hc2, hc3, hc4, up_ne, this]
theorem XD_j36 {g : GS_} {S : Nat} {a : Nat → Int32} {F : List Nat} (h4 : tn (a 4) ≤ 24) (h5 : tn (a 5) ≤ 3) {j J : Nat} (hU : XJ g S) (hj : j < tn (a 4)) (hJ : gar g 23 S j = some J) (v : Int32) (h : XD g S a F) : XD (sfi g 36 J v) S (up a (106 + 13 * j + 10) v) (F) := by
  obtain ⟨d1, d2, ⟨d3, d3'⟩, d4, d5, d6, d7⟩ := h
  have e4 : (up a (106 + 13 * j + 10) v) 4 = a 4 := up_ne (by omega)
  have e5 : (up a (106 + 13 * j + 10) v) 5 = a 5 := up_ne (by omega)
  unfold XD
  rw [e4, e5]
  refine ⟨?_, ?_, ⟨?_, ?_⟩, ?_, ?_, ?_, ?_⟩
  · intro i I hi hI
    have hI' : gar g 23 S i = some I := hI
    obtain ⟨k1, k2, k3, k4⟩ := d1 i I hi hI'
    by_cases e : i = j
    · subst e
      rw [hJ] at hI'
      cases hI'
      simp (disch := first | assumption | omega) only [e_gfi_sfi, gai_sfi, e_gar_sfi, e_gai_sai, e_gar_sai, e_gfi_sai, Nat.reduceEqDiff, false_and, and_false, true_and, and_true, and_self, ↓reduceIte, Nat.add_left_cancel_iff, hc1, hc2, hc3, hc4, up_eq, up_ne, k1, k2, k3, k4]
    · have hne : (I = J) = False := eq_false (fun q => e (by subst q; exact (hU j I (by omega) hJ).2 i (by omega) hI'))
      simp (disch := first | assumption | omega) only [e_gfi_sfi, gai_sfi, e_gar_sfi, e_gai_sai, e_gar_sai, e_gfi_sai, Nat.reduceEqDiff, false_and, and_false, true_and, and_true, and_self, ↓reduceIte, Nat.add_left_cancel_iff, hc1, hc2, hc3, hc4, hne, up_ne, k1, k2, k3, k4]
  · intro q hq
    obtain ⟨k1, k2, k3, k4⟩ := d2 q hq
    refine ⟨fun z hz => ?_, ?_, ?_, ?_⟩
    · have k := k1 z hz
      simp (disch := first | assumption | omega) only [e_gfi_sfi, gai_sfi, e_gar_sfi, e_gai_sai, e_gar_sai, e_gfi_sai, Nat.reduceEqDiff, false_and, and_false, true_and, and_true, and_self, ↓reduceIte, Nat.add_left_cancel_iff, hc1, hc2, hc3, hc4, up_ne, k]
    · simp (disch := first | assumption | omega) only [e_gfi_sfi, gai_sfi, e_gar_sfi, e_gai_sai, e_gar_sai, e_gfi_sai, Nat.reduceEqDiff, false_and, and_false, true_and, and_true, and_self, ↓reduceIte, Nat.add_left_cancel_iff, hc1, hc2, hc3, hc4, up_ne, k2]
    · simp (disch := first | assumption | omega) only [e_gfi_sfi, gai_sfi, e_gar_sfi, e_gai_sai, e_gar_sai, e_gfi_sai, Nat.reduceEqDiff, false_and, and_false, true_and, and_true, and_self, ↓reduceIte, Nat.add_left_cancel_iff, hc1, hc2, hc3, hc4, up_ne]
      exact k3
    · simp (disch := first | assumption | omega) only [e_gfi_sfi, gai_sfi, e_gar_sfi, e_gai_sai, e_gar_sai, e_gfi_sai, Nat.reduceEqDiff, false_and, and_false, true_and, and_true, and_self, ↓reduceIte, Nat.add_left_cancel_iff, hc1, hc2, hc3, hc4, up_ne, k4]
  · simp (disch := first | assumption | omega) only [e_gfi_sfi, gai_sfi, e_gar_sfi, e_gai_sai, e_gar_sai, e_gfi_sai, Nat.reduceEqDiff, false_and, and_false, true_and, and_true, and_self, ↓reduceIte, Nat.add_left_cancel_iff, hc1, hc2, hc3, hc4, up_ne, d3]
  · intro k hk
    have := d3' k hk
    simp (disch := first | assumption | omega) only [e_gfi_sfi, gai_sfi, e_gar_sfi, e_gai_sai, e_gar_sai, e_gfi_sai, Nat.reduceEqDiff, false_and, and_false, true_and, and_true, and_self, ↓reduceIte, Nat.add_left_cancel_iff, hc1, hc2, hc3, hc4, up_ne, this]
  · intro u hu
    have := d4 u hu
    simp (disch := first | assumption | omega) only [e_gfi_sfi, gai_sfi, e_gar_sfi, e_gai_sai, e_gar_sai, e_gfi_sai, Nat.reduceEqDiff, false_and, and_false, true_and, and_true, and_self, ↓reduceIte, Nat.add_left_cancel_iff, hc1, hc2, hc3, hc4, up_ne, this]
  · simp (disch := first | assumption | omega) only [e_gfi_sfi, gai_sfi, e_gar_sfi, e_gai_sai, e_gar_sai, e_gfi_sai, Nat.reduceEqDiff, false_and, and_false, true_and, and_true, and_self, ↓reduceIte, Nat.add_left_cancel_iff, hc1, hc2, hc3, hc4, up_ne, d5]
  · simp (disch := first | assumption | omega) only [e_gfi_sfi, gai_sfi, e_gar_sfi, e_gai_sai, e_gar_sai, e_gfi_sai, Nat.reduceEqDiff, false_and, and_false, true_and, and_true, and_self, ↓reduceIte, Nat.add_left_cancel_iff, hc1, hc2, hc3, hc4, up_ne, d6]
  · intro i x hi
    have := d7 i x hi
    simp (disch := first | assumption | omega) only [e_gfi_sfi, gai_sfi, e_gar_sfi, e_gai_sai, e_gar_sai, e_gfi_sai, Nat.reduceEqDiff, false_and, and_false, true_and, and_true, and_self, ↓reduceIte, Nat.add_left_cancel_iff, hc1, hc2, hc3, hc4, up_ne, this]
theorem XD_j37 {g : GS_} {S : Nat} {a : Nat → Int32} {F : List Nat} (h4 : tn (a 4) ≤ 24) (h5 : tn (a 5) ≤ 3) {j J : Nat} (hU : XJ g S) (hj : j < tn (a 4)) (hJ : gar g 23 S j = some J) (v : Int32) (h : XD g S a F) : XD (sfi g 37 J v) S (up a (106 + 13 * j + 11) v) (F) := by
  obtain ⟨d1, d2, ⟨d3, d3'⟩, d4, d5, d6, d7⟩ := h
  have e4 : (up a (106 + 13 * j + 11) v) 4 = a 4 := up_ne (by omega)
  have e5 : (up a (106 + 13 * j + 11) v) 5 = a 5 := up_ne (by omega)
  unfold XD
  rw [e4, e5]
  refine ⟨?_, ?_, ⟨?_, ?_⟩, ?_, ?_, ?_, ?_⟩
  · intro i I hi hI
    have hI' : gar g 23 S i = some I := hI
    obtain ⟨k1, k2, k3, k4⟩ := d1 i I hi hI'
    by_cases e : i = j
    · subst e
      rw [hJ] at hI'
      cases hI'
      simp (disch := first | assumption | omega) only [e_gfi_sfi, gai_sfi, e_gar_sfi, e_gai_sai, e_gar_sai, e_gfi_sai, Nat.reduceEqDiff, false_and, and_false, true_and, and_true, and_self, ↓reduceIte, Nat.add_left_cancel_iff, hc1, hc2, hc3, hc4, up_eq, up_ne, k1, k2, k3, k4]
    · have hne : (I = J) = False := eq_false (fun q => e (by subst q; exact (hU j I (by omega) hJ).2 i (by omega) hI'))
      simp (disch := first | assumption | omega) only [e_gfi_sfi, gai_sfi, e_gar_sfi, e_gai_sai, e_gar_sai, e_gfi_sai, Nat.reduceEqDiff, false_and, and_false, true_and, and_true, and_self, ↓reduceIte, Nat.add_left_cancel_iff, hc1, hc2, hc3, hc4, hne, up_ne, k1, k2, k3, k4]
  · intro q hq
    obtain ⟨k1, k2, k3, k4⟩ := d2 q hq
    refine ⟨fun z hz => ?_, ?_, ?_, ?_⟩
    · have k := k1 z hz
      simp (disch := first | assumption | omega) only [e_gfi_sfi, gai_sfi, e_gar_sfi, e_gai_sai, e_gar_sai, e_gfi_sai, Nat.reduceEqDiff, false_and, and_false, true_and, and_true, and_self, ↓reduceIte, Nat.add_left_cancel_iff, hc1, hc2, hc3, hc4, up_ne, k]
    · simp (disch := first | assumption | omega) only [e_gfi_sfi, gai_sfi, e_gar_sfi, e_gai_sai, e_gar_sai, e_gfi_sai, Nat.reduceEqDiff, false_and, and_false, true_and, and_true, and_self, ↓reduceIte, Nat.add_left_cancel_iff, hc1, hc2, hc3, hc4, up_ne, k2]
    · simp (disch := first | assumption | omega) only [e_gfi_sfi, gai_sfi, e_gar_sfi, e_gai_sai, e_gar_sai, e_gfi_sai, Nat.reduceEqDiff, false_and, and_false, true_and, and_true, and_self, ↓reduceIte, Nat.add_left_cancel_iff, hc1, hc2, hc3, hc4, up_ne]
      exact k3
    · simp (disch := first | assumption | omega) only [e_gfi_sfi, gai_sfi, e_gar_sfi, e_gai_sai, e_gar_sai, e_gfi_sai, Nat.reduceEqDiff, false_and, and_false, true_and, and_true, and_self, ↓reduceIte, Nat.add_left_cancel_iff, hc1, hc2, hc3, hc4, up_ne, k4]
  · simp (disch := first | assumption | omega) only [e_gfi_sfi, gai_sfi, e_gar_sfi, e_gai_sai, e_gar_sai, e_gfi_sai, Nat.reduceEqDiff, false_and, and_false, true_and, and_true, and_self, ↓reduceIte, Nat.add_left_cancel_iff, hc1, hc2, hc3, hc4, up_ne, d3]
  · intro k hk
    have := d3' k hk
    simp (disch := first | assumption | omega) only [e_gfi_sfi, gai_sfi, e_gar_sfi, e_gai_sai, e_gar_sai, e_gfi_sai, Nat.reduceEqDiff, false_and, and_false, true_and, and_true, and_self, ↓reduceIte, Nat.add_left_cancel_iff, hc1, hc2, hc3, hc4, up_ne, this]
  · intro u hu
    have := d4 u hu
    simp (disch := first | assumption | omega) only [e_gfi_sfi, gai_sfi, e_gar_sfi, e_gai_sai, e_gar_sai, e_gfi_sai, Nat.reduceEqDiff, false_and, and_false, true_and, and_true, and_self, ↓reduceIte, Nat.add_left_cancel_iff, hc1, hc2, hc3, hc4, up_ne, this]
  · simp (disch := first | assumption | omega) only [e_gfi_sfi, gai_sfi, e_gar_sfi, e_gai_sai, e_gar_sai, e_gfi_sai, Nat.reduceEqDiff, false_and, and_false, true_and, and_true, and_self, ↓reduceIte, Nat.add_left_cancel_iff, hc1, hc2, hc3, hc4, up_ne, d5]
  · simp (disch := first | assumption | omega) only [e_gfi_sfi, gai_sfi, e_gar_sfi, e_gai_sai, e_gar_sai, e_gfi_sai, Nat.reduceEqDiff, false_and, and_false, true_and, and_true, and_self, ↓reduceIte, Nat.add_left_cancel_iff, hc1, hc2, hc3, hc4, up_ne, d6]
  · intro i x hi
    have := d7 i x hi
    simp (disch := first | assumption | omega) only [e_gfi_sfi, gai_sfi, e_gar_sfi, e_gai_sai, e_gar_sai, e_gfi_sai, Nat.reduceEqDiff, false_and, and_false, true_and, and_true, and_self, ↓reduceIte, Nat.add_left_cancel_iff, hc1, hc2, hc3, hc4, up_ne, this]
theorem XD_j38 {g : GS_} {S : Nat} {a : Nat → Int32} {F : List Nat} (h4 : tn (a 4) ≤ 24) (h5 : tn (a 5) ≤ 3) {j J : Nat} (hU : XJ g S) (hj : j < tn (a 4)) (hJ : gar g 23 S j = some J) (v : Int32) (h : XD g S a F) : XD (sfi g 38 J (rq v)) S (up a (106 + 13 * j + 12) v) (F) := by
  obtain ⟨d1, d2, ⟨d3, d3'⟩, d4, d5, d6, d7⟩ := h
  have e4 : (up a (106 + 13 * j + 12) v) 4 = a 4 := up_ne (by omega)
  have e5 : (up a (106 + 13 * j + 12) v) 5 = a 5 := up_ne (by omega)
  unfold XD
  rw [e4, e5]
  refine ⟨?_, ?_, ⟨?_, ?_⟩, ?_, ?_, ?_, ?_⟩
  · intro i I hi hI
    have hI' : gar g 23 S i = some I := hI
    obtain ⟨k1, k2, k3, k4⟩ := d1 i I hi hI'
    by_cases e : i = j
    · subst e
      rw [hJ] at hI'
      cases hI'
      simp (disch := first | assumption | omega) only [e_gfi_sfi, gai_sfi, e_gar_sfi, e_gai_sai, e_gar_sai, e_gfi_sai, Nat.reduceEqDiff, false_and, and_false, true_and, and_true, and_self, ↓reduceIte, Nat.add_left_cancel_iff, hc1, hc2, hc3, hc4, up_eq, up_ne, k1, k2, k3, k4]
    · have hne : (I = J) = False := eq_false (fun q => e (by subst q; exact (hU j I (by omega) hJ).2 i (by omega) hI'))
      simp (disch := first | assumption | omega) only [e_gfi_sfi, gai_sfi, e_gar_sfi, e_gai_sai, e_gar_sai, e_gfi_sai, Nat.reduceEqDiff, false_and, and_false, true_and, and_true, and_self, ↓reduceIte, Nat.add_left_cancel_iff, hc1, hc2, hc3, hc4, hne, up_ne, k1, k2, k3, k4]
  · intro q hq
    obtain ⟨k1, k2, k3, k4⟩ := d2 q hq
    refine ⟨fun z hz => ?_, ?_, ?_, ?_⟩
    · have k := k1 z hz
      simp (disch := first | assumption | omega) only [e_gfi_sfi, gai_sfi, e_gar_sfi, e_gai_sai, e_gar_sai, e_gfi_sai, Nat.reduceEqDiff, false_and, and_false, true_and, and_true, and_self, ↓reduceIte, Nat.add_left_cancel_iff, hc1, hc2, hc3, hc4, up_ne, k]
    · simp (disch := first | assumption | omega) only [e_gfi_sfi, gai_sfi, e_gar_sfi, e_gai_sai, e_gar_sai, e_gfi_sai, Nat.reduceEqDiff, false_and, and_false, true_and, and_true, and_self, ↓reduceIte, Nat.add_left_cancel_iff, hc1, hc2, hc3, hc4, up_ne, k2]
    · simp (disch := first | assumption | omega) only [e_gfi_sfi, gai_sfi, e_gar_sfi, e_gai_sai, e_gar_sai, e_gfi_sai, Nat.reduceEqDiff, false_and, and_false, true_and, and_true, and_self, ↓reduceIte, Nat.add_left_cancel_iff, hc1, hc2, hc3, hc4, up_ne]
      exact k3
    · simp (disch := first | assumption | omega) only [e_gfi_sfi, gai_sfi, e_gar_sfi, e_gai_sai, e_gar_sai, e_gfi_sai, Nat.reduceEqDiff, false_and, and_false, true_and, and_true, and_self, ↓reduceIte, Nat.add_left_cancel_iff, hc1, hc2, hc3, hc4, up_ne, k4]
  · simp (disch := first | assumption | omega) only [e_gfi_sfi, gai_sfi, e_gar_sfi, e_gai_sai, e_gar_sai, e_gfi_sai, Nat.reduceEqDiff, false_and, and_false, true_and, and_true, and_self, ↓reduceIte, Nat.add_left_cancel_iff, hc1, hc2, hc3, hc4, up_ne, d3]
  · intro k hk
    have := d3' k hk
    simp (disch := first | assumption | omega) only [e_gfi_sfi, gai_sfi, e_gar_sfi, e_gai_sai, e_gar_sai, e_gfi_sai, Nat.reduceEqDiff, false_and, and_false, true_and, and_true, and_self, ↓reduceIte, Nat.add_left_cancel_iff, hc1, hc2, hc3, hc4, up_ne, this]
  · intro u hu
    have := d4 u hu
    simp (disch := first | assumption | omega) only [e_gfi_sfi, gai_sfi, e_gar_sfi, e_gai_sai, e_gar_sai, e_gfi_sai, Nat.reduceEqDiff, false_and, and_false, true_and, and_true, and_self, ↓reduceIte, Nat.add_left_cancel_iff, hc1, hc2, hc3, hc4, up_ne, this]
  · simp (disch := first | assumption | omega) only [e_gfi_sfi, gai_sfi, e_gar_sfi, e_gai_sai, e_gar_sai, e_gfi_sai, Nat.reduceEqDiff, false_and, and_false, true_and, and_true, and_self, ↓reduceIte, Nat.add_left_cancel_iff, hc1, hc2, hc3, hc4, up_ne, d5]
  · simp (disch := first | assumption | omega) only [e_gfi_sfi, gai_sfi, e_gar_sfi, e_gai_sai, e_gar_sai, e_gfi_sai, Nat.reduceEqDiff, false_and, and_false, true_and, and_true, and_self, ↓reduceIte, Nat.add_left_cancel_iff, hc1, hc2, hc3, hc4, up_ne, d6]
  · intro i x hi
    have := d7 i x hi
    simp (disch := first | assumption | omega) only [e_gfi_sfi, gai_sfi, e_gar_sfi, e_gai_sai, e_gar_sai, e_gfi_sai, Nat.reduceEqDiff, false_and, and_false, true_and, and_true, and_self, ↓reduceIte, Nat.add_left_cancel_iff, hc1, hc2, hc3, hc4, up_ne, this]
theorem XD_p165 {g : GS_} {S : Nat} {a : Nat → Int32} {F : List Nat} (h4 : tn (a 4) ≤ 24) (h5 : tn (a 5) ≤ 3) {p : Nat} (hp : p < tn (a 5)) (v : Int32)  (h : XD g S a F) : XD (sfi g 165 (3 * S + p) v) S (up a (76 + 10 * p + 7) v) (F) := by
  obtain ⟨d1, d2, ⟨d3, d3'⟩, d4, d5, d6, d7⟩ := h
  have e4 : (up a (76 + 10 * p + 7) v) 4 = a 4 := up_ne (by omega)
  have e5 : (up a (76 + 10 * p + 7) v) 5 = a 5 := up_ne (by omega)
  unfold XD
  rw [e4, e5]
  refine ⟨?_, ?_, ⟨?_, ?_⟩, ?_, ?_, ?_, ?_⟩
  · intro i I hi hI
    obtain ⟨k1, k2, k3, k4⟩ := d1 i I hi hI
    simp (disch := first | assumption | omega) only [e_gfi_sfi, gai_sfi, e_gar_sfi, e_gai_sai, e_gar_sai, e_gfi_sai, Nat.reduceEqDiff, false_and, and_false, true_and, and_true, and_self, ↓reduceIte, Nat.add_left_cancel_iff, hc1, hc2, hc3, hc4, up_ne, k1, k2, k3, k4]
  · intro q hq
    obtain ⟨k1, k2, k3, k4⟩ := d2 q hq
    by_cases e : q = p
    · subst e
      refine ⟨fun z hz => ?_, ?_, fun hw => ?_, ?_⟩
      · have k := k1 z hz
        simp (disch := first | assumption | omega) only [e_gfi_sfi, gai_sfi, e_gar_sfi, e_gai_sai, e_gar_sai, e_gfi_sai, Nat.reduceEqDiff, false_and, and_false, true_and, and_true, and_self, ↓reduceIte, Nat.add_left_cancel_iff, hc1, hc2, hc3, hc4, up_ne, k]
      · simp (disch := first | assumption | omega) only [e_gfi_sfi, gai_sfi, e_gar_sfi, e_gai_sai, e_gar_sai, e_gfi_sai, Nat.reduceEqDiff, false_and, and_false, true_and, and_true, and_self, ↓reduceIte, Nat.add_left_cancel_iff, hc1, hc2, hc3, hc4, up_ne, k2]
      · rw [up_ne (by omega)] at hw
        obtain ⟨m1, m2⟩ := k3 hw
        simp (disch := first | assumption | omega) only [e_gfi_sfi, gai_sfi, e_gar_sfi, e_gai_sai, e_gar_sai, e_gfi_sai, Nat.reduceEqDiff, false_and, and_false, true_and, and_true, and_self, ↓reduceIte, Nat.add_left_cancel_iff, hc1, hc2, hc3, hc4, up_ne, up_eq, m1, m2]
      · simp (disch := first | assumption | omega) only [e_gfi_sfi, gai_sfi, e_gar_sfi, e_gai_sai, e_gar_sai, e_gfi_sai, Nat.reduceEqDiff, false_and, and_false, true_and, and_true, and_self, ↓reduceIte, Nat.add_left_cancel_iff, hc1, hc2, hc3, hc4, up_ne, up_eq, k4]
    · have hne : (q = p) = False := eq_false e
      refine ⟨fun z hz => ?_, ?_, ?_, ?_⟩
      · have k := k1 z hz
        simp (disch := first | assumption | omega) only [e_gfi_sfi, gai_sfi, e_gar_sfi, e_gai_sai, e_gar_sai, e_gfi_sai, Nat.reduceEqDiff, false_and, and_false, true_and, and_true, and_self, ↓reduceIte, Nat.add_left_cancel_iff, hc1, hc2, hc3, hc4, hne, up_ne, k]
      · simp (disch := first | assumption | omega) only [e_gfi_sfi, gai_sfi, e_gar_sfi, e_gai_sai, e_gar_sai, e_gfi_sai, Nat.reduceEqDiff, false_and, and_false, true_and, and_true, and_self, ↓reduceIte, Nat.add_left_cancel_iff, hc1, hc2, hc3, hc4, hne, up_ne, k2]
      · simp (disch := first | assumption | omega) only [e_gfi_sfi, gai_sfi, e_gar_sfi, e_gai_sai, e_gar_sai, e_gfi_sai, Nat.reduceEqDiff, false_and, and_false, true_and, and_true, and_self, ↓reduceIte, Nat.add_left_cancel_iff, hc1, hc2, hc3, hc4, hne, up_ne]
        exact k3
      · simp (disch := first | assumption | omega) only [e_gfi_sfi, gai_sfi, e_gar_sfi, e_gai_sai, e_gar_sai, e_gfi_sai, Nat.reduceEqDiff, false_and, and_false, true_and, and_true, and_self, ↓reduceIte, Nat.add_left_cancel_iff, hc1, hc2, hc3, hc4, hne, up_ne, k4]
  · simp (disch := first | assumption | omega) only [e_gfi_sfi, gai_sfi, e_gar_sfi, e_gai_sai, e_gar_sai, e_gfi_sai, Nat.reduceEqDiff, false_and, and_false, true_and, and_true, and_self, ↓reduceIte, Nat.add_left_cancel_iff, hc1, hc2, hc3, hc4, up_ne, d3]
  · intro k hk
    have := d3' k hk
    simp (disch := first | assumption | omega) only [e_gfi_sfi, gai_sfi, e_gar_sfi, e_gai_sai, e_gar_sai, e_gfi_sai, Nat.reduceEqDiff, false_and, and_false, true_and, and_true, and_self, ↓reduceIte, Nat.add_left_cancel_iff, hc1, hc2, hc3, hc4, up_ne, this]
  · intro u hu
    have := d4 u hu
    simp (disch := first | assumption | omega) only [e_gfi_sfi, gai_sfi, e_gar_sfi, e_gai_sai, e_gar_sai, e_gfi_sai, Nat.reduceEqDiff, false_and, and_false, true_and, and_true, and_self, ↓reduceIte, Nat.add_left_cancel_iff, hc1, hc2, hc3, hc4, up_ne, this]
  · simp (disch := first | assumption | omega) only [e_gfi_sfi, gai_sfi, e_gar_sfi, e_gai_sai, e_gar_sai, e_gfi_sai, Nat.reduceEqDiff, false_and, and_false, true_and, and_true, and_self, ↓reduceIte, Nat.add_left_cancel_iff, hc1, hc2, hc3, hc4, up_ne, d5]
  · simp (disch := first | assumption | omega) only [e_gfi_sfi, gai_sfi, e_gar_sfi, e_gai_sai, e_gar_sai, e_gfi_sai, Nat.reduceEqDiff, false_and, and_false, true_and, and_true, and_self, ↓reduceIte, Nat.add_left_cancel_iff, hc1, hc2, hc3, hc4, up_ne, d6]
  · intro i x hi
    have := d7 i x hi
    simp (disch := first | assumption | omega) only [e_gfi_sfi, gai_sfi, e_gar_sfi, e_gai_sai, e_gar_sai, e_gfi_sai, Nat.reduceEqDiff, false_and, and_false, true_and, and_true, and_self, ↓reduceIte, Nat.add_left_cancel_iff, hc1, hc2, hc3, hc4, up_ne, this]
theorem XD_p166 {g : GS_} {S : Nat} {a : Nat → Int32} {F : List Nat} (h4 : tn (a 4) ≤ 24) (h5 : tn (a 5) ≤ 3) {p : Nat} (hp : p < tn (a 5)) (v : Int32)  (h : XD g S a F) : XD (sfi g 166 (3 * S + p) v) S (up a (76 + 10 * p + 8) v) (F) := by
  obtain ⟨d1, d2, ⟨d3, d3'⟩, d4, d5, d6, d7⟩ := h
  have e4 : (up a (76 + 10 * p + 8) v) 4 = a 4 := up_ne (by omega)
  have e5 : (up a (76 + 10 * p + 8) v) 5 = a 5 := up_ne (by omega)
  unfold XD
  rw [e4, e5]
  refine ⟨?_, ?_, ⟨?_, ?_⟩, ?_, ?_, ?_, ?_⟩
  · intro i I hi hI
    obtain ⟨k1, k2, k3, k4⟩ := d1 i I hi hI
    simp (disch := first | assumption | omega) only [e_gfi_sfi, gai_sfi, e_gar_sfi, e_gai_sai, e_gar_sai, e_gfi_sai, Nat.reduceEqDiff, false_and, and_false, true_and, and_true, and_self, ↓reduceIte, Nat.add_left_cancel_iff, hc1, hc2, hc3, hc4, up_ne, k1, k2, k3, k4]
  · intro q hq
    obtain ⟨k1, k2, k3, k4⟩ := d2 q hq
    by_cases e : q = p
    · subst e
      refine ⟨fun z hz => ?_, ?_, fun hw => ?_, ?_⟩
      · have k := k1 z hz
        simp (disch := first | assumption | omega) only [e_gfi_sfi, gai_sfi, e_gar_sfi, e_gai_sai, e_gar_sai, e_gfi_sai, Nat.reduceEqDiff, false_and, and_false, true_and, and_true, and_self, ↓reduceIte, Nat.add_left_cancel_iff, hc1, hc2, hc3, hc4, up_ne, k]
      · simp (disch := first | assumption | omega) only [e_gfi_sfi, gai_sfi, e_gar_sfi, e_gai_sai, e_gar_sai, e_gfi_sai, Nat.reduceEqDiff, false_and, and_false, true_and, and_true, and_self, ↓reduceIte, Nat.add_left_cancel_iff, hc1, hc2, hc3, hc4, up_ne, k2]
      · rw [up_ne (by omega)] at hw
        obtain ⟨m1, m2⟩ := k3 hw
        simp (disch := first | assumption | omega) only [e_gfi_sfi, gai_sfi, e_gar_sfi, e_gai_sai, e_gar_sai, e_gfi_sai, Nat.reduceEqDiff, false_and, and_false, true_and, and_true, and_self, ↓reduceIte, Nat.add_left_cancel_iff, hc1, hc2, hc3, hc4, up_ne, up_eq, m1, m2]
      · simp (disch := first | assumption | omega) only [e_gfi_sfi, gai_sfi, e_gar_sfi, e_gai_sai, e_gar_sai, e_gfi_sai, Nat.reduceEqDiff, false_and, and_false, true_and, and_true, and_self, ↓reduceIte, Nat.add_left_cancel_iff, hc1, hc2, hc3, hc4, up_ne, up_eq, k4]
    · have hne : (q = p) = False := eq_false e
      refine ⟨fun z hz => ?_, ?_, ?_, ?_⟩
      · have k := k1 z hz
        simp (disch := first | assumption | omega) only [e_gfi_sfi, gai_sfi, e_gar_sfi, e_gai_sai, e_gar_sai, e_gfi_sai, Nat.reduceEqDiff, false_and, and_false, true_and, and_true, and_self, ↓reduceIte, Nat.add_left_cancel_iff, hc1, hc2, hc3, hc4, hne, up_ne, k]
      · simp (disch := first | assumption | omega) only [e_gfi_sfi, gai_sfi, e_gar_sfi, e_gai_sai, e_gar_sai, e_gfi_sai, Nat.reduceEqDiff, false_and, and_false, true_and, and_true, and_self, ↓reduceIte, Nat.add_left_cancel_iff, hc1, hc2, hc3, hc4, hne, up_ne, k2]
      · simp (disch := first | assumption | omega) only [e_gfi_sfi, gai_sfi, e_gar_sfi, e_gai_sai, e_gar_sai, e_gfi_sai, Nat.reduceEqDiff, false_and, and_false, true_and, and_true, and_self, ↓reduceIte, Nat.add_left_cancel_iff, hc1, hc2, hc3, hc4, hne, up_ne]
        exact k3
      · simp (disch := first | assumption | omega) only [e_gfi_sfi, gai_sfi, e_gar_sfi, e_gai_sai, e_gar_sai, e_gfi_sai, Nat.reduceEqDiff, false_and, and_false, true_and, and_true, and_self, ↓reduceIte, Nat.add_left_cancel_iff, hc1, hc2, hc3, hc4, hne, up_ne, k4]
  · simp (disch := first | assumption | omega) only [e_gfi_sfi, gai_sfi, e_gar_sfi, e_gai_sai, e_gar_sai, e_gfi_sai, Nat.reduceEqDiff, false_and, and_false, true_and, and_true, and_self, ↓reduceIte, Nat.add_left_cancel_iff, hc1, hc2, hc3, hc4, up_ne, d3]
  · intro k hk
    have := d3' k hk
    simp (disch := first | assumption | omega) only [e_gfi_sfi, gai_sfi, e_gar_sfi, e_gai_sai, e_gar_sai, e_gfi_sai, Nat.reduceEqDiff, false_and, and_false, true_and, and_true, and_self, ↓reduceIte, Nat.add_left_cancel_iff, hc1, hc2, hc3, hc4, up_ne, this]
  · intro u hu
    have := d4 u hu
    simp (disch := first | assumption | omega) only [e_gfi_sfi, gai_sfi, e_gar_sfi, e_gai_sai, e_gar_sai, e_gfi_sai, Nat.reduceEqDiff, false_and, and_false, true_and, and_true, and_self, ↓reduceIte, Nat.add_left_cancel_iff, hc1, hc2, hc3, hc4, up_ne, this]
  · simp (disch := first | assumption | omega) only [e_gfi_sfi, gai_sfi, e_gar_sfi, e_gai_sai, e_gar_sai, e_gfi_sai, Nat.reduceEqDiff, false_and, and_false, true_and, and_true, and_self, ↓reduceIte, Nat.add_left_cancel_iff, hc1, hc2, hc3, hc4, up_ne, d5]
  · simp (disch := first | assumption | omega) only [e_gfi_sfi, gai_sfi, e_gar_sfi, e_gai_sai, e_gar_sai, e_gfi_sai, Nat.reduceEqDiff, false_and, and_false, true_and, and_true, and_self, ↓reduceIte, Nat.add_left_cancel_iff, hc1, hc2, hc3, hc4, up_ne, d6]
  · intro i x hi
    have := d7 i x hi
    simp (disch := first | assumption | omega) only [e_gfi_sfi, gai_sfi, e_gar_sfi, e_gai_sai, e_gar_sai, e_gfi_sai, Nat.reduceEqDiff, false_and, and_false, true_and, and_true, and_self, ↓reduceIte, Nat.add_left_cancel_iff, hc1, hc2, hc3, hc4, up_ne, this]
theorem XD_p167 {g : GS_} {S : Nat} {a : Nat → Int32} {F : List Nat} (h4 : tn (a 4) ≤ 24) (h5 : tn (a 5) ≤ 3) {p : Nat} (hp : p < tn (a 5)) (v : Int32)  (h : XD g S a F) : XD (sfi g 167 (3 * S + p) v) S (up a (76 + 10 * p + 9) v) (F) := by
  obtain ⟨d1, d2, ⟨d3, d3'⟩, d4, d5, d6, d7⟩ := h
  have e4 : (up a (76 + 10 * p + 9) v) 4 = a 4 := up_ne (by omega)
  have e5 : (up a (76 + 10 * p + 9) v) 5 = a 5 := up_ne (by omega)
  unfold XD
  rw [e4, e5]
  refine ⟨?_, ?_, ⟨?_, ?_⟩, ?_, ?_, ?_, ?_⟩
  · intro i I hi hI
    obtain ⟨k1, k2, k3, k4⟩ := d1 i I hi hI
    simp (disch := first | assumption | omega) only [e_gfi_sfi, gai_sfi, e_gar_sfi, e_gai_sai, e_gar_sai, e_gfi_sai, Nat.reduceEqDiff, false_and, and_false, true_and, and_true, and_self, ↓reduceIte, Nat.add_left_cancel_iff, hc1, hc2, hc3, hc4, up_ne, k1, k2, k3, k4]
  · intro q hq
    obtain ⟨k1, k2, k3, k4⟩ := d2 q hq
    by_cases e : q = p
    · subst e
      refine ⟨fun z hz => ?_, ?_, fun hw => ?_, ?_⟩
      · have k := k1 z hz
        simp (disch := first | assumption | omega) only [e_gfi_sfi, gai_sfi, e_gar_sfi, e_gai_sai, e_gar_sai, e_gfi_sai, Nat.reduceEqDiff, false_and, and_false, true_and, and_true, and_self, ↓reduceIte, Nat.add_left_cancel_iff, hc1, hc2, hc3, hc4, up_ne, k]
      · simp (disch := first | assumption | omega) only [e_gfi_sfi, gai_sfi, e_gar_sfi, e_gai_sai, e_gar_sai, e_gfi_sai, Nat.reduceEqDiff, false_and, and_false, true_and, and_true, and_self, ↓reduceIte, Nat.add_left_cancel_iff, hc1, hc2, hc3, hc4, up_ne, k2]
      · rw [up_ne (by omega)] at hw
        obtain ⟨m1, m2⟩ := k3 hw
        simp (disch := first | assumption | omega) only [e_gfi_sfi, gai_sfi, e_gar_sfi, e_gai_sai, e_gar_sai, e_gfi_sai, Nat.reduceEqDiff, false_and, and_false, true_and, and_true, and_self, ↓reduceIte, Nat.add_left_cancel_iff, hc1, hc2, hc3, hc4, up_ne, up_eq, m1, m2]
      · simp (disch := first | assumption | omega) only [e_gfi_sfi, gai_sfi, e_gar_sfi, e_gai_sai, e_gar_sai, e_gfi_sai, Nat.reduceEqDiff, false_and, and_false, true_and, and_true, and_self, ↓reduceIte, Nat.add_left_cancel_iff, hc1, hc2, hc3, hc4, up_ne, up_eq, k4]
    · have hne : (q = p) = False := eq_false e
      refine ⟨fun z hz => ?_, ?_, ?_, ?_⟩
      · have k := k1 z hz
        simp (disch := first | assumption | omega) only [e_gfi_sfi, gai_sfi, e_gar_sfi, e_gai_sai, e_gar_sai, e_gfi_sai, Nat.reduceEqDiff, false_and, and_false, true_and, and_true, and_self, ↓reduceIte, Nat.add_left_cancel_iff, hc1, hc2, hc3, hc4, hne, up_ne, k]
      · simp (disch := first | assumption | omega) only [e_gfi_sfi, gai_sfi, e_gar_sfi, e_gai_sai, e_gar_sai, e_gfi_sai, Nat.reduceEqDiff, false_and, and_false, true_and, and_true, and_self, ↓reduceIte, Nat.add_left_cancel_iff, hc1, hc2, hc3, hc4, hne, up_ne, k2]
      · simp (disch := first | assumption | omega) only [e_gfi_sfi, gai_sfi, e_gar_sfi, e_gai_sai, e_gar_sai, e_gfi_sai, Nat.reduceEqDiff, false_and, and_false, true_and, and_true, and_self, ↓reduceIte, Nat.add_left_cancel_iff, hc1, hc2, hc3, hc4, hne, up_ne]
        exact k3
      · simp (disch := first | assumption | omega) only [e_gfi_sfi, gai_sfi, e_gar_sfi, e_gai_sai, e_gar_sai, e_gfi_sai, Nat.reduceEqDiff, false_and, and_false, true_and, and_true, and_self, ↓reduceIte, Nat.add_left_cancel_iff, hc1, hc2, hc3, hc4, hne, up_ne, k4]
  · simp (disch := first | assumption | omega) only [e_gfi_sfi, gai_sfi, e_gar_sfi, e_gai_sai, e_gar_sai, e_gfi_sai, Nat.reduceEqDiff, false_and, and_false, true_and, and_true, and_self, ↓reduceIte, Nat.add_left_cancel_iff, hc1, hc2, hc3, hc4, up_ne, d3]
  · intro k hk
    have := d3' k hk
    simp (disch := first | assumption | omega) only [e_gfi_sfi, gai_sfi, e_gar_sfi, e_gai_sai, e_gar_sai, e_gfi_sai, Nat.reduceEqDiff, false_and, and_false, true_and, and_true, and_self, ↓reduceIte, Nat.add_left_cancel_iff, hc1, hc2, hc3, hc4, up_ne, this]
  · intro u hu
    have := d4 u hu
    simp (disch := first | assumption | omega) only [e_gfi_sfi, gai_sfi, e_gar_sfi, e_gai_sai, e_gar_sai, e_gfi_sai, Nat.reduceEqDiff, false_and, and_false, true_and, and_true, and_self, ↓reduceIte, Nat.add_left_cancel_iff, hc1, hc2, hc3, hc4, up_ne, this]
  · simp (disch := first | assumption | omega) only [e_gfi_sfi, gai_sfi, e_gar_sfi, e_gai_sai, e_gar_sai, e_gfi_sai, Nat.reduceEqDiff, false_and, and_false, true_and, and_true, and_self, ↓reduceIte, Nat.add_left_cancel_iff, hc1, hc2, hc3, hc4, up_ne, d5]
  · simp (disch := first | assumption | omega) only [e_gfi_sfi, gai_sfi, e_gar_sfi, e_gai_sai, e_gar_sai, e_gfi_sai, Nat.reduceEqDiff, false_and, and_false, true_and, and_true, and_self, ↓reduceIte, Nat.add_left_cancel_iff, hc1, hc2, hc3, hc4, up_ne, d6]
  · intro i x hi
    have := d7 i x hi
    simp (disch := first | assumption | omega) only [e_gfi_sfi, gai_sfi, e_gar_sfi, e_gai_sai, e_gar_sai, e_gfi_sai, Nat.reduceEqDiff, false_and, and_false, true_and, and_true, and_self, ↓reduceIte, Nat.add_left_cancel_iff, hc1, hc2, hc3, hc4, up_ne, this]
theorem XD_p164 {g : GS_} {S : Nat} {a : Nat → Int32} {F : List Nat} (h4 : tn (a 4) ≤ 24) (h5 : tn (a 5) ≤ 3) {p : Nat} (hp : p < tn (a 5)) (v : Int32) (hv : v = nI 1 → gfi g 165 (3 * S + p) = a (76 + 10 * p + 7) ∧ gfi g 166 (3 * S + p) = a (76 + 10 * p + 8)) (h : XD g S a F) : XD (sfi g 164 (3 * S + p) v) S (up a (76 + 10 * p + 6) v) (F) := by
  obtain ⟨d1, d2, ⟨d3, d3'⟩, d4, d5, d6, d7⟩ := h
  have e4 : (up a (76 + 10 * p + 6) v) 4 = a 4 := up_ne (by omega)
  have e5 : (up a (76 + 10 * p + 6) v) 5 = a 5 := up_ne (by omega)
  unfold XD
  rw [e4, e5]
  refine ⟨?_, ?_, ⟨?_, ?_⟩, ?_, ?_, ?_, ?_⟩
  · intro i I hi hI
    obtain ⟨k1, k2, k3, k4⟩ := d1 i I hi hI
    simp (disch := first | assumption | omega) only [e_gfi_sfi, gai_sfi, e_gar_sfi, e_gai_sai, e_gar_sai, e_gfi_sai, Nat.reduceEqDiff, false_and, and_false, true_and, and_true, and_self, ↓reduceIte, Nat.add_left_cancel_iff, hc1, hc2, hc3, hc4, up_ne, k1, k2, k3, k4]
  · intro q hq
    obtain ⟨k1, k2, k3, k4⟩ := d2 q hq
    by_cases e : q = p
    · subst e
      refine ⟨fun z hz => ?_, ?_, fun hw => ?_, ?_⟩
      · have k := k1 z hz
        simp (disch := first | assumption | omega) only [e_gfi_sfi, gai_sfi, e_gar_sfi, e_gai_sai, e_gar_sai, e_gfi_sai, Nat.reduceEqDiff, false_and, and_false, true_and, and_true, and_self, ↓reduceIte, Nat.add_left_cancel_iff, hc1, hc2, hc3, hc4, up_ne, k]
      · simp (disch := first | assumption | omega) only [e_gfi_sfi, gai_sfi, e_gar_sfi, e_gai_sai, e_gar_sai, e_gfi_sai, Nat.reduceEqDiff, false_and, and_false, true_and, and_true, and_self, ↓reduceIte, Nat.add_left_cancel_iff, hc1, hc2, hc3, hc4, up_eq]
      · rw [up_eq rfl] at hw
        obtain ⟨m1, m2⟩ := hv hw
        simp (disch := first | assumption | omega) only [e_gfi_sfi, gai_sfi, e_gar_sfi, e_gai_sai, e_gar_sai, e_gfi_sai, Nat.reduceEqDiff, false_and, and_false, true_and, and_true, and_self, ↓reduceIte, Nat.add_left_cancel_iff, hc1, hc2, hc3, hc4, up_ne, m1, m2]
      · simp (disch := first | assumption | omega) only [e_gfi_sfi, gai_sfi, e_gar_sfi, e_gai_sai, e_gar_sai, e_gfi_sai, Nat.reduceEqDiff, false_and, and_false, true_and, and_true, and_self, ↓reduceIte, Nat.add_left_cancel_iff, hc1, hc2, hc3, hc4, up_ne, k4]
    · have hne : (q = p) = False := eq_false e
      refine ⟨fun z hz => ?_, ?_, ?_, ?_⟩
      · have k := k1 z hz
        simp (disch := first | assumption | omega) only [e_gfi_sfi, gai_sfi, e_gar_sfi, e_gai_sai, e_gar_sai, e_gfi_sai, Nat.reduceEqDiff, false_and, and_false, true_and, and_true, and_self, ↓reduceIte, Nat.add_left_cancel_iff, hc1, hc2, hc3, hc4, hne, up_ne, k]
      · simp (disch := first | assumption | omega) only [e_gfi_sfi, gai_sfi, e_gar_sfi, e_gai_sai, e_gar_sai, e_gfi_sai, Nat.reduceEqDiff, false_and, and_false, true_and, and_true, and_self, ↓reduceIte, Nat.add_left_cancel_iff, hc1, hc2, hc3, hc4, hne, up_ne, k2]
      · simp (disch := first | assumption | omega) only [e_gfi_sfi, gai_sfi, e_gar_sfi, e_gai_sai, e_gar_sai, e_gfi_sai, Nat.reduceEqDiff, false_and, and_false, true_and, and_true, and_self, ↓reduceIte, Nat.add_left_cancel_iff, hc1, hc2, hc3, hc4, hne, up_ne]
        exact k3
      · simp (disch := first | assumption | omega) only [e_gfi_sfi, gai_sfi, e_gar_sfi, e_gai_sai, e_gar_sai, e_gfi_sai, Nat.reduceEqDiff, false_and, and_false, true_and, and_true, and_self, ↓reduceIte, Nat.add_left_cancel_iff, hc1, hc2, hc3, hc4, hne, up_ne, k4]
  · simp (disch := first | assumption | omega) only [e_gfi_sfi, gai_sfi, e_gar_sfi, e_gai_sai, e_gar_sai, e_gfi_sai, Nat.reduceEqDiff, false_and, and_false, true_and, and_true, and_self, ↓reduceIte, Nat.add_left_cancel_iff, hc1, hc2, hc3, hc4, up_ne, d3]
  · intro k hk
    have := d3' k hk
    simp (disch := first | assumption | omega) only [e_gfi_sfi, gai_sfi, e_gar_sfi, e_gai_sai, e_gar_sai, e_gfi_sai, Nat.reduceEqDiff, false_and, and_false, true_and, and_true, and_self, ↓reduceIte, Nat.add_left_cancel_iff, hc1, hc2, hc3, hc4, up_ne, this]
  · intro u hu
    have := d4 u hu
    simp (disch := first | assumption | omega) only [e_gfi_sfi, gai_sfi, e_gar_sfi, e_gai_sai, e_gar_sai, e_gfi_sai, Nat.reduceEqDiff, false_and, and_false, true_and, and_true, and_self, ↓reduceIte, Nat.add_left_cancel_iff, hc1, hc2, hc3, hc4, up_ne, this]
  · simp (disch := first | assumption | omega) only [e_gfi_sfi, gai_sfi, e_gar_sfi, e_gai_sai, e_gar_sai, e_gfi_sai, Nat.reduceEqDiff, false_and, and_false, true_and, and_true, and_self, ↓reduceIte, Nat.add_left_cancel_iff, hc1, hc2, hc3, hc4, up_ne, d5]
  · simp (disch := first | assumption | omega) only [e_gfi_sfi, gai_sfi, e_gar_sfi, e_gai_sai, e_gar_sai, e_gfi_sai, Nat.reduceEqDiff, false_and, and_false, true_and, and_true, and_self, ↓reduceIte, Nat.add_left_cancel_iff, hc1, hc2, hc3, hc4, up_ne, d6]
  · intro i x hi
    have := d7 i x hi
    simp (disch := first | assumption | omega) only [e_gfi_sfi, gai_sfi, e_gar_sfi, e_gai_sai, e_gar_sai, e_gfi_sai, Nat.reduceEqDiff, false_and, and_false, true_and, and_true, and_self, ↓reduceIte, Nat.add_left_cancel_iff, hc1, hc2, hc3, hc4, up_ne, this]
theorem XD_p165n {g : GS_} {S : Nat} {a : Nat → Int32} {F : List Nat} (h4 : tn (a 4) ≤ 24) (h5 : tn (a 5) ≤ 3) {p : Nat} (hp : p < tn (a 5)) (v : Int32) (hn : a (76 + 10 * p + 6) ≠ nI 1) (h : XD g S a F) : XD (sfi g 165 (3 * S + p) v) S (a) (F) := by
  obtain ⟨d1, d2, ⟨d3, d3'⟩, d4, d5, d6, d7⟩ := h
  have e4 : (a) 4 = a 4 := rfl
  have e5 : (a) 5 = a 5 := rfl
  unfold XD
  rw [e4, e5]
  refine ⟨?_, ?_, ⟨?_, ?_⟩, ?_, ?_, ?_, ?_⟩
  · intro i I hi hI
    obtain ⟨k1, k2, k3, k4⟩ := d1 i I hi hI
    simp (disch := first | assumption | omega) only [e_gfi_sfi, gai_sfi, e_gar_sfi, e_gai_sai, e_gar_sai, e_gfi_sai, Nat.reduceEqDiff, false_and, and_false, true_and, and_true, and_self, ↓reduceIte, Nat.add_left_cancel_iff, hc1, hc2, hc3, hc4, up_ne, k1, k2, k3, k4]
  · intro q hq
    obtain ⟨k1, k2, k3, k4⟩ := d2 q hq
    by_cases e : q = p
    · subst e
      refine ⟨fun z hz => ?_, ?_, fun hw => absurd hw hn, ?_⟩
      · have k := k1 z hz
        simp (disch := first | assumption | omega) only [e_gfi_sfi, gai_sfi, e_gar_sfi, e_gai_sai, e_gar_sai, e_gfi_sai, Nat.reduceEqDiff, false_and, and_false, true_and, and_true, and_self, ↓reduceIte, Nat.add_left_cancel_iff, hc1, hc2, hc3, hc4, k]
      · simp (disch := first | assumption | omega) only [e_gfi_sfi, gai_sfi, e_gar_sfi, e_gai_sai, e_gar_sai, e_gfi_sai, Nat.reduceEqDiff, false_and, and_false, true_and, and_true, and_self, ↓reduceIte, Nat.add_left_cancel_iff, hc1, hc2, hc3, hc4, k2]
      · simp (disch := first | assumption | omega) only [e_gfi_sfi, gai_sfi, e_gar_sfi, e_gai_sai, e_gar_sai, e_gfi_sai, Nat.reduceEqDiff, false_and, and_false, true_and, and_true, and_self, ↓reduceIte, Nat.add_left_cancel_iff, hc1, hc2, hc3, hc4, k4]
    · have hne : (q = p) = False := eq_false e
      refine ⟨fun z hz => ?_, ?_, ?_, ?_⟩
      · have k := k1 z hz
        simp (disch := first | assumption | omega) only [e_gfi_sfi, gai_sfi, e_gar_sfi, e_gai_sai, e_gar_sai, e_gfi_sai, Nat.reduceEqDiff, false_and, and_false, true_and, and_true, and_self, ↓reduceIte, Nat.add_left_cancel_iff, hc1, hc2, hc3, hc4, hne, up_ne, k]
      · simp (disch := first | assumption | omega) only [e_gfi_sfi, gai_sfi, e_gar_sfi, e_gai_sai, e_gar_sai, e_gfi_sai, Nat.reduceEqDiff, false_and, and_false, true_and, and_true, and_self, ↓reduceIte, Nat.add_left_cancel_iff, hc1, hc2, hc3, hc4, hne, up_ne, k2]
      · simp (disch := first | assumption | omega) only [e_gfi_sfi, gai_sfi, e_gar_sfi, e_gai_sai, e_gar_sai, e_gfi_sai, Nat.reduceEqDiff, false_and, and_false, true_and, and_true, and_self, ↓reduceIte, Nat.add_left_cancel_iff, hc1, hc2, hc3, hc4, hne, up_ne]
        exact k3
      · simp (disch := first | assumption | omega) only [e_gfi_sfi, gai_sfi, e_gar_sfi, e_gai_sai, e_gar_sai, e_gfi_sai, Nat.reduceEqDiff, false_and, and_false, true_and, and_true, and_self, ↓reduceIte, Nat.add_left_cancel_iff, hc1, hc2, hc3, hc4, hne, up_ne, k4]
  · simp (disch := first | assumption | omega) only [e_gfi_sfi, gai_sfi, e_gar_sfi, e_gai_sai, e_gar_sai, e_gfi_sai, Nat.reduceEqDiff, false_and, and_false, true_and, and_true, and_self, ↓reduceIte, Nat.add_left_cancel_iff, hc1, hc2, hc3, hc4, up_ne, d3]
  · intro k hk
    have := d3' k hk
    simp (disch := first | assumption | omega) only [e_gfi_sfi, gai_sfi, e_gar_sfi, e_gai_sai, e_gar_sai, e_gfi_sai, Nat.reduceEqDiff, false_and, and_false, true_and, and_true, and_self, ↓reduceIte, Nat.add_left_cancel_iff, hc1, hc2, hc3, hc4, up_ne, this]
  · intro u hu
    have := d4 u hu
    simp (disch := first | assumption | omega) only [e_gfi_sfi, gai_sfi, e_gar_sfi, e_gai_sai, e_gar_sai, e_gfi_sai, Nat.reduceEqDiff, false_and, and_false, true_and, and_true, and_self, ↓reduceIte, Nat.add_left_cancel_iff, hc1, hc2, hc3, hc4, up_ne, this]
  · simp (disch := first | assumption | omega) only [e_gfi_sfi, gai_sfi, e_gar_sfi, e_gai_sai, e_gar_sai, e_gfi_sai, Nat.reduceEqDiff, false_and, and_false, true_and, and_true, and_self, ↓reduceIte, Nat.add_left_cancel_iff, hc1, hc2, hc3, hc4, up_ne, d5]
  · simp (disch := first | assumption | omega) only [e_gfi_sfi, gai_sfi, e_gar_sfi, e_gai_sai, e_gar_sai, e_gfi_sai, Nat.reduceEqDiff, false_and, and_false, true_and, and_true, and_self, ↓reduceIte, Nat.add_left_cancel_iff, hc1, hc2, hc3, hc4, up_ne, d6]
  · intro i x hi
    have := d7 i x hi
    simp (disch := first | assumption | omega) only [e_gfi_sfi, gai_sfi, e_gar_sfi, e_gai_sai, e_gar_sai, e_gfi_sai, Nat.reduceEqDiff, false_and, and_false, true_and, and_true, and_self, ↓reduceIte, Nat.add_left_cancel_iff, hc1, hc2, hc3, hc4, up_ne, this]
theorem XD_tray {g : GS_} {S : Nat} {a : Nat → Int32} {F : List Nat} (h4 : tn (a 4) ≤ 24) (h5 : tn (a 5) ≤ 3) {p z : Nat} (hp : p < tn (a 5)) (hz : z < 3) (v : Int32) (h : XD g S a F) : XD (sai g 20 (bb S + (6 + p)) z v) S (up a (76 + 10 * p + (3 + z)) v) (F) := by
  obtain ⟨d1, d2, ⟨d3, d3'⟩, d4, d5, d6, d7⟩ := h
  have e4 : (up a (76 + 10 * p + (3 + z)) v) 4 = a 4 := up_ne (by omega)
  have e5 : (up a (76 + 10 * p + (3 + z)) v) 5 = a 5 := up_ne (by omega)
  unfold XD
  rw [e4, e5]
  refine ⟨?_, ?_, ⟨?_, ?_⟩, ?_, ?_, ?_, ?_⟩
  · intro i I hi hI
    obtain ⟨k1, k2, k3, k4⟩ := d1 i I hi hI
    simp (disch := first | assumption | omega) only [e_gfi_sfi, gai_sfi, e_gar_sfi, e_gai_sai, e_gar_sai, e_gfi_sai, Nat.reduceEqDiff, false_and, and_false, true_and, and_true, and_self, ↓reduceIte, Nat.add_left_cancel_iff, hc1, hc2, hc3, hc4, up_ne, k1, k2, k3, k4]
  · intro q hq
    obtain ⟨k1, k2, k3, k4⟩ := d2 q hq
    refine ⟨fun y hy => ?_, ?_, ?_, ?_⟩
    · have k := k1 y hy
      by_cases e : q = p
      · subst e
        by_cases e2 : y = z
        · subst e2
          simp (disch := first | assumption | omega) only [e_gfi_sfi, gai_sfi, e_gar_sfi, e_gai_sai, e_gar_sai, e_gfi_sai, Nat.reduceEqDiff, false_and, and_false, true_and, and_true, and_self, ↓reduceIte, Nat.add_left_cancel_iff, hc1, hc2, hc3, hc4, up_eq]
        · simp (disch := first | assumption | omega) only [e_gfi_sfi, gai_sfi, e_gar_sfi, e_gai_sai, e_gar_sai, e_gfi_sai, Nat.reduceEqDiff, false_and, and_false, true_and, and_true, and_self, ↓reduceIte, Nat.add_left_cancel_iff, hc1, hc2, hc3, hc4, eq_false e2, up_ne, k]
      · simp (disch := first | assumption | omega) only [e_gfi_sfi, gai_sfi, e_gar_sfi, e_gai_sai, e_gar_sai, e_gfi_sai, Nat.reduceEqDiff, false_and, and_false, true_and, and_true, and_self, ↓reduceIte, Nat.add_left_cancel_iff, hc1, hc2, hc3, hc4, eq_false e, up_ne, k]
    · simp (disch := first | assumption | omega) only [e_gfi_sfi, gai_sfi, e_gar_sfi, e_gai_sai, e_gar_sai, e_gfi_sai, Nat.reduceEqDiff, false_and, and_false, true_and, and_true, and_self, ↓reduceIte, Nat.add_left_cancel_iff, hc1, hc2, hc3, hc4, up_ne, k2]
    · simp (disch := first | assumption | omega) only [e_gfi_sfi, gai_sfi, e_gar_sfi, e_gai_sai, e_gar_sai, e_gfi_sai, Nat.reduceEqDiff, false_and, and_false, true_and, and_true, and_self, ↓reduceIte, Nat.add_left_cancel_iff, hc1, hc2, hc3, hc4, up_ne]
      exact k3
    · simp (disch := first | assumption | omega) only [e_gfi_sfi, gai_sfi, e_gar_sfi, e_gai_sai, e_gar_sai, e_gfi_sai, Nat.reduceEqDiff, false_and, and_false, true_and, and_true, and_self, ↓reduceIte, Nat.add_left_cancel_iff, hc1, hc2, hc3, hc4, up_ne, k4]
  · simp (disch := first | assumption | omega) only [e_gfi_sfi, gai_sfi, e_gar_sfi, e_gai_sai, e_gar_sai, e_gfi_sai, Nat.reduceEqDiff, false_and, and_false, true_and, and_true, and_self, ↓reduceIte, Nat.add_left_cancel_iff, hc1, hc2, hc3, hc4, up_ne, d3]
  · intro k hk
    have := d3' k hk
    simp (disch := first | assumption | omega) only [e_gfi_sfi, gai_sfi, e_gar_sfi, e_gai_sai, e_gar_sai, e_gfi_sai, Nat.reduceEqDiff, false_and, and_false, true_and, and_true, and_self, ↓reduceIte, Nat.add_left_cancel_iff, hc1, hc2, hc3, hc4, up_ne, this]
  · intro u hu
    have := d4 u hu
    simp (disch := first | assumption | omega) only [e_gfi_sfi, gai_sfi, e_gar_sfi, e_gai_sai, e_gar_sai, e_gfi_sai, Nat.reduceEqDiff, false_and, and_false, true_and, and_true, and_self, ↓reduceIte, Nat.add_left_cancel_iff, hc1, hc2, hc3, hc4, up_ne, this]
  · simp (disch := first | assumption | omega) only [e_gfi_sfi, gai_sfi, e_gar_sfi, e_gai_sai, e_gar_sai, e_gfi_sai, Nat.reduceEqDiff, false_and, and_false, true_and, and_true, and_self, ↓reduceIte, Nat.add_left_cancel_iff, hc1, hc2, hc3, hc4, up_ne, d5]
  · simp (disch := first | assumption | omega) only [e_gfi_sfi, gai_sfi, e_gar_sfi, e_gai_sai, e_gar_sai, e_gfi_sai, Nat.reduceEqDiff, false_and, and_false, true_and, and_true, and_self, ↓reduceIte, Nat.add_left_cancel_iff, hc1, hc2, hc3, hc4, up_ne, d6]
  · intro i x hi
    have := d7 i x hi
    simp (disch := first | assumption | omega) only [e_gfi_sfi, gai_sfi, e_gar_sfi, e_gai_sai, e_gar_sai, e_gfi_sai, Nat.reduceEqDiff, false_and, and_false, true_and, and_true, and_self, ↓reduceIte, Nat.add_left_cancel_iff, hc1, hc2, hc3, hc4, up_ne, this]
theorem XD_row {g : GS_} {S : Nat} {a : Nat → Int32} {F : List Nat} (h4 : tn (a 4) ≤ 24) (h5 : tn (a 5) ≤ 3) {k : Nat} (hk0 : k < 400) (v : Int32) (h : XD g S a F) : XD (sai g 20 (bb S + 4) k v) S (up a (458 + k) v) (F) := by
  obtain ⟨d1, d2, ⟨d3, d3'⟩, d4, d5, d6, d7⟩ := h
  have e4 : (up a (458 + k) v) 4 = a 4 := up_ne (by omega)
  have e5 : (up a (458 + k) v) 5 = a 5 := up_ne (by omega)
  unfold XD
  rw [e4, e5]
  refine ⟨?_, ?_, ⟨?_, ?_⟩, ?_, ?_, ?_, ?_⟩
  · intro i I hi hI
    obtain ⟨k1, k2, k3, k4⟩ := d1 i I hi hI
    simp (disch := first | assumption | omega) only [e_gfi_sfi, gai_sfi, e_gar_sfi, e_gai_sai, e_gar_sai, e_gfi_sai, Nat.reduceEqDiff, false_and, and_false, true_and, and_true, and_self, ↓reduceIte, Nat.add_left_cancel_iff, hc1, hc2, hc3, hc4, up_ne, k1, k2, k3, k4]
  · intro q hq
    obtain ⟨k1, k2, k3, k4⟩ := d2 q hq
    refine ⟨fun z hz => ?_, ?_, ?_, ?_⟩
    · have k := k1 z hz
      simp (disch := first | assumption | omega) only [e_gfi_sfi, gai_sfi, e_gar_sfi, e_gai_sai, e_gar_sai, e_gfi_sai, Nat.reduceEqDiff, false_and, and_false, true_and, and_true, and_self, ↓reduceIte, Nat.add_left_cancel_iff, hc1, hc2, hc3, hc4, up_ne, k]
    · simp (disch := first | assumption | omega) only [e_gfi_sfi, gai_sfi, e_gar_sfi, e_gai_sai, e_gar_sai, e_gfi_sai, Nat.reduceEqDiff, false_and, and_false, true_and, and_true, and_self, ↓reduceIte, Nat.add_left_cancel_iff, hc1, hc2, hc3, hc4, up_ne, k2]
    · simp (disch := first | assumption | omega) only [e_gfi_sfi, gai_sfi, e_gar_sfi, e_gai_sai, e_gar_sai, e_gfi_sai, Nat.reduceEqDiff, false_and, and_false, true_and, and_true, and_self, ↓reduceIte, Nat.add_left_cancel_iff, hc1, hc2, hc3, hc4, up_ne]
      exact k3
    · simp (disch := first | assumption | omega) only [e_gfi_sfi, gai_sfi, e_gar_sfi, e_gai_sai, e_gar_sai, e_gfi_sai, Nat.reduceEqDiff, false_and, and_false, true_and, and_true, and_self, ↓reduceIte, Nat.add_left_cancel_iff, hc1, hc2, hc3, hc4, up_ne, k4]
  · simp (disch := first | assumption | omega) only [e_gfi_sfi, gai_sfi, e_gar_sfi, e_gai_sai, e_gar_sai, e_gfi_sai, Nat.reduceEqDiff, false_and, and_false, true_and, and_true, and_self, ↓reduceIte, Nat.add_left_cancel_iff, hc1, hc2, hc3, hc4, up_ne, d3]
  · intro i hi
    have := d3' i hi
    by_cases e : i = k
    · subst e
      simp (disch := first | assumption | omega) only [e_gfi_sfi, gai_sfi, e_gar_sfi, e_gai_sai, e_gar_sai, e_gfi_sai, Nat.reduceEqDiff, false_and, and_false, true_and, and_true, and_self, ↓reduceIte, Nat.add_left_cancel_iff, hc1, hc2, hc3, hc4, up_eq]
    · simp (disch := first | assumption | omega) only [e_gfi_sfi, gai_sfi, e_gar_sfi, e_gai_sai, e_gar_sai, e_gfi_sai, Nat.reduceEqDiff, false_and, and_false, true_and, and_true, and_self, ↓reduceIte, Nat.add_left_cancel_iff, hc1, hc2, hc3, hc4, eq_false e, up_ne, this]
  · intro u hu
    have := d4 u hu
    simp (disch := first | assumption | omega) only [e_gfi_sfi, gai_sfi, e_gar_sfi, e_gai_sai, e_gar_sai, e_gfi_sai, Nat.reduceEqDiff, false_and, and_false, true_and, and_true, and_self, ↓reduceIte, Nat.add_left_cancel_iff, hc1, hc2, hc3, hc4, up_ne, this]
  · simp (disch := first | assumption | omega) only [e_gfi_sfi, gai_sfi, e_gar_sfi, e_gai_sai, e_gar_sai, e_gfi_sai, Nat.reduceEqDiff, false_and, and_false, true_and, and_true, and_self, ↓reduceIte, Nat.add_left_cancel_iff, hc1, hc2, hc3, hc4, up_ne, d5]
  · simp (disch := first | assumption | omega) only [e_gfi_sfi, gai_sfi, e_gar_sfi, e_gai_sai, e_gar_sai, e_gfi_sai, Nat.reduceEqDiff, false_and, and_false, true_and, and_true, and_self, ↓reduceIte, Nat.add_left_cancel_iff, hc1, hc2, hc3, hc4, up_ne, d6]
  · intro i x hi
    have := d7 i x hi
    simp (disch := first | assumption | omega) only [e_gfi_sfi, gai_sfi, e_gar_sfi, e_gai_sai, e_gar_sai, e_gfi_sai, Nat.reduceEqDiff, false_and, and_false, true_and, and_true, and_self, ↓reduceIte, Nat.add_left_cancel_iff, hc1, hc2, hc3, hc4, up_ne, this]
theorem XD_tot {g : GS_} {S : Nat} {a : Nat → Int32} {F : List Nat} (h4 : tn (a 4) ≤ 24) (h5 : tn (a 5) ≤ 3) (v : Int32) (h : XD g S a F) : XD (sfi g 65 S v) S (up a 6 v) (F) := by
  obtain ⟨d1, d2, ⟨d3, d3'⟩, d4, d5, d6, d7⟩ := h
  have e4 : (up a 6 v) 4 = a 4 := up_ne (by omega)
  have e5 : (up a 6 v) 5 = a 5 := up_ne (by omega)
  unfold XD
  rw [e4, e5]
  refine ⟨?_, ?_, ⟨?_, ?_⟩, ?_, ?_, ?_, ?_⟩
  · intro i I hi hI
    obtain ⟨k1, k2, k3, k4⟩ := d1 i I hi hI
    simp (disch := first | assumption | omega) only [e_gfi_sfi, gai_sfi, e_gar_sfi, e_gai_sai, e_gar_sai, e_gfi_sai, Nat.reduceEqDiff, false_and, and_false, true_and, and_true, and_self, ↓reduceIte, Nat.add_left_cancel_iff, hc1, hc2, hc3, hc4, up_ne, k1, k2, k3, k4]
  · intro q hq
    obtain ⟨k1, k2, k3, k4⟩ := d2 q hq
    refine ⟨fun z hz => ?_, ?_, ?_, ?_⟩
    · have k := k1 z hz
      simp (disch := first | assumption | omega) only [e_gfi_sfi, gai_sfi, e_gar_sfi, e_gai_sai, e_gar_sai, e_gfi_sai, Nat.reduceEqDiff, false_and, and_false, true_and, and_true, and_self, ↓reduceIte, Nat.add_left_cancel_iff, hc1, hc2, hc3, hc4, up_ne, k]
    · simp (disch := first | assumption | omega) only [e_gfi_sfi, gai_sfi, e_gar_sfi, e_gai_sai, e_gar_sai, e_gfi_sai, Nat.reduceEqDiff, false_and, and_false, true_and, and_true, and_self, ↓reduceIte, Nat.add_left_cancel_iff, hc1, hc2, hc3, hc4, up_ne, k2]
    · simp (disch := first | assumption | omega) only [e_gfi_sfi, gai_sfi, e_gar_sfi, e_gai_sai, e_gar_sai, e_gfi_sai, Nat.reduceEqDiff, false_and, and_false, true_and, and_true, and_self, ↓reduceIte, Nat.add_left_cancel_iff, hc1, hc2, hc3, hc4, up_ne]
      exact k3
    · simp (disch := first | assumption | omega) only [e_gfi_sfi, gai_sfi, e_gar_sfi, e_gai_sai, e_gar_sai, e_gfi_sai, Nat.reduceEqDiff, false_and, and_false, true_and, and_true, and_self, ↓reduceIte, Nat.add_left_cancel_iff, hc1, hc2, hc3, hc4, up_ne, k4]
  · simp (disch := first | assumption | omega) only [e_gfi_sfi, gai_sfi, e_gar_sfi, e_gai_sai, e_gar_sai, e_gfi_sai, Nat.reduceEqDiff, false_and, and_false, true_and, and_true, and_self, ↓reduceIte, Nat.add_left_cancel_iff, hc1, hc2, hc3, hc4, up_eq]
  · intro k hk
    have := d3' k hk
    simp (disch := first | assumption | omega) only [e_gfi_sfi, gai_sfi, e_gar_sfi, e_gai_sai, e_gar_sai, e_gfi_sai, Nat.reduceEqDiff, false_and, and_false, true_and, and_true, and_self, ↓reduceIte, Nat.add_left_cancel_iff, hc1, hc2, hc3, hc4, up_ne, this]
  · intro u hu
    have := d4 u hu
    simp (disch := first | assumption | omega) only [e_gfi_sfi, gai_sfi, e_gar_sfi, e_gai_sai, e_gar_sai, e_gfi_sai, Nat.reduceEqDiff, false_and, and_false, true_and, and_true, and_self, ↓reduceIte, Nat.add_left_cancel_iff, hc1, hc2, hc3, hc4, up_ne, this]
  · simp (disch := first | assumption | omega) only [e_gfi_sfi, gai_sfi, e_gar_sfi, e_gai_sai, e_gar_sai, e_gfi_sai, Nat.reduceEqDiff, false_and, and_false, true_and, and_true, and_self, ↓reduceIte, Nat.add_left_cancel_iff, hc1, hc2, hc3, hc4, up_ne, d5]
  · simp (disch := first | assumption | omega) only [e_gfi_sfi, gai_sfi, e_gar_sfi, e_gai_sai, e_gar_sai, e_gfi_sai, Nat.reduceEqDiff, false_and, and_false, true_and, and_true, and_self, ↓reduceIte, Nat.add_left_cancel_iff, hc1, hc2, hc3, hc4, up_ne, d6]
  · intro i x hi
    have := d7 i x hi
    simp (disch := first | assumption | omega) only [e_gfi_sfi, gai_sfi, e_gar_sfi, e_gai_sai, e_gar_sai, e_gfi_sai, Nat.reduceEqDiff, false_and, and_false, true_and, and_true, and_self, ↓reduceIte, Nat.add_left_cancel_iff, hc1, hc2, hc3, hc4, up_ne, this]
theorem XD_used {g : GS_} {S : Nat} {a : Nat → Int32} {F : List Nat} (h4 : tn (a 4) ≤ 24) (h5 : tn (a 5) ≤ 3) {u : Nat} (hu0 : u < 6) (v : Int32) (h : XD g S a F) : XD (sai g 20 (bb S + 3) u v) S (up a (20 + u) v) (F) := by
  obtain ⟨d1, d2, ⟨d3, d3'⟩, d4, d5, d6, d7⟩ := h
  have e4 : (up a (20 + u) v) 4 = a 4 := up_ne (by omega)
  have e5 : (up a (20 + u) v) 5 = a 5 := up_ne (by omega)
  unfold XD
  rw [e4, e5]
  refine ⟨?_, ?_, ⟨?_, ?_⟩, ?_, ?_, ?_, ?_⟩
  · intro i I hi hI
    obtain ⟨k1, k2, k3, k4⟩ := d1 i I hi hI
    simp (disch := first | assumption | omega) only [e_gfi_sfi, gai_sfi, e_gar_sfi, e_gai_sai, e_gar_sai, e_gfi_sai, Nat.reduceEqDiff, false_and, and_false, true_and, and_true, and_self, ↓reduceIte, Nat.add_left_cancel_iff, hc1, hc2, hc3, hc4, up_ne, k1, k2, k3, k4]
  · intro q hq
    obtain ⟨k1, k2, k3, k4⟩ := d2 q hq
    refine ⟨fun z hz => ?_, ?_, ?_, ?_⟩
    · have k := k1 z hz
      simp (disch := first | assumption | omega) only [e_gfi_sfi, gai_sfi, e_gar_sfi, e_gai_sai, e_gar_sai, e_gfi_sai, Nat.reduceEqDiff, false_and, and_false, true_and, and_true, and_self, ↓reduceIte, Nat.add_left_cancel_iff, hc1, hc2, hc3, hc4, up_ne, k]
    · simp (disch := first | assumption | omega) only [e_gfi_sfi, gai_sfi, e_gar_sfi, e_gai_sai, e_gar_sai, e_gfi_sai, Nat.reduceEqDiff, false_and, and_false, true_and, and_true, and_self, ↓reduceIte, Nat.add_left_cancel_iff, hc1, hc2, hc3, hc4, up_ne, k2]
    · simp (disch := first | assumption | omega) only [e_gfi_sfi, gai_sfi, e_gar_sfi, e_gai_sai, e_gar_sai, e_gfi_sai, Nat.reduceEqDiff, false_and, and_false, true_and, and_true, and_self, ↓reduceIte, Nat.add_left_cancel_iff, hc1, hc2, hc3, hc4, up_ne]
      exact k3
    · simp (disch := first | assumption | omega) only [e_gfi_sfi, gai_sfi, e_gar_sfi, e_gai_sai, e_gar_sai, e_gfi_sai, Nat.reduceEqDiff, false_and, and_false, true_and, and_true, and_self, ↓reduceIte, Nat.add_left_cancel_iff, hc1, hc2, hc3, hc4, up_ne, k4]
  · simp (disch := first | assumption | omega) only [e_gfi_sfi, gai_sfi, e_gar_sfi, e_gai_sai, e_gar_sai, e_gfi_sai, Nat.reduceEqDiff, false_and, and_false, true_and, and_true, and_self, ↓reduceIte, Nat.add_left_cancel_iff, hc1, hc2, hc3, hc4, up_ne, d3]
  · intro k hk
    have := d3' k hk
    simp (disch := first | assumption | omega) only [e_gfi_sfi, gai_sfi, e_gar_sfi, e_gai_sai, e_gar_sai, e_gfi_sai, Nat.reduceEqDiff, false_and, and_false, true_and, and_true, and_self, ↓reduceIte, Nat.add_left_cancel_iff, hc1, hc2, hc3, hc4, up_ne, this]
  · intro i hi
    have := d4 i hi
    by_cases e : i = u
    · subst e
      simp (disch := first | assumption | omega) only [e_gfi_sfi, gai_sfi, e_gar_sfi, e_gai_sai, e_gar_sai, e_gfi_sai, Nat.reduceEqDiff, false_and, and_false, true_and, and_true, and_self, ↓reduceIte, Nat.add_left_cancel_iff, hc1, hc2, hc3, hc4, up_eq]
    · simp (disch := first | assumption | omega) only [e_gfi_sfi, gai_sfi, e_gar_sfi, e_gai_sai, e_gar_sai, e_gfi_sai, Nat.reduceEqDiff, false_and, and_false, true_and, and_true, and_self, ↓reduceIte, Nat.add_left_cancel_iff, hc1, hc2, hc3, hc4, eq_false e, up_ne, this]
  · simp (disch := first | assumption | omega) only [e_gfi_sfi, gai_sfi, e_gar_sfi, e_gai_sai, e_gar_sai, e_gfi_sai, Nat.reduceEqDiff, false_and, and_false, true_and, and_true, and_self, ↓reduceIte, Nat.add_left_cancel_iff, hc1, hc2, hc3, hc4, up_ne, d5]
  · simp (disch := first | assumption | omega) only [e_gfi_sfi, gai_sfi, e_gar_sfi, e_gai_sai, e_gar_sai, e_gfi_sai, Nat.reduceEqDiff, false_and, and_false, true_and, and_true, and_self, ↓reduceIte, Nat.add_left_cancel_iff, hc1, hc2, hc3, hc4, up_ne, d6]
  · intro i x hi
    have := d7 i x hi
    simp (disch := first | assumption | omega) only [e_gfi_sfi, gai_sfi, e_gar_sfi, e_gai_sai, e_gar_sai, e_gfi_sai, Nat.reduceEqDiff, false_and, and_false, true_and, and_true, and_self, ↓reduceIte, Nat.add_left_cancel_iff, hc1, hc2, hc3, hc4, up_ne, this]
theorem XD_time {g : GS_} {S : Nat} {a : Nat → Int32} {F : List Nat} (h4 : tn (a 4) ≤ 24) (h5 : tn (a 5) ≤ 3) (v : Int32) (h : XD g S a F) : XD (sfi g 271 S v) S (up a 0 v) (F) := by
  obtain ⟨d1, d2, ⟨d3, d3'⟩, d4, d5, d6, d7⟩ := h
  have e4 : (up a 0 v) 4 = a 4 := up_ne (by omega)
  have e5 : (up a 0 v) 5 = a 5 := up_ne (by omega)
  unfold XD
  rw [e4, e5]
  refine ⟨?_, ?_, ⟨?_, ?_⟩, ?_, ?_, ?_, ?_⟩
  · intro i I hi hI
    obtain ⟨k1, k2, k3, k4⟩ := d1 i I hi hI
    simp (disch := first | assumption | omega) only [e_gfi_sfi, gai_sfi, e_gar_sfi, e_gai_sai, e_gar_sai, e_gfi_sai, Nat.reduceEqDiff, false_and, and_false, true_and, and_true, and_self, ↓reduceIte, Nat.add_left_cancel_iff, hc1, hc2, hc3, hc4, up_ne, k1, k2, k3, k4]
  · intro q hq
    obtain ⟨k1, k2, k3, k4⟩ := d2 q hq
    refine ⟨fun z hz => ?_, ?_, ?_, ?_⟩
    · have k := k1 z hz
      simp (disch := first | assumption | omega) only [e_gfi_sfi, gai_sfi, e_gar_sfi, e_gai_sai, e_gar_sai, e_gfi_sai, Nat.reduceEqDiff, false_and, and_false, true_and, and_true, and_self, ↓reduceIte, Nat.add_left_cancel_iff, hc1, hc2, hc3, hc4, up_ne, k]
    · simp (disch := first | assumption | omega) only [e_gfi_sfi, gai_sfi, e_gar_sfi, e_gai_sai, e_gar_sai, e_gfi_sai, Nat.reduceEqDiff, false_and, and_false, true_and, and_true, and_self, ↓reduceIte, Nat.add_left_cancel_iff, hc1, hc2, hc3, hc4, up_ne, k2]
    · simp (disch := first | assumption | omega) only [e_gfi_sfi, gai_sfi, e_gar_sfi, e_gai_sai, e_gar_sai, e_gfi_sai, Nat.reduceEqDiff, false_and, and_false, true_and, and_true, and_self, ↓reduceIte, Nat.add_left_cancel_iff, hc1, hc2, hc3, hc4, up_ne]
      exact k3
    · simp (disch := first | assumption | omega) only [e_gfi_sfi, gai_sfi, e_gar_sfi, e_gai_sai, e_gar_sai, e_gfi_sai, Nat.reduceEqDiff, false_and, and_false, true_and, and_true, and_self, ↓reduceIte, Nat.add_left_cancel_iff, hc1, hc2, hc3, hc4, up_ne, k4]
  · simp (disch := first | assumption | omega) only [e_gfi_sfi, gai_sfi, e_gar_sfi, e_gai_sai, e_gar_sai, e_gfi_sai, Nat.reduceEqDiff, false_and, and_false, true_and, and_true, and_self, ↓reduceIte, Nat.add_left_cancel_iff, hc1, hc2, hc3, hc4, up_ne, d3]
  · intro k hk
    have := d3' k hk
    simp (disch := first | assumption | omega) only [e_gfi_sfi, gai_sfi, e_gar_sfi, e_gai_sai, e_gar_sai, e_gfi_sai, Nat.reduceEqDiff, false_and, and_false, true_and, and_true, and_self, ↓reduceIte, Nat.add_left_cancel_iff, hc1, hc2, hc3, hc4, up_ne, this]
  · intro u hu
    have := d4 u hu
    simp (disch := first | assumption | omega) only [e_gfi_sfi, gai_sfi, e_gar_sfi, e_gai_sai, e_gar_sai, e_gfi_sai, Nat.reduceEqDiff, false_and, and_false, true_and, and_true, and_self, ↓reduceIte, Nat.add_left_cancel_iff, hc1, hc2, hc3, hc4, up_ne, this]
  · simp (disch := first | assumption | omega) only [e_gfi_sfi, gai_sfi, e_gar_sfi, e_gai_sai, e_gar_sai, e_gfi_sai, Nat.reduceEqDiff, false_and, and_false, true_and, and_true, and_self, ↓reduceIte, Nat.add_left_cancel_iff, hc1, hc2, hc3, hc4, up_eq]
  · simp (disch := first | assumption | omega) only [e_gfi_sfi, gai_sfi, e_gar_sfi, e_gai_sai, e_gar_sai, e_gfi_sai, Nat.reduceEqDiff, false_and, and_false, true_and, and_true, and_self, ↓reduceIte, Nat.add_left_cancel_iff, hc1, hc2, hc3, hc4, up_ne, d6]
  · intro i x hi
    have := d7 i x hi
    simp (disch := first | assumption | omega) only [e_gfi_sfi, gai_sfi, e_gar_sfi, e_gai_sai, e_gar_sai, e_gfi_sai, Nat.reduceEqDiff, false_and, and_false, true_and, and_true, and_self, ↓reduceIte, Nat.add_left_cancel_iff, hc1, hc2, hc3, hc4, up_ne, this]
theorem XD_done {g : GS_} {S : Nat} {a : Nat → Int32} {F : List Nat} (h4 : tn (a 4) ≤ 24) (h5 : tn (a 5) ≤ 3) (j : Nat) (h : XD g S a F) : XD (sfi (sai g 20 (bb S + 5) F.length (nI j)) 268 S (nI (F.length + 1))) S (a) (F ++ [j]) := by
  obtain ⟨d1, d2, ⟨d3, d3'⟩, d4, d5, d6, d7⟩ := h
  have e4 : (a) 4 = a 4 := rfl
  have e5 : (a) 5 = a 5 := rfl
  unfold XD
  rw [e4, e5]
  refine ⟨?_, ?_, ⟨?_, ?_⟩, ?_, ?_, ?_, ?_⟩
  · intro i I hi hI
    obtain ⟨k1, k2, k3, k4⟩ := d1 i I hi hI
    simp (disch := first | assumption | omega) only [e_gfi_sfi, gai_sfi, e_gar_sfi, e_gai_sai, e_gar_sai, e_gfi_sai, Nat.reduceEqDiff, false_and, and_false, true_and, and_true, and_self, ↓reduceIte, Nat.add_left_cancel_iff, hc1, hc2, hc3, hc4, up_ne, k1, k2, k3, k4]
  · intro q hq
    obtain ⟨k1, k2, k3, k4⟩ := d2 q hq
    refine ⟨fun z hz => ?_, ?_, ?_, ?_⟩
    · have k := k1 z hz
      simp (disch := first | assumption | omega) only [e_gfi_sfi, gai_sfi, e_gar_sfi, e_gai_sai, e_gar_sai, e_gfi_sai, Nat.reduceEqDiff, false_and, and_false, true_and, and_true, and_self, ↓reduceIte, Nat.add_left_cancel_iff, hc1, hc2, hc3, hc4, up_ne, k]
    · simp (disch := first | assumption | omega) only [e_gfi_sfi, gai_sfi, e_gar_sfi, e_gai_sai, e_gar_sai, e_gfi_sai, Nat.reduceEqDiff, false_and, and_false, true_and, and_true, and_self, ↓reduceIte, Nat.add_left_cancel_iff, hc1, hc2, hc3, hc4, up_ne, k2]
    · simp (disch := first | assumption | omega) only [e_gfi_sfi, gai_sfi, e_gar_sfi, e_gai_sai, e_gar_sai, e_gfi_sai, Nat.reduceEqDiff, false_and, and_false, true_and, and_true, and_self, ↓reduceIte, Nat.add_left_cancel_iff, hc1, hc2, hc3, hc4, up_ne]
      exact k3
    · simp (disch := first | assumption | omega) only [e_gfi_sfi, gai_sfi, e_gar_sfi, e_gai_sai, e_gar_sai, e_gfi_sai, Nat.reduceEqDiff, false_and, and_false, true_and, and_true, and_self, ↓reduceIte, Nat.add_left_cancel_iff, hc1, hc2, hc3, hc4, up_ne, k4]
  · simp (disch := first | assumption | omega) only [e_gfi_sfi, gai_sfi, e_gar_sfi, e_gai_sai, e_gar_sai, e_gfi_sai, Nat.reduceEqDiff, false_and, and_false, true_and, and_true, and_self, ↓reduceIte, Nat.add_left_cancel_iff, hc1, hc2, hc3, hc4, up_ne, d3]
  · intro k hk
    have := d3' k hk
    simp (disch := first | assumption | omega) only [e_gfi_sfi, gai_sfi, e_gar_sfi, e_gai_sai, e_gar_sai, e_gfi_sai, Nat.reduceEqDiff, false_and, and_false, true_and, and_true, and_self, ↓reduceIte, Nat.add_left_cancel_iff, hc1, hc2, hc3, hc4, up_ne, this]
  · intro u hu
    have := d4 u hu
    simp (disch := first | assumption | omega) only [e_gfi_sfi, gai_sfi, e_gar_sfi, e_gai_sai, e_gar_sai, e_gfi_sai, Nat.reduceEqDiff, false_and, and_false, true_and, and_true, and_self, ↓reduceIte, Nat.add_left_cancel_iff, hc1, hc2, hc3, hc4, up_ne, this]
  · simp (disch := first | assumption | omega) only [e_gfi_sfi, gai_sfi, e_gar_sfi, e_gai_sai, e_gar_sai, e_gfi_sai, Nat.reduceEqDiff, false_and, and_false, true_and, and_true, and_self, ↓reduceIte, Nat.add_left_cancel_iff, hc1, hc2, hc3, hc4, up_ne, d5]
  · simp (disch := first | assumption | omega) only [e_gfi_sfi, gai_sfi, e_gar_sfi, e_gai_sai, e_gar_sai, e_gfi_sai, Nat.reduceEqDiff, false_and, and_false, true_and, and_true, and_self, ↓reduceIte, Nat.add_left_cancel_iff, hc1, hc2, hc3, hc4, List.length_append, List.length_cons, List.length_nil, Nat.zero_add]
  · intro i x hi
    by_cases e : i = F.length
    · subst e
      simp at hi
      simp (disch := first | assumption | omega) only [e_gfi_sfi, gai_sfi, e_gar_sfi, e_gai_sai, e_gar_sai, e_gfi_sai, Nat.reduceEqDiff, false_and, and_false, true_and, and_true, and_self, ↓reduceIte, Nat.add_left_cancel_iff, hc1, hc2, hc3, hc4, hi]
    · have hlt : i < F.length := by
        have := (List.getElem?_eq_some_iff.mp hi).1
        simp at this
        omega
      rw [List.getElem?_append_left hlt] at hi
      have := d7 i x hi
      simp (disch := first | assumption | omega) only [e_gfi_sfi, gai_sfi, e_gar_sfi, e_gai_sai, e_gar_sai, e_gfi_sai, Nat.reduceEqDiff, false_and, and_false, true_and, and_true, and_self, ↓reduceIte, Nat.add_left_cancel_iff, hc1, hc2, hc3, hc4, eq_false e, this]
theorem sfi_comm {g : GS_} {f f' i i' : Nat} {v v' : Int32} (h : f ≠ f') : sfi (sfi g f i v) f' i' v' = sfi (sfi g f' i' v') f i v := by
  unfold sfi
  congr 1
  funext x y
  show (if x = f' ∧ y = i' then v' else if x = f ∧ y = i then v else gfi g x y) = (if x = f ∧ y = i then v else if x = f' ∧ y = i' then v' else gfi g x y)
  by_cases h1 : x = f' ∧ y = i'
  · rw [if_pos h1, if_neg (fun q => h (q.1.symm.trans h1.1)), if_pos h1]
  · rw [if_neg h1, if_neg h1]
theorem XD_congr {g : GS_} {S : Nat} {a b : Nat → Int32} {F : List Nat} (h4 : tn (a 4) ≤ 24) (h5 : tn (a 5) ≤ 3) (he : ∀ k, k < 858 → b k = a k) (h : XD g S a F) : XD g S b F := by
  obtain ⟨d1, d2, ⟨d3, d3'⟩, d4, d5, d6, d7⟩ := h
  unfold XD
  rw [he 4 (by omega), he 5 (by omega), he 6 (by omega), he 0 (by omega)]
  refine ⟨fun j J hj hJ => ?_, fun p hp => ?_, ⟨d3, fun k hk => ?_⟩, fun u hu => ?_, d5, d6, d7⟩
  · rw [he _ (by omega), he _ (by omega), he _ (by omega), he _ (by omega)]
    exact d1 j J hj hJ
  · rw [he (76 + 10 * p + 6) (by omega), he (76 + 10 * p + 7) (by omega), he (76 + 10 * p + 8) (by omega), he (76 + 10 * p + 9) (by omega)]
    refine ⟨fun z hz => ?_, (d2 p hp).2⟩
    rw [he _ (by omega)]
    exact (d2 p hp).1 z hz
  · rw [he _ (by omega)]
    exact d3' k hk
  · rw [he _ (by omega)]
    exact d4 u hu
theorem TT_sfi {g : GS_} {S f i : Nat} {v : Int32} (h : oT g S f i) : TT S g (sfi g f i v) := by
  refine ⟨⟨rfl, rfl, rfl, rfl, rfl, rfl⟩, fun f' i' h' => ?_, fun _ _ => rfl⟩
  rw [e_gfi_sfi, if_neg]
  intro q
  exact h' (by rw [q.1, q.2]; exact h)
theorem TT_sai {g : GS_} {S c k : Nat} {v : Int32} (h1 : 3 ≤ c) (h2 : c < 9) : TT S g (sai g 20 (bb S + c) k v) := by
  refine ⟨⟨rfl, rfl, rfl, rfl, rfl, rfl⟩, fun f' i' h' => rfl, fun i hi => ?_⟩
  exact up_sai_ne _ _ _ _ _ _ (by omega)
theorem oT_j {g : GS_} {S f j J : Nat} (h1 : 35 ≤ f) (h2 : f < 39) (hj : j < 24) (hJ : gar g 23 S j = some J) : oT g S f J := Or.inl ⟨h1, h2, j, hj, hJ⟩
theorem oT_p {g : GS_} {S f p : Nat} (h1 : 164 ≤ f) (h2 : f < 168) (hp : p < 3) : oT g S f (3 * S + p) := Or.inr (Or.inl ⟨h1, h2, by omega, by omega⟩)
theorem oT_s {g : GS_} {S f : Nat} (h1 : f = 65 ∨ f = 268 ∨ f = 271) : oT g S f S := Or.inr (Or.inr ⟨h1, rfl⟩)
