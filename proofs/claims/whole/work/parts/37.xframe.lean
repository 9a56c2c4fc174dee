/-! frames where things are made; copies of jobs -/
def nwF (g : GS_) (f i : Nat) : Prop := (f / 32 = 0 ∨ f / 32 = 1 ∨ f / 32 = 4) ∧ gcn g (f / 32) ≤ i
def oR (g : GS_) (S f i : Nat) : Prop := f = 33 ∧ ∃ j, j < 24 ∧ gar g 23 S j = some i
/-- spool S may move, new things may be there, all else stands -/
def GF (S : Nat) (g g' : GS_) : Prop :=
  (∀ f i, ¬ nwF g f i → ¬ oF g S f i → gfi g' f i = gfi g f i) ∧ (∀ f i, ¬ nwF g f i → ¬ oR g S f i → gfr g' f i = gfr g f i) ∧
  (∀ i, i < gcn g 20 → gln g' 20 i = gln g 20 i) ∧ (∀ t i, t ≠ 20 → gln g' t i = gln g t i) ∧ (∀ i, i < gcn g 20 → ¬ (bb S ≤ i ∧ i < bb S + 9) → gai g' 20 i = gai g 20 i) ∧
  (∀ t i, ¬ (t = 20 ∨ ((t = 22 ∨ t = 23) ∧ i = S)) → gar g' t i = gar g t i) ∧ (∀ t, gcn g t ≤ gcn g' t) ∧ (gcn g' 22 = gcn g 22 ∧ gcn g' 23 = gcn g 23) ∧
  ∀ j J, j < 24 → gar g' 23 S j = some J → (∃ j', j' < 24 ∧ gar g 23 S j' = some J) ∨ gcn g 1 ≤ J
theorem GF_rfl {S : Nat} {g : GS_} : GF S g g := ⟨fun _ _ _ _ => rfl, fun _ _ _ _ => rfl, fun _ _ => rfl, fun _ _ _ => rfl, fun _ _ _ => rfl, fun _ _ _ => rfl, fun _ => Nat.le_refl _, ⟨rfl, rfl⟩, fun j J hj h => Or.inl ⟨j, hj, h⟩⟩
theorem TF_GF {S : Nat} {g g' : GS_} (h : TF S g g') : GF S g g' := by
  obtain ⟨⟨e1, e2, e3, e4, -⟩, h2, h3⟩ := h
  refine ⟨fun f i _ q => h2 f i q, fun f i _ _ => by rw [e1], fun i _ => by rw [e2], fun t i _ => by rw [e2], fun i _ q => h3 i q, fun t i _ => by rw [e3], fun t => by rw [e4]; exact Nat.le_refl _, ⟨by rw [e4], by rw [e4]⟩, fun j J hj hJ => Or.inl ⟨j, hj, by rw [← e3]; exact hJ⟩⟩
theorem nwF_mono {g g' : GS_} (h : ∀ t, gcn g t ≤ gcn g' t) {f i : Nat} (q : nwF g' f i) : nwF g f i := ⟨q.1, Nat.le_trans (h _) q.2⟩
theorem GF_tr {S : Nat} {a b c : GS_} (h1 : GF S a b) (h2 : GF S b c) : GF S a c := by
  obtain ⟨a1, a2, a3, a4, a5, a6, a7, a8, a9⟩ := h1
  obtain ⟨b1, b2, b3, b4, b5, b6, b7, b8, b9⟩ := h2
  have hnew : ∀ i, i < gcn a 1 → (∃ j, j < 24 ∧ gar b 23 S j = some i) → ∃ j, j < 24 ∧ gar a 23 S j = some i := by
    rintro i hi ⟨j, hj, hJ⟩
    rcases a9 j i hj hJ with w | w
    · exact w
    · omega
  refine ⟨fun f i q1 q2 => ?_, fun f i q1 q2 => ?_, fun i hi => ?_, fun t i ht => ?_, fun i hi q => ?_, fun t i q => ?_, fun t => Nat.le_trans (a7 t) (b7 t), ⟨b8.1.trans a8.1, b8.2.trans a8.2⟩, fun j J hj hJ => ?_⟩
  · refine (b1 f i (fun w => q1 (nwF_mono a7 w)) (fun w => q2 ?_)).trans (a1 f i q1 q2)
    rcases w with ⟨w1, w2, w3⟩ | w | w
    · refine Or.inl ⟨w1, w2, hnew i ?_ w3⟩
      have : ¬ (gcn a 1 ≤ i) := fun v => q1 ⟨Or.inr (Or.inl (by omega)), by rw [show f / 32 = 1 by omega]; exact v⟩
      omega
    · exact Or.inr (Or.inl w)
    · exact Or.inr (Or.inr w)
  · refine (b2 f i (fun w => q1 (nwF_mono a7 w)) (fun w => q2 ?_)).trans (a2 f i q1 q2)
    refine ⟨w.1, hnew i ?_ w.2⟩
    have : ¬ (gcn a 1 ≤ i) := fun v => q1 ⟨Or.inr (Or.inl (by have := w.1; omega)), by rw [show f / 32 = 1 by have := w.1; omega]; exact v⟩
    omega
  · exact (b3 i (Nat.lt_of_lt_of_le hi (a7 20))).trans (a3 i hi)
  · exact (b4 t i ht).trans (a4 t i ht)
  · exact (b5 i (Nat.lt_of_lt_of_le hi (a7 20)) q).trans (a5 i hi q)
  · exact (b6 t i q).trans (a6 t i q)
  · rcases b9 j J hj hJ with ⟨j', hj', w⟩ | w
    · exact a9 j' J hj' w
    · exact Or.inr (Nat.le_trans (a7 1) w)
theorem XSp_GF {g g' : GS_} {S S' : Nat} (h : GF S g g') (hc : 41 ≤ gcn g 20) (hX : XSp g S') : XSp g' S' := by
  obtain ⟨a1, a2, a3, a4, a5, a6, a7, a8, a9⟩ := h
  have hb := @bb_lt S'
  have er : ∀ f i, 64 ≤ f → f / 32 ≠ 4 → gfr g' f i = gfr g f i := fun f i h1 h2 => a2 f i (by unfold nwF; omega) (by unfold oR; omega)
  have el : ∀ c, c < 9 → gln g' 20 (bb S' + c) = gln g 20 (bb S' + c) := fun c h1 => a3 _ (by omega)
  have el0 : gln g' 20 (bb S') = gln g 20 (bb S') := a3 _ (by omega)
  unfold XSp
  rw [er _ _ (by omega) (by omega), er _ _ (by omega) (by omega), er _ _ (by omega) (by omega), er _ _ (by omega) (by omega), er _ _ (by omega) (by omega), er _ _ (by omega) (by omega), er _ _ (by omega) (by omega), er _ _ (by omega) (by omega), er _ _ (by omega) (by omega), er _ _ (by omega) (by omega), er _ _ (by omega) (by omega), a4 22 S' (by omega), a4 23 S' (by omega), a4 24 S' (by omega), el0, el _ (by omega), el _ (by omega), el _ (by omega), el _ (by omega), el _ (by omega), a6 24 S' (by omega)]
  obtain ⟨s1, s2, s3, s4, s5, s6, s7, s8, s9, s10, s11, s12, s13, s14, s15, s16, s17, s18, s19, s20, s21⟩ := hX
  refine ⟨s1, s2, s3, s4, s5, s6, s7, s8, s9, s10, s11, s12, s13, s14, s15, s16, s17, s18, s19, s20, fun p hp => ?_⟩
  rw [er _ _ (by omega) (by omega), el _ (by omega)]
  exact s21 p hp
theorem DocV_GF {g g' : GS_} {S : Nat} (h : GF S g g') {D : Nat} {a : Nat → Int32} {d : Nat} (hD : DocV g D a d) : DocV g' D a d := by
  refine ⟨Nat.lt_of_lt_of_le hD.1 (h.2.2.2.2.2.2.1 0), fun w hw => ?_⟩
  rw [h.1 w D (fun q => by have := q.2; rw [show w / 32 = 0 by omega] at this; have := hD.1; omega) (by unfold oF; omega)]
  exact hD.2 w hw
theorem PlV_GF {g g' : GS_} {S : Nat} (h : GF S g g') {Q : Nat} {a l : Nat → Int32} {j : Nat} (hP : PlV g Q a l j) : PlV g' Q a l j := by
  obtain ⟨p1, ⟨D, p2, p3⟩, p4, ⟨A, p5, p6, p7, p8, p9⟩, q1, q2, q3, q4, q5, q6, q7, q8, q9, B, r1, r2, r3, r4, r5⟩ := hP
  have hn : ∀ f, 128 ≤ f → f < 160 → ¬ nwF g f Q := fun f h1 h2 q => by
    have := q.2
    rw [show f / 32 = 4 by omega] at this
    omega
  have ef : ∀ f, 128 ≤ f → f < 160 → gfi g' f Q = gfi g f Q := fun f h1 h2 => h.1 f Q (hn f h1 h2) (by unfold oF; omega)
  have er : ∀ f, 128 ≤ f → f < 160 → gfr g' f Q = gfr g f Q := fun f h1 h2 => h.2.1 f Q (hn f h1 h2) (by unfold oR; omega)
  have ea : ∀ i, 41 ≤ i → i < gcn g 20 → gai g' 20 i = gai g 20 i := fun i hi h1 => h.2.2.2.2.1 i h1 (by have := @bb_lt S; omega)
  have el : ∀ i, i < gcn g 20 → gln g' 20 i = gln g 20 i := fun i h1 => h.2.2.1 i h1
  have hm := h.2.2.2.2.2.2.1
  unfold PlV
  rw [ef _ (by omega) (by omega), ef _ (by omega) (by omega), ef _ (by omega) (by omega), ef _ (by omega) (by omega), ef _ (by omega) (by omega), ef _ (by omega) (by omega), ef _ (by omega) (by omega), ef _ (by omega) (by omega), ef _ (by omega) (by omega), ef _ (by omega) (by omega), er _ (by omega) (by omega), er _ (by omega) (by omega), er _ (by omega) (by omega)]
  refine ⟨Nat.lt_of_lt_of_le p1 (hm 4), ⟨D, p2, DocV_GF h p3⟩, p4, ⟨A, p5, p6, Nat.lt_of_lt_of_le p7 (hm 20), by rw [el A p7]; exact p8, fun i hi => by rw [ea A p6 p7]; exact p9 i hi⟩, q1, q2, q3, q4, q5, q6, q7, q8, q9, B, r1, r2, Nat.lt_of_lt_of_le r3 (hm 20), by rw [el B r3]; exact r4, fun t s ht hs => by rw [ea B r2 r3]; exact r5 t s ht hs⟩
/-- the others stand -/
theorem XT0_GF {g g' : GS_} {S S' : Nat} (h : GF S g g') (hX : XS g) (hS : S < 4) (hS' : S' < 4) (hne : S' ≠ S) {a l : Nat → Int32} (h4 : tn (a 4) ≤ 24) (h5 : tn (a 5) ≤ 3) (hR : XT0 g S' a l) : XT0 g' S' a l := by
  obtain ⟨q1, q2, q3, q4, q5, q6⟩ := hR
  have hc : 41 ≤ gcn g 20 := by obtain ⟨⟨-, -, -, -, -, -, -, -, -, -, -, -, -, -, -, -, -, -, k, -⟩, -⟩ := hX; exact k
  have e8 : ∀ f, 168 ≤ f → gfi g' f S' = gfi g f S' := fun f hf => h.1 f S' (by unfold nwF; omega) (by unfold oF; omega)
  have hb := @bb_lt S'
  have ea : ∀ k, k < 9 → gai g' 20 (bb S' + k) = gai g 20 (bb S' + k) := fun k hk => h.2.2.2.2.1 _ (by omega) (by
    intro q
    exact bb_ne hS hS' (show bb S' + k - bb S < 9 by omega) hk hne (by omega))
  have ep : ∀ f p, p < 3 → 160 ≤ f → f < 168 → gfi g' f (3 * S' + p) = gfi g f (3 * S' + p) := fun f p hp h1 h2 => h.1 f _ (by unfold nwF; omega) (by unfold oF; omega)
  refine ⟨?_, ?_, ?_, ?_, ?_, ?_⟩
  · rw [e8 _ (by omega), e8 _ (by omega), e8 _ (by omega), e8 _ (by omega), e8 _ (by omega), e8 _ (by omega)]
    exact q1
  · intro k hk
    rw [show gai g' 20 (bb S') = gai g 20 (bb S') from ea 0 (by omega)]
    exact q2 k hk
  · intro u hu
    rw [ea 1 (by omega), ea 2 (by omega)]
    exact q3 u hu
  · intro d hd
    obtain ⟨D, r1, r2⟩ := q4 d hd
    exact ⟨D, by rw [h.2.2.2.2.2.1 22 S' (by omega)]; exact r1, DocV_GF h r2⟩
  · intro j hj
    obtain ⟨J, Q, r1, r2, r3, r4⟩ := q5 j hj
    have hJl := (hX.2.2 S' j J hS' (by omega) r1).1
    have hno : ¬ ∃ j', j' < 24 ∧ gar g 23 S j' = some J := by
      rintro ⟨j', hj', e⟩
      have := (hX.2.2 S j' J hS hj' e).2.2 S' j hS' (by omega) r1
      omega
    refine ⟨J, Q, by rw [h.2.2.2.2.2.1 23 S' (by omega)]; exact r1, ?_, PlV_GF h r3, ?_⟩
    · rw [h.2.1 33 J (fun q => by have := q.2; rw [show 33 / 32 = 1 from rfl] at this; omega) (fun q => hno q.2)]
      exact r2
    · rw [h.1 34 J (fun q => by have := q.2; rw [show 34 / 32 = 1 from rfl] at this; omega)]
      · exact r4
      · intro w
        rcases w with ⟨-, -, w⟩ | w | w
        · exact hno w
        · omega
        · omega
  · intro p hp
    rw [ep _ _ (by omega) (by omega) (by omega), ep _ _ (by omega) (by omega) (by omega), ep _ _ (by omega) (by omega) (by omega)]
    exact q6 p hp
theorem XD_GF {g g' : GS_} {S S' : Nat} (h : GF S g g') (hX : XS g) (hS : S < 4) (hS' : S' < 4) (hne : S' ≠ S) {a : Nat → Int32} {F : List Nat} (h4 : tn (a 4) ≤ 24) (h5 : tn (a 5) ≤ 3) (hR : XD g S' a F) : XD g' S' a F := by
  obtain ⟨q1, q2, q3, q4, q5, q6, q7⟩ := hR
  have hc : 41 ≤ gcn g 20 := by obtain ⟨⟨-, -, -, -, -, -, -, -, -, -, -, -, -, -, -, -, -, -, k, -⟩, -⟩ := hX; exact k
  have e8 : ∀ f, 168 ≤ f ∨ (64 ≤ f ∧ f < 128) → gfi g' f S' = gfi g f S' := fun f hf => h.1 f S' (by unfold nwF; omega) (by unfold oF; omega)
  have hb := @bb_lt S'
  have ea : ∀ k, k < 9 → gai g' 20 (bb S' + k) = gai g 20 (bb S' + k) := fun k hk => h.2.2.2.2.1 _ (by omega) (by
    intro q
    exact bb_ne hS hS' (show bb S' + k - bb S < 9 by omega) hk hne (by omega))
  have ep : ∀ f p, p < 3 → 160 ≤ f → f < 168 → gfi g' f (3 * S' + p) = gfi g f (3 * S' + p) := fun f p hp h1 h2 => h.1 f _ (by unfold nwF; omega) (by unfold oF; omega)
  refine ⟨?_, ?_, ?_, ?_, ?_, ?_, ?_⟩
  · intro j J hj hJ
    rw [h.2.2.2.2.2.1 23 S' (by omega)] at hJ
    have hJl := (hX.2.2 S' j J hS' (by omega) hJ).1
    have ej : ∀ f, 32 < f → f < 39 → gfi g' f J = gfi g f J := by
      intro f h1 h2
      refine h.1 f J (fun q => by have := q.2; rw [show f / 32 = 1 by omega] at this; omega) ?_
      intro w
      rcases w with ⟨-, -, j', hj', e⟩ | w | w
      · have := (hX.2.2 S j' J hS hj' e).2.2 S' j hS' (by omega) hJ
        omega
      · omega
      · omega
    rw [ej _ (by omega) (by omega), ej _ (by omega) (by omega), ej _ (by omega) (by omega), ej _ (by omega) (by omega)]
    exact q1 j J hj hJ
  · intro p hp
    rw [ep _ _ (by omega) (by omega) (by omega), ep _ _ (by omega) (by omega) (by omega), ep _ _ (by omega) (by omega) (by omega), ep _ _ (by omega) (by omega) (by omega), ea _ (by omega)]
    exact q2 p hp
  · rw [e8 _ (by omega), ea _ (by omega)]
    exact q3
  · rw [ea _ (by omega)]
    exact q4
  · rw [e8 _ (by omega)]
    exact q5
  · rw [e8 _ (by omega)]
    exact q6
  · rw [ea _ (by omega)]
    exact q7
