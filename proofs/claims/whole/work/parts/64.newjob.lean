/-! a new job's numbers -/
def NewJob (a b l l' : Nat → Int32) (N d cop col sid lay usr pri : Nat) (X : List Nat) : Prop :=
  (b 4 = nI (N + 1) ∧ b 7 = nI 0) ∧ (b (106 + 13 * N + 0) = nI cop ∧ b (106 + 13 * N + 1) = nI col ∧ b (106 + 13 * N + 2) = nI sid ∧ b (106 + 13 * N + 3) = nI lay ∧ b (106 + 13 * N + 4) = nI pri ∧ b (106 + 13 * N + 5) = nI usr ∧ b (106 + 13 * N + 6) = nI d ∧ b (106 + 13 * N + 7) = nI X.length) ∧
  (b (106 + 13 * N + 8) = nI (cop * scz lay sid X.length) ∧ b (106 + 13 * N + 9) = nI 0 ∧ b (106 + 13 * N + 10) = nI 0 ∧ b (106 + 13 * N + 11) = a 0 ∧ b (106 + 13 * N + 12) = nI 0) ∧
  (∀ k, k ≠ 4 → k ≠ 7 → (k < 106 + 13 * N ∨ 106 + 13 * N + 13 ≤ k) → b k = a k) ∧ (∀ i x, X[i]? = some x → l' (400 * N + i) = nI x) ∧ (∀ i, i < 400 * N → l' i = l i)
def JBd (a : Nat → Int32) (d cop col sid lay usr pri : Nat) (X : List Nat) : Prop :=
  (1 ≤ cop ∧ cop ≤ 10) ∧ col < 2 ∧ sid < 3 ∧ (lay < 5 ∧ lay ≠ 3) ∧ usr < 6 ∧ pri < 10 ∧ d < tn (a 3) ∧ (1 ≤ X.length ∧ X.length ≤ 400) ∧ ∀ x, x ∈ X → 1 ≤ x ∧ x ≤ 400
theorem NJ_n {a b l l' : Nat → Int32} {N d cop col sid lay usr pri : Nat} {X : List Nat} (h : NewJob a b l l' N d cop col sid lay usr pri X) (hB : JBd a d cop col sid lay usr pri X) (hN : N < 24) (h3 : tn (a 3) ≤ 10) :
    tn (b 4) = N + 1 ∧ jN b N 0 = cop ∧ jN b N 1 = col ∧ jN b N 2 = sid ∧ jN b N 3 = lay ∧ jN b N 6 = d ∧ jN b N 7 = X.length ∧ sSC b N = scz lay sid X.length ∧ sSH b N = cop * scz lay sid X.length ∧ cop * scz lay sid X.length ≤ 4000 := by
  obtain ⟨⟨k4, k7⟩, ⟨n0, n1, n2, n3, n4, n5, n6, n7⟩, -, -⟩ := h
  obtain ⟨⟨c1, c2⟩, c3, c4, ⟨c5, c5'⟩, c6, c7, c8, ⟨c9, c10⟩, -⟩ := hB
  have e0 : jN b N 0 = cop := tn_of n0 (by omega)
  have e1 : jN b N 1 = col := tn_of n1 (by omega)
  have e2 : jN b N 2 = sid := tn_of n2 (by omega)
  have e3 : jN b N 3 = lay := tn_of n3 (by omega)
  have e6 : jN b N 6 = d := tn_of n6 (by omega)
  have e7 : jN b N 7 = X.length := tn_of n7 (by omega)
  have hsc : scz lay sid X.length ≤ 400 := scz_le c10
  have hm := Nat.mul_le_mul c2 hsc
  refine ⟨by rw [k4, tn_nI (by omega)], e0, e1, e2, e3, e6, e7, ?_, ?_, by omega⟩
  · unfold sSC; rw [e2, e3, e7]
  · unfold sSH sSC; rw [e0, e2, e3, e7]
theorem JobPl_row {a b l m : Nat → Int32} {j : Nat} (h3 : b 3 = a 3) (h : ∀ i, i < 400 → m (400 * j + i) = l (400 * j + i)) (e : ∀ w, w < 9 → w ≠ 4 → b (106 + 13 * j + w) = a (106 + 13 * j + w)) (hJ : JobPl a l j) : JobPl b m j := by
  have h7 := (Jn hJ).2.2.2.2.2.2.1.2.2
  have e1 : sSH b j = sSH a j := sSH_eq e
  have eN : ∀ w, w < 9 → w ≠ 4 → jN b j w = jN a j w := fun w hw hne => by unfold jN; rw [e w hw hne]
  obtain ⟨q0, q1, q2, q3, q4, q5, q6, q7, q8, q9, q10, q11⟩ := hJ
  unfold JobPl
  rw [h3, e1, e 0 (by omega) (by omega), e 1 (by omega) (by omega), e 2 (by omega) (by omega), e 3 (by omega) (by omega), e 5 (by omega) (by omega), e 6 (by omega) (by omega), e 7 (by omega) (by omega), e 8 (by omega) (by omega), eN 0 (by omega) (by omega), eN 3 (by omega) (by omega), eN 7 (by omega) (by omega)]
  refine ⟨q0, q1, q2, q3, q4, q5, q6, q7, q8, q9, q10, fun i hi => ?_⟩
  rw [h _ (by omega)]
  exact q11 i hi
theorem PlV_row {g : GS_} {Q : Nat} {a l m : Nat → Int32} {j : Nat} (h7 : jN a j 7 ≤ 400) (h : ∀ i, i < 400 → m (400 * j + i) = l (400 * j + i)) (hP : PlV g Q a l j) : PlV g Q a m j := by
  have hpg : sPGc a m j = sPGc a l j := by
    funext t side pos
    unfold sPGc
    by_cases c : sEL a j t side pos < jN a j 7
    · rw [if_pos c, if_pos c, h _ (by omega)]
    · rw [if_neg c, if_neg c]
  have hcl : cLV a m j = cLV a l j := by
    funext t side
    unfold cLV cLD
    rw [hpg]
  unfold PlV at hP ⊢
  rw [hcl]
  obtain ⟨p1, p2, p3, ⟨A, a1, a2, a3, a4, a5⟩, p4⟩ := hP
  refine ⟨p1, p2, p3, ⟨A, a1, a2, a3, a4, fun i hi => ?_⟩, p4⟩
  rw [h _ (by omega)]
  exact a5 i hi
theorem NJ_job {a b l l' : Nat → Int32} {N d cop col sid lay usr pri : Nat} {X : List Nat} (h : NewJob a b l l' N d cop col sid lay usr pri X) (hB : JBd a d cop col sid lay usr pri X) (hN : N < 24) (h0 : Iv0 a l) : JobPl b l' N := by
  have h3 := Iv0_d h0
  obtain ⟨t4, j0, j1, j2, j3, j6, j7, js, jh, jm⟩ := NJ_n h hB hN h3
  obtain ⟨⟨k4, k7⟩, ⟨n0, n1, n2, n3, n4, n5, n6, n7⟩, ⟨n8, n9, n10, n11, n12⟩, ek, ex, el⟩ := h
  obtain ⟨⟨c1, c2⟩, c3, c4, ⟨c5, c5'⟩, c6, c7, c8, ⟨c9, c10⟩, c11⟩ := hB
  unfold JobPl
  rw [j0, j3, j7, jh, n0, n1, n2, n3, n5, n6, n7, n8, ek 3 (by omega) (by omega) (by omega)]
  refine ⟨vl_of (by omega) (by omega), c1, vl_of (by omega) (by omega), vl_of (by omega) (by omega), vl_of (by omega) (by omega), c5', vl_of (by omega) (by omega), vl_of c8 (by omega), vl_of (by omega) (by omega), c9, rfl, fun i hi => ?_⟩
  have hx := ex i _ (List.getElem?_eq_getElem hi)
  have hm := c11 _ (List.getElem_mem hi)
  rw [hx]
  refine ⟨vl_of (by omega) (by omega), ?_⟩
  rw [tn_nI (by omega)]
  exact hm.1
theorem NJ_Iv0 {a b l l' : Nat → Int32} {N d cop col sid lay usr pri : Nat} {X : List Nat} (h : NewJob a b l l' N d cop col sid lay usr pri X) (hB : JBd a d cop col sid lay usr pri X) (hN : N < 24) (hN2 : tn (a 4) = N) (h0 : Iv0 a l) : Iv0 b l' := by
  have h3 := Iv0_d h0
  have h5 := Iv0_p h0
  have hj := NJ_job h hB hN h0
  obtain ⟨t4, -⟩ := NJ_n h hB hN h3
  obtain ⟨⟨k4, k7⟩, -, -, ek, ex, el⟩ := h
  obtain ⟨i1, i2, i3, i4, i5, i6, i7⟩ := h0
  unfold Iv0
  rw [t4, k4, ek 3 (by omega) (by omega) (by omega), ek 5 (by omega) (by omega) (by omega), ek 1 (by omega) (by omega) (by omega)]
  refine ⟨i1, vl_of (by omega) (by omega), i3, i4, fun d' hd => ?_, fun j hj' => ?_, fun p hp => ?_⟩
  · have q := i5 d' hd
    have e : ∀ w, w < 5 → b (26 + 5 * d' + w) = a (26 + 5 * d' + w) := fun w hw => ek _ (by omega) (by omega) (by omega)
    unfold DocOk dN at q ⊢
    simp (disch := first | assumption | omega) only [e]
    exact q
  · by_cases c : j = N
    · subst c
      exact hj
    · exact JobPl_row (ek 3 (by omega) (by omega) (by omega)) (fun i hi => el _ (by omega)) (fun w hw _ => ek _ (by omega) (by omega) (by omega)) (i6 j (by omega))
  · have q := i7 p hp
    have e : ∀ w, w < 3 → b (76 + 10 * p + w) = a (76 + 10 * p + w) := fun w hw => ek _ (by omega) (by omega) (by omega)
    unfold PrPl pN at q ⊢
    simp (disch := first | assumption | omega) only [e]
    exact q
theorem NJ_PI {a b l l' : Nat → Int32} {F : List Nat} {n N d cop col sid lay usr pri : Nat} {X : List Nat} (h : NewJob a b l l' N d cop col sid lay usr pri X) (hB : JBd a d cop col sid lay usr pri X) (hN : N < 24) (hN2 : tn (a 4) = N) (hP : PI l (a, F) n) : PI l' (b, F) n := by
  obtain ⟨p1, p2, p3, p4⟩ := PI_el hP
  have h3 := Iv0_d p1
  have h5 := Iv0_p p1
  have hI := NJ_Iv0 h hB hN hN2 p1
  obtain ⟨t4, j0, j1, j2, j3, j6, j7, js, jh, jm⟩ := NJ_n h hB hN h3
  have hsc1 : 1 ≤ scz lay sid X.length := scz_pos hB.2.2.2.2.2.2.2.1.1
  have hcop := hB.1.1
  have hpri := hB.2.2.2.2.2.1
  obtain ⟨⟨k4, k7⟩, ⟨n0, n1, n2, n3, n4, n5, n6, n7⟩, ⟨n8, n9, n10, n11, n12⟩, ek, ex, el⟩ := h
  have ep : ∀ p w, p < tn (a 5) → w < 10 → b (76 + 10 * p + w) = a (76 + 10 * p + w) := fun p w hp hw => ek _ (by omega) (by omega) (by omega)
  have e5 : b 5 = a 5 := ek 5 (by omega) (by omega) (by omega)
  obtain ⟨i1, i2, i3⟩ := p2
  refine PI_mk hI ⟨fun i hi => ?_, fun p hp => ⟨?_, fun u => ?_⟩, fun p q hp hq hne u1 u2 => ?_⟩ ⟨p3.1, fun x => ?_⟩ (Lg_eq p4 (ek 6 (by omega) (by omega) (by omega)))
  · rw [t4] at hi
    by_cases c : i = N
    · subst c
      unfold JobSt
      rw [n4, n9, n10, n12, jh]
      have jn10 : jN b i 10 = 0 := tn_of n10 (by omega)
      have hmul : 1 * 1 ≤ cop * scz lay sid X.length := Nat.mul_le_mul hcop hsc1
      exact ⟨vl_of (by omega) (by omega), vl_of (by omega) (by omega), vl_of (by omega) (by omega), fun _ => by rw [jn10]; omega, Or.inl rfl⟩
    · exact JobSt_eq (fun w hw => ek _ (by omega) (by omega) (by omega)) (i1 i (by omega))
  · rw [e5] at hp
    have q1 := (i2 p hp).1
    unfold PrTr at q1 ⊢
    rw [ep p 3 hp (by omega), ep p 4 hp (by omega), ep p 5 hp (by omega), ep p 6 hp (by omega)]
    exact q1
  · rw [e5] at hp
    have q2 := (i2 p hp).2
    unfold PrWk pN at q2
    unfold pN
    rw [ep p 6 hp (by omega)] at u
    obtain ⟨v1, v2, v3⟩ := q2 u
    have v4 := vl_nI v1
    rw [ep p 7 hp (by omega), ep p 8 hp (by omega), t4, ek _ (by omega) (by omega) (by omega)]
    exact ⟨vl_up v1 (by omega), v2, v3⟩
  · rw [e5] at hp hq
    rw [ep p 6 hp (by omega)] at u1
    rw [ep q 6 hq (by omega)] at u2
    rw [ep p 7 hp (by omega), ep q 7 hq (by omega)]
    exact i3 p q hp hq hne u1 u2
  · rw [p3.2 x, t4, hN2]
    constructor
    · rintro ⟨w1, w2⟩
      refine ⟨by omega, ?_⟩
      rw [ek _ (by omega) (by omega) (by omega)]
      exact w2
    · rintro ⟨w1, w2⟩
      have hx : x ≠ N := by
        rintro rfl
        rw [n9] at w2
        exact absurd w2 (by decide)
      refine ⟨by omega, ?_⟩
      rw [ek _ (by omega) (by omega) (by omega)] at w2
      exact w2
theorem NJ_IvE {a b l l' : Nat → Int32} {N d cop col sid lay usr pri : Nat} {X : List Nat} (h : NewJob a b l l' N d cop col sid lay usr pri X) (hE : IvE a) : IvE b := by
  obtain ⟨⟨k4, k7⟩, -, -, ek, -⟩ := h
  unfold IvE at hE ⊢
  rw [k7, ek 8 (by omega) (by omega) (by omega), ek 9 (by omega) (by omega) (by omega), ek 10 (by omega) (by omega) (by omega), ek 11 (by omega) (by omega) (by omega), ek 12 (by omega) (by omega) (by omega), ek 13 (by omega) (by omega) (by omega)]
  exact ⟨vl_of (by omega) (by omega), hE.2⟩
-- the class
/-- what the making of a job does to the class -/
def MJ (g g' : GS_) (N J : Nat) (pri t0 : Int32) : Prop :=
  (∀ f i, ¬ (f / 32 = 4 ∧ gcn g 4 ≤ i) → ¬ (f = 193 ∧ i = 0) → ¬ (f = 259 ∧ i = 0) → ¬ (f / 32 = 1 ∧ i = J ∧ (gcn g 1 ≤ J ∨ (34 ≤ f ∧ f < 39))) → gfi g' f i = gfi g f i) ∧
  (∀ f i, ¬ (f / 32 = 4 ∧ gcn g 4 ≤ i) → ¬ (f / 32 = 1 ∧ i = J ∧ (gcn g 1 ≤ J ∨ f = 33)) → gfr g' f i = gfr g f i) ∧
  (∀ t i, (t = 20 → i < gcn g 20) → gai g' t i = gai g t i ∧ gln g' t i = gln g t i) ∧
  (∀ t i, t ≠ 20 → ¬ (t = 23 ∧ i = 0) → gar g' t i = gar g t i) ∧ (∀ k, gar g' 23 0 k = if k = N then some J else gar g 23 0 k) ∧
  (∀ t, gcn g t ≤ gcn g' t ∧ (t ≠ 1 → t ≠ 4 → t ≠ 20 → gcn g' t = gcn g t)) ∧
  (gar g 23 0 N = some J ∨ gcn g 1 ≤ J) ∧ (J < gcn g' 1 ∧ gfi g' 32 J = nI N) ∧
  (gfi g' 34 J = pri ∧ gfi g' 35 J = nI 0 ∧ gfi g' 36 J = nI 0 ∧ gfi g' 37 J = t0 ∧ gfi g' 38 J = -nI 1 ∧ gfr g' 33 J = some (gcn g 4)) ∧ gfi g' 259 0 = nI (N + 1) ∧ gfi g' 193 0 = nI 0
theorem MJ_GF {g g' : GS_} {N J : Nat} {pri t0 : Int32} (hN : N < 24) (h : MJ g g' N J pri t0) : GF 0 g g' := by
  obtain ⟨m1, m2, m3, m4, m5, m6, m7, m8, m9, m10, m11⟩ := h
  refine ⟨fun f i q1 q2 => ?_, fun f i q1 q2 => ?_, fun i hi => (m3 20 i (fun _ => hi)).2, fun t i ht => (m3 t i (fun w => absurd w ht)).2, fun i hi _ => (m3 20 i (fun _ => hi)).1, fun t i q => ?_, fun t => (m6 t).1, ⟨(m6 22).2 (by omega) (by omega) (by omega), (m6 23).2 (by omega) (by omega) (by omega)⟩, fun j J' hj hJ' => ?_⟩
  · refine m1 f i (fun w => q1 ⟨Or.inr (Or.inr w.1), by rw [w.1]; exact w.2⟩) (fun w => q2 (Or.inr (Or.inr ⟨by omega, w.2⟩))) (fun w => q2 (Or.inr (Or.inr ⟨by omega, w.2⟩))) ?_
    rintro ⟨w1, w2, w3 | w3⟩
    · exact q1 ⟨Or.inr (Or.inl w1), by rw [w1, w2]; exact w3⟩
    · rcases m7 with w4 | w4
      · exact q2 (Or.inl ⟨w3.1, w3.2, N, hN, by rw [w2]; exact w4⟩)
      · exact q1 ⟨Or.inr (Or.inl w1), by rw [w1, w2]; exact w4⟩
  · refine m2 f i (fun w => q1 ⟨Or.inr (Or.inr w.1), by rw [w.1]; exact w.2⟩) ?_
    rintro ⟨w1, w2, w3 | w3⟩
    · exact q1 ⟨Or.inr (Or.inl w1), by rw [w1, w2]; exact w3⟩
    · rcases m7 with w4 | w4
      · exact q2 ⟨w3, N, hN, by rw [w2]; exact w4⟩
      · exact q1 ⟨Or.inr (Or.inl w1), by rw [w1, w2]; exact w4⟩
  · exact m4 t i (by omega) (by omega)
  · rw [m5] at hJ'
    split at hJ'
    · have : J = J' := Option.some.inj hJ'
      subst this
      rcases m7 with w | w
      · exact Or.inl ⟨N, hN, w⟩
      · exact Or.inr w
    · exact Or.inl ⟨j, hj, hJ'⟩
theorem MJ_XS {g g' : GS_} {N J : Nat} {pri t0 : Int32} (hN : N < 24) (h : MJ g g' N J pri t0) (hX : XS g) : XS g' := by
  refine XS_GF (MJ_GF hN h) hX (by omega) (fun j J' hj hJ' => ?_)
  obtain ⟨m1, m2, m3, m4, m5, m6, m7, m8, m9, m10, m11⟩ := h
  rw [m5] at hJ'
  have old : ∀ j J', j < 24 → gar g 23 0 j = some J' → j ≠ N → J' ≠ J ∧ J' < gcn g 1 ∧ gfi g 32 J' = nI j := by
    intro j J' hj q hne
    obtain ⟨z1, z2, z3⟩ := hX.2.2 0 j J' (by omega) hj q
    refine ⟨?_, z1, z2⟩
    rintro rfl
    rcases m7 with w | w
    · exact hne (z3 0 N (by omega) hN w).2.symm
    · omega
  by_cases c : j = N
  · rw [if_pos c] at hJ'
    have : J = J' := Option.some.inj hJ'
    subst this
    refine ⟨m8.1, by rw [c]; exact m8.2, fun j' hj' q => ?_⟩
    rw [m5] at q
    by_cases c' : j' = N
    · omega
    · rw [if_neg c'] at q
      exact absurd rfl (old j' J hj' q c').1
  · rw [if_neg c] at hJ'
    obtain ⟨o1, o2, o3⟩ := old j J' hj hJ' c
    refine ⟨Nat.lt_of_lt_of_le o2 (m6 1).1, ?_, fun j' hj' q => ?_⟩
    · rw [m1 32 J' (by omega) (by omega) (by omega) (fun w => o1 w.2.1)]
      exact o3
    · rw [m5] at q
      by_cases c' : j' = N
      · rw [if_pos c'] at q
        exact absurd (Option.some.inj q).symm o1
      · rw [if_neg c'] at q
        exact ((hX.2.2 0 j J' (by omega) hj hJ').2.2 0 j' (by omega) hj' q).2
theorem MJ_T {g g' : GS_} {N J : Nat} {pri : Nat} {t0 : Int32} {a b l l' : Nat → Int32} {F : List Nat} {d cop col sid lay usr : Nat} {X : List Nat} (hN : N < 24) (hN2 : tn (a 4) = N) (h : MJ g g' N J (nI pri) t0) (hX : XS g) (hS : SpO g 0 a l F) (hJb : NewJob a b l l' N d cop col sid lay usr pri X) (hB : JBd a d cop col sid lay usr pri X) (ht0 : t0 = a 0) (hPl : PlV g' (gcn g 4) b l' N) :
    XT0 g' 0 b l' ∧ XD g' 0 b F := by
  have hG := MJ_GF hN h
  have h0 := hS.2.2.1
  have h3 := Iv0_d h0
  have h5 := Iv0_p h0
  have t4 := (NJ_n hJb hB hN h3).1
  obtain ⟨m1, m2, m3, m4, m5, m6, m7, m8, ⟨u34, u35, u36, u37, u38, u33⟩, m10, m11⟩ := id h
  obtain ⟨⟨k4, k7⟩, ⟨n0, n1, n2, n3, n4, n5, n6, n7⟩, ⟨n8, n9, n10, n11, n12⟩, ek, ex, el⟩ := id hJb
  have hc20 : 41 ≤ gcn g 20 := by obtain ⟨⟨-, -, -, -, -, -, -, -, -, -, -, -, -, -, -, -, -, -, q, -⟩, -⟩ := hX; exact q
  have fs : ∀ f i, 160 ≤ f → f ≠ 193 → f ≠ 259 → gfi g' f i = gfi g f i := fun f i q1 q2 q3 => m1 f i (by omega) (by omega) (by omega) (by omega)
  have f65 : gfi g' 65 0 = gfi g 65 0 := m1 65 0 (by omega) (by omega) (by omega) (by omega)
  have ga : ∀ c, c < 9 → gai g' 20 (bb 0 + c) = gai g 20 (bb 0 + c) := fun c hc => (m3 20 _ (fun _ => by have : bb 0 = 0 := rfl; omega)).1
  have oldJ : ∀ j J', j < N → gar g 23 0 j = some J' → (∀ f, 32 ≤ f → f < 64 → gfi g' f J' = gfi g f J') ∧ gfr g' 33 J' = gfr g 33 J' := by
    intro j J' hj q
    obtain ⟨z1, z2, z3⟩ := hX.2.2 0 j J' (by omega) (by omega) q
    have hne : J' ≠ J := by
      rintro rfl
      rcases m7 with w | w
      · have := (z3 0 N (by omega) hN w).2
        omega
      · omega
    exact ⟨fun f f1 f2 => m1 f J' (by omega) (by omega) (by omega) (fun w => hne w.2.1), m2 33 J' (by omega) (fun w => hne w.2.1)⟩
  have g23 : ∀ j, j < N → gar g' 23 0 j = gar g 23 0 j := fun j hj => by rw [m5, if_neg (by omega)]
  have g23N : gar g' 23 0 N = some J := by rw [m5, if_pos rfl]
  obtain ⟨⟨t1, t1', t1'', t1a, t1b, t1c⟩, t2, t3, t4', t5, t6⟩ := hS.2.2.2.1
  obtain ⟨x1, x2, ⟨x3, x3'⟩, x4, x5, x6, x7⟩ := hS.2.2.2.2
  constructor
  · unfold XT0
    rw [t4, m10, m11, k4, k7, fs 257 0 (by omega) (by omega) (by omega), fs 261 0 (by omega) (by omega) (by omega), fs 269 0 (by omega) (by omega) (by omega), fs 270 0 (by omega) (by omega) (by omega), ek 3 (by omega) (by omega) (by omega), ek 5 (by omega) (by omega) (by omega), ek 1 (by omega) (by omega) (by omega), ek 2 (by omega) (by omega) (by omega)]
    refine ⟨⟨t1, rfl, t1'', t1a, t1b, rfl⟩, fun k hk => ?_, fun u hu => ?_, fun d' hd => ?_, fun j hj => ?_, fun p hp => ?_⟩
    · rw [show gai g' 20 (bb 0) = gai g 20 (bb 0) from ga 0 (by omega), ek _ (by omega) (by omega) (by omega)]
      exact t2 k hk
    · rw [ga 1 (by omega), ga 2 (by omega), ek _ (by omega) (by omega) (by omega), ek _ (by omega) (by omega) (by omega)]
      exact t3 u hu
    · obtain ⟨D, q1, q2⟩ := t4' d' hd
      obtain ⟨r1, r2⟩ := DocV_GF hG q2
      refine ⟨D, by rw [m4 22 0 (by omega) (by omega)]; exact q1, r1, fun w hw => ?_⟩
      rw [ek _ (by omega) (by omega) (by omega)]
      exact r2 w hw
    · by_cases c : j = N
      · subst c
        exact ⟨J, gcn g 4, g23N, u33, hPl, by rw [u34, n4]⟩
      · have hjN : j < N := by omega
        obtain ⟨J', Q, q1, q2, q3, q4⟩ := t5 j (by omega)
        obtain ⟨o1, o2⟩ := oldJ j J' hjN q1
        have hj7 := (Jn (h0.2.2.2.2.2.1 j (by omega))).2.2.2.2.2.2.1.2.2
        have hj6 := (Iv0_dj h0 (show j < tn (a 4) by omega)).2
        refine ⟨J', Q, by rw [g23 j hjN]; exact q1, by rw [o2]; exact q2, PlV_keys2 (fun w hw _ => ek _ (by omega) (by omega) (by omega)) (fun w hw => ek _ (by omega) (by omega) (by omega)) (PlV_row hj7 (fun i hi => el _ (by omega)) (PlV_GF hG q3)), ?_⟩
        rw [o1 34 (by omega) (by omega), ek _ (by omega) (by omega) (by omega)]
        exact q4
    · rw [fs _ _ (by omega) (by omega) (by omega), fs _ _ (by omega) (by omega) (by omega), fs _ _ (by omega) (by omega) (by omega), ek _ (by omega) (by omega) (by omega), ek _ (by omega) (by omega) (by omega), ek _ (by omega) (by omega) (by omega)]
      exact t6 p hp
  · unfold XD
    rw [t4, ek 5 (by omega) (by omega) (by omega), ek 6 (by omega) (by omega) (by omega), ek 0 (by omega) (by omega) (by omega), f65, fs 271 0 (by omega) (by omega) (by omega), fs 268 0 (by omega) (by omega) (by omega)]
    refine ⟨fun j J' hj hJ' => ?_, fun p hp => ?_, ⟨x3, fun k hk => ?_⟩, fun u hu => ?_, x5, x6, fun i x hx => ?_⟩
    · by_cases c : j = N
      · subst c
        have : J = J' := Option.some.inj (g23N.symm.trans hJ')
        subst this
        rw [u35, u36, u37, u38, n9, n10, n11, n12, ht0]
        exact ⟨rfl, rfl, rfl, rfl⟩
      · have hjN : j < N := by omega
        rw [g23 j hjN] at hJ'
        obtain ⟨o1, o2⟩ := oldJ j J' hjN hJ'
        rw [o1 35 (by omega) (by omega), o1 36 (by omega) (by omega), o1 37 (by omega) (by omega), o1 38 (by omega) (by omega), ek _ (by omega) (by omega) (by omega), ek _ (by omega) (by omega) (by omega), ek _ (by omega) (by omega) (by omega), ek _ (by omega) (by omega) (by omega)]
        exact x1 j J' (by omega) hJ'
    · have q := x2 p hp
      rw [ga _ (by omega), fs _ _ (by omega) (by omega) (by omega), fs _ _ (by omega) (by omega) (by omega), fs _ _ (by omega) (by omega) (by omega), fs _ _ (by omega) (by omega) (by omega), ek (76 + 10 * p + 6) (by omega) (by omega) (by omega), ek (76 + 10 * p + 7) (by omega) (by omega) (by omega), ek (76 + 10 * p + 8) (by omega) (by omega) (by omega), ek (76 + 10 * p + 9) (by omega) (by omega) (by omega)]
      refine ⟨fun z hz => ?_, q.2⟩
      rw [ek _ (by omega) (by omega) (by omega)]
      exact q.1 z hz
    · rw [ga _ (by omega), ek _ (by omega) (by omega) (by omega)]
      exact x3' k hk
    · rw [ga _ (by omega), ek _ (by omega) (by omega) (by omega)]
      exact x4 u hu
    · rw [ga _ (by omega)]
      exact x7 i x hx
