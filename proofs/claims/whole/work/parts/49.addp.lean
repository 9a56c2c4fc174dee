/-! addPrinter, addDocument -/
theorem oF_NR {g g' : GS_} (h : NR g g') {S f i : Nat} : oF g' S f i ↔ oF g S f i := by
  unfold oF
  rw [h.2.2.1]
theorem x_life {g : GS_} {P B : Nat} {v1 v2 : Int32} {b : Nat} (hb : b < 2) (h1 : gfr g 163 P = some B) (h2 : gln g 20 B = 3) : f5_beginLife P v1 v2 (nI b) g = some ((), sfi (sfi (sfi (sfi (sai (sai (sai (sfi (sfi (sfi g 160 P v1) 161 P v2) 162 P (nI b)) 20 B 0 (nI 0)) 20 B 1 (nI 0)) 20 B 2 (nI 0)) 164 P (nI 0)) 165 P (-nI 6)) 166 P (nI 0)) 167 P (nI 0)) := by
  have hF : FU_ = 19995 + 5 := rfl
  have hb' : (nI b = nI 0 ∨ nI b = nI 1) = True := by
    rcases (show b = 0 ∨ b = 1 by omega) with rfl | rfl
    · exact eq_true (Or.inl rfl)
    · exact eq_true (Or.inr rfl)
  rw [f5_beginLife, hF]
  generalize 19995 = n
  simp (disch := first | with_reducible assumption | omega | (simp only [MI_sai_iff, MI_sfi_iff]; with_reducible assumption)) only [li, ↓lr_, ↓bd_m, ↓oc_m, ↓reduceIte, bi_0, bi_0n, bi_1, bi_1n, not_true_eq_false, not_false_eq_true, Nat.reduceAdd, Nat.reduceMul, nI_mul, nI_add, inb_T, ix_nI, le_T, le_F, lt_T, lt_F, eq_F, and_self, and_true, true_and, false_and, and_false, or_true, true_or, or_false, false_or, bi_eq, x_within, m_in, hb', f5_beginLife_b18, e_gfr_sfi, e_gfr_sai, e_gln_sfi, e_gln_sai, h1, h2, ofN]
theorem m_life {g : GS_} (h : MI g) {N : Nat} (hN : N < 3) : f10_addPrinter_b91 FU_ 0 (nI N) (nI 3) g = some (nI N, sai (sai (sai (sai (sai (sai (sai g 20 0 (76 + 10 * N + 3) (nI 0)) 20 0 (76 + 10 * N + 4) (nI 0)) 20 0 (76 + 10 * N + 5) (nI 0)) 20 0 (76 + 10 * N + 6) (nI 0)) 20 0 (76 + 10 * N + 7) (nI 0)) 20 0 (76 + 10 * N + 8) (nI 0)) 20 0 (76 + 10 * N + 9) (nI 0)) := by
  have hF : FU_ = 19990 + 10 := rfl
  rw [hF]
  generalize 19990 = n
  simp (disch := first | with_reducible assumption | omega | (simp only [MI_sai_iff, MI_sfi_iff]; with_reducible assumption)) only [li, ↓lr_, ↓bd_m, ↓oc_m, ↓reduceIte, bi_0, bi_0n, bi_1, bi_1n, not_true_eq_false, not_false_eq_true, Nat.reduceAdd, Nat.reduceMul, nI_mul, nI_add, inb_T, ix_nI, le_T, le_F, lt_T, lt_F, eq_F, and_self, and_true, true_and, false_and, and_false, or_true, true_or, or_false, false_or, bi_eq, x_within, m_in, f10_addPrinter_b91, m_setPrinter]
/-- a printer more -/
def NewPr (a b : Nat → Int32) (N : Nat) (v1 v2 v3 : Int32) : Prop :=
  b 5 = nI (N + 1) ∧ b (76 + 10 * N + 0) = v1 ∧ b (76 + 10 * N + 1) = v2 ∧ b (76 + 10 * N + 2) = v3 ∧ (∀ w, 3 ≤ w → w < 10 → b (76 + 10 * N + w) = nI 0) ∧ ∀ k, k ≠ 5 → (k < 76 + 10 * N ∨ 76 + 10 * N + 10 ≤ k) → b k = a k
theorem NewPr_Iv0 {a b l : Nat → Int32} {N : Nat} {v1 v2 v3 : Int32} (h : NewPr a b N v1 v2 v3) (hN : tn (a 5) = N) (hN3 : N < 3) (h0 : Iv0 a l) (k1 : vl v1 51 ∧ 1 ≤ tn v1) (k2 : vl v2 2001 ∧ 1 ≤ tn v2) (k3 : vl v3 2) : Iv0 b l := by
  obtain ⟨n5, n0, n1, n2, n3, ek⟩ := h
  have h3 := Iv0_d h0
  have h4 := Iv0_j h0
  have t5 : tn (b 5) = N + 1 := by rw [n5, tn_nI (by omega)]
  obtain ⟨i1, i2, i3, i4, i5, i6, i7⟩ := h0
  unfold Iv0
  rw [ek 3 (by omega) (by omega), ek 4 (by omega) (by omega), ek 1 (by omega) (by omega), t5, n5]
  refine ⟨i1, i2, vl_of (by omega) (by omega), i4, fun d hd => ?_, fun j hj => ?_, fun p hp => ?_⟩
  · have q := i5 d hd
    have e : ∀ w, w < 5 → b (26 + 5 * d + w) = a (26 + 5 * d + w) := fun w hw => ek _ (by omega) (by omega)
    unfold DocOk dN at q ⊢
    simp (disch := first | assumption | omega) only [e]
    exact q
  · have q := i6 j hj
    have e : ∀ w, w < 9 → w ≠ 4 → b (106 + 13 * j + w) = a (106 + 13 * j + w) := fun w hw hne => ek _ (by omega) (by omega)
    unfold JobPl sSH sSC jN at q ⊢
    rw [ek 3 (by omega) (by omega)]
    simp (disch := first | assumption | omega) only [e]
    exact q
  · by_cases c : p = N
    · subst c
      unfold PrPl pN
      rw [n0, n1, n2]
      exact ⟨k1.1, k1.2, k2.1, k2.2, k3⟩
    · have q := i7 p (by omega)
      have e : ∀ w, w < 3 → b (76 + 10 * p + w) = a (76 + 10 * p + w) := fun w hw => ek _ (by omega) (by omega)
      unfold PrPl pN at q ⊢
      simp (disch := first | assumption | omega) only [e]
      exact q
theorem NewPr_Ivd {a b : Nat → Int32} {N : Nat} {v1 v2 v3 : Int32} (h : NewPr a b N v1 v2 v3) (hN : tn (a 5) = N) (hN3 : N < 3) (h4 : tn (a 4) ≤ 24) (hI : Ivd a) : Ivd b := by
  obtain ⟨n5, n0, n1, n2, n3, ek⟩ := h
  have t5 : tn (b 5) = N + 1 := by rw [n5, tn_nI (by omega)]
  obtain ⟨i1, i2, i3⟩ := hI
  have ep : ∀ p w, p < N → w < 10 → b (76 + 10 * p + w) = a (76 + 10 * p + w) := fun p w hp hw => ek _ (by omega) (by omega)
  have old : ∀ p, p < N + 1 → b (76 + 10 * p + 6) = nI 1 → p < N := by
    intro p hp q
    rcases Nat.lt_or_ge p N with c | c
    · exact c
    · rw [show p = N by omega, n3 6 (by omega) (by omega)] at q
      exact absurd q (by decide)
  refine ⟨fun i hi => ?_, fun p hp => ⟨?_, fun u => ?_⟩, fun p q hp hq hne u1 u2 => ?_⟩
  · rw [ek 4 (by omega) (by omega)] at hi
    exact JobSt_eq (fun w hw => ek _ (by omega) (by omega)) (i1 i hi)
  · rw [t5] at hp
    by_cases c : p = N
    · subst c
      unfold PrTr
      rw [n3 3 (by omega) (by omega), n3 4 (by omega) (by omega), n3 5 (by omega) (by omega), n3 6 (by omega) (by omega)]
      exact ⟨vl_of (by omega) (by omega), vl_of (by omega) (by omega), vl_of (by omega) (by omega), vl_of (by omega) (by omega)⟩
    · have q1 := (i2 p (by omega)).1
      unfold PrTr at q1 ⊢
      rw [ep p 3 (by omega) (by omega), ep p 4 (by omega) (by omega), ep p 5 (by omega) (by omega), ep p 6 (by omega) (by omega)]
      exact q1
  · rw [t5] at hp
    have c := old p hp u
    have q2 := (i2 p (by omega)).2
    unfold PrWk pN at q2
    unfold pN
    rw [ep p 6 c (by omega)] at u
    obtain ⟨v1, v2, v3⟩ := q2 u
    have v4 := vl_nI v1
    rw [ep p 7 c (by omega), ep p 8 c (by omega), ek 4 (by omega) (by omega), ek _ (by omega) (by omega)]
    exact ⟨v1, v2, v3⟩
  · rw [t5] at hp hq
    have c1 := old p hp u1
    have c2 := old q hq u2
    rw [ep p 6 c1 (by omega)] at u1
    rw [ep q 6 c2 (by omega)] at u2
    rw [ep p 7 c1 (by omega), ep q 7 c2 (by omega)]
    exact i3 p q (by omega) (by omega) hne u1 u2
theorem NewPr_PI {a b l : Nat → Int32} {F : List Nat} {n N : Nat} {v1 v2 v3 : Int32} (h : NewPr a b N v1 v2 v3) (hN : tn (a 5) = N) (hN3 : N < 3) (hP : PI l (a, F) n) (k1 : vl v1 51 ∧ 1 ≤ tn v1) (k2 : vl v2 2001 ∧ 1 ≤ tn v2) (k3 : vl v3 2) : PI l (b, F) n := by
  obtain ⟨i1, i2, i3, i4⟩ := PI_el hP
  have h4 : tn (a 4) ≤ 24 := Iv0_j i1
  have ek := h.2.2.2.2.2
  refine ⟨NewPr_Iv0 h hN hN3 i1 k1 k2 k3, NewPr_Ivd h hN hN3 h4 i2, DN_same (ek _ (by omega) (by omega)) (fun x hx => ek _ ?_ ?_) i3, Lg_eq i4 (ek _ (by omega) (by omega))⟩
  · omega
  · omega
theorem NewPr_T {g g' : GS_} {S N : Nat} {a b l : Nat → Int32} {v1 v2 v3 : Int32} (hS : S < 4) (h : NewPr a b N v1 v2 v3) (hN : tn (a 5) = N) (hN3 : N < 3) (h0 : Iv0 a l) (ht : TF S g g') (hT : XT0 g S a l)
    (f0 : gfi g' 160 (3 * S + N) = v1 ∧ gfi g' 161 (3 * S + N) = v2 ∧ gfi g' 162 (3 * S + N) = v3 ∧ gfi g' 164 (3 * S + N) = nI 0 ∧ gfi g' 167 (3 * S + N) = nI 0 ∧ gfi g' 261 S = nI (N + 1))
    (fo : ∀ f i, ¬ (160 ≤ f ∧ f < 168 ∧ i = 3 * S + N) → ¬ (f = 261 ∧ i = S) → gfi g' f i = gfi g f i) (ga : ∀ i, i ≠ bb S + (6 + N) → gai g' 20 i = gai g 20 i) : XT0 g' S b l := by
  obtain ⟨n5, n0, n1, n2, n3, ek⟩ := h
  have h3 := Iv0_d h0
  have h4 := Iv0_j h0
  have t5 : tn (b 5) = N + 1 := by rw [n5, tn_nI (by omega)]
  obtain ⟨⟨t1, t1', t1'', t1a, t1b, t1c⟩, t2, t3, t4, t5', t6⟩ := hT
  obtain ⟨f1, f2, f3, f4, f5, f6⟩ := f0
  unfold XT0
  rw [t5, f6, n5, ek 3 (by omega) (by omega), ek 4 (by omega) (by omega), ek 1 (by omega) (by omega), ek 2 (by omega) (by omega), ek 7 (by omega) (by omega)]
  rw [fo 257 S (by omega) (by omega), fo 259 S (by omega) (by omega), fo 269 S (by omega) (by omega), fo 270 S (by omega) (by omega), fo 193 S (by omega) (by omega)]
  refine ⟨⟨t1, t1', rfl, t1a, t1b, t1c⟩, fun k hk => ?_, fun u hu => ?_, fun d hd => ?_, fun j hj => ?_, fun p hp => ?_⟩
  · rw [ga _ (by omega), ek _ (by omega) (by omega)]
    exact t2 k hk
  · rw [ga _ (by omega), ga _ (by omega), ek _ (by omega) (by omega), ek _ (by omega) (by omega)]
    exact t3 u hu
  · obtain ⟨D, q1, q2⟩ := t4 d hd
    obtain ⟨r1, r2⟩ := DocV_TF ht q2
    refine ⟨D, by rw [ht.1.2.2.1]; exact q1, r1, fun w hw => ?_⟩
    rw [ek _ (by omega) (by omega)]
    exact r2 w hw
  · obtain ⟨J, Q, q1, q2, q3, q4⟩ := t5' j hj
    refine ⟨J, Q, by rw [ht.1.2.2.1]; exact q1, by rw [ht.1.1]; exact q2, PlV_keys (by omega) (Iv0_dj h0 hj).2 (fun k hk' => ek k (by omega) (by omega)) (PlV_TF ht q3), ?_⟩
    rw [fo _ _ (by omega) (by omega), ek _ (by omega) (by omega)]
    exact q4
  · by_cases c : p = N
    · subst c
      rw [f1, f2, f3, n0, n1, n2]
      exact ⟨rfl, rfl, rfl⟩
    · rw [fo _ _ (by omega) (by omega), fo _ _ (by omega) (by omega), fo _ _ (by omega) (by omega), ek _ (by omega) (by omega), ek _ (by omega) (by omega), ek _ (by omega) (by omega)]
      exact t6 p (by omega)
theorem NewPr_D {g g' : GS_} {S N : Nat} {a b : Nat → Int32} {F : List Nat} {v1 v2 v3 : Int32} (hS : S < 4) (h : NewPr a b N v1 v2 v3) (hN : tn (a 5) = N) (hN3 : N < 3) (h4 : tn (a 4) ≤ 24) (ht : TF S g g') (hD : XD g S a F)
    (f0 : gfi g' 164 (3 * S + N) = nI 0 ∧ gfi g' 167 (3 * S + N) = nI 0) (gb : ∀ z, z < 3 → gai g' 20 (bb S + (6 + N)) z = nI 0)
    (fo : ∀ f i, ¬ (160 ≤ f ∧ f < 168 ∧ i = 3 * S + N) → ¬ (f = 261 ∧ i = S) → gfi g' f i = gfi g f i) (ga : ∀ i, i ≠ bb S + (6 + N) → gai g' 20 i = gai g 20 i) : XD g' S b F := by
  obtain ⟨n5, n0, n1, n2, n3, ek⟩ := h
  have t5 : tn (b 5) = N + 1 := by rw [n5, tn_nI (by omega)]
  obtain ⟨x1, x2, ⟨x3, x3'⟩, x4, x5, x6, x7⟩ := hD
  unfold XD
  rw [t5, ek 4 (by omega) (by omega), ek 6 (by omega) (by omega), ek 0 (by omega) (by omega)]
  rw [fo 65 S (by omega) (by omega), fo 271 S (by omega) (by omega), fo 268 S (by omega) (by omega)]
  refine ⟨fun j J hj hJ => ?_, fun p hp => ?_, ⟨x3, fun k hk => ?_⟩, fun u hu => ?_, x5, x6, fun i x hx => ?_⟩
  · rw [ht.1.2.2.1] at hJ
    rw [fo _ _ (by omega) (by omega), fo _ _ (by omega) (by omega), fo _ _ (by omega) (by omega), fo _ _ (by omega) (by omega), ek _ (by omega) (by omega), ek _ (by omega) (by omega), ek _ (by omega) (by omega), ek _ (by omega) (by omega)]
    exact x1 j J hj hJ
  · by_cases c : p = N
    · subst c
      refine ⟨fun z hz => ?_, f0.1.trans (n3 6 (by omega) (by omega)).symm, fun q => ?_, f0.2.trans (n3 9 (by omega) (by omega)).symm⟩
      · rw [gb z hz, n3 _ (by omega) (by omega)]
      · rw [n3 6 (by omega) (by omega)] at q
        exact absurd q (by decide)
    · have q := x2 p (by omega)
      rw [ga _ (by omega), fo _ _ (by omega) (by omega), fo _ _ (by omega) (by omega), fo _ _ (by omega) (by omega), fo _ _ (by omega) (by omega), ek (76 + 10 * p + 6) (by omega) (by omega), ek (76 + 10 * p + 7) (by omega) (by omega), ek (76 + 10 * p + 8) (by omega) (by omega), ek (76 + 10 * p + 9) (by omega) (by omega)]
      refine ⟨fun z hz => ?_, q.2⟩
      rw [ek _ (by omega) (by omega)]
      exact q.1 z hz
  · rw [ga _ (by omega), ek _ (by omega) (by omega)]
    exact x3' k hk
  · rw [ga _ (by omega), ek _ (by omega) (by omega)]
    exact x4 u hu
  · rw [ga _ (by omega)]
    exact x7 i x hx
def prX (g : GS_) (N P B : Nat) (u v w : Int32) : GS_ := sfi (sfi (sfi (sfi (sfi (sai (sai (sai (sfi (sfi (sfi g 160 P u) 161 P v) 162 P w) 20 B 0 (nI 0)) 20 B 1 (nI 0)) 20 B 2 (nI 0)) 164 P (nI 0)) 165 P (-nI 6)) 166 P (nI 0)) 167 P (nI 0)) 261 0 (nI (N + 1))
def prM0 (g : GS_) (N : Nat) (u v w : Int32) : GS_ := sai (sai (sai (sai g 20 0 5 (nI (N + 1))) 20 0 (76 + 10 * N + 0) u) 20 0 (76 + 10 * N + 1) v) 20 0 (76 + 10 * N + 2) w
def prM1 (g : GS_) (N : Nat) : GS_ := sai (sai (sai (sai (sai (sai (sai g 20 0 (76 + 10 * N + 3) (nI 0)) 20 0 (76 + 10 * N + 4) (nI 0)) 20 0 (76 + 10 * N + 5) (nI 0)) 20 0 (76 + 10 * N + 6) (nI 0)) 20 0 (76 + 10 * N + 7) (nI 0)) 20 0 (76 + 10 * N + 8) (nI 0)) 20 0 (76 + 10 * N + 9) (nI 0)
theorem prM_new {g : GS_} {N : Nat} {u v w : Int32} : NewPr (gai g 20 0) (gai (prM1 (prM0 g N u v w) N) 20 0) N u v w := by
  have hf : gai (prM1 (prM0 g N u v w) N) 20 0 = up (up (up (up (up (up (up (up (up (up (up (gai g 20 0) 5 (nI (N + 1))) (76 + 10 * N + 0) u) (76 + 10 * N + 1) v) (76 + 10 * N + 2) w) (76 + 10 * N + 3) (nI 0)) (76 + 10 * N + 4) (nI 0)) (76 + 10 * N + 5) (nI 0)) (76 + 10 * N + 6) (nI 0)) (76 + 10 * N + 7) (nI 0)) (76 + 10 * N + 8) (nI 0)) (76 + 10 * N + 9) (nI 0) := by
    unfold prM1 prM0
    rw [up_sai, up_sai, up_sai, up_sai, up_sai, up_sai, up_sai, up_sai, up_sai, up_sai, up_sai]
  rw [hf]
  unfold NewPr
  refine ⟨?_, ?_, ?_, ?_, fun q q1 q2 => ?_, fun k k1 k2 => ?_⟩
  · simp (disch := omega) only [up_ne, up_eq]
  · simp (disch := omega) only [up_ne, up_eq]
  · simp (disch := omega) only [up_ne, up_eq]
  · simp (disch := omega) only [up_ne, up_eq]
  · rcases (show q = 3 ∨ q = 4 ∨ q = 5 ∨ q = 6 ∨ q = 7 ∨ q = 8 ∨ q = 9 by omega) with rfl | rfl | rfl | rfl | rfl | rfl | rfl
    all_goals simp (disch := omega) only [up_ne, up_eq]
  · simp (disch := omega) only [up_ne]
theorem prM_KS {g : GS_} {N : Nat} {u v w : Int32} : KS g (prM1 (prM0 g N u v w) N) := by
  unfold prM1 prM0
  exact KS_tr (KS_tr (KS_tr (KS_tr KS_sai KS_sai) KS_sai) KS_sai) (KS_tr (KS_tr (KS_tr (KS_tr (KS_tr (KS_tr KS_sai KS_sai) KS_sai) KS_sai) KS_sai) KS_sai) KS_sai)
theorem prM_l {g : GS_} {N : Nat} {u v w : Int32} : gai (prM1 (prM0 g N u v w) N) 20 2 = gai g 20 2 := by
  unfold prM1 prM0
  rw [sai_l, sai_l, sai_l, sai_l, sai_l, sai_l, sai_l, sai_l, sai_l, sai_l, sai_l]
theorem prX_TF {g : GS_} {N : Nat} {u v w : Int32} (hN : N < 3) : TF 0 g (prX g N (3 * 0 + N) (bb 0 + (6 + N)) u v w) := by
  have op : ∀ (g : GS_) f x, 160 ≤ f → f < 168 → TF 0 g (sfi g f (3 * 0 + N) x) := fun g f x h1 h2 => TF_sfi (Or.inr (Or.inl ⟨h1, h2, by omega, by omega⟩))
  have oa : ∀ (g : GS_) k x, TF 0 g (sai g 20 (bb 0 + (6 + N)) k x) := fun g k x => TF_sai (by omega)
  unfold prX
  refine TF_tr ?_ (TF_sfi (Or.inr (Or.inr ⟨by omega, rfl⟩)))
  refine TF_tr ?_ (op _ 167 _ (by omega) (by omega))
  refine TF_tr ?_ (op _ 166 _ (by omega) (by omega))
  refine TF_tr ?_ (op _ 165 _ (by omega) (by omega))
  refine TF_tr ?_ (op _ 164 _ (by omega) (by omega))
  refine TF_tr ?_ (oa _ _ _)
  refine TF_tr ?_ (oa _ _ _)
  refine TF_tr ?_ (oa _ _ _)
  refine TF_tr ?_ (op _ 162 _ (by omega) (by omega))
  refine TF_tr ?_ (op _ 161 _ (by omega) (by omega))
  exact op _ 160 _ (by omega) (by omega)
theorem prX_f {g : GS_} {N P B : Nat} {u v w : Int32} : gfi (prX g N P B u v w) 160 P = u ∧ gfi (prX g N P B u v w) 161 P = v ∧ gfi (prX g N P B u v w) 162 P = w ∧ gfi (prX g N P B u v w) 164 P = nI 0 ∧ gfi (prX g N P B u v w) 167 P = nI 0 ∧ gfi (prX g N P B u v w) 261 0 = nI (N + 1) := by
  unfold prX
  refine ⟨?_, ?_, ?_, ?_, ?_, ?_⟩
  all_goals simp only [e_gfi_sfi, e_gfi_sai, Nat.reduceEqDiff, false_and, and_self, ↓reduceIte]
theorem prX_fo {g : GS_} {N P B : Nat} {u v w : Int32} (f i : Nat) (q1 : ¬ (160 ≤ f ∧ f < 168 ∧ i = P)) (q2 : ¬ (f = 261 ∧ i = 0)) : gfi (prX g N P B u v w) f i = gfi g f i := by
  unfold prX
  rw [e_gfi_sfi, if_neg q2, e_gfi_sfi, if_neg (by omega), e_gfi_sfi, if_neg (by omega), e_gfi_sfi, if_neg (by omega), e_gfi_sfi, if_neg (by omega), e_gfi_sai, e_gfi_sai, e_gfi_sai, e_gfi_sfi, if_neg (by omega), e_gfi_sfi, if_neg (by omega), e_gfi_sfi, if_neg (by omega)]
theorem prX_ga {g : GS_} {N P B : Nat} {u v w : Int32} (i : Nat) (hi : i ≠ B) : gai (prX g N P B u v w) 20 i = gai g 20 i := by
  funext k
  unfold prX
  simp only [e_gai_sfi, e_gai_sai]
  rw [if_neg (by omega), if_neg (by omega), if_neg (by omega)]
theorem prX_gb {g : GS_} {N P B : Nat} {u v w : Int32} (z : Nat) (hz : z < 3) : gai (prX g N P B u v w) 20 B z = nI 0 := by
  unfold prX
  simp only [e_gai_sfi, e_gai_sai]
  rcases (show z = 0 ∨ z = 1 ∨ z = 2 by omega) with rfl | rfl | rfl
  · rw [if_neg (by omega), if_neg (by omega), if_pos (by simp)]
  · rw [if_neg (by omega), if_pos (by simp)]
  · rw [if_pos (by simp)]
theorem prX_r {g : GS_} {N P B : Nat} {u v w : Int32} : ghs (prX g N P B u v w) = ghs g ∧ gsl (prX g N P B u v w) = gsl g := ⟨rfl, rfl⟩
theorem prM_r {g : GS_} {N : Nat} {u v w : Int32} : ghs (prM1 (prM0 g N u v w) N) = ghs g ∧ gsl (prM1 (prM0 g N u v w) N) = gsl g := ⟨rfl, rfl⟩
theorem prR {gX gM : GS_} {n N : Nat} {u v w : Int32} (h : Rel gX gM n) (hN : tn (gai gM 20 0 5) = N) (hNl : N < 3) (hu : nI 1 ≤ u ∧ u ≤ nI 50) (hv : nI 1 ≤ v ∧ v ≤ nI 2000) (hw : nI 0 ≤ w ∧ w ≤ nI 1) : Rel (prX gX N (3 * 0 + N) (bb 0 + (6 + N)) u v w) (prM1 (prM0 gM N u v w) N) (n + 1) := by
  obtain ⟨F, r0, r1, hX, hS, hP, hE, hM, ⟨d1, d2, d3⟩, ⟨j1, j2, j3⟩, ⟨p1, p2, p3⟩⟩ := ctx h
  have h4 := Iv0_j hS.2.2.1
  have hnew := prM_new (g := gM) (N := N) (u := u) (v := v) (w := w)
  have ht := prX_TF (g := gX) (u := u) (v := v) (w := w) hNl
  have f0 := prX_f (g := gX) (N := N) (P := 3 * 0 + N) (B := bb 0 + (6 + N)) (u := u) (v := v) (w := w)
  have hPI := NewPr_PI hnew hN hNl hP (in_vl2 (by omega) (by omega) hu) (in_vl2 (by omega) (by omega) hv) (in_vl2 (by omega) (by omega) hw).1
  have hT := NewPr_T (by omega) hnew hN hNl hS.2.2.1 ht hS.2.2.2.1 f0 prX_fo prX_ga
  have hD := NewPr_D (by omega) hnew hN hNl h4 ht hS.2.2.2.2 ⟨f0.2.2.2.1, f0.2.2.2.2.1⟩ prX_gb prX_fo prX_ga
  have hE' : IvE (gai (prM1 (prM0 gM N u v w) N) 20 0) := IvE_keys (fun q _ _ => hnew.2.2.2.2.2 q (by omega) (by omega)) hE
  exact Rel_XT h hS ht prM_KS prM_l rfl hT hD hPI hE'
theorem op_addPrinter (u v w : Int32) : Op (f9_addPrinter 0 u v w) (f10_addPrinter 0 u v w) := by
  intro gX gM n hn h
  obtain ⟨F, r0, r1, hX, hS, hP, hE, hM, ⟨d1, d2, d3⟩, ⟨j1, j2, j3⟩, ⟨p1, p2, p3⟩⟩ := ctx h
  have h4 := Iv0_j hS.2.2.1
  have h5 := Iv0_p hS.2.2.1
  obtain ⟨s1, s2, s3, s4, s5, s6, s7, s8, s9, s10, s11, s12, s13, s14, s15, s16, s17, s18, s19, s20, s21⟩ := id hX
  by_cases hu : nI 1 ≤ u ∧ u ≤ nI 50
  · by_cases hv : nI 1 ≤ v ∧ v ≤ nI 2000
    · by_cases hw : nI 0 ≤ w ∧ w ≤ nI 1
      · obtain ⟨b, -, hb, rfl⟩ := (in_ex (by omega) (by omega)).mp hw
        generalize hN : tn (gai gM 20 0 5) = N at *
        by_cases hN3 : N = 3
        · subst hN3
          refine op_fin h ?_ ?_ (r := -nI 4)
          · rcases (show b = 0 ∨ b = 1 by omega) with rfl | rfl
            all_goals simp (disch := first | with_reducible assumption | omega | (simp only [MI_sai_iff, MI_sfi_iff]; with_reducible assumption)) only [li, ↓lr_, ↓bd_m, ↓oc_m, ↓reduceIte, bi_0, bi_0n, bi_1, bi_1n, not_true_eq_false, not_false_eq_true, Nat.reduceAdd, Nat.reduceMul, nI_mul, nI_add, inb_T, ix_nI, le_T, le_F, lt_T, lt_F, eq_F, and_self, and_true, true_and, false_and, and_false, or_true, true_or, or_false, false_or, bi_eq, x_within, m_in, f9_addPrinter, f9_addPrinter_b49, eq_true hu, eq_true hv, eq_true hw, r0, f8_keepPrinter, p1, s5, s6, ofN]
          · simp (disch := first | with_reducible assumption | omega | (simp only [MI_sai_iff, MI_sfi_iff]; with_reducible assumption)) only [li, ↓lr_, ↓bd_m, ↓oc_m, ↓reduceIte, bi_0, bi_0n, bi_1, bi_1n, not_true_eq_false, not_false_eq_true, Nat.reduceAdd, Nat.reduceMul, nI_mul, nI_add, inb_T, ix_nI, le_T, le_F, lt_T, lt_F, eq_F, and_self, and_true, true_and, false_and, and_false, or_true, true_or, or_false, false_or, bi_eq, x_within, m_in, f10_addPrinter, eq_true hu, eq_true hv, eq_true hw, MI_a hM, MI_n hM, p2]
        · have hNl : N < 3 := by omega
          obtain ⟨y1, y2, y3⟩ := s21 N hNl
          have e1 := x_life (v1 := u) (v2 := v) (show b < 2 by omega) y2 y3
          have hM0 : MI (prM0 gM N u v (nI b)) := hM
          have e2 := m_life hM0 hNl
          refine op_wr (r := nI N) (prR h hN hNl hu hv hw) ?_ ?_ rfl rfl rfl rfl
          · unfold prX
            rcases (show b = 0 ∨ b = 1 by omega) with rfl | rfl
            all_goals simp (disch := first | with_reducible assumption | omega | (simp only [MI_sai_iff, MI_sfi_iff]; with_reducible assumption)) only [li, ↓lr_, ↓bd_m, ↓oc_m, ↓reduceIte, bi_0, bi_0n, bi_1, bi_1n, not_true_eq_false, not_false_eq_true, Nat.reduceAdd, Nat.reduceMul, nI_mul, nI_add, inb_T, ix_nI, le_T, le_F, lt_T, lt_F, eq_F, and_self, and_true, true_and, false_and, and_false, or_true, true_or, or_false, false_or, bi_eq, x_within, m_in, f9_addPrinter, f9_addPrinter_b49, eq_true hu, eq_true hv, eq_true hw, r0, f8_keepPrinter, p1, s5, s6, ofN, y1, e1, e_gfi_sfi, e_gfi_sai, Nat.reduceEqDiff, nI_sub, Nat.add_sub_cancel]
          · unfold prM1
            unfold prM0 at e2 ⊢
            simp (disch := first | with_reducible assumption | omega | (simp only [MI_sai_iff, MI_sfi_iff]; with_reducible assumption)) only [li, ↓lr_, ↓bd_m, ↓oc_m, ↓reduceIte, bi_0, bi_0n, bi_1, bi_1n, not_true_eq_false, not_false_eq_true, Nat.reduceAdd, Nat.reduceMul, nI_mul, nI_add, inb_T, ix_nI, le_T, le_F, lt_T, lt_F, eq_F, and_self, and_true, true_and, false_and, and_false, or_true, true_or, or_false, false_or, bi_eq, x_within, m_in, f10_addPrinter, eq_true hu, eq_true hv, eq_true hw, MI_a hM, MI_n hM, p2, m_setPrinter, e2]
      · refine op_fin h ?_ ?_ (r := -nI 2)
        · simp (disch := first | with_reducible assumption | omega | (simp only [MI_sai_iff, MI_sfi_iff]; with_reducible assumption)) only [li, ↓lr_, ↓bd_m, ↓oc_m, ↓reduceIte, bi_0, bi_0n, bi_1, bi_1n, not_true_eq_false, not_false_eq_true, Nat.reduceAdd, Nat.reduceMul, nI_mul, nI_add, inb_T, ix_nI, le_T, le_F, lt_T, lt_F, eq_F, and_self, and_true, true_and, false_and, and_false, or_true, true_or, or_false, false_or, bi_eq, x_within, m_in, f9_addPrinter, eq_true hu, eq_true hv, eq_false hw]
        · simp (disch := first | with_reducible assumption | omega | (simp only [MI_sai_iff, MI_sfi_iff]; with_reducible assumption)) only [li, ↓lr_, ↓bd_m, ↓oc_m, ↓reduceIte, bi_0, bi_0n, bi_1, bi_1n, not_true_eq_false, not_false_eq_true, Nat.reduceAdd, Nat.reduceMul, nI_mul, nI_add, inb_T, ix_nI, le_T, le_F, lt_T, lt_F, eq_F, and_self, and_true, true_and, false_and, and_false, or_true, true_or, or_false, false_or, bi_eq, x_within, m_in, f10_addPrinter, eq_true hu, eq_true hv, eq_false hw]
    · refine op_fin h ?_ ?_ (r := -nI 2)
      · simp (disch := first | with_reducible assumption | omega | (simp only [MI_sai_iff, MI_sfi_iff]; with_reducible assumption)) only [li, ↓lr_, ↓bd_m, ↓oc_m, ↓reduceIte, bi_0, bi_0n, bi_1, bi_1n, not_true_eq_false, not_false_eq_true, Nat.reduceAdd, Nat.reduceMul, nI_mul, nI_add, inb_T, ix_nI, le_T, le_F, lt_T, lt_F, eq_F, and_self, and_true, true_and, false_and, and_false, or_true, true_or, or_false, false_or, bi_eq, x_within, m_in, f9_addPrinter, eq_true hu, eq_false hv]
      · simp (disch := first | with_reducible assumption | omega | (simp only [MI_sai_iff, MI_sfi_iff]; with_reducible assumption)) only [li, ↓lr_, ↓bd_m, ↓oc_m, ↓reduceIte, bi_0, bi_0n, bi_1, bi_1n, not_true_eq_false, not_false_eq_true, Nat.reduceAdd, Nat.reduceMul, nI_mul, nI_add, inb_T, ix_nI, le_T, le_F, lt_T, lt_F, eq_F, and_self, and_true, true_and, false_and, and_false, or_true, true_or, or_false, false_or, bi_eq, x_within, m_in, f10_addPrinter, eq_true hu, eq_false hv]
  · refine op_fin h ?_ ?_ (r := -nI 2)
    · simp (disch := first | with_reducible assumption | omega | (simp only [MI_sai_iff, MI_sfi_iff]; with_reducible assumption)) only [li, ↓lr_, ↓bd_m, ↓oc_m, ↓reduceIte, bi_0, bi_0n, bi_1, bi_1n, not_true_eq_false, not_false_eq_true, Nat.reduceAdd, Nat.reduceMul, nI_mul, nI_add, inb_T, ix_nI, le_T, le_F, lt_T, lt_F, eq_F, and_self, and_true, true_and, false_and, and_false, or_true, true_or, or_false, false_or, bi_eq, x_within, m_in, f9_addPrinter, eq_false hu]
    · simp (disch := first | with_reducible assumption | omega | (simp only [MI_sai_iff, MI_sfi_iff]; with_reducible assumption)) only [li, ↓lr_, ↓bd_m, ↓oc_m, ↓reduceIte, bi_0, bi_0n, bi_1, bi_1n, not_true_eq_false, not_false_eq_true, Nat.reduceAdd, Nat.reduceMul, nI_mul, nI_add, inb_T, ix_nI, le_T, le_F, lt_T, lt_F, eq_F, and_self, and_true, true_and, false_and, and_false, or_true, true_or, or_false, false_or, bi_eq, x_within, m_in, f10_addPrinter, eq_false hu]
