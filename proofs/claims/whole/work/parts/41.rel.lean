/-! what ties the class's numbers to the reference's; how it is kept -/
def IvE (a : Nat → Int32) : Prop := vl (a 7) 41 ∧ (vl (a 8) 11 ∧ 1 ≤ tn (a 8)) ∧ vl (a 9) 2 ∧ vl (a 10) 3 ∧ (vl (a 11) 5 ∧ tn (a 11) ≠ 3) ∧ vl (a 12) 10 ∧ vl (a 13) 6
/-- spool S of the class says what a and l say -/
def SpK (g : GS_) (S : Nat) (a l : Nat → Int32) (F : List Nat) (n : Nat) : Prop := SpO g S a l F ∧ PI l (a, F) n ∧ IvE a
abbrev aS (g : GS_) (s : Nat) : Nat → Int32 := fun i => gai g 20 3 (858 * s + i)
abbrev lS (g : GS_) (s : Nat) : Nat → Int32 := fun i => gai g 20 4 (9600 * s + i)
def Rel (gX gM : GS_) (n : Nat) : Prop :=
  XS gX ∧ MI gM ∧ (∃ F, SpK gX 0 (gai gM 20 0) (gai gM 20 2) F (3000 * n)) ∧
  (∀ s, s < 2 → gfi gX 272 (2 + s) = gai gM 21 0 s ∧ (gai gM 21 0 s = nI 0 ∨ (gai gM 21 0 s = nI 1 ∧ ∃ F, SpK gX (2 + s) (aS gM s) (lS gM s) F (3000 * n)))) ∧
  ∃ c, gfi gM 341 0 = nI c ∧ c ≤ 10000 + 3000 * n
theorem PI_mono {l : Nat → Int32} {s : TS} {n m : Nat} (h : PI l s n) (hm : n ≤ m) : PI l s m := by
  obtain ⟨h1, h2, h3, k, h4, h5⟩ := h
  exact ⟨h1, h2, h3, k, h4, by omega⟩
theorem SpK_mono {g : GS_} {S : Nat} {a l : Nat → Int32} {F : List Nat} {n m : Nat} (h : SpK g S a l F n) (hm : n ≤ m) : SpK g S a l F m := ⟨h.1, PI_mono h.2.1 hm, h.2.2⟩
theorem SpO_GF {g g' : GS_} {S S' : Nat} (h : GF S g g') (hX : XS g) (hX' : XS g') (hS : S < 4) (hS' : S' < 4) (hne : S' ≠ S) {a l : Nat → Int32} {F : List Nat} (hR : SpO g S' a l F) : SpO g' S' a l F :=
  ⟨⟨hS', XJ_XS hX' hS'⟩, hX'.2.1 S' hS', hR.2.2.1, XT0_GF h hX hS hS' hne (Iv0_j hR.2.2.1) (Iv0_p hR.2.2.1) hR.2.2.2.1, XD_GF h hX hS hS' hne (Iv0_j hR.2.2.1) (Iv0_p hR.2.2.1) hR.2.2.2.2⟩
def KS (g g' : GS_) : Prop := gfr g' = gfr g ∧ gln g' = gln g ∧ ghs g' = ghs g ∧ gsl g' = gsl g ∧ gai g' 20 3 = gai g 20 3 ∧ gai g' 20 4 = gai g 20 4 ∧ gai g' 21 = gai g 21
theorem KS_KA {g g' : GS_} (h : KA g g') : KS g g' := ⟨h.1, h.2.1, h.2.2.2.2.1, h.2.2.2.2.2.1, h.2.2.2.2.2.2.1 3 (by omega) (by omega), h.2.2.2.2.2.2.1 4 (by omega) (by omega), h.2.2.2.2.2.2.2⟩
theorem KS_rfl {g : GS_} : KS g g := ⟨rfl, rfl, rfl, rfl, rfl, rfl, rfl⟩
theorem KS_tr {a b c : GS_} (h1 : KS a b) (h2 : KS b c) : KS a c := ⟨h2.1.trans h1.1, h2.2.1.trans h1.2.1, h2.2.2.1.trans h1.2.2.1, h2.2.2.2.1.trans h1.2.2.2.1, h2.2.2.2.2.1.trans h1.2.2.2.2.1, h2.2.2.2.2.2.1.trans h1.2.2.2.2.2.1, h2.2.2.2.2.2.2.trans h1.2.2.2.2.2.2⟩
/-- the two stay tied if spool 0 moves on both sides -/
theorem Rel_step {gX gX' gM gM' : GS_} {n : Nat} (h : Rel gX gM n) (hG : GF 0 gX gX') (hX : XS gX') (hK : KS gM gM') (hS : ∃ F, SpK gX' 0 (gai gM' 20 0) (gai gM' 20 2) F (3000 * (n + 1))) (hc : ∃ c, gfi gM' 341 0 = nI c ∧ c ≤ 10000 + 3000 * (n + 1)) : Rel gX' gM' (n + 1) := by
  obtain ⟨h1, h2, -, h4, -⟩ := h
  refine ⟨hX, MI_eq h2 hK.1 hK.2.1, hS, fun s hs => ?_, hc⟩
  obtain ⟨k1, k2⟩ := h4 s hs
  have e21 : gai gM' 21 0 s = gai gM 21 0 s := by rw [hK.2.2.2.2.2.2]
  have ea : aS gM' s = aS gM s := by funext i; show gai gM' 20 3 _ = _; rw [hK.2.2.2.2.1]
  have el : lS gM' s = lS gM s := by funext i; show gai gM' 20 4 _ = _; rw [hK.2.2.2.2.2.1]
  rw [e21, ea, el, hG.1 272 (2 + s) (by unfold nwF; omega) (by unfold oF; omega)]
  refine ⟨k1, ?_⟩
  rcases k2 with k2 | ⟨k2, F, k3⟩
  · exact Or.inl k2
  · exact Or.inr ⟨k2, F, SpO_GF hG h1 hX (by omega) (by omega) (by omega) k3.1, PI_mono k3.2.1 (by omega), k3.2.2⟩
/-- nothing moves -/
theorem Rel_same {gX gX' gM gM' : GS_} {n : Nat} (h : Rel gX gM n) (hG : GF 0 gX gX') (hX : XS gX') (hT : ∀ F, SpO gX 0 (gai gM 20 0) (gai gM 20 2) F → SpO gX' 0 (gai gM 20 0) (gai gM 20 2) F) (hK : KS gM gM') (h0 : gai gM' 20 0 = gai gM 20 0) (h2 : gai gM' 20 2 = gai gM 20 2) (hf : gfi gM' 341 0 = gfi gM 341 0) : Rel gX' gM' (n + 1) := by
  refine Rel_step h hG hX hK ?_ ?_
  · obtain ⟨-, -, ⟨F, k1, k2, k3⟩, -⟩ := h
    rw [h0, h2]
    exact ⟨F, hT F k1, PI_mono k2 (by omega), k3⟩
  · obtain ⟨-, -, -, -, c, k1, k2⟩ := h
    exact ⟨c, hf.trans k1, by omega⟩
theorem Rel_id {gX gM gM' : GS_} {n : Nat} (h : Rel gX gM n) (hK : KS gM gM') (h0 : gai gM' 20 0 = gai gM 20 0) (h2 : gai gM' 20 2 = gai gM 20 2) (hf : gfi gM' 341 0 = gfi gM 341 0) : Rel gX gM' (n + 1) :=
  Rel_same h GF_rfl h.1 (fun F q => q) hK h0 h2 hf
-- keys
theorem Iv0_keys {a b l : Nat → Int32} (h : ∀ k, (k = 1 ∨ k = 3 ∨ k = 4 ∨ k = 5 ∨ (26 ≤ k ∧ k < 76) ∨ (76 ≤ k ∧ k < 106 ∧ (k - 76) % 10 < 3) ∨ (106 ≤ k ∧ k < 418 ∧ (k - 106) % 13 < 9 ∧ (k - 106) % 13 ≠ 4)) → b k = a k) (h0 : Iv0 a l) : Iv0 b l := by
  have h3 := Iv0_d h0
  have h4 := Iv0_j h0
  have h5 := Iv0_p h0
  obtain ⟨i1, i2, i3, i4, i5, i6, i7⟩ := h0
  unfold Iv0
  rw [h 1 (by omega), h 3 (by omega), h 4 (by omega), h 5 (by omega)]
  refine ⟨i1, i2, i3, i4, fun d hd => ?_, fun j hj => ?_, fun p hp => ?_⟩
  · have q := i5 d hd
    have e : ∀ w, w < 5 → b (26 + 5 * d + w) = a (26 + 5 * d + w) := fun w hw => h _ (by omega)
    unfold DocOk dN at q ⊢
    simp (disch := first | assumption | omega) only [e]
    exact q
  · have q := i6 j hj
    have e : ∀ w, w < 9 → w ≠ 4 → b (106 + 13 * j + w) = a (106 + 13 * j + w) := fun w hw hne => h _ (by omega)
    unfold JobPl sSH sSC jN at q ⊢
    rw [h 3 (by omega)]
    simp (disch := first | assumption | omega) only [e]
    exact q
  · have q := i7 p hp
    have e : ∀ w, w < 3 → b (76 + 10 * p + w) = a (76 + 10 * p + w) := fun w hw => h _ (by omega)
    unfold PrPl pN at q ⊢
    simp (disch := first | assumption | omega) only [e]
    exact q
theorem PlV_keys {g : GS_} {Q : Nat} {a b l : Nat → Int32} {j : Nat} (hj : j < 24) (hd : jN a j 6 < 10) (h : ∀ k, ((26 ≤ k ∧ k < 76) ∨ (106 ≤ k ∧ k < 418 ∧ (k - 106) % 13 < 9 ∧ (k - 106) % 13 ≠ 4)) → b k = a k) (hP : PlV g Q a l j) : PlV g Q b l j := by
  have e : ∀ w, w < 9 → w ≠ 4 → b (106 + 13 * j + w) = a (106 + 13 * j + w) := fun w hw hne => h _ (by omega)
  have eN : ∀ w, w < 9 → w ≠ 4 → jN b j w = jN a j w := fun w hw hne => by unfold jN; rw [e w hw hne]
  have ed : ∀ w, w < 5 → b (26 + 5 * jN a j 6 + w) = a (26 + 5 * jN a j 6 + w) := fun w hw => h _ (by omega)
  have edN : ∀ w, w < 5 → dN b (jN a j 6) w = dN a (jN a j 6) w := fun w hw => by unfold dN; rw [ed w hw]
  have e1 : sSC b j = sSC a j := by unfold sSC; simp (disch := omega) only [eN]
  have e2 : ∀ D, DocV g D b (jN a j 6) = DocV g D a (jN a j 6) := by
    intro D
    unfold DocV
    refine congrArg (D < gcn g 0 ∧ ·) (propext ⟨fun q w hw => ?_, fun q w hw => ?_⟩)
    · rw [q w hw, ed w hw]
    · rw [q w hw, ed w hw]
  have hw : wgt b (jN a j 6) = wgt a (jN a j 6) := by
    funext q
    unfold wgt
    simp (disch := omega) only [edN]
  have hpg : sPGc b l j = sPGc a l j := by
    funext t side pos
    unfold sPGc sEL
    simp (disch := omega) only [eN]
  have hcl : cLV b l j = cLV a l j := by
    funext t side
    unfold cLV cLD
    simp (disch := omega) only [eN, hpg, hw]
  unfold PlV
  simp (disch := omega) only [eN, e, e1, e2, hcl]
  exact hP
theorem XT0_keys {g : GS_} {S : Nat} {a b l : Nat → Int32} (h0 : Iv0 a l) (h : ∀ k, (k = 1 ∨ k = 2 ∨ k = 3 ∨ k = 4 ∨ k = 5 ∨ (7 ≤ k ∧ k < 20) ∨ (26 ≤ k ∧ k < 76) ∨ (76 ≤ k ∧ k < 106 ∧ (k - 76) % 10 < 3) ∨ (106 ≤ k ∧ k < 418 ∧ (k - 106) % 13 < 9) ∨ (418 ≤ k ∧ k < 458)) → b k = a k) (hT : XT0 g S a l) : XT0 g S b l := by
  have h3 := Iv0_d h0
  have h4 := Iv0_j h0
  have h5 := Iv0_p h0
  obtain ⟨t1, t2, t3, t4, t5, t6⟩ := hT
  unfold XT0
  rw [h 1 (by omega), h 2 (by omega), h 3 (by omega), h 4 (by omega), h 5 (by omega), h 7 (by omega)]
  refine ⟨t1, fun k hk => ?_, fun u hu => ?_, fun d hd => ?_, fun j hj => ?_, fun p hp => ?_⟩
  · rw [h _ (by omega)]
    exact t2 k hk
  · rw [h _ (by omega), h _ (by omega)]
    exact t3 u hu
  · obtain ⟨D, q1, q2, q3⟩ := t4 d hd
    refine ⟨D, q1, q2, fun w hw => ?_⟩
    rw [h _ (by omega)]
    exact q3 w hw
  · obtain ⟨J, Q, q1, q2, q3, q4⟩ := t5 j hj
    refine ⟨J, Q, q1, q2, PlV_keys (by omega) (Iv0_dj h0 hj).2 (fun k hk => h k (by omega)) q3, ?_⟩
    rw [h _ (by omega)]
    exact q4
  · rw [h _ (by omega), h _ (by omega), h _ (by omega)]
    exact t6 p hp
theorem XD_keys {g : GS_} {S : Nat} {a b : Nat → Int32} {F : List Nat} (h4 : tn (a 4) ≤ 24) (h5 : tn (a 5) ≤ 3) (h : ∀ k, (k = 0 ∨ k = 4 ∨ k = 5 ∨ k = 6 ∨ (20 ≤ k ∧ k < 26) ∨ (76 ≤ k ∧ k < 106 ∧ 3 ≤ (k - 76) % 10) ∨ (106 ≤ k ∧ k < 418 ∧ 9 ≤ (k - 106) % 13) ∨ (458 ≤ k ∧ k < 858)) → b k = a k) (hD : XD g S a F) : XD g S b F := by
  obtain ⟨d1, d2, ⟨d3, d3'⟩, d4, d5, d6, d7⟩ := hD
  unfold XD
  rw [h 0 (by omega), h 4 (by omega), h 5 (by omega), h 6 (by omega)]
  refine ⟨fun j J hj hJ => ?_, fun p hp => ?_, ⟨d3, fun k hk => ?_⟩, fun u hu => ?_, d5, d6, d7⟩
  · rw [h _ (by omega), h _ (by omega), h _ (by omega), h _ (by omega)]
    exact d1 j J hj hJ
  · rw [h (76 + 10 * p + 6) (by omega), h (76 + 10 * p + 7) (by omega), h (76 + 10 * p + 8) (by omega), h (76 + 10 * p + 9) (by omega)]
    refine ⟨fun z hz => ?_, (d2 p hp).2⟩
    rw [h _ (by omega)]
    exact (d2 p hp).1 z hz
  · rw [h _ (by omega)]
    exact d3' k hk
  · rw [h _ (by omega)]
    exact d4 u hu
theorem XD_frame {g g' : GS_} {S : Nat} {a : Nat → Int32} {F : List Nat} (e1 : gar g' 23 S = gar g 23 S) (e2 : ∀ f i, ((35 ≤ f ∧ f < 39) ∨ f = 65 ∨ (164 ≤ f ∧ f < 168) ∨ f = 268 ∨ f = 271) → gfi g' f i = gfi g f i) (e3 : ∀ c, 3 ≤ c → c < 9 → gai g' 20 (bb S + c) = gai g 20 (bb S + c)) (h5 : tn (a 5) ≤ 3) (hD : XD g S a F) : XD g' S a F := by
  obtain ⟨d1, d2, ⟨d3, d3'⟩, d4, d5, d6, d7⟩ := hD
  unfold XD
  rw [e1, e2 65 S (by omega), e2 271 S (by omega), e2 268 S (by omega), e3 4 (by omega) (by omega), e3 3 (by omega) (by omega), e3 5 (by omega) (by omega)]
  refine ⟨fun j J hj hJ => ?_, fun p hp => ?_, ⟨d3, d3'⟩, d4, d5, d6, d7⟩
  · rw [e2 _ _ (by omega), e2 _ _ (by omega), e2 _ _ (by omega), e2 _ _ (by omega)]
    exact d1 j J hj hJ
  · rw [e2 _ _ (by omega), e2 _ _ (by omega), e2 _ _ (by omega), e2 _ _ (by omega), e3 _ (by omega) (by omega)]
    exact d2 p hp
theorem PI_keys {l : Nat → Int32} {a b : Nat → Int32} {F : List Nat} {n : Nat} (h : ∀ k, (k = 1 ∨ k = 3 ∨ k = 4 ∨ k = 5 ∨ k = 6 ∨ (26 ≤ k ∧ k < 418)) → b k = a k) (hP : PI l (a, F) n) : PI l (b, F) n := by
  obtain ⟨h1, h2, h3, h4⟩ := hP
  have g4 : tn (a 4) ≤ 24 := Iv0_j h1
  have g5 : tn (a 5) ≤ 3 := Iv0_p h1
  refine ⟨Iv0_keys (fun k hk => h k (by omega)) h1, Ivd_same (fun k hk => h k (by omega)) g4 g5 h2, DN_same (h 4 (by omega)) (fun x hx => h _ ?_) h3, Lg_eq h4 (h 6 (by omega))⟩
  have : x < tn (a 4) := hx
  omega
theorem IvE_keys {a b : Nat → Int32} (h : ∀ k, 7 ≤ k → k < 14 → b k = a k) (hE : IvE a) : IvE b := by
  unfold IvE
  rw [h 7 (by omega) (by omega), h 8 (by omega) (by omega), h 9 (by omega) (by omega), h 10 (by omega) (by omega), h 11 (by omega) (by omega), h 12 (by omega) (by omega), h 13 (by omega) (by omega)]
  exact hE
