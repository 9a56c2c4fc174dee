/-- a document more -/
theorem PlV_keys2 {g : GS_} {Q : Nat} {a b l : Nat → Int32} {j : Nat} (e : ∀ w, w < 9 → w ≠ 4 → b (106 + 13 * j + w) = a (106 + 13 * j + w)) (ed : ∀ w, w < 5 → b (26 + 5 * jN a j 6 + w) = a (26 + 5 * jN a j 6 + w)) (hP : PlV g Q a l j) : PlV g Q b l j := by
  have eN : ∀ w, w < 9 → w ≠ 4 → jN b j w = jN a j w := fun w hw hne => by unfold jN; rw [e w hw hne]
  have edN : ∀ w, w < 5 → dN b (jN a j 6) w = dN a (jN a j 6) w := fun w hw => by unfold dN; rw [ed w hw]
  have e1 : sSC b j = sSC a j := by unfold sSC; simp (disch := omega) only [eN]
  have e2 : ∀ D, DocV g D b (jN a j 6) = DocV g D a (jN a j 6) := by
    intro D
    unfold DocV
    refine congrArg (D < gcn g 0 ∧ ·) (propext ⟨fun q w hw => ?_, fun q w hw => ?_⟩)
    · rw [q w hw, ed w hw]
    · rw [q w hw, ed w hw]
  have hw : wgt b (jN a j 6) = wgt a (jN a j 6) := by
    funext q
    unfold wgt
    simp (disch := omega) only [edN]
  have hpg : sPGc b l j = sPGc a l j := by
    funext t side pos
    unfold sPGc sEL
    simp (disch := omega) only [eN]
  have hcl : cLV b l j = cLV a l j := by
    funext t side
    unfold cLV cLD
    simp (disch := omega) only [eN, hpg, hw]
  unfold PlV
  simp (disch := omega) only [eN, e, e1, e2, hcl]
  exact hP
def NewDoc (a b : Nat → Int32) (N : Nat) (w : Nat → Int32) : Prop := b 3 = nI (N + 1) ∧ (∀ k, k < 5 → b (26 + 5 * N + k) = w k) ∧ ∀ k, k ≠ 3 → (k < 26 + 5 * N ∨ 26 + 5 * N + 5 ≤ k) → b k = a k
theorem NewDoc_Iv0 {a b l : Nat → Int32} {N : Nat} {w : Nat → Int32} (h : NewDoc a b N w) (hN : tn (a 3) = N) (hN3 : N < 10) (h0 : Iv0 a l) (k0 : vl (w 0) 401 ∧ 1 ≤ tn (w 0)) (k1 : vl (w 1) 3) (k2 : vl (w 2) 501) (k3 : vl (w 3) 51) (k4 : vl (w 4) 501 ∧ 1 ≤ tn (w 4)) : Iv0 b l := by
  obtain ⟨n3, nw, ek⟩ := h
  have h4 := Iv0_j h0
  have h5 := Iv0_p h0
  have t3 : tn (b 3) = N + 1 := by rw [n3, tn_nI (by omega)]
  obtain ⟨i1, i2, i3, i4, i5, i6, i7⟩ := h0
  unfold Iv0
  rw [t3, n3, ek 5 (by omega) (by omega), ek 4 (by omega) (by omega), ek 1 (by omega) (by omega)]
  refine ⟨vl_of (by omega) (by omega), i2, i3, i4, fun d hd => ?_, fun j hj => ?_, fun p hp => ?_⟩
  · by_cases c : d = N
    · subst c
      unfold DocOk dN
      rw [nw 0 (by omega), nw 1 (by omega), nw 2 (by omega), nw 3 (by omega), nw 4 (by omega)]
      exact ⟨k0.1, k0.2, k1, k2, k3, k4⟩
    · have q := i5 d (by omega)
      have e : ∀ w, w < 5 → b (26 + 5 * d + w) = a (26 + 5 * d + w) := fun w hw => ek _ (by omega) (by omega)
      unfold DocOk dN at q ⊢
      simp (disch := first | assumption | omega) only [e]
      exact q
  · have q := i6 j hj
    have e : ∀ w, w < 9 → w ≠ 4 → b (106 + 13 * j + w) = a (106 + 13 * j + w) := fun w hw hne => ek _ (by omega) (by omega)
    have q6 := q.2.2.2.2.2.2.2.1
    unfold JobPl sSH sSC jN at q ⊢
    rw [t3]
    simp (disch := first | assumption | omega) only [e]
    obtain ⟨z0, z1, z2, z3, z4, z5, z6, z7, z8⟩ := q
    exact ⟨z0, z1, z2, z3, z4, z5, z6, vl_up z7 (by omega), z8⟩
  · have q := i7 p hp
    have e : ∀ w, w < 3 → b (76 + 10 * p + w) = a (76 + 10 * p + w) := fun w hw => ek _ (by omega) (by omega)
    unfold PrPl pN at q ⊢
    simp (disch := first | assumption | omega) only [e]
    exact q
def docX (g : GS_) (N : Nat) (u v w x y : Int32) : GS_ := sfi (sar (sfi (sfi (sfi (sfi (sfi (nwo g 0 5) 0 (gcn g 0) u) 1 (gcn g 0) v) 2 (gcn g 0) w) 3 (gcn g 0) x) 4 (gcn g 0) y) 22 0 N (some (gcn g 0))) 257 0 (nI (N + 1))
def docM (g : GS_) (N : Nat) (u v w x y : Int32) : GS_ := sai (sai (sai (sai (sai (sai g 20 0 (26 + 5 * N + 0) u) 20 0 (26 + 5 * N + 1) v) 20 0 (26 + 5 * N + 2) w) 20 0 (26 + 5 * N + 3) x) 20 0 (26 + 5 * N + 4) y) 20 0 3 (nI (N + 1))
def docW (u v w x y : Int32) (k : Nat) : Int32 := if k = 0 then u else if k = 1 then v else if k = 2 then w else if k = 3 then x else y
theorem docM_new {g : GS_} {N : Nat} {u v w x y : Int32} : NewDoc (gai g 20 0) (gai (docM g N u v w x y) 20 0) N (docW u v w x y) := by
  have hf : gai (docM g N u v w x y) 20 0 = up (up (up (up (up (up (gai g 20 0) (26 + 5 * N + 0) u) (26 + 5 * N + 1) v) (26 + 5 * N + 2) w) (26 + 5 * N + 3) x) (26 + 5 * N + 4) y) 3 (nI (N + 1)) := by
    unfold docM
    rw [up_sai, up_sai, up_sai, up_sai, up_sai, up_sai]
  rw [hf]
  refine ⟨up_eq rfl, fun k hk => ?_, fun k k1 k2 => ?_⟩
  · unfold docW
    rcases (show k = 0 ∨ k = 1 ∨ k = 2 ∨ k = 3 ∨ k = 4 by omega) with rfl | rfl | rfl | rfl | rfl
    all_goals
      simp (disch := omega) only [up_ne, up_eq]
      rfl
  · simp (disch := omega) only [up_ne]
theorem docM_KS {g : GS_} {N : Nat} {u v w x y : Int32} : KS g (docM g N u v w x y) := KS_tr (KS_tr (KS_tr (KS_tr (KS_tr KS_sai KS_sai) KS_sai) KS_sai) KS_sai) KS_sai
theorem docM_l {g : GS_} {N : Nat} {u v w x y : Int32} : gai (docM g N u v w x y) 20 2 = gai g 20 2 := by
  unfold docM
  rw [sai_l, sai_l, sai_l, sai_l, sai_l, sai_l]
theorem docX_fo {g : GS_} {N : Nat} {u v w x y : Int32} (f i : Nat) (q1 : ¬ (f / 32 = 0 ∧ gcn g 0 ≤ i)) (q2 : ¬ (f = 257 ∧ i = 0)) : gfi (docX g N u v w x y) f i = gfi g f i := by
  unfold docX
  rw [e_gfi_sfi, if_neg q2, e_gfi_sar, e_gfi_sfi, if_neg (by omega), e_gfi_sfi, if_neg (by omega), e_gfi_sfi, if_neg (by omega), e_gfi_sfi, if_neg (by omega), e_gfi_sfi, if_neg (by omega), e_gfi_nwo, if_neg (fun q => q1 ⟨q.1, Nat.le_of_eq q.2.symm⟩)]
theorem docX_fD {g : GS_} {N : Nat} {u v w x y : Int32} (k : Nat) (hk : k < 5) : gfi (docX g N u v w x y) k (gcn g 0) = docW u v w x y k := by
  unfold docX docW
  rcases (show k = 0 ∨ k = 1 ∨ k = 2 ∨ k = 3 ∨ k = 4 by omega) with rfl | rfl | rfl | rfl | rfl
  all_goals simp only [e_gfi_sfi, e_gfi_sar, Nat.reduceEqDiff, false_and, and_self, ↓reduceIte]
theorem docX_257 {g : GS_} {N : Nat} {u v w x y : Int32} : gfi (docX g N u v w x y) 257 0 = nI (N + 1) := by
  unfold docX
  rw [e_gfi_sfi, if_pos ⟨rfl, rfl⟩]
theorem docX_fr {g : GS_} {N : Nat} {u v w x y : Int32} (f i : Nat) (q1 : ¬ (f / 32 = 0 ∧ gcn g 0 ≤ i)) : gfr (docX g N u v w x y) f i = gfr g f i := by
  show gfr (nwo g 0 5) f i = _
  rw [e_gfr_nwo, if_neg (fun q => q1 ⟨q.1, Nat.le_of_eq q.2.symm⟩)]
theorem docX_fg {g : GS_} {N : Nat} {u v w x y : Int32} (t i : Nat) (q : ¬ (t = 22 ∧ i = 0)) : gar (docX g N u v w x y) t i = gar g t i := by
  funext k
  unfold docX
  rw [e_gar_sfi, e_gar_sar, if_neg (by omega), e_gar_sfi, e_gar_sfi, e_gar_sfi, e_gar_sfi, e_gar_sfi, e_gar_nwo]
theorem docX_22 {g : GS_} {N : Nat} {u v w x y : Int32} (k : Nat) : gar (docX g N u v w x y) 22 0 k = if k = N then some (gcn g 0) else gar g 22 0 k := by
  unfold docX
  rw [e_gar_sfi, e_gar_sar]
  by_cases c : k = N
  · rw [if_pos ⟨rfl, rfl, c⟩, if_pos c]
  · rw [if_neg (by omega), if_neg c, e_gar_sfi, e_gar_sfi, e_gar_sfi, e_gar_sfi, e_gar_sfi, e_gar_nwo]
theorem docX_c {g : GS_} {N : Nat} {u v w x y : Int32} (t : Nat) : gcn (docX g N u v w x y) t = if t = 0 then gcn g 0 + 1 else gcn g t := rfl
theorem docX_l {g : GS_} {N : Nat} {u v w x y : Int32} : gln (docX g N u v w x y) = gln g ∧ gai (docX g N u v w x y) = gai g ∧ ghs (docX g N u v w x y) = ghs g + 1 ∧ gsl (docX g N u v w x y) = gsl g + 5 := ⟨rfl, rfl, rfl, rfl⟩
theorem docX_GF {g : GS_} {N : Nat} {u v w x y : Int32} : GF 0 g (docX g N u v w x y) := by
  refine ⟨fun f i q1 q2 => docX_fo f i (fun w => q1 ⟨Or.inl w.1, by rw [w.1]; exact w.2⟩) (fun w => q2 (Or.inr (Or.inr ⟨by omega, w.2⟩))), fun f i q1 q2 => docX_fr f i (fun w => q1 ⟨Or.inl w.1, by rw [w.1]; exact w.2⟩), fun i _ => by rw [docX_l.1], fun t i _ => by rw [docX_l.1], fun i _ _ => by rw [docX_l.2.1], fun t i q => docX_fg t i (by omega), fun t => ?_, ⟨rfl, rfl⟩, fun j J hj hJ => Or.inl ⟨j, hj, ?_⟩⟩
  · rw [docX_c]
    split
    · rename_i c
      rw [c]
      omega
    · exact Nat.le_refl _
  · rw [docX_fg 23 0 (by omega)] at hJ
    exact hJ
theorem docX_XS {g : GS_} {N : Nat} {u v w x y : Int32} (h : XS g) : XS (docX g N u v w x y) := by
  refine XS_GF docX_GF h (by omega) (fun j J hj hJ => ?_)
  rw [docX_fg 23 0 (by omega)] at hJ
  obtain ⟨z1, z2, z3⟩ := h.2.2 0 j J (by omega) hj hJ
  refine ⟨?_, ?_, fun j' hj' hJ' => ?_⟩
  · rw [docX_c, if_neg (by omega)]
    exact z1
  · rw [docX_fo 32 J (by omega) (by omega)]
    exact z2
  · rw [docX_fg 23 0 (by omega)] at hJ'
    exact (z3 0 j' (by omega) hj' hJ').2
theorem docX_T {g : GS_} {N : Nat} {u v w x y : Int32} {a b l : Nat → Int32} (hnew : NewDoc a b N (docW u v w x y)) (hN : tn (a 3) = N) (hNl : N < 10) (h0 : Iv0 a l) (hT0 : XT0 g 0 a l) : XT0 (docX g N u v w x y) 0 b l := by
  have h4 := Iv0_j h0
  have h5 := Iv0_p h0
  obtain ⟨n3, nw, ek⟩ := hnew
  have hb3 : tn (b 3) = N + 1 := by rw [n3, tn_nI (by omega)]
  obtain ⟨⟨t1, t1', t1'', t1a, t1b, t1c⟩, t2, t3, t4, t5, t6⟩ := hT0
  unfold XT0
  rw [hb3, docX_257, n3, ek 4 (by omega) (by omega), ek 5 (by omega) (by omega), ek 1 (by omega) (by omega), ek 2 (by omega) (by omega), ek 7 (by omega) (by omega), docX_fo 259 0 (by omega) (by omega), docX_fo 261 0 (by omega) (by omega), docX_fo 269 0 (by omega) (by omega), docX_fo 270 0 (by omega) (by omega), docX_fo 193 0 (by omega) (by omega)]
  refine ⟨⟨rfl, t1', t1'', t1a, t1b, t1c⟩, fun k hk => ?_, fun z hz => ?_, fun d hd => ?_, fun j hj => ?_, fun p hp => ?_⟩
  · rw [ek _ (by omega) (by omega), docX_l.2.1]
    exact t2 k hk
  · rw [ek _ (by omega) (by omega), ek _ (by omega) (by omega), docX_l.2.1]
    exact t3 z hz
  · by_cases c : d = N
    · subst c
      refine ⟨gcn g 0, by rw [docX_22, if_pos rfl], by rw [docX_c, if_pos rfl]; exact Nat.lt_succ_self _, fun k hk => ?_⟩
      rw [docX_fD k hk, nw k hk]
    · obtain ⟨D', q1, q2⟩ := t4 d (by omega)
      obtain ⟨z1, z2⟩ := DocV_GF (docX_GF (N := N) (u := u) (v := v) (w := w) (x := x) (y := y)) q2
      refine ⟨D', by rw [docX_22, if_neg c]; exact q1, z1, fun k hk => ?_⟩
      rw [ek _ (by omega) (by omega)]
      exact z2 k hk
  · obtain ⟨J, Q, q1, q2, q3, q4⟩ := t5 j hj
    have hj6 : jN a j 6 < N := by
      have := (Jn (h0.2.2.2.2.2.1 j hj)).2.2.2.2.2.1.2
      omega
    refine ⟨J, Q, by rw [docX_fg 23 0 (by omega)]; exact q1, by rw [docX_fr _ _ (by omega)]; exact q2, PlV_keys2 (fun k hk _ => ek _ (by omega) (by omega)) (fun k hk => ek _ (by omega) (by omega)) (PlV_GF docX_GF q3), ?_⟩
    rw [docX_fo _ _ (by omega) (by omega), ek _ (by omega) (by omega)]
    exact q4
  · rw [docX_fo _ _ (by omega) (by omega), docX_fo _ _ (by omega) (by omega), docX_fo _ _ (by omega) (by omega), ek _ (by omega) (by omega), ek _ (by omega) (by omega), ek _ (by omega) (by omega)]
    exact t6 p hp
theorem docR {gX gM : GS_} {n N : Nat} {u v w x y : Int32} (h : Rel gX gM n) (hN : tn (gai gM 20 0 3) = N) (hNl : N < 10) (hu : nI 1 ≤ u ∧ u ≤ nI 400) (hv : nI 0 ≤ v ∧ v ≤ nI 2) (hw : nI 1 ≤ w ∧ w ≤ nI 500) (hx : nI 0 ≤ x ∧ x ≤ nI 50) (hy : nI 1 ≤ y ∧ y ≤ nI 500) : Rel (docX gX N u v w x y) (docM gM N u v w x y) (n + 1) := by
  obtain ⟨F, r0, r1, hX, hS, hP, hE, hM, ⟨d1, d2, d3⟩, ⟨j1, j2, j3⟩, ⟨p1, p2, p3⟩⟩ := ctx h
  have h4 := Iv0_j hS.2.2.1
  have h5 := Iv0_p hS.2.2.1
  have hnew := docM_new (g := gM) (N := N) (u := u) (v := v) (w := w) (x := x) (y := y)
  have hXS := docX_XS (N := N) (u := u) (v := v) (w := w) (x := x) (y := y) h.1
  have hI0 := NewDoc_Iv0 hnew hN hNl hS.2.2.1 (in_vl2 (by omega) (by omega) hu) (in_vl2 (by omega) (by omega) hv).1 (in_vl2 (by omega) (by omega) hw).1 (in_vl2 (by omega) (by omega) hx).1 (in_vl2 (by omega) (by omega) hy)
  have hT := docX_T hnew hN hNl hS.2.2.1 hS.2.2.2.1
  have ek := hnew.2.2
  have hD : XD (docX gX N u v w x y) 0 (gai (docM gM N u v w x y) 20 0) F := XD_keys h4 (by omega) (fun q hq => ek q (by omega) (by omega)) (XD_frame (g := gX) (docX_fg 23 0 (by omega)) (fun f i hf => docX_fo f i (by omega) (by omega)) (fun c _ _ => by rw [docX_l.2.1]) (by omega) hS.2.2.2.2)
  obtain ⟨i1, i2, i3, i4⟩ := PI_el hP
  have hPI : PI (gai gM 20 2) (gai (docM gM N u v w x y) 20 0, F) (3000 * n) := PI_mk hI0 (Ivd_same (fun q hq => ek q (by omega) (by omega)) h4 (by omega) i2) (DN_same (ek _ (by omega) (by omega)) (fun x hx => ek _ (by omega) (by omega)) i3) (Lg_eq i4 (ek _ (by omega) (by omega)))
  have hE' : IvE (gai (docM gM N u v w x y) 20 0) := IvE_keys (fun q _ _ => ek q (by omega) (by omega)) hE
  refine Rel_step h docX_GF hXS docM_KS ?_ ?_
  · rw [docM_l]
    exact ⟨F, ⟨⟨by omega, XJ_XS hXS (by omega)⟩, hXS.2.1 0 (by omega), hPI.1, hT, hD⟩, PI_mono hPI (by omega), hE'⟩
  · obtain ⟨-, -, -, -, c, k1, k2⟩ := h
    exact ⟨c, k1, by omega⟩
theorem x_addDoc {gX : GS_} {N : Nat} {u v w x y : Int32} (r0 : gfr gX 288 0 = some 0) (hX : XSp gX 0) (d1 : gfi gX 257 0 = nI N) (hNl : N < 10) (hu : nI 1 ≤ u ∧ u ≤ nI 400) (hv : nI 0 ≤ v ∧ v ≤ nI 2) (hw : nI 1 ≤ w ∧ w ≤ nI 500) (hx : nI 0 ≤ x ∧ x ≤ nI 50) (hy : nI 1 ≤ y ∧ y ≤ nI 500) : f9_addDocument 0 u v w x y gX = some (nI N, docX gX N u v w x y) := by
  obtain ⟨s1, s2, -⟩ := hX
  unfold docX
  simp (disch := first | with_reducible assumption | omega | (simp only [MI_sai_iff, MI_sfi_iff]; with_reducible assumption)) only [li, ↓lr_, ↓bd_m, ↓oc_m, ↓reduceIte, bi_0, bi_0n, bi_1, bi_1n, not_true_eq_false, not_false_eq_true, Nat.reduceAdd, Nat.reduceMul, nI_mul, nI_add, inb_T, ix_nI, le_T, le_F, lt_T, lt_F, eq_F, and_self, and_true, true_and, false_and, and_false, or_true, true_or, or_false, false_or, bi_eq, x_within, m_in, f9_addDocument, eq_true hu, eq_true hv, eq_true hw, eq_true hx, eq_true hy, r0, d1, no_, f0_init, f8_keepDocument, e_gfi_sfi, e_gfi_nwo, e_gfr_sfi, e_gfr_nwo, e_gln_sfi, e_gln_nwo, e_gfi_sar, s1, s2, ofN, Nat.reduceEqDiff, nI_sub, Nat.add_sub_cancel, Nat.reduceDiv]
