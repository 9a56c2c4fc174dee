/-! the class: a sheet begins, a sheet ends -/
theorem up_self {a : Nat → Int32} {k : Nat} {v : Int32} (h : a k = v) : up a k v = a := by
  funext i
  unfold up
  split
  · rename_i e
    rw [e, h]
  · rfl
theorem sta_PGc {a a' l : Nat → Int32} (h : sta a a') {j : Nat} (hj : j < 24) : sPGc a' l j = sPGc a l j := by
  funext t side pos
  unfold sPGc sEL
  simp (disch := omega) only [sta_jN h hj]
theorem sta_cLV {a a' l : Nat → Int32} (h : sta a a') {j : Nat} (hj : j < 24) (hd : jN a j 6 < 10) : cLV a' l j = cLV a l j := by
  have hw : wgt a' (jN a j 6) = wgt a (jN a j 6) := funext fun q => sta_wgt h hd
  funext t side
  unfold cLV cLD
  simp (disch := omega) only [sta_jN h hj, sta_PGc h hj, hw]
theorem PlV_sta {g : GS_} {Q : Nat} {a a' l : Nat → Int32} {j : Nat} (h : sta a a') (hj : j < 24) (hd : jN a j 6 < 10) (hP : PlV g Q a l j) : PlV g Q a' l j := by
  have e1 : sSC a' j = sSC a j := by unfold sSC; simp (disch := omega) only [sta_jN h hj]
  have e2 : ∀ D, DocV g D a' (jN a j 6) = DocV g D a (jN a j 6) := by
    intro D
    unfold DocV
    refine congrArg (D < gcn g 0 ∧ ·) (propext ⟨fun q w hw => ?_, fun q w hw => ?_⟩)
    · rw [q w hw, sta_d h hd hw]
    · rw [q w hw, sta_d h hd hw]
  unfold PlV
  simp (disch := omega) only [sta_jN h hj, sta_j h hj, e1, e2, sta_cLV h hj hd]
  exact hP
theorem XT0_sta {g : GS_} {S : Nat} {a a' l : Nat → Int32} (h : sta a a') (h0 : Iv0 a l) (hT : XT0 g S a l) (h7 : a' 7 = a 7) : XT0 g S a' l := by
  have h3 := Iv0_d h0
  have h4 := Iv0_j h0
  have h5 := Iv0_p h0
  obtain ⟨t1, t2, t3, t4, t5, t6⟩ := hT
  unfold XT0
  rw [sta_sc h (k := 3) (by omega), sta_sc h (k := 4) (by omega), sta_sc h (k := 5) (by omega), sta_sc h (k := 1) (by omega), sta_sc h (k := 2) (by omega), h7]
  refine ⟨t1, fun k hk => ?_, fun u hu => ?_, fun d hd => ?_, fun j hj => ?_, fun p hp => ?_⟩
  · rw [sta_sc h (by omega)]
    exact t2 k hk
  · rw [sta_sc h (by omega), sta_sc h (by omega)]
    exact t3 u hu
  · obtain ⟨D, q1, q2, q3⟩ := t4 d hd
    refine ⟨D, q1, q2, fun w hw => ?_⟩
    rw [sta_d h (by omega) hw]
    exact q3 w hw
  · obtain ⟨J, Q, q1, q2, q3, q4⟩ := t5 j hj
    have hDoc := Iv0_dj h0 hj
    refine ⟨J, Q, q1, q2, PlV_sta h (by omega) hDoc.2 q3, ?_⟩
    rw [sta_j h (by omega) (by omega)]
    exact q4
  · rw [sta_p h (by omega) (by omega), sta_p h (by omega) (by omega), sta_p h (by omega) (by omega)]
    exact t6 p hp
theorem XJ_sfi {g : GS_} {S f i : Nat} {v : Int32} (hf : f ≠ 32) (h : XJ g S) : XJ (sfi g f i v) S := by
  intro j J hj hJ
  rw [e_gfi_sfi, if_neg (fun q => hf q.1.symm)]
  exact h j J hj hJ
theorem XJ_sai {g : GS_} {S t i k : Nat} {v : Int32} (h : XJ g S) : XJ (sai g t i k v) S := h
theorem XJ_TT {g g' : GS_} {S : Nat} (h : TT S g g') (hX : XJ g S) : XJ g' S := by
  unfold XJ
  rw [h.1.2.2.1]
  intro j J hj hJ
  rw [h.2.1 32 J (by unfold oT; omega)]
  exact hX j J hj hJ
theorem SpO_step {g g' : GS_} {S : Nat} {a a' l : Nat → Int32} {F F' : List Nat} (h : SpO g S a l F) (ht : TT S g g') (hs : sta a a') (h7 : a' 7 = a 7) (hD : XD g' S a' F') : SpO g' S a' l F' :=
  ⟨⟨h.1.1, XJ_TT ht h.1.2⟩, XSp_NR ht.1 h.2.1, Iv0_sta hs h.2.2.1, XT0_sta hs h.2.2.1 (XT0_TT ht h.2.2.2.1) h7, hD⟩
theorem T_go_eq {a l : Nat → Int32} {j p : Nat} (hj : j < 24) (hp : p < 3) (hd : jN a j 6 < 10) (hz : dN a (jN a j 6) 1 < 3) :
    T_go a l j p = up (up (up (up (up a (76 + 10 * p + (3 + dN a (jN a j 6) 1)) (a (76 + 10 * p + (3 + dN a (jN a j 6) 1)) - nI 1)) (76 + 10 * p + 8) (nI (sTK a l j (jN a j 10) p))) (76 + 10 * p + 7) (nI j)) (76 + 10 * p + 6) (nI 1)) (106 + 13 * j + 9) (nI 1) := by
  have s1 : sta a (up (up (up a (106 + 13 * j + 9) (nI 1)) (76 + 10 * p + 6) (nI 1)) (76 + 10 * p + 7) (nI j)) := sta_tr (sta_tr (sta_up (dyn_j hj (by omega) (by omega))) (sta_up (dyn_p hp (by omega) (by omega)))) (sta_up (dyn_p hp (by omega) (by omega)))
  have n10 : jN (up (up (up a (106 + 13 * j + 9) (nI 1)) (76 + 10 * p + 6) (nI 1)) (76 + 10 * p + 7) (nI j)) j 10 = jN a j 10 := by unfold jN; simp (disch := first | assumption | omega) only [up_ne]
  unfold T_go T_begin trk
  rw [n10, sta_TK s1 hj hp hd, sta_jN s1 hj (by omega), sta_dN s1 hd (by omega)]
  generalize dN a (jN a j 6) 1 = z at *
  generalize nI (sTK a l j (jN a j 10) p) = T
  have ht : (up (up (up a (106 + 13 * j + 9) (nI 1)) (76 + 10 * p + 6) (nI 1)) (76 + 10 * p + 7) (nI j)) (76 + 10 * p + (3 + z)) = a (76 + 10 * p + (3 + z)) := by simp (disch := first | assumption | omega) only [up_ne]
  rw [ht]
  generalize a (76 + 10 * p + (3 + z)) - nI 1 = v
  funext k
  by_cases h1 : k = 106 + 13 * j + 9
  · subst h1; simp (disch := first | assumption | omega) only [up_eq, up_ne]
  by_cases h2 : k = 76 + 10 * p + 6
  · subst h2; simp (disch := first | assumption | omega) only [up_eq, up_ne]
  by_cases h3 : k = 76 + 10 * p + 7
  · subst h3; simp (disch := first | assumption | omega) only [up_eq, up_ne]
  by_cases h4 : k = 76 + 10 * p + 8
  · subst h4; simp (disch := first | assumption | omega) only [up_eq, up_ne]
  by_cases h5 : k = 76 + 10 * p + (3 + z)
  · subst h5; simp (disch := first | assumption | omega) only [up_eq, up_ne]
  simp (disch := first | assumption | omega) only [up_ne]
theorem x_beginSheet {g : GS_} {S : Nat} {a l : Nat → Int32} {F : List Nat} (h : SpO g S a l F) {j p J : Nat} (hj : j < tn (a 4)) (hp : p < tn (a 5)) (hJ : gar g 23 S j = some J) (hx : vl (a (106 + 13 * j + 10)) (sSH a j)) :
    ∃ g', f8_beginSheet S (some (3 * S + p)) (some J) g = some ((), g') ∧ TT S g g' ∧ XD g' S (T_go a l j p) F := by
  obtain ⟨⟨hS, hU⟩, hX, h0, hT, hD⟩ := h
  have h4 := Iv0_j h0
  have h5 := Iv0_p h0
  have hj24 : j < 24 := by omega
  have hp3 : p < 3 := by omega
  have hJP := h0.2.2.2.2.2.1 j hj
  have hDoc := Iv0_dj h0 hj
  have hPP := h0.2.2.2.2.2.2 p hp
  obtain ⟨J', Q, q1, q2, q3, q4⟩ := hT.2.2.2.2.1 j hj
  rw [hJ] at q1
  cases q1
  obtain ⟨d1, d2, d3, d4⟩ := hD.1 j J hj hJ
  obtain ⟨-, ⟨D, p2, p3, p4⟩, -⟩ := id q3
  have z1 := vl_nI hDoc.1.2.2.1
  have e1 : gfi g 1 D = nI (dN a (jN a j 6) 1) := (p4 1 (by omega)).trans z1.1
  have hz : dN a (jN a j 6) 1 < 3 := z1.2
  have x1 := vl_nI hx
  have hxl : jN a j 10 < sSH a j := x1.2
  have e2 : gfi g 36 J = nI (jN a j 10) := d2.trans x1.1
  have hSH := SH_le hJP
  have e3 := x_sheetOfCopy q3 hJP (x := jN a j 10) (by omega)
  have e4 := x_sheetsIn hX hp3 hz
  rw [(hD.2.1 p hp).1 _ hz] at e4
  have e5 := x_changeTray hX hp3 hz (a (76 + 10 * p + (3 + dN a (jN a j 6) 1)) - nI 1)
  have T1 : TT S g (sai g 20 (bb S + (6 + p)) (dN a (jN a j 6) 1) (a (76 + 10 * p + (3 + dN a (jN a j 6) 1)) - nI 1)) := TT_sai (by omega) (by omega)
  have D1 := XD_tray h4 h5 hp hz (a (76 + 10 * p + (3 + dN a (jN a j 6) 1)) - nI 1) hD
  have i160 : gfi g 160 (3 * S + p) = nI (pN a p 0) := (hT.2.2.2.2.2 p hp).1.trans (vl_nI hPP.1).1
  have i161 : gfi g 161 (3 * S + p) = nI (pN a p 1) := (hT.2.2.2.2.2 p hp).2.1.trans (vl_nI hPP.2.2.1).1
  have hmem : pN a p 1 < 100000 := by have := (vl_nI hPP.2.2.1).2; unfold pN; omega
  have hgo := T_go_eq (l := l) hj24 hp3 hDoc.2 hz
  have hst := sT_lt hJP hxl
  have hsum := x_ticks (P := p) (x := jN a j 10) hJP hDoc.1
  have hb2 : tkV (pN a p 0) (pN a p 1) (cLV a l j (sT a j (jN a j 10)) 0) + tkV (pN a p 0) (pN a p 1) (if 1 < sdz (jN a j 3) (jN a j 2) then cLV a l j (sT a j (jN a j 10)) 1 else -nI 1) < 2147483648 := by
    have := sTK_le (l := l) (j := j) (x := jN a j 10) hPP
    omega
  have c0 := cLV_cases (t := sT a j (jN a j 10)) (s := 0) hJP hDoc.1
  have c1 : (if 1 < sdz (jN a j 3) (jN a j 2) then cLV a l j (sT a j (jN a j 10)) 1 else -nI 1) = -nI 1 ∨ ∃ L, L < 100000 ∧ (if 1 < sdz (jN a j 3) (jN a j 2) then cLV a l j (sT a j (jN a j 10)) 1 else -nI 1) = nI L := by
    split
    · exact cLV_cases hJP hDoc.1
    · exact Or.inl rfl
  generalize hg1 : sai g 20 (bb S + (6 + p)) (dN a (jN a j 6) 1) (a (76 + 10 * p + (3 + dN a (jN a j 6) 1)) - nI 1) = g1 at *
  have q3' := PlV_TF (TT_TF T1) q3
  have hU1 := XJ_TT T1 hU
  have i160' : gfi g1 160 (3 * S + p) = nI (pN a p 0) := by rw [T1.2.1 _ _ (by unfold oT; omega)]; exact i160
  have i161' : gfi g1 161 (3 * S + p) = nI (pN a p 1) := by rw [T1.2.1 _ _ (by unfold oT; omega)]; exact i161
  have n32 : gfi g1 32 J = nI j := by rw [T1.2.1 _ _ (by unfold oT; omega)]; exact (hU j J hj24 hJ).1
  have e6 := x_loadOn q3' hJP hst (s := 0) (by omega)
  have hs0 := sdz_pos (jN a j 3) (jN a j 2)
  rw [if_pos (by omega)] at e6
  have e7 := x_ticksFor i160' i161' hmem c0
  have e8 := x_loadOn q3' hJP hst (s := 1) (by omega)
  have e9 := x_ticksFor i160' i161' hmem c1
  have hJ1 : gar g1 23 S j = some J := by rw [T1.1.2.2.1]; exact hJ
  have D2 := XD_p166 (by rw [up_ne (by omega)]; exact h4) (by rw [up_ne (by omega)]; exact h5) (p := p) (by rw [up_ne (by omega)]; exact hp) (nI (sTK a l j (jN a j 10) p)) D1
  have D3 := XD_p165 (by rw [up_ne (by omega), up_ne (by omega)]; exact h4) (by rw [up_ne (by omega), up_ne (by omega)]; exact h5) (p := p) (by rw [up_ne (by omega), up_ne (by omega)]; exact hp) (nI j) D2
  have D4 := XD_p164 (by rw [up_ne (by omega), up_ne (by omega), up_ne (by omega)]; exact h4) (by rw [up_ne (by omega), up_ne (by omega), up_ne (by omega)]; exact h5) (p := p) (by rw [up_ne (by omega), up_ne (by omega), up_ne (by omega)]; exact hp) (nI 1) (fun _ => by
    refine ⟨?_, ?_⟩
    · simp (disch := first | assumption | omega) only [e_gfi_sfi, and_self, ↓reduceIte, up_eq]
    · simp (disch := first | assumption | omega) only [e_gfi_sfi, Nat.reduceEqDiff, false_and, and_self, ↓reduceIte, up_eq, up_ne]) D3
  have D5 := XD_j35 (by rw [up_ne (by omega), up_ne (by omega), up_ne (by omega), up_ne (by omega)]; exact h4) (by rw [up_ne (by omega), up_ne (by omega), up_ne (by omega), up_ne (by omega)]; exact h5) (XJ_sfi (by omega) (XJ_sfi (by omega) (XJ_sfi (by omega) hU1))) (by rw [up_ne (by omega), up_ne (by omega), up_ne (by omega), up_ne (by omega)]; exact hj) hJ1 (nI 1) D4
  rw [sfi_comm (f := 165) (f' := 164) (by omega)] at D5
  rw [← hgo] at D5
  refine ⟨_, ?_, ?_, D5⟩
  · simp (disch := first | with_reducible assumption | omega | (simp only [MI_sai_iff, MI_sfi_iff]; with_reducible assumption)) only [li, ↓lr_, ↓bd_m, ↓oc_m, ↓reduceIte, bi_0, bi_0n, bi_1, bi_1n, not_true_eq_false, not_false_eq_true, Nat.reduceAdd, Nat.reduceMul, nI_mul, nI_add, inb_T, ix_nI, le_T, le_F, lt_T, lt_F, eq_F, f8_beginSheet, q2, p2, e1, e2, e3, e4, e5, e6, e7, e8, e9, hsum, e_gfi_sfi, Nat.reduceEqDiff, false_and, n32]
  · refine TT_tr T1 (TT_tr (TT_sfi (oT_p (by omega) (by omega) hp3)) (TT_tr (TT_sfi (oT_p (by omega) (by omega) hp3)) (TT_tr (TT_sfi (oT_p (by omega) (by omega) hp3)) (TT_sfi (oT_j (by omega) (by omega) hj24 hJ1)))))
theorem x_cell {g : GS_} {m c : Nat} (hm : m < 100000000) (hc : c < 4) : f2_cellOf (nI m) (nI c) g = some (nI (4 * (m % 100) + c), g) := by
  have e : jrem (nI m) (nI 100) = nI (m % 100) := rem_nI (by omega) (by omega) (by omega)
  have h : m % 100 < 100 := Nat.mod_lt _ (by omega)
  simp (disch := first | with_reducible assumption | omega | (simp only [MI_sai_iff, MI_sfi_iff]; with_reducible assumption)) only [li, ↓lr_, ↓bd_m, ↓oc_m, ↓reduceIte, bi_0, bi_0n, bi_1, bi_1n, not_true_eq_false, not_false_eq_true, Nat.reduceAdd, Nat.reduceMul, nI_mul, nI_add, inb_T, ix_nI, le_T, le_F, lt_T, lt_F, eq_F, f2_cellOf, e]
  rw [Nat.mul_comm]
theorem x_put {g : GS_} {S m c : Nat} (hX : XSp g S) (hm : m < 100000000) (hc : c < 4) (v : Int32) : f2_put S (nI m) (nI c) v g = some ((), sai g 20 (bb S + 4) (4 * (m % 100) + c) v) := by
  obtain ⟨s1, s2, s3, s4, s5, s6, s7, s8, s9, s10, s11, s12, s13, s14, s15, s16, s17, s18, s19, s20, s21⟩ := hX
  have h : m % 100 < 100 := Nat.mod_lt _ (by omega)
  have e := x_cell (g := g) hm hc
  simp (disch := first | with_reducible assumption | omega | (simp only [MI_sai_iff, MI_sfi_iff]; with_reducible assumption)) only [li, ↓lr_, ↓bd_m, ↓oc_m, ↓reduceIte, bi_0, bi_0n, bi_1, bi_1n, not_true_eq_false, not_false_eq_true, Nat.reduceAdd, Nat.reduceMul, nI_mul, nI_add, inb_T, ix_nI, le_T, le_F, lt_T, lt_F, eq_F, f2_put, e, s17, s18, ofN]
theorem XSp_sai {g : GS_} {S t i k : Nat} {v : Int32} (h : XSp g S) : XSp (sai g t i k v) S := h
theorem x_write {g : GS_} {S m : Nat} {a : Nat → Int32} {F : List Nat} (hX : XSp g S) (h4 : tn (a 4) ≤ 24) (h5 : tn (a 5) ≤ 3) (hD : XD g S a F) (hm : a 6 = nI m) (hl : m < 100000000) (v0 v1 v2 v3 : Int32) :
    ∃ g', f2_write S v0 v1 v2 v3 g = some ((), g') ∧ TT S g g' ∧ XD g' S (up (up (up (up (up a (lgk a) v0) (lgk a + 1) v1) (lgk a + 2) v2) (lgk a + 3) v3) 6 (a 6 + nI 1)) F := by
  have hr : m % 100 < 100 := Nat.mod_lt _ (by omega)
  have n65 : gfi g 65 S = nI m := hD.2.2.1.1.trans hm
  have el : lgk a = 458 + 4 * (m % 100) := by unfold lgk; rw [hm, tn_nI (by omega)]
  have e0 := x_put hX hl (c := 0) (by omega) v0
  have e1 := x_put (XSp_sai (t := 20) (i := bb S + 4) (k := 4 * (m % 100) + 0) (v := v0) hX) hl (c := 1) (by omega) v1
  have e2 := x_put (XSp_sai (t := 20) (i := bb S + 4) (k := 4 * (m % 100) + 1) (v := v1) (XSp_sai (t := 20) (i := bb S + 4) (k := 4 * (m % 100) + 0) (v := v0) hX)) hl (c := 2) (by omega) v2
  have e3 := x_put (XSp_sai (t := 20) (i := bb S + 4) (k := 4 * (m % 100) + 2) (v := v2) (XSp_sai (t := 20) (i := bb S + 4) (k := 4 * (m % 100) + 1) (v := v1) (XSp_sai (t := 20) (i := bb S + 4) (k := 4 * (m % 100) + 0) (v := v0) hX))) hl (c := 3) (by omega) v3
  generalize m % 100 = r at *
  have D1 := XD_row h4 h5 (k := 4 * r + 0) (by omega) v0 hD
  have D2 := XD_row (by rw [up_ne (by omega)]; exact h4) (by rw [up_ne (by omega)]; exact h5) (k := 4 * r + 1) (by omega) v1 D1
  have D3 := XD_row (by rw [up_ne (by omega), up_ne (by omega)]; exact h4) (by rw [up_ne (by omega), up_ne (by omega)]; exact h5) (k := 4 * r + 2) (by omega) v2 D2
  have D4 := XD_row (by rw [up_ne (by omega), up_ne (by omega), up_ne (by omega)]; exact h4) (by rw [up_ne (by omega), up_ne (by omega), up_ne (by omega)]; exact h5) (k := 4 * r + 3) (by omega) v3 D3
  have D5 := XD_tot (by rw [up_ne (by omega), up_ne (by omega), up_ne (by omega), up_ne (by omega)]; exact h4) (by rw [up_ne (by omega), up_ne (by omega), up_ne (by omega), up_ne (by omega)]; exact h5) (a 6 + nI 1) D4
  rw [el]
  refine ⟨_, ?_, ?_, D5⟩
  · simp (disch := first | with_reducible assumption | omega | (simp only [MI_sai_iff, MI_sfi_iff]; with_reducible assumption)) only [li, ↓lr_, ↓bd_m, ↓oc_m, ↓reduceIte, bi_0, bi_0n, bi_1, bi_1n, not_true_eq_false, not_false_eq_true, Nat.reduceAdd, Nat.reduceMul, nI_mul, nI_add, inb_T, ix_nI, le_T, le_F, lt_T, lt_F, eq_F, f2_write, n65, e0, e1, e2, e3, e_gfi_sai, hm]
  · exact TT_tr (TT_sai (by omega) (by omega)) (TT_tr (TT_sai (by omega) (by omega)) (TT_tr (TT_sai (by omega) (by omega)) (TT_tr (TT_sai (by omega) (by omega)) (TT_sfi (oT_s (Or.inl rfl))))))
theorem x_countFor {g : GS_} {S u : Nat} (hX : XSp g S) (hu : u < 6) : f8_countFor S (nI u) g = some ((), sai g 20 (bb S + 3) u (gai g 20 (bb S + 3) u + nI 1)) := by
  obtain ⟨s1, s2, s3, s4, s5, s6, s7, s8, s9, s10, s11, s12, s13, s14, s15, s16, s17, s18, s19, s20, s21⟩ := hX
  simp (disch := first | with_reducible assumption | omega | (simp only [MI_sai_iff, MI_sfi_iff]; with_reducible assumption)) only [li, ↓lr_, ↓bd_m, ↓oc_m, ↓reduceIte, bi_0, bi_0n, bi_1, bi_1n, not_true_eq_false, not_false_eq_true, Nat.reduceAdd, Nat.reduceMul, nI_mul, nI_add, inb_T, ix_nI, le_T, le_F, lt_T, lt_F, eq_F, f8_countFor, s14, s15, ofN]
theorem rq_0 : rq (nI 0) = -nI 1 := if_pos rfl
theorem rq_ne {x : Int32} (h : x ≠ nI 0) : rq x = x := if_neg h
/-- a job stops -/
theorem x_stop {g : GS_} {S j J : Nat} {a : Nat → Int32} {F : List Nat} (hU : XJ g S) (h4 : tn (a 4) ≤ 24) (h5 : tn (a 5) ≤ 3) (hD : XD g S a F) (hj : j < tn (a 4)) (hJ : gar g 23 S j = some J) (hr : a (106 + 13 * j + 12) = nI 0 ∨ a (106 + 13 * j + 12) = nI 2 ∨ a (106 + 13 * j + 12) = nI 4) :
    ∃ g', f1_stopPrinting J (gfi g 271 S) g = some ((), g') ∧ TT S g g' ∧ XD g' S (T_leave a j) F := by
  obtain ⟨d1, d2, d3, d4⟩ := hD.1 j J hj hJ
  have t0 : gfi g 271 S = a 0 := hD.2.2.2.2.1
  have hj24 : j < 24 := by omega
  by_cases c : a (106 + 13 * j + 12) = nI 0
  · have D1 := XD_j35 h4 h5 hU hj hJ (nI 0) hD
    have D2 := XD_j37 (by rw [up_ne (by omega)]; exact h4) (by rw [up_ne (by omega)]; exact h5) (XJ_sfi (by omega) hU) (by rw [up_ne (by omega)]; exact hj) hJ (a 0) D1
    have D3 := XD_j38 (by rw [up_ne (by omega), up_ne (by omega)]; exact h4) (by rw [up_ne (by omega), up_ne (by omega)]; exact h5) (XJ_sfi (by omega) (XJ_sfi (by omega) hU)) (by rw [up_ne (by omega), up_ne (by omega)]; exact hj) hJ (nI 0) D2
    rw [up_self (by rw [up_ne (by omega), up_ne (by omega)]; exact c), rq_0] at D3
    rw [c, rq_0] at d4
    have eT : T_leave a j = up (up a (106 + 13 * j + 9) (nI 0)) (106 + 13 * j + 11) (a 0) := by unfold T_leave T_wait; rw [if_pos c]
    rw [eT]
    refine ⟨_, ?_, ?_, D3⟩
    · simp (disch := first | with_reducible assumption | omega | (simp only [MI_sai_iff, MI_sfi_iff]; with_reducible assumption)) only [li, ↓lr_, ↓bd_m, ↓oc_m, ↓reduceIte, bi_0, bi_0n, bi_1, bi_1n, not_true_eq_false, not_false_eq_true, Nat.reduceAdd, Nat.reduceMul, nI_mul, nI_add, inb_T, ix_nI, le_T, le_F, lt_T, lt_F, eq_F, f1_stopPrinting, d4, f1_awaitFrom, t0, f1_stopPrinting_b24]
    · exact TT_tr (TT_sfi (oT_j (by omega) (by omega) hj24 hJ)) (TT_tr (TT_sfi (oT_j (by omega) (by omega) hj24 hJ)) (TT_sfi (oT_j (by omega) (by omega) hj24 hJ)))
  · have D1 := XD_j35 h4 h5 hU hj hJ (a (106 + 13 * j + 12)) hD
    have D2 := XD_j38 (by rw [up_ne (by omega)]; exact h4) (by rw [up_ne (by omega)]; exact h5) (XJ_sfi (by omega) hU) (by rw [up_ne (by omega)]; exact hj) hJ (nI 0) D1
    rw [rq_0] at D2
    rw [rq_ne c] at d4
    have hn : (a (106 + 13 * j + 12) = -nI 1) = False := by
      rcases hr with w | w | w
      · exact absurd w c
      · rw [w]; exact neg_eq (by omega) (by omega) (by omega)
      · rw [w]; exact neg_eq (by omega) (by omega) (by omega)
    have eT : T_leave a j = up (up a (106 + 13 * j + 9) (a (106 + 13 * j + 12))) (106 + 13 * j + 12) (nI 0) := by unfold T_leave; rw [if_neg c]
    rw [eT]
    refine ⟨_, ?_, ?_, D2⟩
    · simp (disch := first | with_reducible assumption | omega | (simp only [MI_sai_iff, MI_sfi_iff]; with_reducible assumption)) only [li, ↓lr_, ↓bd_m, ↓oc_m, ↓reduceIte, bi_0, bi_0n, bi_1, bi_1n, not_true_eq_false, not_false_eq_true, Nat.reduceAdd, Nat.reduceMul, nI_mul, nI_add, inb_T, ix_nI, le_T, le_F, lt_T, lt_F, eq_F, f1_stopPrinting, d4, hn, f1_stopPrinting_b24]
    · exact TT_tr (TT_sfi (oT_j (by omega) (by omega) hj24 hJ)) (TT_sfi (oT_j (by omega) (by omega) hj24 hJ))
theorem x_isOutranked {g : GS_} {S : Nat} {a l : Nat → Int32} {F : List Nat} (h : SpO g S a l F) {j p J : Nat} (hj : j < tn (a 4)) (hJ : gar g 23 S j = some J) :
    f8_isOutranked S (some J) (jr g S (sBF a p)) g = some (bi ((sBF a p).isSome ∧ ¬ rk a ((sBF a p).getD 0) ≤ nI 10 * a (106 + 13 * j + 4) + a 2), g) := by
  obtain ⟨J', Q, q1, q2, q3, q4⟩ := h.2.2.2.1.2.2.2.2.1 j hj
  rw [hJ] at q1
  cases q1
  have t2 : gfi g 270 S = a 2 := h.2.2.2.1.1.2.2.2.2.1
  cases hb : sBF a p with
  | none =>
    simp (disch := first | with_reducible assumption | omega | (simp only [MI_sai_iff, MI_sfi_iff]; with_reducible assumption)) only [li, ↓lr_, ↓bd_m, ↓oc_m, ↓reduceIte, bi_0, bi_0n, bi_1, bi_1n, not_true_eq_false, not_false_eq_true, Nat.reduceAdd, Nat.reduceMul, nI_mul, nI_add, inb_T, ix_nI, le_T, le_F, lt_T, lt_F, eq_F, jr, f8_isOutranked, f8_isOutranked_b35, bi, Option.isSome_none, Bool.false_eq_true, false_and]
  | some b =>
    have hbl := (sBF_some hb).1
    obtain ⟨Jb, Qb, r1, -⟩ := h.2.2.2.1.2.2.2.2.1 b hbl
    have e := x_rankAt h hbl r1
    have ej : jr g S (some b) = some Jb := r1
    by_cases c : rk a b ≤ nI 10 * a (106 + 13 * j + 4) + a 2
    · simp (disch := first | with_reducible assumption | omega | (simp only [MI_sai_iff, MI_sfi_iff]; with_reducible assumption)) only [li, ↓lr_, ↓bd_m, ↓oc_m, ↓reduceIte, bi_0, bi_0n, bi_1, bi_1n, not_true_eq_false, not_false_eq_true, Nat.reduceAdd, Nat.reduceMul, nI_mul, nI_add, inb_T, ix_nI, le_T, le_F, lt_T, lt_F, eq_F, ej, f8_isOutranked, e, q4, t2, eq_true c, f8_isOutranked_b35, bi, Option.isSome_some, Option.getD_some, and_false]
    · simp (disch := first | with_reducible assumption | omega | (simp only [MI_sai_iff, MI_sfi_iff]; with_reducible assumption)) only [li, ↓lr_, ↓bd_m, ↓oc_m, ↓reduceIte, bi_0, bi_0n, bi_1, bi_1n, not_true_eq_false, not_false_eq_true, Nat.reduceAdd, Nat.reduceMul, nI_mul, nI_add, inb_T, ix_nI, le_T, le_F, lt_T, lt_F, eq_F, ej, f8_isOutranked, e, q4, t2, eq_false c, f8_isOutranked_b35, bi, Option.isSome_some, Option.getD_some, and_self]
theorem x_off {g : GS_} {S p : Nat} {a : Nat → Int32} {F : List Nat} (h4 : tn (a 4) ≤ 24) (h5 : tn (a 5) ≤ 3) (hD : XD g S a F) (hp : p < tn (a 5)) :
    ∃ g', f8_endSheet_b133 (some (3 * S + p)) g = some ((), g') ∧ TT S g g' ∧ XD g' S (up a (76 + 10 * p + 6) (nI 0)) F := by
  have D1 := XD_p164 h4 h5 hp (nI 0) (fun e => by rw [eq_nI (by omega) (by omega)] at e; omega) hD
  have D2 := XD_p165n (by rw [up_ne (by omega)]; exact h4) (by rw [up_ne (by omega)]; exact h5) (p := p) (by rw [up_ne (by omega)]; exact hp) (-nI 6) (by rw [up_eq rfl, ne_eq, eq_nI (by omega) (by omega)]; omega) D1
  exact ⟨_, by simp (disch := first | with_reducible assumption | omega | (simp only [MI_sai_iff, MI_sfi_iff]; with_reducible assumption)) only [li, ↓lr_, ↓bd_m, ↓oc_m, ↓reduceIte, bi_0, bi_0n, bi_1, bi_1n, not_true_eq_false, not_false_eq_true, Nat.reduceAdd, Nat.reduceMul, nI_mul, nI_add, inb_T, ix_nI, le_T, le_F, lt_T, lt_F, eq_F, f8_endSheet_b133], TT_tr (TT_sfi (oT_p (by omega) (by omega) (by omega))) (TT_sfi (oT_p (by omega) (by omega) (by omega))), D2⟩
theorem x_markDone {g : GS_} {S j J : Nat} {a : Nat → Int32} {F : List Nat} (hX : XSp g S) (hU : XJ g S) (h4 : tn (a 4) ≤ 24) (h5 : tn (a 5) ≤ 3) (hD : XD g S a F) (hj : j < tn (a 4)) (hJ : gar g 23 S j = some J) (hF : F.length < 24) :
    ∃ g', f8_markDone S (some J) g = some ((), g') ∧ TT S g g' ∧ XD g' S (up (up a (106 + 13 * j + 9) (nI 3)) (106 + 13 * j + 12) (nI 0)) (F ++ [j]) := by
  have hj24 : j < 24 := by omega
  have D1 := XD_j35 h4 h5 hU hj hJ (nI 3) hD
  have D2 := XD_j38 (by rw [up_ne (by omega)]; exact h4) (by rw [up_ne (by omega)]; exact h5) (XJ_sfi (by omega) hU) (by rw [up_ne (by omega)]; exact hj) hJ (nI 0) D1
  rw [rq_0] at D2
  have D3 := XD_done (by rw [up_ne (by omega), up_ne (by omega)]; exact h4) (by rw [up_ne (by omega), up_ne (by omega)]; exact h5) j D2
  have n268 : gfi g 268 S = nI F.length := hD.2.2.2.2.2.1
  have n32 := (hU j J hj24 hJ).1
  obtain ⟨s1, s2, s3, s4, s5, s6, s7, s8, s9, s10, s11, s12, s13, s14, s15, s16, s17, s18, s19, s20, s21⟩ := hX
  refine ⟨_, ?_, ?_, D3⟩
  · simp (disch := first | with_reducible assumption | omega | (simp only [MI_sai_iff, MI_sfi_iff]; with_reducible assumption)) only [li, ↓lr_, ↓bd_m, ↓oc_m, ↓reduceIte, bi_0, bi_0n, bi_1, bi_1n, not_true_eq_false, not_false_eq_true, Nat.reduceAdd, Nat.reduceMul, nI_mul, nI_add, inb_T, ix_nI, le_T, le_F, lt_T, lt_F, eq_F, f8_markDone, e_gfi_sfi, e_gfi_sai, Nat.reduceEqDiff, false_and, n268, e_gfr_sfi, e_gln_sfi, e_gfr_sai, e_gln_sai, s19, s20, ofN, n32]
  · exact TT_tr (TT_sfi (oT_j (by omega) (by omega) hj24 hJ)) (TT_tr (TT_sfi (oT_j (by omega) (by omega) hj24 hJ)) (TT_tr (TT_sai (by omega) (by omega)) (TT_sfi (oT_s (by omega)))))
theorem x_endSheet {g : GS_} {S : Nat} {a l : Nat → Int32} {F : List Nat} (h : SpO g S a l F) {j p m : Nat} (hE : PE a j p) (hm : a 6 = nI m) (hl : m < 100000000) (hF : F.length < 24) :
    ∃ g', f8_endSheet S (nI p) (some (3 * S + p)) g = some ((), g') ∧ TT S g g' ∧ XD g' S (T_end (a, F) l j p).1 (T_end (a, F) l j p).2 := by
  obtain ⟨hj, hp, hJS, hPS, hTr, hUq, h6, h7, h9⟩ := hE
  obtain ⟨n4, h4⟩ := SpO_n4 h
  obtain ⟨n5, h5⟩ := SpO_n5 h
  obtain ⟨J, Q, q1, q2, q3, q4⟩ := h.2.2.2.1.2.2.2.2.1 j hj
  have hX := h.2.1
  have hU := h.1.2
  have h0 := h.2.2.1
  have hT := h.2.2.2.1
  have hD := h.2.2.2.2
  have hj24 : j < 24 := by omega
  have hp3 : p < 3 := by omega
  obtain ⟨d1, d2, d3, d4⟩ := hD.1 j J hj q1
  have n165 : gfi g 165 (3 * S + p) = nI j := ((hD.2.1 p hp).2.2.1 h6).1.trans h7
  have e1 := x_jobAt hX n4 h4 (nI j)
  rw [if_pos (vl_of hj (by omega)), tn_nI (by omega), q1] at e1
  have hJP := h0.2.2.2.2.2.1 j hj
  have hDoc := Iv0_dj h0 hj
  obtain ⟨-, -, -, -, ⟨u1, u2⟩, -⟩ := Jn hJP
  have n32 := (hU j J hj24 q1).1
  have t0 : gfi g 271 S = a 0 := hD.2.2.2.2.1
  obtain ⟨g1, w1, w2, w3⟩ := x_write hX h4 h5 hD hm hl (a 0) (nI p) (nI j) (a (106 + 13 * j + 10))
  have hlk : 458 ≤ lgk a := by unfold lgk; omega
  have e2 := x_countFor (XSp_NR w2.1 hX) u2
  have v2 : gai g1 20 (bb S + 3) (jN a j 5) = a (20 + jN a j 5) := by
    have := w3.2.2.2.1 _ u2
    simp (disch := first | assumption | omega) only [up_ne] at this
    exact this
  have D2 := XD_used (by simp (disch := first | assumption | omega) only [up_ne]; exact h4) (by simp (disch := first | assumption | omega) only [up_ne]; exact h5) u2 (a (20 + jN a j 5) + nI 1) w3
  rw [v2] at e2
  have q1' : gar g1 23 S j = some J := by rw [w2.1.2.2.1]; exact q1
  have D3 := XD_j36 (by simp (disch := first | assumption | omega) only [up_ne]; exact h4) (by simp (disch := first | assumption | omega) only [up_ne]; exact h5) (XJ_sai (XJ_TT w2 hU)) (by simp (disch := first | assumption | omega) only [up_ne]; exact hj) q1' (a (106 + 13 * j + 10) + nI 1) D2
  have v3 : gfi g1 36 J = a (106 + 13 * j + 10) := by
    have := (w3.1 j J (by simp (disch := first | assumption | omega) only [up_ne]; exact hj) q1').2.1
    simp (disch := first | assumption | omega) only [up_ne] at this
    exact this
  have hrec : up (up (up (up (up (up (up a (lgk a) (a 0)) (lgk a + 1) (nI p)) (lgk a + 2) (nI j)) (lgk a + 3) (a (106 + 13 * j + 10))) 6 (a 6 + nI 1)) (20 + jN a j 5) (a (20 + jN a j 5) + nI 1)) (106 + 13 * j + 10) (a (106 + 13 * j + 10) + nI 1) = T_rec a j p := rfl
  rw [hrec] at D3
  have T3 : TT S g (sfi (sai g1 20 (bb S + 3) (jN a j 5) (a (20 + jN a j 5) + nI 1)) 36 J (a (106 + 13 * j + 10) + nI 1)) := TT_tr w2 (TT_tr (TT_sai (by omega) (by omega)) (TT_sfi (oT_j (by omega) (by omega) hj24 q1')))
  have s1 : sta a (T_rec a j p) := sta_rec hj24 u2
  have i7 : T_rec a j p 7 = a 7 := rec_ne u2 (by omega) (by omega) (by omega) (by omega)
  have hS3 := SpO_step h T3 s1 i7 D3
  have eq3 : gfr (sfi (sai g1 20 (bb S + 3) (jN a j 5) (a (20 + jN a j 5) + nI 1)) 36 J (a (106 + 13 * j + 10) + nI 1)) 33 J = some Q := by rw [T3.1.1]; exact q2
  have eq2 : gfr g1 33 J = some Q := by rw [w2.1.1]; exact q2
  have p5 : gfi g1 135 Q = nI (jN a j 5) := by
    have := PlV_TF (TT_TF w2) q3
    obtain ⟨-, -, -, -, -, -, -, -, k, -⟩ := this
    exact k.trans u1
  have hx := vl_nI (hJS j hj).2.2.1
  have hxl : jN a j 10 < sSH a j := (hJS j hj).2.2.2.1 (by rw [h9, ne_eq, eq_nI (by omega) (by omega)]; omega)
  have hSH := SH_le hJP
  have r10 : T_rec a j p (106 + 13 * j + 10) = nI (jN a j 10 + 1) := by
    rw [rec_10, hx.1, nI_add]
    rfl
  have rne : ∀ k, k < 458 → k ≠ 6 → (k < 20 ∨ 26 ≤ k) → k ≠ 106 + 13 * j + 10 → T_rec a j p k = a k := fun k g1 g2 g3 g4 => rec_ne u2 g1 g2 g3 g4
  have hreq : T_rec a j p (106 + 13 * j + 12) = nI 0 ∨ T_rec a j p (106 + 13 * j + 12) = nI 2 ∨ T_rec a j p (106 + 13 * j + 12) = nI 4 := by
    rw [rne _ (by omega) (by omega) (by omega) (by omega)]
    rcases (hJS j hj).2.2.2.2 with w | ⟨w | w, -⟩
    · exact Or.inl w
    · exact Or.inr (Or.inl w)
    · exact Or.inr (Or.inr w)
  have hst9 : T_rec a j p (106 + 13 * j + 9) = nI 1 := by rw [rne _ (by omega) (by omega) (by omega) (by omega)]; exact h9
  have hst6 : T_rec a j p (76 + 10 * p + 6) = nI 1 := by rw [rne _ (by omega) (by omega) (by omega) (by omega)]; exact h6
  have hst7 : T_rec a j p (76 + 10 * p + 7) = nI j := by rw [rne _ (by omega) (by omega) (by omega) (by omega)]; exact h7
  have htr : vl (T_rec a j p (76 + 10 * p + (3 + dN a (jN a j 6) 1))) 501 := by
    have hz : dN a (jN a j 6) 1 < 3 := (vl_nI hDoc.1.2.2.1).2
    rw [rne _ (by omega) (by omega) (by omega) (by omega)]
    exact PrTr_tray hTr hz
  have etr : trk (T_rec a j p) j p = 76 + 10 * p + (3 + dN a (jN a j 6) 1) := by
    unfold trk
    rw [sta_jN s1 hj24 (by omega), sta_dN s1 hDoc.2 (by omega)]
  have edn : dN (T_rec a j p) (jN (T_rec a j p) j 6) 1 = dN a (jN a j 6) 1 := by rw [sta_jN s1 hj24 (by omega), sta_dN s1 hDoc.2 (by omega)]
  have eu : jN (T_rec a j p) j 5 = jN a j 5 := sta_jN s1 hj24 (by omega)
  show ∃ g', f8_endSheet S (nI p) (some (3 * S + p)) g = some ((), g') ∧ TT S g g' ∧ XD g' S (T_end2 (T_rec a j p) l F j p).1 (T_end2 (T_rec a j p) l F j p).2
  generalize hg3 : sfi (sai g1 20 (bb S + 3) (jN a j 5) (a (20 + jN a j 5) + nI 1)) 36 J (a (106 + 13 * j + 10) + nI 1) = g3 at *
  generalize T_rec a j p = r at *
  obtain ⟨m4, k4⟩ := SpO_n4 hS3
  obtain ⟨m5, k5⟩ := SpO_n5 hS3
  have hj3 : j < tn (r 4) := by rw [sta_sc s1 (by omega)]; exact hj
  have hp3' : p < tn (r 5) := by rw [sta_sc s1 (by omega)]; exact hp
  have q13 : gar g3 23 S j = some J := by rw [T3.1.2.2.1]; exact q1
  obtain ⟨J', Q', y1, y2, y3, y4⟩ := hS3.2.2.2.1.2.2.2.2.1 j hj3
  rw [q13] at y1
  cases y1
  rw [eq3] at y2
  cases y2
  have hJ3 := hS3.2.2.1.2.2.2.2.2.1 j hj3
  have e4 := x_sheets y3 hJ3
  have eSH : sSH r j = sSH a j := sta_SH s1 hj24
  rw [eSH] at e4
  obtain ⟨z1, z2, z3, z4⟩ := D3.1 j J hj3 q13
  rw [r10] at z2
  have r8 : r (106 + 13 * j + 8) = nI (sSH a j) := by rw [← eSH]; exact hJ3.2.2.2.2.2.2.2.2.2.2.1
  obtain ⟨g4, o1, o2, o3⟩ := x_stop (XJ_TT T3 hU) k4 k5 D3 hj3 q13 hreq
  have ln4 : T_leave r j 4 = r 4 := by unfold T_leave T_wait; split <;> simp (disch := first | assumption | omega) only [up_ne]
  have ln5 : T_leave r j 5 = r 5 := by unfold T_leave T_wait; split <;> simp (disch := first | assumption | omega) only [up_ne]
  obtain ⟨g5, o4, o5, o6⟩ := x_off (by rw [ln4]; exact k4) (by rw [ln5]; exact k5) o3 (p := p) (by rw [ln5]; exact hp3')
  have stop : f8_endSheet_b115 S (some (3 * S + p)) (some J) g3 = some ((), g5) := by
    simp (disch := first | with_reducible assumption | omega | (simp only [MI_sai_iff, MI_sfi_iff]; with_reducible assumption)) only [li, ↓lr_, ↓bd_m, ↓oc_m, ↓reduceIte, bi_0, bi_0n, bi_1, bi_1n, not_true_eq_false, not_false_eq_true, Nat.reduceAdd, Nat.reduceMul, nI_mul, nI_add, inb_T, ix_nI, le_T, le_F, lt_T, lt_F, eq_F, f8_endSheet_b115, o1, o4]
  by_cases c1 : r (106 + 13 * j + 10) = r (106 + 13 * j + 8)
  · have c1n : jN a j 10 + 1 = sSH a j := by rw [r10, r8, eq_nI (by omega) (by omega)] at c1; exact c1
    obtain ⟨g6, a1, a2, a3⟩ := x_markDone (XSp_NR T3.1 hX) (XJ_TT T3 hU) k4 k5 D3 hj3 q13 hF
    obtain ⟨g7, b1, b2, b3⟩ := x_off (by rw [up_ne (by omega), up_ne (by omega)]; exact k4) (by rw [up_ne (by omega), up_ne (by omega)]; exact k5) a3 (p := p) (by rw [up_ne (by omega), up_ne (by omega)]; exact hp3')
    have eT : T_end2 r l F j p = (up (up (up r (106 + 13 * j + 9) (nI 3)) (106 + 13 * j + 12) (nI 0)) (76 + 10 * p + 6) (nI 0), F ++ [j]) := by unfold T_end2; rw [if_pos c1]
    rw [eT]
    refine ⟨g7, ?_, TT_tr T3 (TT_tr a2 b2), b3⟩
    simp (disch := first | with_reducible assumption | omega | (simp only [MI_sai_iff, MI_sfi_iff]; with_reducible assumption)) only [li, ↓lr_, ↓bd_m, ↓oc_m, ↓reduceIte, bi_0, bi_0n, bi_1, bi_1n, not_true_eq_false, not_false_eq_true, Nat.reduceAdd, Nat.reduceMul, nI_mul, nI_add, inb_T, ix_nI, le_T, le_F, lt_T, lt_F, eq_F, f8_endSheet, n165, e1, hX.2.2.2.2.2.2.2.2.2.2.2.2.2.2.2.1, t0, n32, d2, w1, eq2, p5, e2, e_gfi_sai, v3, hg3, eq3, e4, z2, a1, b1]
  · have c1n : jN a j 10 + 1 < sSH a j := by
      rw [r10, r8, eq_nI (by omega) (by omega)] at c1
      omega
    by_cases c2 : r (106 + 13 * j + 12) = nI 0
    · have z4' : gfi g3 38 J = -nI 1 := by rw [z4, c2, rq_0]
      have e5 := x_hasSupply hS3 hj3 hp3' y3
      rw [edn, eu] at e5
      have eL : T_leave r j = T_wait r j := by unfold T_leave; rw [if_pos c2]
      rw [eL] at o6
      by_cases c3 : r (trk r j p) = nI 0 ∨ r (14 + jN r j 5) ≤ r (20 + jN r j 5)
      · have eT : T_end2 r l F j p = (up (T_wait r j) (76 + 10 * p + 6) (nI 0), F) := by unfold T_end2; rw [if_neg c1, if_pos c2, if_pos c3]
        have c3' : (¬ r (76 + 10 * p + (3 + dN a (jN a j 6) 1)) ≤ nI 0 ∧ ¬ r (14 + jN a j 5) ≤ r (20 + jN a j 5)) = False := eq_false (fun w => by
          rw [etr, eu] at c3
          rcases c3 with v | v
          · exact w.1 (by rw [v, le_nI (by omega) (by omega)]; omega)
          · exact w.2 v)
        rw [eT]
        refine ⟨g5, ?_, TT_tr T3 (TT_tr o2 o5), o6⟩
        simp (disch := first | with_reducible assumption | omega | (simp only [MI_sai_iff, MI_sfi_iff]; with_reducible assumption)) only [li, ↓lr_, ↓bd_m, ↓oc_m, ↓reduceIte, bi_0, bi_0n, bi_1, bi_1n, not_true_eq_false, not_false_eq_true, Nat.reduceAdd, Nat.reduceMul, nI_mul, nI_add, inb_T, ix_nI, le_T, le_F, lt_T, lt_F, eq_F, f8_endSheet, n165, e1, hX.2.2.2.2.2.2.2.2.2.2.2.2.2.2.2.1, t0, n32, d2, w1, eq2, p5, e2, e_gfi_sai, v3, hg3, eq3, e4, z2, z4', e5, c3', bi_eq, stop]
      · have c3' : (¬ r (76 + 10 * p + (3 + dN a (jN a j 6) 1)) ≤ nI 0 ∧ ¬ r (14 + jN a j 5) ≤ r (20 + jN a j 5)) = True := eq_true (by
          rw [etr, eu] at c3
          refine ⟨fun v => c3 (Or.inl ?_), fun v => c3 (Or.inr v)⟩
          obtain ⟨y, hy, hyl⟩ := vl_ex htr
          rw [hy, le_nI (by omega) (by omega)] at v
          rw [hy, show y = 0 by omega])
        have e6 := x_bestFor hS3 hp3'
        have e7 := x_isOutranked (p := p) hS3 hj3 q13
        by_cases c4 : (sBF r p).isSome ∧ ¬ rk r ((sBF r p).getD 0) ≤ nI 10 * r (106 + 13 * j + 4) + r 2
        · have eT : T_end2 r l F j p = (up (T_wait r j) (76 + 10 * p + 6) (nI 0), F) := by unfold T_end2; rw [if_neg c1, if_pos c2, if_neg c3, if_pos c4]
          rw [eT]
          refine ⟨g5, ?_, TT_tr T3 (TT_tr o2 o5), o6⟩
          simp (disch := first | with_reducible assumption | omega | (simp only [MI_sai_iff, MI_sfi_iff]; with_reducible assumption)) only [li, ↓lr_, ↓bd_m, ↓oc_m, ↓reduceIte, bi_0, bi_0n, bi_1, bi_1n, not_true_eq_false, not_false_eq_true, Nat.reduceAdd, Nat.reduceMul, nI_mul, nI_add, inb_T, ix_nI, le_T, le_F, lt_T, lt_F, eq_F, f8_endSheet, n165, e1, hX.2.2.2.2.2.2.2.2.2.2.2.2.2.2.2.1, t0, n32, d2, w1, eq2, p5, e2, e_gfi_sai, v3, hg3, eq3, e4, z2, z4', e5, c3', bi_eq, e6, e7, eq_true c4, stop]
        · have eT : T_end2 r l F j p = (T_begin r l j p, F) := by unfold T_end2; rw [if_neg c1, if_pos c2, if_neg c3, if_neg c4]
          have eG : T_go r l j p = T_begin r l j p := by
            unfold T_go
            rw [up_self hst9, up_self hst6, up_self hst7]
          obtain ⟨g6, a1, a2, a3⟩ := x_beginSheet hS3 hj3 hp3' q13 (by rw [r10, eSH]; exact vl_of c1n (by omega))
          rw [eT]
          rw [eG] at a3
          refine ⟨g6, ?_, TT_tr T3 a2, a3⟩
          simp (disch := first | with_reducible assumption | omega | (simp only [MI_sai_iff, MI_sfi_iff]; with_reducible assumption)) only [li, ↓lr_, ↓bd_m, ↓oc_m, ↓reduceIte, bi_0, bi_0n, bi_1, bi_1n, not_true_eq_false, not_false_eq_true, Nat.reduceAdd, Nat.reduceMul, nI_mul, nI_add, inb_T, ix_nI, le_T, le_F, lt_T, lt_F, eq_F, f8_endSheet, n165, e1, hX.2.2.2.2.2.2.2.2.2.2.2.2.2.2.2.1, t0, n32, d2, w1, eq2, p5, e2, e_gfi_sai, v3, hg3, eq3, e4, z2, z4', e5, c3', bi_eq, e6, e7, eq_false c4, a1]
    · have eT : T_end2 r l F j p = (up (T_leave r j) (76 + 10 * p + 6) (nI 0), F) := by unfold T_end2; rw [if_neg c1, if_neg c2]
      have z4' : (gfi g3 38 J = -nI 1) = False := by
        rw [z4, rq_ne c2]
        rcases hreq with w | w | w
        · exact absurd w c2
        · rw [w]; exact neg_eq (by omega) (by omega) (by omega)
        · rw [w]; exact neg_eq (by omega) (by omega) (by omega)
      rw [eT]
      refine ⟨g5, ?_, TT_tr T3 (TT_tr o2 o5), o6⟩
      simp (disch := first | with_reducible assumption | omega | (simp only [MI_sai_iff, MI_sfi_iff]; with_reducible assumption)) only [li, ↓lr_, ↓bd_m, ↓oc_m, ↓reduceIte, bi_0, bi_0n, bi_1, bi_1n, not_true_eq_false, not_false_eq_true, Nat.reduceAdd, Nat.reduceMul, nI_mul, nI_add, inb_T, ix_nI, le_T, le_F, lt_T, lt_F, eq_F, f8_endSheet, n165, e1, hX.2.2.2.2.2.2.2.2.2.2.2.2.2.2.2.1, t0, n32, d2, w1, eq2, p5, e2, e_gfi_sai, v3, hg3, eq3, e4, z2, z4', stop]
