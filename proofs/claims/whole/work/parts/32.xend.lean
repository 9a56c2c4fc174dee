/-! the class: a sheet begins, a sheet ends -/
theorem up_self {a : Nat → Int32} {k : Nat} {v : Int32} (h : a k = v) : up a k v = a := by
  funext i
  unfold up
  split
  · rename_i e
    rw [e, h]
  · rfl
theorem sta_PGc {a a' l : Nat → Int32} (h : sta a a') {j : Nat} (hj : j < 24) : sPGc a' l j = sPGc a l j := by
  funext t side pos
  unfold sPGc sEL
  simp (disch := omega) only [sta_jN h hj]
theorem sta_cLV {a a' l : Nat → Int32} (h : sta a a') {j : Nat} (hj : j < 24) (hd : jN a j 6 < 10) : cLV a' l j = cLV a l j := by
  have hw : wgt a' (jN a j 6) = wgt a (jN a j 6) := funext fun q => sta_wgt h hd
  funext t side
  unfold cLV cLD
  simp (disch := omega) only [sta_jN h hj, sta_PGc h hj, hw]
theorem PlV_sta {g : GS_} {Q : Nat} {a a' l : Nat → Int32} {j : Nat} (h : sta a a') (hj : j < 24) (hd : jN a j 6 < 10) (hP : PlV g Q a l j) : PlV g Q a' l j := by
  have e1 : sSC a' j = sSC a j := by unfold sSC; simp (disch := omega) only [sta_jN h hj]
  have e2 : ∀ D, DocV g D a' (jN a j 6) = DocV g D a (jN a j 6) := by
    intro D
    unfold DocV
    refine congrArg (D < gcn g 0 ∧ ·) (propext ⟨fun q w hw => ?_, fun q w hw => ?_⟩)
    · rw [q w hw, sta_d h hd hw]
    · rw [q w hw, sta_d h hd hw]
  unfold PlV
  simp (disch := omega) only [sta_jN h hj, sta_j h hj, e1, e2, sta_cLV h hj hd]
  exact hP
theorem XT0_sta {g : GS_} {S : Nat} {a a' l : Nat → Int32} (h : sta a a') (h0 : Iv0 a l) (hT : XT0 g S a l) (h7 : a' 7 = a 7) : XT0 g S a' l := by
  have h3 := Iv0_d h0
  have h4 := Iv0_j h0
  have h5 := Iv0_p h0
  obtain ⟨t1, t2, t3, t4, t5, t6⟩ := hT
  unfold XT0
  rw [sta_sc h (k := 3) (by omega), sta_sc h (k := 4) (by omega), sta_sc h (k := 5) (by omega), sta_sc h (k := 1) (by omega), sta_sc h (k := 2) (by omega), h7]
  refine ⟨t1, fun k hk => ?_, fun u hu => ?_, fun d hd => ?_, fun j hj => ?_, fun p hp => ?_⟩
  · rw [sta_sc h (by omega)]
    exact t2 k hk
  · rw [sta_sc h (by omega), sta_sc h (by omega)]
    exact t3 u hu
  · obtain ⟨D, q1, q2, q3⟩ := t4 d hd
    refine ⟨D, q1, q2, fun w hw => ?_⟩
    rw [sta_d h (by omega) hw]
    exact q3 w hw
  · obtain ⟨J, Q, q1, q2, q3, q4⟩ := t5 j hj
    have hDoc := Iv0_dj h0 hj
    refine ⟨J, Q, q1, q2, PlV_sta h (by omega) hDoc.2 q3, ?_⟩
    rw [sta_j h (by omega) (by omega)]
    exact q4
  · rw [sta_p h (by omega) (by omega), sta_p h (by omega) (by omega), sta_p h (by omega) (by omega)]
    exact t6 p hp
theorem XJ_sfi {g : GS_} {S f i : Nat} {v : Int32} (hf : f ≠ 32) (h : XJ g S) : XJ (sfi g f i v) S := by
  intro j J hj hJ
  rw [e_gfi_sfi, if_neg (fun q => hf q.1.symm)]
  exact h j J hj hJ
theorem XJ_sai {g : GS_} {S t i k : Nat} {v : Int32} (h : XJ g S) : XJ (sai g t i k v) S := h
theorem XJ_TT {g g' : GS_} {S : Nat} (h : TT S g g') (hX : XJ g S) : XJ g' S := by
  unfold XJ
  rw [h.1.2.2.1]
  intro j J hj hJ
  rw [h.2.1 32 J (by unfold oT; omega)]
  exact hX j J hj hJ
theorem SpO_step {g g' : GS_} {S : Nat} {a a' l : Nat → Int32} {F F' : List Nat} (h : SpO g S a l F) (ht : TT S g g') (hs : sta a a') (h7 : a' 7 = a 7) (hD : XD g' S a' F') : SpO g' S a' l F' :=
  ⟨⟨h.1.1, XJ_TT ht h.1.2⟩, XSp_NR ht.1 h.2.1, Iv0_sta hs h.2.2.1, XT0_sta hs h.2.2.1 (XT0_TT ht h.2.2.2.1) h7, hD⟩
theorem T_go_eq {a l : Nat → Int32} {j p : Nat} (hj : j < 24) (hp : p < 3) (hd : jN a j 6 < 10) (hz : dN a (jN a j 6) 1 < 3) :
    T_go a l j p = up (up (up (up (up a (76 + 10 * p + (3 + dN a (jN a j 6) 1)) (a (76 + 10 * p + (3 + dN a (jN a j 6) 1)) - nI 1)) (76 + 10 * p + 8) (nI (sTK a l j (jN a j 10) p))) (76 + 10 * p + 7) (nI j)) (76 + 10 * p + 6) (nI 1)) (106 + 13 * j + 9) (nI 1) := by
  have s1 : sta a (up (up (up a (106 + 13 * j + 9) (nI 1)) (76 + 10 * p + 6) (nI 1)) (76 + 10 * p + 7) (nI j)) := sta_tr (sta_tr (sta_up (dyn_j hj (by omega) (by omega))) (sta_up (dyn_p hp (by omega) (by omega)))) (sta_up (dyn_p hp (by omega) (by omega)))
  have n10 : jN (up (up (up a (106 + 13 * j + 9) (nI 1)) (76 + 10 * p + 6) (nI 1)) (76 + 10 * p + 7) (nI j)) j 10 = jN a j 10 := by unfold jN; simp (disch := first | assumption | omega) only [up_ne]
  unfold T_go T_begin trk
  rw [n10, sta_TK s1 hj hp hd, sta_jN s1 hj (by omega), sta_dN s1 hd (by omega)]
  generalize dN a (jN a j 6) 1 = z at *
  generalize nI (sTK a l j (jN a j 10) p) = T
  have ht : (up (up (up a (106 + 13 * j + 9) (nI 1)) (76 + 10 * p + 6) (nI 1)) (76 + 10 * p + 7) (nI j)) (76 + 10 * p + (3 + z)) = a (76 + 10 * p + (3 + z)) := by simp (disch := first | assumption | omega) only [up_ne]
  rw [ht]
  generalize a (76 + 10 * p + (3 + z)) - nI 1 = v
  funext k
  by_cases h1 : k = 106 + 13 * j + 9
  · subst h1; simp (disch := first | assumption | omega) only [up_eq, up_ne]
  by_cases h2 : k = 76 + 10 * p + 6
  · subst h2; simp (disch := first | assumption | omega) only [up_eq, up_ne]
  by_cases h3 : k = 76 + 10 * p + 7
  · subst h3; simp (disch := first | assumption | omega) only [up_eq, up_ne]
  by_cases h4 : k = 76 + 10 * p + 8
  · subst h4; simp (disch := first | assumption | omega) only [up_eq, up_ne]
  by_cases h5 : k = 76 + 10 * p + (3 + z)
  · subst h5; simp (disch := first | assumption | omega) only [up_eq, up_ne]
  simp (disch := first | assumption | omega) only [up_ne]
theorem x_beginSheet {g : GS_} {S : Nat} {a l : Nat → Int32} {F : List Nat} (h : SpO g S a l F) {j p J : Nat} (hj : j < tn (a 4)) (hp : p < tn (a 5)) (hJ : gar g 23 S j = some J) (hx : vl (a (106 + 13 * j + 10)) (sSH a j)) :
    ∃ g', f8_beginSheet S (some (3 * S + p)) (some J) g = some ((), g') ∧ TT S g g' ∧ XD g' S (T_go a l j p) F := by
  obtain ⟨⟨hS, hU⟩, hX, h0, hT, hD⟩ := h
  have h4 := Iv0_j h0
  have h5 := Iv0_p h0
  have hj24 : j < 24 := by omega
  have hp3 : p < 3 := by omega
  have hJP := h0.2.2.2.2.2.1 j hj
  have hDoc := Iv0_dj h0 hj
  have hPP := h0.2.2.2.2.2.2 p hp
  obtain ⟨J', Q, q1, q2, q3, q4⟩ := hT.2.2.2.2.1 j hj
  rw [hJ] at q1
  cases q1
  obtain ⟨d1, d2, d3, d4⟩ := hD.1 j J hj hJ
  obtain ⟨-, ⟨D, p2, p3, p4⟩, -⟩ := id q3
  have z1 := vl_nI hDoc.1.2.2.1
  have e1 : gfi g 1 D = nI (dN a (jN a j 6) 1) := (p4 1 (by omega)).trans z1.1
  have hz : dN a (jN a j 6) 1 < 3 := z1.2
  have x1 := vl_nI hx
  have hxl : jN a j 10 < sSH a j := x1.2
  have e2 : gfi g 36 J = nI (jN a j 10) := d2.trans x1.1
  have hSH := SH_le hJP
  have e3 := x_sheetOfCopy q3 hJP (x := jN a j 10) (by omega)
  have e4 := x_sheetsIn hX hp3 hz
  rw [(hD.2.1 p hp).1 _ hz] at e4
  have e5 := x_changeTray hX hp3 hz (a (76 + 10 * p + (3 + dN a (jN a j 6) 1)) - nI 1)
  have T1 : TT S g (sai g 20 (bb S + (6 + p)) (dN a (jN a j 6) 1) (a (76 + 10 * p + (3 + dN a (jN a j 6) 1)) - nI 1)) := TT_sai (by omega) (by omega)
  have D1 := XD_tray h4 h5 hp hz (a (76 + 10 * p + (3 + dN a (jN a j 6) 1)) - nI 1) hD
  have i160 : gfi g 160 (3 * S + p) = nI (pN a p 0) := (hT.2.2.2.2.2 p hp).1.trans (vl_nI hPP.1).1
  have i161 : gfi g 161 (3 * S + p) = nI (pN a p 1) := (hT.2.2.2.2.2 p hp).2.1.trans (vl_nI hPP.2.2.1).1
  have hmem : pN a p 1 < 100000 := by have := (vl_nI hPP.2.2.1).2; unfold pN; omega
  have hgo := T_go_eq (l := l) hj24 hp3 hDoc.2 hz
  have hst := sT_lt hJP hxl
  have hsum := x_ticks (P := p) (x := jN a j 10) hJP hDoc.1
  have hb2 : tkV (pN a p 0) (pN a p 1) (cLV a l j (sT a j (jN a j 10)) 0) + tkV (pN a p 0) (pN a p 1) (if 1 < sdz (jN a j 3) (jN a j 2) then cLV a l j (sT a j (jN a j 10)) 1 else -nI 1) < 2147483648 := by
    have := sTK_le (l := l) (j := j) (x := jN a j 10) hPP
    omega
  have c0 := cLV_cases (t := sT a j (jN a j 10)) (s := 0) hJP hDoc.1
  have c1 : (if 1 < sdz (jN a j 3) (jN a j 2) then cLV a l j (sT a j (jN a j 10)) 1 else -nI 1) = -nI 1 ∨ ∃ L, L < 100000 ∧ (if 1 < sdz (jN a j 3) (jN a j 2) then cLV a l j (sT a j (jN a j 10)) 1 else -nI 1) = nI L := by
    split
    · exact cLV_cases hJP hDoc.1
    · exact Or.inl rfl
  generalize hg1 : sai g 20 (bb S + (6 + p)) (dN a (jN a j 6) 1) (a (76 + 10 * p + (3 + dN a (jN a j 6) 1)) - nI 1) = g1 at *
  have q3' := PlV_TF (TT_TF T1) q3
  have hU1 := XJ_TT T1 hU
  have i160' : gfi g1 160 (3 * S + p) = nI (pN a p 0) := by rw [T1.2.1 _ _ (by unfold oT; omega)]; exact i160
  have i161' : gfi g1 161 (3 * S + p) = nI (pN a p 1) := by rw [T1.2.1 _ _ (by unfold oT; omega)]; exact i161
  have n32 : gfi g1 32 J = nI j := by rw [T1.2.1 _ _ (by unfold oT; omega)]; exact (hU j J hj24 hJ).1
  have e6 := x_loadOn q3' hJP hst (s := 0) (by omega)
  have hs0 := sdz_pos (jN a j 3) (jN a j 2)
  rw [if_pos (by omega)] at e6
  have e7 := x_ticksFor i160' i161' hmem c0
  have e8 := x_loadOn q3' hJP hst (s := 1) (by omega)
  have e9 := x_ticksFor i160' i161' hmem c1
  have hJ1 : gar g1 23 S j = some J := by rw [T1.1.2.2.1]; exact hJ
  have D2 := XD_p166 (by rw [up_ne (by omega)]; exact h4) (by rw [up_ne (by omega)]; exact h5) (p := p) (by rw [up_ne (by omega)]; exact hp) (nI (sTK a l j (jN a j 10) p)) D1
  have D3 := XD_p165 (by rw [up_ne (by omega), up_ne (by omega)]; exact h4) (by rw [up_ne (by omega), up_ne (by omega)]; exact h5) (p := p) (by rw [up_ne (by omega), up_ne (by omega)]; exact hp) (nI j) D2
  have D4 := XD_p164 (by rw [up_ne (by omega), up_ne (by omega), up_ne (by omega)]; exact h4) (by rw [up_ne (by omega), up_ne (by omega), up_ne (by omega)]; exact h5) (p := p) (by rw [up_ne (by omega), up_ne (by omega), up_ne (by omega)]; exact hp) (nI 1) (fun _ => by
    refine ⟨?_, ?_⟩
    · simp (disch := first | assumption | omega) only [e_gfi_sfi, and_self, ↓reduceIte, up_eq]
    · simp (disch := first | assumption | omega) only [e_gfi_sfi, Nat.reduceEqDiff, false_and, and_self, ↓reduceIte, up_eq, up_ne]) D3
  have D5 := XD_j35 (by rw [up_ne (by omega), up_ne (by omega), up_ne (by omega), up_ne (by omega)]; exact h4) (by rw [up_ne (by omega), up_ne (by omega), up_ne (by omega), up_ne (by omega)]; exact h5) (XJ_sfi (by omega) (XJ_sfi (by omega) (XJ_sfi (by omega) hU1))) (by rw [up_ne (by omega), up_ne (by omega), up_ne (by omega), up_ne (by omega)]; exact hj) hJ1 (nI 1) D4
  rw [sfi_comm (f := 165) (f' := 164) (by omega)] at D5
  rw [← hgo] at D5
  refine ⟨_, ?_, ?_, D5⟩
  · simp (disch := first | with_reducible assumption | omega | (simp only [MI_sai_iff, MI_sfi_iff]; with_reducible assumption)) only [li, ↓lr_, ↓bd_m, ↓oc_m, ↓reduceIte, bi_0, bi_0n, bi_1, bi_1n, not_true_eq_false, not_false_eq_true, Nat.reduceAdd, Nat.reduceMul, nI_mul, nI_add, inb_T, ix_nI, le_T, le_F, lt_T, lt_F, eq_F, f8_beginSheet, q2, p2, e1, e2, e3, e4, e5, e6, e7, e8, e9, hsum, e_gfi_sfi, Nat.reduceEqDiff, false_and, n32]
  · refine TT_tr T1 (TT_tr (TT_sfi (oT_p (by omega) (by omega) hp3)) (TT_tr (TT_sfi (oT_p (by omega) (by omega) hp3)) (TT_tr (TT_sfi (oT_p (by omega) (by omega) hp3)) (TT_sfi (oT_j (by omega) (by omega) hj24 hJ1)))))
theorem x_cell {g : GS_} {m c : Nat} (hm : m < 100000000) (hc : c < 4) : f2_cellOf (nI m) (nI c) g = some (nI (4 * (m % 100) + c), g) := by
  have e : jrem (nI m) (nI 100) = nI (m % 100) := rem_nI (by omega) (by omega) (by omega)
  have h : m % 100 < 100 := Nat.mod_lt _ (by omega)
  simp (disch := first | with_reducible assumption | omega | (simp only [MI_sai_iff, MI_sfi_iff]; with_reducible assumption)) only [li, ↓lr_, ↓bd_m, ↓oc_m, ↓reduceIte, bi_0, bi_0n, bi_1, bi_1n, not_true_eq_false, not_false_eq_true, Nat.reduceAdd, Nat.reduceMul, nI_mul, nI_add, inb_T, ix_nI, le_T, le_F, lt_T, lt_F, eq_F, f2_cellOf, e]
  rw [Nat.mul_comm]
theorem x_put {g : GS_} {S m c : Nat} (hX : XSp g S) (hm : m < 100000000) (hc : c < 4) (v : Int32) : f2_put S (nI m) (nI c) v g = some ((), sai g 20 (bb S + 4) (4 * (m % 100) + c) v) := by
  obtain ⟨s1, s2, s3, s4, s5, s6, s7, s8, s9, s10, s11, s12, s13, s14, s15, s16, s17, s18, s19, s20, s21⟩ := hX
  have h : m % 100 < 100 := Nat.mod_lt _ (by omega)
  have e := x_cell (g := g) hm hc
  simp (disch := first | with_reducible assumption | omega | (simp only [MI_sai_iff, MI_sfi_iff]; with_reducible assumption)) only [li, ↓lr_, ↓bd_m, ↓oc_m, ↓reduceIte, bi_0, bi_0n, bi_1, bi_1n, not_true_eq_false, not_false_eq_true, Nat.reduceAdd, Nat.reduceMul, nI_mul, nI_add, inb_T, ix_nI, le_T, le_F, lt_T, lt_F, eq_F, f2_put, e, s17, s18, ofN]
theorem XSp_sai {g : GS_} {S t i k : Nat} {v : Int32} (h : XSp g S) : XSp (sai g t i k v) S := h
theorem x_write {g : GS_} {S m : Nat} {a : Nat → Int32} {F : List Nat} (hX : XSp g S) (h4 : tn (a 4) ≤ 24) (h5 : tn (a 5) ≤ 3) (hD : XD g S a F) (hm : a 6 = nI m) (hl : m < 100000000) (v0 v1 v2 v3 : Int32) :
    ∃ g', f2_write S v0 v1 v2 v3 g = some ((), g') ∧ TT S g g' ∧ XD g' S (up (up (up (up (up a (lgk a) v0) (lgk a + 1) v1) (lgk a + 2) v2) (lgk a + 3) v3) 6 (a 6 + nI 1)) F := by
  have hr : m % 100 < 100 := Nat.mod_lt _ (by omega)
  have n65 : gfi g 65 S = nI m := hD.2.2.1.1.trans hm
  have el : lgk a = 458 + 4 * (m % 100) := by unfold lgk; rw [hm, tn_nI (by omega)]
  have e0 := x_put hX hl (c := 0) (by omega) v0
  have e1 := x_put (XSp_sai (t := 20) (i := bb S + 4) (k := 4 * (m % 100) + 0) (v := v0) hX) hl (c := 1) (by omega) v1
  have e2 := x_put (XSp_sai (t := 20) (i := bb S + 4) (k := 4 * (m % 100) + 1) (v := v1) (XSp_sai (t := 20) (i := bb S + 4) (k := 4 * (m % 100) + 0) (v := v0) hX)) hl (c := 2) (by omega) v2
  have e3 := x_put (XSp_sai (t := 20) (i := bb S + 4) (k := 4 * (m % 100) + 2) (v := v2) (XSp_sai (t := 20) (i := bb S + 4) (k := 4 * (m % 100) + 1) (v := v1) (XSp_sai (t := 20) (i := bb S + 4) (k := 4 * (m % 100) + 0) (v := v0) hX))) hl (c := 3) (by omega) v3
  generalize m % 100 = r at *
  have D1 := XD_row h4 h5 (k := 4 * r + 0) (by omega) v0 hD
  have D2 := XD_row (by rw [up_ne (by omega)]; exact h4) (by rw [up_ne (by omega)]; exact h5) (k := 4 * r + 1) (by omega) v1 D1
  have D3 := XD_row (by rw [up_ne (by omega), up_ne (by omega)]; exact h4) (by rw [up_ne (by omega), up_ne (by omega)]; exact h5) (k := 4 * r + 2) (by omega) v2 D2
  have D4 := XD_row (by rw [up_ne (by omega), up_ne (by omega), up_ne (by omega)]; exact h4) (by rw [up_ne (by omega), up_ne (by omega), up_ne (by omega)]; exact h5) (k := 4 * r + 3) (by omega) v3 D3
  have D5 := XD_tot (by rw [up_ne (by omega), up_ne (by omega), up_ne (by omega), up_ne (by omega)]; exact h4) (by rw [up_ne (by omega), up_ne (by omega), up_ne (by omega), up_ne (by omega)]; exact h5) (a 6 + nI 1) D4
  rw [el]
  refine ⟨_, ?_, ?_, D5⟩
  · simp (disch := first | with_reducible assumption | omega | (simp only [MI_sai_iff, MI_sfi_iff]; with_reducible assumption)) only [li, ↓lr_, ↓bd_m, ↓oc_m, ↓reduceIte, bi_0, bi_0n, bi_1, bi_1n, not_true_eq_false, not_false_eq_true, Nat.reduceAdd, Nat.reduceMul, nI_mul, nI_add, inb_T, ix_nI, le_T, le_F, lt_T, lt_F, eq_F, f2_write, n65, e0, e1, e2, e3, e_gfi_sai, hm]
  · exact TT_tr (TT_sai (by omega) (by omega)) (TT_tr (TT_sai (by omega) (by omega)) (TT_tr (TT_sai (by omega) (by omega)) (TT_tr (TT_sai (by omega) (by omega)) (TT_sfi (oT_s (Or.inl rfl))))))
theorem x_countFor {g : GS_} {S u : Nat} (hX : XSp g S) (hu : u < 6) : f8_countFor S (nI u) g = some ((), sai g 20 (bb S + 3) u (gai g 20 (bb S + 3) u + nI 1)) := by
  obtain ⟨s1, s2, s3, s4, s5, s6, s7, s8, s9, s10, s11, s12, s13, s14, s15, s16, s17, s18, s19, s20, s21⟩ := hX
  simp (disch := first | with_reducible assumption | omega | (simp only [MI_sai_iff, MI_sfi_iff]; with_reducible assumption)) only [li, ↓lr_, ↓bd_m, ↓oc_m, ↓reduceIte, bi_0, bi_0n, bi_1, bi_1n, not_true_eq_false, not_false_eq_true, Nat.reduceAdd, Nat.reduceMul, nI_mul, nI_add, inb_T, ix_nI, le_T, le_F, lt_T, lt_F, eq_F, f8_countFor, s14, s15, ofN]
theorem rq_0 : rq (nI 0) = -nI 1 := if_pos rfl
theorem rq_ne {x : Int32} (h : x ≠ nI 0) : rq x = x := if_neg h
/-- a job stops -/
theorem x_stop {g : GS_} {S j J : Nat} {a : Nat → Int32} {F : List Nat} (hU : XJ g S) (h4 : tn (a 4) ≤ 24) (h5 : tn (a 5) ≤ 3) (hD : XD g S a F) (hj : j < tn (a 4)) (hJ : gar g 23 S j = some J) (hr : a (106 + 13 * j + 12) = nI 0 ∨ a (106 + 13 * j + 12) = nI 2 ∨ a (106 + 13 * j + 12) = nI 4) :
    ∃ g', f1_stopPrinting J (gfi g 271 S) g = some ((), g') ∧ TT S g g' ∧ XD g' S (T_leave a j) F := by
  obtain ⟨d1, d2, d3, d4⟩ := hD.1 j J hj hJ
  have t0 : gfi g 271 S = a 0 := hD.2.2.2.2.1
  have hj24 : j < 24 := by omega
  by_cases c : a (106 + 13 * j + 12) = nI 0
  · have D1 := XD_j35 h4 h5 hU hj hJ (nI 0) hD
    have D2 := XD_j37 (by rw [up_ne (by omega)]; exact h4) (by rw [up_ne (by omega)]; exact h5) (XJ_sfi (by omega) hU) (by rw [up_ne (by omega)]; exact hj) hJ (a 0) D1
    have D3 := XD_j38 (by rw [up_ne (by omega), up_ne (by omega)]; exact h4) (by rw [up_ne (by omega), up_ne (by omega)]; exact h5) (XJ_sfi (by omega) (XJ_sfi (by omega) hU)) (by rw [up_ne (by omega), up_ne (by omega)]; exact hj) hJ (nI 0) D2
    rw [up_self (by rw [up_ne (by omega), up_ne (by omega)]; exact c), rq_0] at D3
    rw [c, rq_0] at d4
    have eT : T_leave a j = up (up a (106 + 13 * j + 9) (nI 0)) (106 + 13 * j + 11) (a 0) := by unfold T_leave T_wait; rw [if_pos c]
    rw [eT]
    refine ⟨_, ?_, ?_, D3⟩
    · simp (disch := first | with_reducible assumption | omega | (simp only [MI_sai_iff, MI_sfi_iff]; with_reducible assumption)) only [li, ↓lr_, ↓bd_m, ↓oc_m, ↓reduceIte, bi_0, bi_0n, bi_1, bi_1n, not_true_eq_false, not_false_eq_true, Nat.reduceAdd, Nat.reduceMul, nI_mul, nI_add, inb_T, ix_nI, le_T, le_F, lt_T, lt_F, eq_F, f1_stopPrinting, d4, f1_awaitFrom, t0, f1_stopPrinting_b24]
    · exact TT_tr (TT_sfi (oT_j (by omega) (by omega) hj24 hJ)) (TT_tr (TT_sfi (oT_j (by omega) (by omega) hj24 hJ)) (TT_sfi (oT_j (by omega) (by omega) hj24 hJ)))
  · have D1 := XD_j35 h4 h5 hU hj hJ (a (106 + 13 * j + 12)) hD
    have D2 := XD_j38 (by rw [up_ne (by omega)]; exact h4) (by rw [up_ne (by omega)]; exact h5) (XJ_sfi (by omega) hU) (by rw [up_ne (by omega)]; exact hj) hJ (nI 0) D1
    rw [rq_0] at D2
    rw [rq_ne c] at d4
    have hn : (a (106 + 13 * j + 12) = -nI 1) = False := by
      rcases hr with w | w | w
      · exact absurd w c
      · rw [w]; exact neg_eq (by omega) (by omega) (by omega)
      · rw [w]; exact neg_eq (by omega) (by omega) (by omega)
    have eT : T_leave a j = up (up a (106 + 13 * j + 9) (a (106 + 13 * j + 12))) (106 + 13 * j + 12) (nI 0) := by unfold T_leave; rw [if_neg c]
    rw [eT]
    refine ⟨_, ?_, ?_, D2⟩
    · simp (disch := first | with_reducible assumption | omega | (simp only [MI_sai_iff, MI_sfi_iff]; with_reducible assumption)) only [li, ↓lr_, ↓bd_m, ↓oc_m, ↓reduceIte, bi_0, bi_0n, bi_1, bi_1n, not_true_eq_false, not_false_eq_true, Nat.reduceAdd, Nat.reduceMul, nI_mul, nI_add, inb_T, ix_nI, le_T, le_F, lt_T, lt_F, eq_F, f1_stopPrinting, d4, hn, f1_stopPrinting_b24]
    · exact TT_tr (TT_sfi (oT_j (by omega) (by omega) hj24 hJ)) (TT_sfi (oT_j (by omega) (by omega) hj24 hJ))
theorem x_isOutranked {g : GS_} {S : Nat} {a l : Nat → Int32} {F : List Nat} (h : SpO g S a l F) {j p J : Nat} (hj : j < tn (a 4)) (hJ : gar g 23 S j = some J) :
    f8_isOutranked S (some J) (jr g S (sBF a p)) g = some (bi ((sBF a p).isSome ∧ ¬ rk a ((sBF a p).getD 0) ≤ nI 10 * a (106 + 13 * j + 4) + a 2), g) := by
  obtain ⟨J', Q, q1, q2, q3, q4⟩ := h.2.2.2.1.2.2.2.2.1 j hj
  rw [hJ] at q1
  cases q1
  have t2 : gfi g 270 S = a 2 := h.2.2.2.1.1.2.2.2.2.1
  cases hb : sBF a p with
  | none =>
    simp (disch := first | with_reducible assumption | omega | (simp only [MI_sai_iff, MI_sfi_iff]; with_reducible assumption)) only [li, ↓lr_, ↓bd_m, ↓oc_m, ↓reduceIte, bi_0, bi_0n, bi_1, bi_1n, not_true_eq_false, not_false_eq_true, Nat.reduceAdd, Nat.reduceMul, nI_mul, nI_add, inb_T, ix_nI, le_T, le_F, lt_T, lt_F, eq_F, jr, f8_isOutranked, f8_isOutranked_b35, bi, Option.isSome_none, Bool.false_eq_true, false_and]
  | some b =>
    have hbl := (sBF_some hb).1
    obtain ⟨Jb, Qb, r1, -⟩ := h.2.2.2.1.2.2.2.2.1 b hbl
    have e := x_rankAt h hbl r1
    have ej : jr g S (some b) = some Jb := r1
    by_cases c : rk a b ≤ nI 10 * a (106 + 13 * j + 4) + a 2
    · simp (disch := first | with_reducible assumption | omega | (simp only [MI_sai_iff, MI_sfi_iff]; with_reducible assumption)) only [li, ↓lr_, ↓bd_m, ↓oc_m, ↓reduceIte, bi_0, bi_0n, bi_1, bi_1n, not_true_eq_false, not_false_eq_true, Nat.reduceAdd, Nat.reduceMul, nI_mul, nI_add, inb_T, ix_nI, le_T, le_F, lt_T, lt_F, eq_F, ej, f8_isOutranked, e, q4, t2, eq_true c, f8_isOutranked_b35, bi, Option.isSome_some, Option.getD_some, and_false]
    · simp (disch := first | with_reducible assumption | omega | (simp only [MI_sai_iff, MI_sfi_iff]; with_reducible assumption)) only [li, ↓lr_, ↓bd_m, ↓oc_m, ↓reduceIte, bi_0, bi_0n, bi_1, bi_1n, not_true_eq_false, not_false_eq_true, Nat.reduceAdd, Nat.reduceMul, nI_mul, nI_add, inb_T, ix_nI, le_T, le_F, lt_T, lt_F, eq_F, ej, f8_isOutranked, e, q4, t2, eq_false c, f8_isOutranked_b35, bi, Option.isSome_some, Option.getD_some, and_self]
