/-! how the reference's numbers move in time -/
def MS (g g' : GS_) : Prop := gfr g' = gfr g ∧ gln g' = gln g ∧ gar g' = gar g ∧ gcn g' = gcn g ∧ ghs g' = ghs g ∧ gsl g' = gsl g ∧ (∀ k, 1 ≤ k → k ≤ 4 → gai g' 20 k = gai g 20 k) ∧ gai g' 21 = gai g 21
theorem MS_rfl {g : GS_} : MS g g := ⟨rfl, rfl, rfl, rfl, rfl, rfl, fun _ _ _ => rfl, rfl⟩
theorem MS_tr {a b c : GS_} (h1 : MS a b) (h2 : MS b c) : MS a c := ⟨h2.1.trans h1.1, h2.2.1.trans h1.2.1, h2.2.2.1.trans h1.2.2.1, h2.2.2.2.1.trans h1.2.2.2.1, h2.2.2.2.2.1.trans h1.2.2.2.2.1, h2.2.2.2.2.2.1.trans h1.2.2.2.2.2.1, fun k k1 k2 => (h2.2.2.2.2.2.2.1 k k1 k2).trans (h1.2.2.2.2.2.2.1 k k1 k2), h2.2.2.2.2.2.2.2.trans h1.2.2.2.2.2.2.2⟩
theorem MS_SC {g g' : GS_} (h : SC g g') : MS g g' := ⟨h.1, h.2.2.2.1, h.2.2.1, h.2.2.2.2.1, h.2.2.2.2.2.1, h.2.2.2.2.2.2, fun k _ _ => by rw [h.2.1], by rw [h.2.1]⟩
theorem MS_sfi {g : GS_} {f i : Nat} {v : Int32} : MS g (sfi g f i v) := MS_SC SC_sfi
theorem MS_sai {g : GS_} {i j : Nat} {v : Int32} (h : i = 0 ∨ 5 ≤ i) : MS g (sai g 20 i j v) :=
  ⟨rfl, rfl, rfl, rfl, rfl, rfl, fun k h1 h2 => up_sai_ne g 20 i j k v (by omega), by funext i' j'; simp [e_gai_sai]⟩
theorem MI_MS {g g' : GS_} (h : MI g) (h1 : MS g g') : MI g' := MI_eq h h1.1 h1.2.1
/-- the list of finished jobs stands as it stood -/
def FS (g g' : GS_) : Prop := gfi g' 341 0 = gfi g 341 0 ∧ gai g' 20 9 = gai g 20 9
theorem FS_tr {a b c : GS_} (h1 : FS a b) (h2 : FS b c) : FS a c := ⟨h2.1.trans h1.1, h2.2.trans h1.2⟩
theorem FS_rfl {g : GS_} : FS g g := ⟨rfl, rfl⟩
theorem FS_sai {g : GS_} {k : Nat} {v : Int32} : FS g (sai g 20 0 k v) := ⟨rfl, up_sai_ne g 20 0 k 9 v (by omega)⟩
def dyn (k : Nat) : Prop := k = 0 ∨ k = 6 ∨ (20 ≤ k ∧ k < 26) ∨ (76 ≤ k ∧ k < 106 ∧ 3 ≤ (k - 76) % 10) ∨ (106 ≤ k ∧ k < 418 ∧ 9 ≤ (k - 106) % 13) ∨ 458 ≤ k
def sta (a a' : Nat → Int32) : Prop := ∀ k, ¬ dyn k → a' k = a k
theorem sta_rfl {a : Nat → Int32} : sta a a := fun _ _ => rfl
theorem sta_tr {a b c : Nat → Int32} (h1 : sta a b) (h2 : sta b c) : sta a c := fun k hk => (h2 k hk).trans (h1 k hk)
theorem sta_up {a : Nat → Int32} {k : Nat} {v : Int32} (h : dyn k) : sta a (up a k v) := fun i hi => up_ne (fun e => hi (e ▸ h))
theorem sta_sc {a a' : Nat → Int32} (h : sta a a') {k : Nat} (hk : k = 1 ∨ k = 2 ∨ k = 3 ∨ k = 4 ∨ k = 5 ∨ (7 ≤ k ∧ k < 20) ∨ (26 ≤ k ∧ k < 76) ∨ (418 ≤ k ∧ k < 458)) : a' k = a k := h k (by unfold dyn; omega)
theorem sta_j {a a' : Nat → Int32} (h : sta a a') {j w : Nat} (hj : j < 24) (hw : w < 9) : a' (106 + 13 * j + w) = a (106 + 13 * j + w) := h _ (by unfold dyn; omega)
theorem sta_p {a a' : Nat → Int32} (h : sta a a') {p w : Nat} (hp : p < 3) (hw : w < 3) : a' (76 + 10 * p + w) = a (76 + 10 * p + w) := h _ (by unfold dyn; omega)
theorem sta_d {a a' : Nat → Int32} (h : sta a a') {d w : Nat} (hd : d < 10) (hw : w < 5) : a' (26 + 5 * d + w) = a (26 + 5 * d + w) := h _ (by unfold dyn; omega)
theorem sta_jN {a a' : Nat → Int32} (h : sta a a') {j w : Nat} (hj : j < 24) (hw : w < 9) : jN a' j w = jN a j w := by unfold jN; rw [sta_j h hj hw]
theorem sta_dN {a a' : Nat → Int32} (h : sta a a') {d w : Nat} (hd : d < 10) (hw : w < 5) : dN a' d w = dN a d w := by unfold dN; rw [sta_d h hd hw]
theorem sta_pN {a a' : Nat → Int32} (h : sta a a') {p w : Nat} (hp : p < 3) (hw : w < 3) : pN a' p w = pN a p w := by unfold pN; rw [sta_p h hp hw]
theorem sta_SH {a a' : Nat → Int32} (h : sta a a') {j : Nat} (hj : j < 24) : sSH a' j = sSH a j := by
  unfold sSH sSC
  rw [sta_jN h hj (by omega), sta_jN h hj (by omega), sta_jN h hj (by omega), sta_jN h hj (by omega)]
theorem sta_Job {a a' l : Nat → Int32} (h : sta a a') {j : Nat} (hj : j < 24) (hJ : JobPl a l j) : JobPl a' l j := by
  unfold JobPl
  rw [sta_SH h hj, sta_sc h (k := 3) (by omega)]
  simp (disch := omega) only [sta_j h hj, sta_jN h hj]
  exact hJ
theorem sta_Doc {a a' : Nat → Int32} (h : sta a a') {d : Nat} (hd : d < 10) (hD : DocOk a d) : DocOk a' d := by
  unfold DocOk
  simp (disch := omega) only [sta_d h hd, sta_dN h hd]
  exact hD
theorem sta_Pr {a a' : Nat → Int32} (h : sta a a') {p : Nat} (hp : p < 3) (hP : PrPl a p) : PrPl a' p := by
  unfold PrPl
  simp (disch := omega) only [sta_p h hp, sta_pN h hp]
  exact hP
theorem sta_wgt {a a' : Nat → Int32} (h : sta a a') {d q : Nat} (hd : d < 10) : wgt a' d q = wgt a d q := by
  unfold wgt
  rw [sta_dN h hd (by omega), sta_dN h hd (by omega), sta_dN h hd (by omega)]
theorem sta_PG {a a' l : Nat → Int32} (h : sta a a') {j : Nat} (hj : j < 24) : sPG a' l j = sPG a l j := by
  funext x side pos
  unfold sPG sPGc sEL sT sSC
  simp (disch := omega) only [sta_jN h hj]
theorem sta_TK {a a' l : Nat → Int32} (h : sta a a') {j x p : Nat} (hj : j < 24) (hp : p < 3) (hd : jN a j 6 < 10) : sTK a' l j x p = sTK a l j x p := by
  have hw : wgt a' (jN a j 6) = wgt a (jN a j 6) := funext fun q => sta_wgt h hd
  unfold sTK sBD sLD sBL
  simp (disch := omega) only [sta_jN h hj, sta_pN h hp, sta_PG h hj, hw]
-- the moves
def T_wait (a : Nat → Int32) (j : Nat) : Nat → Int32 := up (up a (106 + 13 * j + 9) (nI 0)) (106 + 13 * j + 11) (a 0)
def T_leave (a : Nat → Int32) (j : Nat) : Nat → Int32 := if a (106 + 13 * j + 12) = nI 0 then T_wait a j else up (up a (106 + 13 * j + 9) (a (106 + 13 * j + 12))) (106 + 13 * j + 12) (nI 0)
def trk (a : Nat → Int32) (j p : Nat) : Nat := 76 + 10 * p + (3 + dN a (jN a j 6) 1)
def T_begin (a l : Nat → Int32) (j p : Nat) : Nat → Int32 := up (up a (trk a j p) (a (trk a j p) - nI 1)) (76 + 10 * p + 8) (nI (sTK a l j (jN a j 10) p))
def lgk (a : Nat → Int32) : Nat := 458 + 4 * (tn (a 6) % 100)
def T_rec (a : Nat → Int32) (j p : Nat) : Nat → Int32 :=
  up (up (up (up (up (up (up a (lgk a) (a 0)) (lgk a + 1) (nI p)) (lgk a + 2) (nI j)) (lgk a + 3) (a (106 + 13 * j + 10))) 6 (a 6 + nI 1)) (20 + jN a j 5) (a (20 + jN a j 5) + nI 1)) (106 + 13 * j + 10) (a (106 + 13 * j + 10) + nI 1)
abbrev TS : Type := (Nat → Int32) × List Nat
def T_end2 (a l : Nat → Int32) (F : List Nat) (j p : Nat) : TS :=
  if a (106 + 13 * j + 10) = a (106 + 13 * j + 8) then (up (up (up a (106 + 13 * j + 9) (nI 3)) (106 + 13 * j + 12) (nI 0)) (76 + 10 * p + 6) (nI 0), F ++ [j])
  else if a (106 + 13 * j + 12) = nI 0 then
    (if a (trk a j p) = nI 0 ∨ a (14 + jN a j 5) ≤ a (20 + jN a j 5) then (up (T_wait a j) (76 + 10 * p + 6) (nI 0), F)
      else if (sBF a p).isSome ∧ ¬ rk a ((sBF a p).getD 0) ≤ nI 10 * a (106 + 13 * j + 4) + a 2 then (up (T_wait a j) (76 + 10 * p + 6) (nI 0), F) else (T_begin a l j p, F))
  else (up (T_leave a j) (76 + 10 * p + 6) (nI 0), F)
def T_end (s : TS) (l : Nat → Int32) (j p : Nat) : TS := T_end2 (T_rec s.1 j p) l s.2 j p
def T_p1b (a l : Nat → Int32) (F : List Nat) (p : Nat) : TS := if a (76 + 10 * p + 8) = nI 0 then T_end (a, F) l (pN a p 7) p else (a, F)
def T_p1 (l : Nat → Int32) (s : TS) (p : Nat) : TS := if s.1 (76 + 10 * p + 6) = nI 1 then T_p1b (up s.1 (76 + 10 * p + 8) (s.1 (76 + 10 * p + 8) - nI 1)) l s.2 p else s
def T_go (a l : Nat → Int32) (b p : Nat) : Nat → Int32 := T_begin (up (up (up a (106 + 13 * b + 9) (nI 1)) (76 + 10 * p + 6) (nI 1)) (76 + 10 * p + 7) (nI b)) l b p
def T_p2 (l : Nat → Int32) (s : TS) (p : Nat) : TS := if s.1 (76 + 10 * p + 6) = nI 0 ∧ (sBF s.1 p).isSome then (T_go s.1 l ((sBF s.1 p).getD 0) p, s.2) else s
def T_ph (f : TS → Nat → TS) (n : Nat) (s : TS) : TS := match n with
  | 0 => s
  | n + 1 => f (T_ph f n s) n
theorem T_ph_0 (f : TS → Nat → TS) (s : TS) : T_ph f 0 s = s := rfl
theorem T_ph_s (f : TS → Nat → TS) (n : Nat) (s : TS) : T_ph f (n + 1) s = f (T_ph f n s) n := rfl
def T_time (s : TS) : TS := (up s.1 0 (s.1 0 + nI 1), s.2)
def T_tick (l : Nat → Int32) (s : TS) : TS := T_ph (T_p2 l) (tn (s.1 5)) (T_ph (T_p1 l) (tn (s.1 5)) (T_time s))
-- what they do not touch
theorem dyn_j {j w : Nat} (hj : j < 24) (h1 : 9 ≤ w) (h2 : w < 13) : dyn (106 + 13 * j + w) := by unfold dyn; omega
theorem dyn_p {p w : Nat} (hp : p < 3) (h1 : 3 ≤ w) (h2 : w < 10) : dyn (76 + 10 * p + w) := by unfold dyn; omega
theorem sta_wait {a : Nat → Int32} {j : Nat} (hj : j < 24) : sta a (T_wait a j) := sta_tr (sta_up (dyn_j hj (by omega) (by omega))) (sta_up (dyn_j hj (by omega) (by omega)))
theorem sta_leave {a : Nat → Int32} {j : Nat} (hj : j < 24) : sta a (T_leave a j) := by
  unfold T_leave
  split
  · exact sta_wait hj
  · exact sta_tr (sta_up (dyn_j hj (by omega) (by omega))) (sta_up (dyn_j hj (by omega) (by omega)))
theorem sta_begin {a l : Nat → Int32} {j p : Nat} (hp : p < 3) (hz : dN a (jN a j 6) 1 < 3) : sta a (T_begin a l j p) := sta_tr (sta_up (dyn_p hp (by omega) (by omega))) (sta_up (dyn_p hp (by omega) (by omega)))
theorem sta_rec {a : Nat → Int32} {j p : Nat} (hj : j < 24) (hu : jN a j 5 < 6) : sta a (T_rec a j p) := by
  unfold T_rec
  have hk : 458 ≤ lgk a := by unfold lgk; omega
  exact sta_tr (sta_tr (sta_tr (sta_tr (sta_tr (sta_tr (sta_up (by unfold dyn; omega)) (sta_up (by unfold dyn; omega))) (sta_up (by unfold dyn; omega))) (sta_up (by unfold dyn; omega))) (sta_up (by unfold dyn; omega))) (sta_up (by unfold dyn; omega))) (sta_up (dyn_j hj (by omega) (by omega)))
theorem sta_end2 {a l : Nat → Int32} {F : List Nat} {j p : Nat} (hj : j < 24) (hp : p < 3) (hz : dN a (jN a j 6) 1 < 3) : sta a (T_end2 a l F j p).1 := by
  have h6 : ∀ b : Nat → Int32, sta b (up b (76 + 10 * p + 6) (nI 0)) := fun b => sta_up (dyn_p hp (by omega) (by omega))
  unfold T_end2
  split
  · exact sta_tr (sta_tr (sta_up (dyn_j hj (by omega) (by omega))) (sta_up (dyn_j hj (by omega) (by omega)))) (h6 _)
  · split
    · split
      · exact sta_tr (sta_wait hj) (h6 _)
      · split
        · exact sta_tr (sta_wait hj) (h6 _)
        · exact sta_begin hp hz
    · exact sta_tr (sta_leave hj) (h6 _)
-- the reference does them
theorem m_becomeWaiting {g : GS_} (h : MI g) {j : Nat} (hj : j < 24) : ∃ g', f10_becomeWaiting 0 (nI j) g = some ((), g') ∧ MS g g' ∧ FS g g' ∧ gai g' 20 0 = T_wait (gai g 20 0) j := by
  have e1 := m_setJob h hj (w := 9) (by omega) (nI 0)
  have h2 : MI (sai g 20 0 (106 + 13 * j + 9) (nI 0)) := h
  have e2 := m_setJob h2 hj (w := 11) (by omega) (gai (sai g 20 0 (106 + 13 * j + 9) (nI 0)) 20 0 0)
  simp (disch := first | assumption | omega) only [li, bd_some, bd_none, oc_some, oc_none, lr_, ↓reduceIte, bi_0, bi_0n, bi_1, bi_1n, npp, if_pos, if_neg, not_true_eq_false, not_false_eq_true, Nat.reduceAdd, Nat.reduceMul, f10_becomeWaiting, e1, MI_a h2, MI_n h2, nI_mul, nI_add, inb_nI, ix_nI, e2]
  refine ⟨_, rfl, MS_tr (MS_sai (Or.inl rfl)) (MS_sai (Or.inl rfl)), FS_tr FS_sai FS_sai, ?_⟩
  rw [up_sai, up_sai]
  unfold T_wait
  rw [up_ne (k := 106 + 13 * j + 9) (i := 0) (by omega)]
theorem m_leave {g : GS_} (h : MI g) {j : Nat} (hj : j < 24) : ∃ g', f10_leave 0 (nI j) g = some ((), g') ∧ MS g g' ∧ FS g g' ∧ gai g' 20 0 = T_leave (gai g 20 0) j := by
  have e0 := m_ofJob h hj (w := 12) (by omega)
  by_cases hr : gai g 20 0 (106 + 13 * j + 12) = nI 0
  · obtain ⟨g1, f1, f2, f3, f4⟩ := m_becomeWaiting h hj
    refine ⟨g1, ?_, f2, f3, ?_⟩
    · simp (disch := first | assumption | omega) only [li, bd_some, bd_none, oc_some, oc_none, lr_, ↓reduceIte, bi_0, bi_0n, bi_1, bi_1n, npp, if_pos, if_neg, not_true_eq_false, not_false_eq_true, Nat.reduceAdd, Nat.reduceMul, f10_leave, e0, hr, f1]
    · rw [f4]; unfold T_leave; rw [if_pos hr]
  · have e1 := m_setJob h hj (w := 9) (by omega) (gai g 20 0 (106 + 13 * j + 12))
    have h2 : MI (sai g 20 0 (106 + 13 * j + 9) (gai g 20 0 (106 + 13 * j + 12))) := h
    have e2 := m_setJob h2 hj (w := 12) (by omega) (nI 0)
    refine ⟨_, by simp (disch := first | assumption | omega) only [li, bd_some, bd_none, oc_some, oc_none, lr_, ↓reduceIte, bi_0, bi_0n, bi_1, bi_1n, npp, if_pos, if_neg, not_true_eq_false, not_false_eq_true, Nat.reduceAdd, Nat.reduceMul, f10_leave, e0, hr, e1, e2]; rfl, MS_tr (MS_sai (Or.inl rfl)) (MS_sai (Or.inl rfl)), FS_tr FS_sai FS_sai, ?_⟩
    rw [up_sai, up_sai]
    unfold T_leave
    rw [if_neg hr]
theorem m_begin {g : GS_} (h : MI g) {j p : Nat} (hj : j < 24) (hp : p < 3) (hJ : JobPl (gai g 20 0) (gai g 20 2) j) (hD : DocOk (gai g 20 0) (jN (gai g 20 0) j 6)) (hd : jN (gai g 20 0) j 6 < 10) (hP : PrPl (gai g 20 0) p) (hv : vl (gai g 20 0 (106 + 13 * j + 10)) (sSH (gai g 20 0) j)) :
    ∃ g', f10_begin 0 (nI j) (nI p) g = some ((), g') ∧ MS g g' ∧ FS g g' ∧ gai g' 20 0 = T_begin (gai g 20 0) (gai g 20 2) j p := by
  generalize ha : gai g 20 0 = a at *
  obtain ⟨dd, hdd, hdl⟩ := vl_ex hJ.2.2.2.2.2.2.2.1
  have ed : jN a j 6 = dd := tn_of hdd (by have := tn_lt (x := a 3); omega)
  rw [ed] at hD hd
  obtain ⟨z, hz, hzl⟩ := vl_ex hD.2.2.1
  have ez : dN a dd 1 = z := tn_of hz (by omega)
  obtain ⟨x, hx, hxl⟩ := vl_ex hv
  have ex : jN a j 10 = x := tn_of hx (by
    have := scz_le (lay := jN a j 3) (sid := jN a j 2) (m := jN a j 7) (by have := (vl_nI hJ.2.2.2.2.2.2.2.2.1).2; unfold jN; omega)
    have h2 : jN a j 0 ≤ 10 := by have := (vl_nI hJ.1).2; unfold jN; omega
    have h3 := Nat.mul_le_mul h2 this
    have h4 : sSH a j = jN a j 0 * scz (jN a j 3) (jN a j 2) (jN a j 7) := rfl
    omega)
  have e1 := m_ofJob h hj (w := 6) (by omega)
  have e2 := m_ofDocument h hd (w := 1) (by omega)
  have e3 := m_ofPrinter h hp (w := 3 + z) (by omega)
  rw [ha] at e1 e2 e3
  rw [hdd] at e1
  rw [hz] at e2
  have et : trk a j p = 76 + 10 * p + (3 + z) := by unfold trk; rw [ed, ez]
  have e4 := m_setPrinter h hp (w := 3 + z) (by omega) (a (76 + 10 * p + (3 + z)) - nI 1)
  have h1 : MI (sai g 20 0 (76 + 10 * p + (3 + z)) (a (76 + 10 * p + (3 + z)) - nI 1)) := h
  have hg1 : gai (sai g 20 0 (76 + 10 * p + (3 + z)) (a (76 + 10 * p + (3 + z)) - nI 1)) 20 0 = up a (76 + 10 * p + (3 + z)) (a (76 + 10 * p + (3 + z)) - nI 1) := by rw [up_sai, ha]
  have hg2 : gai (sai g 20 0 (76 + 10 * p + (3 + z)) (a (76 + 10 * p + (3 + z)) - nI 1)) 20 2 = gai g 20 2 := up_sai_ne _ _ _ _ _ _ (by omega)
  have hsta : sta a (up a (76 + 10 * p + (3 + z)) (a (76 + 10 * p + (3 + z)) - nI 1)) := sta_up (dyn_p hp (by omega) (by omega))
  have e5 := m_ofJob h1 hj (w := 10) (by omega)
  rw [hg1, up_ne (by omega), hx] at e5
  obtain ⟨g2, f1, f2, f3⟩ := m_ticksFor (x := x) h1 hj hp (by rw [hg1, hg2]; exact sta_Job hsta hj hJ) (by rw [hg1, sta_jN hsta hj (by omega), ed]; exact sta_Doc hsta hd hD) (by rw [hg1, sta_jN hsta hj (by omega), ed]; exact hd) (by rw [hg1]; exact sta_Pr hsta hp hP) (by rw [hg1, sta_SH hsta hj]; exact hxl)
  rw [hg1, hg2, sta_TK hsta hj hp (by rw [ed]; exact hd)] at f1
  have h3 := MI_SC h1 f2
  have e6 := m_setPrinter h3 hp (w := 8) (by omega) (nI (sTK a (gai g 20 2) j x p))
  refine ⟨_, by simp (disch := first | assumption | omega) only [li, bd_some, bd_none, oc_some, oc_none, lr_, ↓reduceIte, bi_0, bi_0n, bi_1, bi_1n, npp, if_pos, if_neg, not_true_eq_false, not_false_eq_true, Nat.reduceAdd, Nat.reduceMul, f10_begin, e1, e2, nI_add, e3, e4, e5, f1, e6]; rfl, MS_tr (MS_sai (Or.inl rfl)) (MS_tr (MS_SC f2) (MS_sai (Or.inl rfl))), FS_tr FS_sai (FS_tr ⟨f3 341 (by omega), by rw [f2.2.1]⟩ FS_sai), ?_⟩
  rw [up_sai, f2.2.1, hg1]
  unfold T_begin
  rw [et, ex]
