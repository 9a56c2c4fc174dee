/-! the reference's tick is the pure one -/
theorem bd_m {α β : Type} (x : Option (α × GS_)) (f : α → GS_ → Option β) : bd_ x f = match x with
    | some (a, g) => f a g
    | none => none := by cases x <;> rfl
theorem oc_m {β : Type} (x : Option Nat) (a : β) (b : Nat → β) : oc_ x a b = match x with
    | some n => b n
    | none => a := by cases x <;> rfl
theorem inb_T {k n : Nat} (h : k < n) (h2 : k < 2147483648) : inb (nI k) n = True := eq_true ((inb_nI h2).mpr h)
theorem le_T {a b : Nat} (h : a ≤ b) (hb : b < 2147483648) : (nI a ≤ nI b) = True := eq_true ((le_nI (by omega) hb).mpr h)
theorem le_F {a b : Nat} (h : b < a) (hb : a < 2147483648) : (nI a ≤ nI b) = False := eq_false fun e => by have := (le_nI (a := a) (b := b) hb (by omega)).mp e; omega
theorem lt_T {a b : Nat} (h : a < b) (hb : b < 2147483648) : (nI a < nI b) = True := eq_true ((lt_nI (by omega) hb).mpr h)
theorem lt_F {a b : Nat} (h : b ≤ a) (hb : a < 2147483648) : (nI a < nI b) = False := eq_false fun e => by have := (lt_nI (a := a) (b := b) hb (by omega)).mp e; omega
theorem eq_F {a b : Nat} (h : a ≠ b) (ha : a < 2147483648) (hb : b < 2147483648) : (nI a = nI b) = False := eq_false fun e => h ((eq_nI ha hb).mp e)
theorem MI_sai_iff {g : GS_} {t i j : Nat} {v : Int32} : MI (sai g t i j v) = MI g := rfl
theorem MI_sfi_iff {g : GS_} {f i : Nat} {v : Int32} : MI (sfi g f i v) = MI g := rfl
theorem m_record {g : GS_} (h : MI g) {j p m : Nat} (hj : j < 24) (hp : p < 3) (hu : vl (gai g 20 0 (106 + 13 * j + 5)) 6) (hm : gai g 20 0 6 = nI m) (hl : m < 100000000) :
    ∃ g', f10_record 0 (nI j) (nI p) g = some ((), g') ∧ MS g g' ∧ FS g g' ∧ gai g' 20 0 = T_rec (gai g 20 0) j p := by
  obtain ⟨u, hu1, hu2⟩ := vl_ex hu
  have eu : jN (gai g 20 0) j 5 = u := tn_of hu1 (by omega)
  have el : lgk (gai g 20 0) = 458 + 4 * (m % 100) := by unfold lgk; rw [hm, tn_nI (by omega)]
  have hr : m % 100 < 100 := Nat.mod_lt _ (by omega)
  have ej : jrem (nI m) (nI 100) = nI (m % 100) := rem_nI (by omega) (by omega) (by omega)
  have eN := MI_n h
  have eA := MI_a h
  unfold T_rec
  rw [eu, el]
  generalize m % 100 = r at *
  refine ⟨_, by simp (disch := first | with_reducible assumption | omega | (simp only [MI_sai_iff, MI_sfi_iff]; with_reducible assumption)) only [li, ↓lr_, ↓bd_m, ↓oc_m, ↓reduceIte, bi_0, bi_0n, bi_1, bi_1n, not_true_eq_false, not_false_eq_true, Nat.reduceAdd, Nat.reduceMul, nI_mul, nI_add, inb_T, ix_nI, le_T, le_F, lt_T, lt_F, eq_F, f10_record, eA, eN, e_gfr_sai, e_gln_sai, hm, ej, up_sai, m_ofJob, m_setJob, up_ne, hu1]; rfl, ?_, ?_, ?_⟩
  · exact MS_tr (MS_tr (MS_tr (MS_tr (MS_tr (MS_tr (MS_sai (Or.inl rfl)) (MS_sai (Or.inl rfl))) (MS_sai (Or.inl rfl))) (MS_sai (Or.inl rfl))) (MS_sai (Or.inl rfl))) (MS_sai (Or.inl rfl))) (MS_sai (Or.inl rfl))
  · exact FS_tr (FS_tr (FS_tr (FS_tr (FS_tr (FS_tr FS_sai FS_sai) FS_sai) FS_sai) FS_sai) FS_sai) FS_sai
  · simp only [up_sai, hm, hu1, nI_add]
/-- how the list of finished jobs is held -/
def Fst (g : GS_) (F : List Nat) : Prop := gfi g 341 0 = nI F.length ∧ ∀ i x, F[i]? = some x → gai g 20 9 i = nI x
theorem Fst_FS {g g' : GS_} {F : List Nat} (h : FS g g') (hF : Fst g F) : Fst g' F := ⟨h.1.trans hF.1, fun i x hi => by rw [h.2]; exact hF.2 i x hi⟩
theorem Fst_add {g g' : GS_} {F : List Nat} {j : Nat} (h1 : gfi g' 341 0 = gfi g 341 0 + nI 1) (h2 : gai g' 20 9 = up (gai g 20 9) (F.length % 24) (nI j)) (hF : Fst g F) (hl : (F ++ [j]).length ≤ 24) : Fst g' (F ++ [j]) := by
  have hl2 : F.length + 1 ≤ 24 := by simpa using hl
  have e : F.length % 24 = F.length := Nat.mod_eq_of_lt (by omega)
  rw [e] at h2
  refine ⟨?_, ?_⟩
  · rw [h1, hF.1, nI_add]
    simp
  · intro i x hi
    rw [h2]
    by_cases hh : i = F.length
    · subst hh
      rw [up_eq rfl]
      simp at hi
      rw [hi]
    · rw [up_ne hh]
      apply hF.2
      have hlt : i < F.length := by
        have := (List.getElem?_eq_some_iff.mp hi).1
        simp at this
        omega
      rw [List.getElem?_append_left hlt] at hi
      exact hi
theorem up_saiG (g : GS_) (t p k : Nat) (v : Int32) : gai (sai g t p k v) t p = up (gai g t p) k v := by
  funext i
  rw [e_gai_sai]
  unfold up
  simp only [true_and]
theorem gai_sfi (g : GS_) (f i : Nat) (v : Int32) : gai (sfi g f i v) = gai g := rfl
theorem neg6_lt : (-nI 6 < nI 0) = True := by decide
/-- what a part of the reference's tick does -/
def TStep (g g' : GS_) (c : Nat) (f : List Nat → TS) : Prop := MS g g' ∧ (∃ c', gfi g' 341 0 = nI c' ∧ c' ≤ c + 1) ∧ ∀ F, gai g' 20 0 = (f F).1 ∧ (Fst g F → (f F).2.length ≤ 24 → Fst g' (f F).2)
theorem m_endSheet {g : GS_} (h : MI g) {j p m c : Nat} (h0 : Iv0 (gai g 20 0) (gai g 20 2)) (hE : PE (gai g 20 0) j p) (hm : gai g 20 0 6 = nI m) (hl : m < 100000000) (hc : gfi g 341 0 = nI c) (hcl : c < 100000000) :
    ∃ g', f10_endSheet 0 (nI j) (nI p) g = some ((), g') ∧ TStep g g' c (fun F => T_end (gai g 20 0, F) (gai g 20 2) j p) := by
  obtain ⟨hj, hp, hJS, hPS, hTr, hUq, h6, h7, h9⟩ := hE
  have hnj := Iv0_j h0
  have hnp := Iv0_p h0
  have hJ := h0.2.2.2.2.2.1 j hj
  have hDoc := Iv0_dj h0 hj
  have hu : jN (gai g 20 0) j 5 < 6 := (vl_nI hJ.2.2.2.2.2.2.1).2
  obtain ⟨g1, f1, f2, f3, f4⟩ := m_record (p := p) h (show j < 24 by omega) (show p < 3 by omega) hJ.2.2.2.2.2.2.1 hm hl
  have hM1 := MI_MS h f2
  have hl1 : gai g1 20 2 = gai g 20 2 := f2.2.2.2.2.2.2.1 2 (by omega) (by omega)
  have s1 : sta (gai g 20 0) (T_rec (gai g 20 0) j p) := sta_rec (by omega) hu
  have i1 := Iv0_sta s1 h0
  have e4 : T_rec (gai g 20 0) j p 4 = gai g 20 0 4 := sta_sc s1 (by omega)
  have hS := hJS j hj
  have hSH := SH_le hJ
  have hx := vl_nI hS.2.2.1
  have hxl : jN (gai g 20 0) j 10 < sSH (gai g 20 0) j := hS.2.2.2.1 (by rw [h9, ne_eq, eq_nI (by omega) (by omega)]; omega)
  have r10 : T_rec (gai g 20 0) j p (106 + 13 * j + 10) = nI (jN (gai g 20 0) j 10 + 1) := by
    rw [rec_10, hx.1, nI_add]
    rfl
  have hc1 : gfi g1 341 0 = nI c := f3.1.trans hc
  have r8 : T_rec (gai g 20 0) j p (106 + 13 * j + 8) = nI (sSH (T_rec (gai g 20 0) j p) j) := (i1.2.2.2.2.2.1 j (by rw [e4]; exact hj)).2.2.2.2.2.2.2.2.2.2.1
  have hSHr : sSH (T_rec (gai g 20 0) j p) j = sSH (gai g 20 0) j := sta_SH s1 (by omega)
  show ∃ g', f10_endSheet 0 (nI j) (nI p) g = some ((), g') ∧ TStep g g' c (fun F => T_end2 (T_rec (gai g 20 0) j p) (gai g 20 2) F j p)
  generalize hr : T_rec (gai g 20 0) j p = r at *
  have hj1 : j < tn (r 4) := by rw [e4]; exact hj
  have hJ1 := i1.2.2.2.2.2.1 j hj1
  have hDoc1 := Iv0_dj i1 hj1
  have hj24 : j < 24 := by omega
  have hp3 : p < 3 := by omega
  have eJ : ∀ w, w < 13 → f10_ofJob 0 (nI j) (nI w) g1 = some (r (106 + 13 * j + w), g1) := fun w hw => by rw [m_ofJob hM1 hj24 hw, f4]
  have e8 : TStep g g1 c (fun F => (r, F)) := ⟨f2, ⟨c, hc1, by omega⟩, fun F => ⟨f4, fun q _ => Fst_FS f3 q⟩⟩
  -- the printer stops
  have stop : ∀ g2 (b : Nat → Int32), MI g2 → MS g1 g2 → FS g1 g2 → gai g2 20 0 = b → ∃ g3, f10_endSheet_b157 0 (nI p) g2 = some ((), g3) ∧ TStep g g3 c (fun F => (up b (76 + 10 * p + 6) (nI 0), F)) := by
    intro g2 b k1 k2 k3 k4
    refine ⟨_, by simp (disch := first | with_reducible assumption | omega | (simp only [MI_sai_iff, MI_sfi_iff]; with_reducible assumption)) only [li, ↓lr_, ↓bd_m, ↓oc_m, ↓reduceIte, bi_0, bi_0n, bi_1, bi_1n, not_true_eq_false, not_false_eq_true, Nat.reduceAdd, Nat.reduceMul, nI_mul, nI_add, inb_T, ix_nI, le_T, le_F, lt_T, lt_F, eq_F, f10_endSheet_b157, m_setPrinter k1 hp3]; rfl, MS_tr f2 (MS_tr k2 (MS_sai (Or.inl rfl))), ⟨c, k3.1.trans hc1, by omega⟩, fun F => ⟨?_, fun q _ => Fst_FS (FS_tr f3 (FS_tr k3 FS_sai)) q⟩⟩
    show gai (sai g2 20 0 (76 + 10 * p + 6) (nI 0)) 20 0 = _
    rw [up_sai, k4]
  by_cases c1 : r (106 + 13 * j + 10) = r (106 + 13 * j + 8)
  · have hk := hM1
    have ej : jrem (nI c) (nI 24) = nI (c % 24) := rem_nI (by omega) (by omega) (by omega)
    have hr24 : c % 24 < 24 := Nat.mod_lt _ (by omega)
    have efin : gfr g1 340 0 = some 9 := by obtain ⟨-, -, -, -, -, -, -, -, -, -, k, -⟩ := hM1; exact k
    have elen : gln g1 20 9 = 24 := by rw [f2.2.1]; obtain ⟨-, -, -, -, -, -, -, -, -, -, -, k⟩ := h; simp only [k]
    refine ⟨_, by simp (disch := first | with_reducible assumption | omega | (simp only [MI_sai_iff, MI_sfi_iff]; with_reducible assumption)) only [li, ↓lr_, ↓bd_m, ↓oc_m, ↓reduceIte, bi_0, bi_0n, bi_1, bi_1n, not_true_eq_false, not_false_eq_true, Nat.reduceAdd, Nat.reduceMul, nI_mul, nI_add, inb_T, ix_nI, le_T, le_F, lt_T, lt_F, eq_F, f10_endSheet, f1, eJ, eq_true c1, m_setJob, efin, elen, e_gfr_sai, e_gln_sai, e_gfi_sai, hc1, ej, f10_endSheet_b157, m_setPrinter]; rfl, ?_, ⟨c + 1, ?_, by omega⟩, ?_⟩
    · refine MS_tr f2 (MS_tr (MS_sai (Or.inl rfl)) (MS_tr (MS_sai (Or.inl rfl)) (MS_tr (MS_sai (by omega)) (MS_tr MS_sfi (MS_sai (Or.inl rfl))))))
    · simp (disch := first | assumption | omega) only [e_gfi_sai, e_gfi_sfi, and_self, ↓reduceIte, nI_add, hc1]
    · intro F
      have eT : T_end2 r (gai g 20 2) F j p = (up (up (up r (106 + 13 * j + 9) (nI 3)) (106 + 13 * j + 12) (nI 0)) (76 + 10 * p + 6) (nI 0), F ++ [j]) := by unfold T_end2; rw [if_pos c1]
      dsimp only
      rw [eT]
      refine ⟨?_, ?_⟩
      · simp (disch := first | assumption | omega) only [up_sai, gai_sfi, up_sai_ne, f4]
      · intro q hq
        have q1 := Fst_FS f3 q
        have eq0 : c = F.length := by
          have e1 := hc1.symm.trans q1.1
          have hq2 : F.length < 100 := by simp at hq; omega
          rwa [eq_nI (by omega) (by omega)] at e1
        refine Fst_add (g := g1) ?_ ?_ q1 hq
        · simp (disch := first | assumption | omega) only [e_gfi_sai, e_gfi_sfi, and_self, ↓reduceIte, nI_add, hc1]
        · rw [← eq0]
          simp (disch := first | assumption | omega) only [up_saiG, gai_sfi, up_sai_ne]
  · have c1' := eq_false c1
    by_cases c2 : r (106 + 13 * j + 12) = nI 0
    · have e1 := m_trayFor hM1 hj24 hp3 (l := gai g 20 2) (by rw [f4]; exact hJ1) (by rw [f4]; exact hDoc1.1) (by rw [f4]; exact hDoc1.2)
      have e2 := m_hasQuota hM1 hj24 (l := gai g 20 2) (by rw [f4]; exact hJ1)
      have hn4 : gai g1 20 0 4 = nI (tn (r 4)) := by rw [f4]; exact (vl_nI i1.2.1).1
      have e3 := m_bestFor hM1 hp3 (l := gai g 20 2) hn4 (by rw [e4]; exact hnj) (by rw [f4]; exact i1.2.2.2.2.2.1) (by rw [f4]; exact fun i hi => (Iv0_dj i1 hi).1) (by rw [f4]; exact fun i hi => (Iv0_dj i1 hi).2) (by rw [f4]; exact Iv0_1 i1)
      rw [f4] at e1 e2 e3
      obtain ⟨g2, b1, b2, b3, b4⟩ := m_becomeWaiting hM1 hj24
      rw [f4] at b4
      obtain ⟨g3, d1, d2⟩ := stop g2 (T_wait r j) (MI_MS hM1 b2) b2 b3 b4
      have etr : trk r j p = 76 + 10 * p + (3 + dN r (jN r j 6) 1) := rfl
      by_cases c3 : r (trk r j p) = nI 0 ∨ r (14 + jN r j 5) ≤ r (20 + jN r j 5)
      · refine ⟨g3, ?_, ?_⟩
        · by_cases c4 : r (76 + 10 * p + (3 + dN r (jN r j 6) 1)) = nI 0
          · simp (disch := first | with_reducible assumption | omega | (simp only [MI_sai_iff, MI_sfi_iff]; with_reducible assumption)) only [li, ↓lr_, ↓bd_m, ↓oc_m, ↓reduceIte, bi_0, bi_0n, bi_1, bi_1n, not_true_eq_false, not_false_eq_true, Nat.reduceAdd, Nat.reduceMul, nI_mul, nI_add, inb_T, ix_nI, le_T, le_F, lt_T, lt_F, eq_F, f10_endSheet, f1, eJ, c1', c2, e1, eq_true c4, f10_endSheet_b100, b1, d1]
          · have c5 : (¬ r (14 + jN r j 5) ≤ r (20 + jN r j 5)) = False := eq_false (fun q => by rcases c3 with u | u; exact c4 u; exact q u)
            simp (disch := first | with_reducible assumption | omega | (simp only [MI_sai_iff, MI_sfi_iff]; with_reducible assumption)) only [li, ↓lr_, ↓bd_m, ↓oc_m, ↓reduceIte, bi_0, bi_0n, bi_1, bi_1n, not_true_eq_false, not_false_eq_true, Nat.reduceAdd, Nat.reduceMul, nI_mul, nI_add, inb_T, ix_nI, le_T, le_F, lt_T, lt_F, eq_F, f10_endSheet, f1, eJ, c1', c2, e1, eq_false c4, e2, c5, bi, f10_endSheet_b100, b1, d1]
        · refine ⟨d2.1, d2.2.1, fun F => ?_⟩
          have := d2.2.2 F
          dsimp only at this ⊢
          unfold T_end2
          rw [if_neg c1, if_pos c2, if_pos c3]
          exact this
      · have c4 : ¬ r (76 + 10 * p + (3 + dN r (jN r j 6) 1)) = nI 0 := fun q => c3 (Or.inl q)
        have c5 : (¬ r (14 + jN r j 5) ≤ r (20 + jN r j 5)) = True := eq_true (fun q => c3 (Or.inr q))
        have hxr : jN r j 10 = jN (gai g 20 0) j 10 + 1 := by
          have := SH_le hJ
          unfold jN; rw [r10, tn_nI (by omega)]; rfl
        have hv : vl (r (106 + 13 * j + 10)) (sSH r j) := by
          rw [r10]
          have hne : jN (gai g 20 0) j 10 + 1 ≠ sSH (gai g 20 0) j := fun q => c1 (by rw [r10, r8, hSHr, q])
          exact vl_of (by omega) (by omega)
        obtain ⟨g4, k1, k2, k3, k4⟩ := m_begin hM1 hj24 hp3 (by rw [f4, hl1]; exact hJ1) (by rw [f4]; exact hDoc1.1) (by rw [f4]; exact hDoc1.2) (by rw [f4]; exact i1.2.2.2.2.2.2 p (by rw [sta_sc s1 (k := 5) (by omega)]; exact hp)) (by rw [f4]; exact hv)
        rw [f4, hl1] at k4
        have s4 : TStep g g4 c (fun F => (T_begin r (gai g 20 2) j p, F)) := ⟨MS_tr f2 k2, ⟨c, k3.1.trans hc1, by omega⟩, fun F => ⟨k4, fun q _ => Fst_FS (FS_tr f3 k3) q⟩⟩
        have s4' : (¬ ((sBF r p).isSome = true ∧ ¬ rk r ((sBF r p).getD 0) ≤ nI 10 * r (106 + 13 * j + 4) + r 2)) → TStep g g4 c (fun F => T_end2 r (gai g 20 2) F j p) := by
          intro q
          refine ⟨s4.1, s4.2.1, fun F => ?_⟩
          have := s4.2.2 F
          dsimp only at this ⊢
          unfold T_end2
          rw [if_neg c1, if_pos c2, if_neg c3, if_neg q]
          exact this
        cases hb : sBF r p with
        | none =>
          rw [hb] at e3 s4'
          refine ⟨g4, ?_, s4' (by simp)⟩
          simp (disch := first | with_reducible assumption | omega | (simp only [MI_sai_iff, MI_sfi_iff]; with_reducible assumption)) only [li, ↓lr_, ↓bd_m, ↓oc_m, ↓reduceIte, bi_0, bi_0n, bi_1, bi_1n, not_true_eq_false, not_false_eq_true, Nat.reduceAdd, Nat.reduceMul, nI_mul, nI_add, inb_T, ix_nI, le_T, le_F, lt_T, lt_F, eq_F, f10_endSheet, f1, eJ, c1', c2, e1, eq_false c4, e2, c5, bi, e3, enc, neg6_lt, f10_endSheet_b150, k1]
        | some b =>
          have hbl := (sBF_some hb).1
          have hn24 : tn (r 4) ≤ 24 := by rw [e4]; exact hnj
          have e5 := m_rankOf hM1 (j := b) (by omega) (by rw [f4]; exact Iv0_1 i1)
          rw [f4] at e5
          rw [hb] at e3 s4'
          by_cases c6 : rk r b ≤ nI 10 * r (106 + 13 * j + 4) + r 2
          · refine ⟨g4, ?_, s4' (by simp [c6])⟩
            simp (disch := first | with_reducible assumption | omega | (simp only [MI_sai_iff, MI_sfi_iff]; with_reducible assumption)) only [li, ↓lr_, ↓bd_m, ↓oc_m, ↓reduceIte, bi_0, bi_0n, bi_1, bi_1n, not_true_eq_false, not_false_eq_true, Nat.reduceAdd, Nat.reduceMul, nI_mul, nI_add, inb_T, ix_nI, le_T, le_F, lt_T, lt_F, eq_F, f10_endSheet, f1, eJ, c1', c2, e1, eq_false c4, e2, c5, bi, e3, enc, e5, MI_a hM1, MI_n hM1, f4, eq_true c6, f10_endSheet_b150, k1]
          · refine ⟨g3, ?_, d2.1, d2.2.1, fun F => ?_⟩
            · simp (disch := first | with_reducible assumption | omega | (simp only [MI_sai_iff, MI_sfi_iff]; with_reducible assumption)) only [li, ↓lr_, ↓bd_m, ↓oc_m, ↓reduceIte, bi_0, bi_0n, bi_1, bi_1n, not_true_eq_false, not_false_eq_true, Nat.reduceAdd, Nat.reduceMul, nI_mul, nI_add, inb_T, ix_nI, le_T, le_F, lt_T, lt_F, eq_F, f10_endSheet, f1, eJ, c1', c2, e1, eq_false c4, e2, c5, bi, e3, enc, e5, MI_a hM1, MI_n hM1, f4, eq_false c6, b1, d1]
            · have := d2.2.2 F
              dsimp only at this ⊢
              unfold T_end2
              rw [if_neg c1, if_pos c2, if_neg c3, hb, if_pos ⟨rfl, c6⟩]
              exact this
    · obtain ⟨g2, b1, b2, b3, b4⟩ := m_leave hM1 hj24
      rw [f4] at b4
      obtain ⟨g3, d1, d2⟩ := stop g2 (T_leave r j) (MI_MS hM1 b2) b2 b3 b4
      refine ⟨g3, ?_, d2.1, d2.2.1, fun F => ?_⟩
      · simp (disch := first | with_reducible assumption | omega | (simp only [MI_sai_iff, MI_sfi_iff]; with_reducible assumption)) only [li, ↓lr_, ↓bd_m, ↓oc_m, ↓reduceIte, bi_0, bi_0n, bi_1, bi_1n, not_true_eq_false, not_false_eq_true, Nat.reduceAdd, Nat.reduceMul, nI_mul, nI_add, inb_T, ix_nI, le_T, le_F, lt_T, lt_F, eq_F, f10_endSheet, f1, eJ, c1', eq_false c2, b1, d1]
      · have := d2.2.2 F
        dsimp only at this ⊢
        unfold T_end2
        rw [if_neg c1, if_neg c2]
        exact this
theorem T_end2_len {a l : Nat → Int32} {F : List Nat} {j p : Nat} : F.length ≤ (T_end2 a l F j p).2.length := by
  unfold T_end2
  split
  · simp
  · split
    · split
      · exact Nat.le_refl _
      · split <;> exact Nat.le_refl _
    · exact Nat.le_refl _
theorem T_p1_len {l a : Nat → Int32} {F : List Nat} {p : Nat} : F.length ≤ (T_p1 l (a, F) p).2.length := by
  unfold T_p1
  split
  · unfold T_p1b
    split
    · exact T_end2_len
    · exact Nat.le_refl _
  · exact Nat.le_refl _
theorem T_p2_F {l a : Nat → Int32} {F : List Nat} {p : Nat} : (T_p2 l (a, F) p).2 = F := by
  unfold T_p2
  split <;> rfl
theorem T_ph2_F {l a : Nat → Int32} {F : List Nat} : ∀ k, (T_ph (T_p2 l) k (a, F)).2 = F
  | 0 => rfl
  | k + 1 => by
    rw [T_ph_s]
    exact (T_p2_F (a := (T_ph (T_p2 l) k (a, F)).1)).trans (T_ph2_F k)
/-- what many parts of the reference's tick do -/
def TMany (g g' : GS_) (c d : Nat) (f : List Nat → TS) : Prop := MS g g' ∧ (∃ c', gfi g' 341 0 = nI c' ∧ c' ≤ c + d) ∧ ∀ F, gai g' 20 0 = (f F).1 ∧ (Fst g F → (f F).2.length ≤ 24 → Fst g' (f F).2)
theorem TMany_step {g0 g g' : GS_} {c d : Nat} {f : List Nat → TS} {h : TS → TS} (h1 : TMany g0 g c d f) (h2 : ∀ c1, gfi g 341 0 = nI c1 → c1 ≤ c + d → TMany g g' c1 1 (fun F => h (gai g 20 0, F))) (hl : ∀ F, F.length ≤ (h (gai g 20 0, F)).2.length) : TMany g0 g' c (d + 1) (fun F => h (f F)) := by
  obtain ⟨a1, ⟨c1, a2, a3⟩, a4⟩ := h1
  obtain ⟨b1, ⟨c2, b2, b3⟩, b4⟩ := h2 c1 a2 a3
  refine ⟨MS_tr a1 b1, ⟨c2, b2, by omega⟩, fun F => ?_⟩
  obtain ⟨u1, u2⟩ := a4 F
  have e : f F = (gai g 20 0, (f F).2) := by rw [u1]
  obtain ⟨v1, v2⟩ := b4 (f F).2
  dsimp only at v1 v2 ⊢
  rw [← e] at v1 v2
  refine ⟨v1, fun q1 q2 => v2 (u2 q1 ?_) q2⟩
  have := hl (f F).2
  rw [← e] at this
  omega
theorem m_ph1 {g0 : GS_} (h : MI g0) {c n : Nat} (h0 : Iv0 (gai g0 20 0) (gai g0 20 2)) (hI : Ivd (gai g0 20 0)) (hL : Lg (gai g0 20 0) n) (hn : n < 10000000) (hc : c < 10000000) :
    ∀ (fuel k : Nat) (g : GS_), k ≤ tn (gai g0 20 0 5) → tn (gai g0 20 0 5) - k < fuel → TMany g0 g c k (fun F => T_ph (T_p1 (gai g0 20 2)) k (gai g0 20 0, F)) →
      ∃ g', f10_tick_b12 fuel 0 (nI k) g = f10_tick_b79 FU_ 0 (nI 0) g' ∧ TMany g0 g' c (tn (gai g0 20 0 5)) (fun F => T_ph (T_p1 (gai g0 20 2)) (tn (gai g0 20 0 5)) (gai g0 20 0, F))
  | 0, k, g, hk, hf, hT => by omega
  | fuel + 1, k, g, hk, hf, hT => by
    generalize hb : gai g0 20 0 = b at *
    generalize hl : gai g0 20 2 = l at *
    have hN3 : tn (b 5) ≤ 3 := Iv0_p h0
    have hM := MI_MS h hT.1
    have hgl : gai g 20 2 = l := by rw [hT.1.2.2.2.2.2.2.1 2 (by omega) (by omega), hl]
    obtain ⟨i1, i2, i3, i4⟩ := ph_inv (l := l) (f := T_p1 l) (tn (b 5)) hN3 (fun a F p g1 g2 g3 g4 => p1_Ivd g1 g2 (by omega)) k (b, []) hk h0 hI rfl
    have hLk := ph1_Lg (l := l) k (b, []) n hL
    have ha : gai g 20 0 = (T_ph (T_p1 l) k (b, [])).1 := (hT.2.2 []).1
    generalize (T_ph (T_p1 l) k (b, [])).1 = a at *
    have e5 : a 5 = nI (tn (a 5)) := (vl_nI i1.2.2.1).1
    rw [i4] at e5
    obtain ⟨c1, hc1, hc2⟩ := hT.2.1
    obtain ⟨m, hm1, hm2⟩ := hLk
    by_cases he : k = tn (b 5)
    · subst he
      refine ⟨g, ?_, hT⟩
      rw [f10_tick_b12.eq_2]
      simp (disch := first | with_reducible assumption | omega | (simp only [MI_sai_iff, MI_sfi_iff]; with_reducible assumption)) only [li, ↓lr_, ↓bd_m, ↓oc_m, ↓reduceIte, bi_0, bi_0n, bi_1, bi_1n, not_true_eq_false, not_false_eq_true, Nat.reduceAdd, Nat.reduceMul, nI_mul, nI_add, inb_T, ix_nI, le_T, le_F, lt_T, lt_F, eq_F, MI_a hM, MI_n hM, ha, e5]
    · have hp3 : k < 3 := by omega
      have hkp : k < tn (a 5) := by omega
      have go : ∀ g1, f10_tick_b12 (fuel + 1) 0 (nI k) g = f10_tick_b12 fuel 0 (nI (k + 1)) g1 → TMany g g1 c1 1 (fun F => T_p1 l (a, F) k) → ∃ g', f10_tick_b12 (fuel + 1) 0 (nI k) g = f10_tick_b79 FU_ 0 (nI 0) g' ∧ TMany g0 g' c (tn (b 5)) (fun F => T_ph (T_p1 l) (tn (b 5)) (b, F)) := by
        intro g1 q1 q2
        have hT' : TMany g0 g1 c (k + 1) (fun F => T_ph (T_p1 l) (k + 1) (b, F)) := by
          refine TMany_step (h := fun s => T_p1 l s k) hT (fun c3 e3 _ => ?_) (fun F => T_p1_len)
          rw [hc1, eq_nI (by omega) (by omega)] at e3
          rw [← e3, ha]
          exact q2
        obtain ⟨g', r1, r2⟩ := m_ph1 (g0 := g0) h (by rw [hb, hl]; exact h0) (by rw [hb]; exact hI) (by rw [hb]; exact hL) hn hc fuel (k + 1) g1 (by rw [hb]; omega) (by rw [hb]; omega) (by rw [hb, hl]; exact hT')
        rw [hb, hl] at r2
        exact ⟨g', q1.trans r1, r2⟩
      by_cases hw : a (76 + 10 * k + 6) = nI 1
      · obtain ⟨j, L, hj, h7, h9, h8, hL2, hup, hE, hne⟩ := p1_start i1 i2 hkp hw
        have eT : ∀ F, T_p1 l (a, F) k = T_p1b (up a (76 + 10 * k + 8) (nI L)) l F k := by
          intro F
          unfold T_p1
          rw [if_pos hw, hup]
        have hj24 : j < 24 := by have := Iv0_j i1; omega
        have esub : nI (L + 1) - nI 1 = nI L := nI_sub (by omega)
        by_cases hz : L = 0
        · subst hz
          have hg2 : gai (sai g 20 0 (76 + 10 * k + 8) (nI 0)) 20 0 = up a (76 + 10 * k + 8) (nI 0) := by rw [up_sai, ha]
          have hgl2 : gai (sai g 20 0 (76 + 10 * k + 8) (nI 0)) 20 2 = l := by rw [up_sai_ne _ _ _ _ _ _ (by omega), hgl]
          have s1 : sta a (up a (76 + 10 * k + 8) (nI 0)) := sta_up (dyn_p (by omega) (by omega) (by omega))
          obtain ⟨g1, f1, f2⟩ := m_endSheet (g := sai g 20 0 (76 + 10 * k + 8) (nI 0)) (c := c1) (m := m) hM (by rw [hg2, hgl2]; exact Iv0_sta s1 i1) (by rw [hg2]; exact hE) (by rw [hg2, up_ne (by omega), hm1]) (by omega) hc1 (by omega)
          rw [hg2, hgl2] at f2
          refine go g1 ?_ ⟨MS_tr (MS_sai (Or.inl rfl)) f2.1, f2.2.1, fun F => ?_⟩
          · rw [f10_tick_b12.eq_2]
            simp (disch := first | with_reducible assumption | omega | (simp only [MI_sai_iff, MI_sfi_iff]; with_reducible assumption)) only [li, ↓lr_, ↓bd_m, ↓oc_m, ↓reduceIte, bi_0, bi_0n, bi_1, bi_1n, not_true_eq_false, not_false_eq_true, Nat.reduceAdd, Nat.reduceMul, nI_mul, nI_add, inb_T, ix_nI, le_T, le_F, lt_T, lt_F, eq_F, MI_a hM, MI_n hM, ha, e5, m_ofPrinter, hw, h8, esub, m_setPrinter, up_sai, up_ne, up_eq, h7, f1, f10_tick_b71]
          · have := f2.2.2 F
            dsimp only at this ⊢
            rw [eT]
            unfold T_p1b
            rw [if_pos (up_eq rfl)]
            have e7 : pN (up a (76 + 10 * k + 8) (nI 0)) k 7 = j := by unfold pN; rw [up_ne (by omega), h7, tn_nI (by omega)]
            rw [e7]
            exact ⟨this.1, fun q1 q2 => this.2 (Fst_FS FS_sai q1) q2⟩
        · have hz' : ¬ nI L = nI 0 := by rw [eq_nI (by omega) (by omega)]; exact hz
          refine go (sai g 20 0 (76 + 10 * k + 8) (nI L)) ?_ ⟨MS_sai (Or.inl rfl), ⟨c1, hc1, by omega⟩, fun F => ?_⟩
          · rw [f10_tick_b12.eq_2]
            simp (disch := first | with_reducible assumption | omega | (simp only [MI_sai_iff, MI_sfi_iff]; with_reducible assumption)) only [li, ↓lr_, ↓bd_m, ↓oc_m, ↓reduceIte, bi_0, bi_0n, bi_1, bi_1n, not_true_eq_false, not_false_eq_true, Nat.reduceAdd, Nat.reduceMul, nI_mul, nI_add, inb_T, ix_nI, le_T, le_F, lt_T, lt_F, eq_F, MI_a hM, MI_n hM, ha, e5, m_ofPrinter, hw, h8, esub, m_setPrinter, up_sai, up_ne, up_eq, f10_tick_b71]
          · dsimp only
            rw [eT]
            unfold T_p1b
            rw [up_eq rfl, if_neg hz', up_sai, ha]
            exact ⟨rfl, fun q1 _ => Fst_FS FS_sai q1⟩
      · refine go g ?_ ⟨MS_rfl, ⟨c1, hc1, by omega⟩, fun F => ?_⟩
        · rw [f10_tick_b12.eq_2]
          simp (disch := first | with_reducible assumption | omega | (simp only [MI_sai_iff, MI_sfi_iff]; with_reducible assumption)) only [li, ↓lr_, ↓bd_m, ↓oc_m, ↓reduceIte, bi_0, bi_0n, bi_1, bi_1n, not_true_eq_false, not_false_eq_true, Nat.reduceAdd, Nat.reduceMul, nI_mul, nI_add, inb_T, ix_nI, le_T, le_F, lt_T, lt_F, eq_F, MI_a hM, MI_n hM, ha, e5, m_ofPrinter, eq_false hw, f10_tick_b71]
        · dsimp only
          unfold T_p1
          rw [if_neg hw]
          exact ⟨ha, fun q1 _ => q1⟩
theorem m_ph2 {g0 : GS_} (h : MI g0) {c : Nat} (h0 : Iv0 (gai g0 20 0) (gai g0 20 2)) (hI : Ivd (gai g0 20 0)) (hc : gfi g0 341 0 = nI c) :
    ∀ (fuel k : Nat) (g : GS_), k ≤ tn (gai g0 20 0 5) → tn (gai g0 20 0 5) - k < fuel → (MS g0 g ∧ FS g0 g ∧ gai g 20 0 = (T_ph (T_p2 (gai g0 20 2)) k (gai g0 20 0, [])).1) →
      ∃ g', f10_tick_b79 fuel 0 (nI k) g = some ((), g') ∧ MS g0 g' ∧ FS g0 g' ∧ gai g' 20 0 = (T_ph (T_p2 (gai g0 20 2)) (tn (gai g0 20 0 5)) (gai g0 20 0, [])).1
  | 0, k, g, hk, hf, hT => by omega
  | fuel + 1, k, g, hk, hf, hT => by
    generalize hb : gai g0 20 0 = b at *
    generalize hl : gai g0 20 2 = l at *
    have hN3 : tn (b 5) ≤ 3 := Iv0_p h0
    have hM := MI_MS h hT.1
    have hgl : gai g 20 2 = l := by rw [hT.1.2.2.2.2.2.2.1 2 (by omega) (by omega), hl]
    obtain ⟨i1, i2, i3, i4⟩ := ph_inv (l := l) (f := T_p2 l) (tn (b 5)) hN3 (fun a F p g1 g2 g3 g4 => p2_Ivd g1 g2 (by omega)) k (b, []) hk h0 hI rfl
    have ha : gai g 20 0 = (T_ph (T_p2 l) k (b, [])).1 := hT.2.2
    have hF : (T_ph (T_p2 l) k (b, [])) = (gai g 20 0, []) := Prod.ext ha.symm (T_ph2_F k)
    rw [← ha] at i1 i2 i3 i4
    generalize hag : gai g 20 0 = a at *
    have e5 : a 5 = nI (tn (a 5)) := (vl_nI i1.2.2.1).1
    rw [i4] at e5
    by_cases he : k = tn (b 5)
    · subst he
      refine ⟨g, ?_, hT.1, hT.2.1, hag.trans ha⟩
      rw [f10_tick_b79.eq_2]
      simp (disch := first | with_reducible assumption | omega | (simp only [MI_sai_iff, MI_sfi_iff]; with_reducible assumption)) only [li, ↓lr_, ↓bd_m, ↓oc_m, ↓reduceIte, bi_0, bi_0n, bi_1, bi_1n, not_true_eq_false, not_false_eq_true, Nat.reduceAdd, Nat.reduceMul, nI_mul, nI_add, inb_T, ix_nI, le_T, le_F, lt_T, lt_F, eq_F, MI_a hM, MI_n hM, hag, e5]
    · have hp3 : k < 3 := by omega
      have hkp : k < tn (a 5) := by omega
      have go : ∀ g1, f10_tick_b79 (fuel + 1) 0 (nI k) g = f10_tick_b79 fuel 0 (nI (k + 1)) g1 → MS g g1 → FS g g1 → gai g1 20 0 = (T_p2 l (a, []) k).1 → ∃ g', f10_tick_b79 (fuel + 1) 0 (nI k) g = some ((), g') ∧ MS g0 g' ∧ FS g0 g' ∧ gai g' 20 0 = (T_ph (T_p2 l) (tn (b 5)) (b, [])).1 := by
        intro g1 q1 q2 q3 q4
        obtain ⟨g', r1, r2⟩ := m_ph2 (g0 := g0) h (by rw [hb, hl]; exact h0) (by rw [hb]; exact hI) hc fuel (k + 1) g1 (by rw [hb]; omega) (by rw [hb]; omega) ⟨MS_tr hT.1 q2, FS_tr hT.2.1 q3, by rw [hb, hl, T_ph_s, hF]; exact q4⟩
        rw [hb, hl] at r2
        exact ⟨g', q1.trans r1, r2⟩
      have hn4 : gai g 20 0 4 = nI (tn (a 4)) := by rw [hag]; exact (vl_nI i1.2.1).1
      have hnj := Iv0_j i1
      have e3 := m_bestFor hM hp3 (l := l) hn4 hnj (by rw [hag]; exact i1.2.2.2.2.2.1) (by rw [hag]; exact fun i hi => (Iv0_dj i1 hi).1) (by rw [hag]; exact fun i hi => (Iv0_dj i1 hi).2) (by rw [hag]; exact Iv0_1 i1)
      rw [hag] at e3
      by_cases hw : a (76 + 10 * k + 6) = nI 0
      · cases hbf : sBF a k with
        | none =>
          rw [hbf] at e3
          refine go g ?_ MS_rfl FS_rfl ?_
          · rw [f10_tick_b79.eq_2]
            simp (disch := first | with_reducible assumption | omega | (simp only [MI_sai_iff, MI_sfi_iff]; with_reducible assumption)) only [li, ↓lr_, ↓bd_m, ↓oc_m, ↓reduceIte, bi_0, bi_0n, bi_1, bi_1n, not_true_eq_false, not_false_eq_true, Nat.reduceAdd, Nat.reduceMul, nI_mul, nI_add, inb_T, ix_nI, le_T, le_F, lt_T, lt_F, eq_F, MI_a hM, MI_n hM, hag, e5, m_ofPrinter, hw, e3, enc, f10_tick_b109, neg6_lt, f10_tick_b144]
          · unfold T_p2
            rw [hbf, if_neg (by simp)]
            exact hag
        | some j =>
          rw [hbf] at e3
          obtain ⟨hj, hpr⟩ := sBF_some hbf
          have hj24 : j < 24 := by omega
          have hT2 : T_p2 l (a, []) k = (T_go a l j k, []) := by
            unfold T_p2
            dsimp only
            rw [hbf, if_pos ⟨hw, rfl⟩]
            rfl
          have hS := i2.1 j hj
          have hJ := i1.2.2.2.2.2.1 j hj
          have hDoc := Iv0_dj i1 hj
          have hx := vl_nI hS.2.2.1
          have hb9 : a (106 + 13 * j + 9) = nI 0 := hpr.2.1
          have hxl : jN a j 10 < sSH a j := hS.2.2.2.1 (by rw [hb9, ne_eq, eq_nI (by omega) (by omega)]; omega)
          have hgo : T_go a l j k = T_begin (up (up (up a (106 + 13 * j + 9) (nI 1)) (76 + 10 * k + 6) (nI 1)) (76 + 10 * k + 7) (nI j)) l j k := rfl
          have s1 : sta a (up (up (up a (106 + 13 * j + 9) (nI 1)) (76 + 10 * k + 6) (nI 1)) (76 + 10 * k + 7) (nI j)) := sta_tr (sta_tr (sta_up (dyn_j (by omega) (by omega) (by omega))) (sta_up (dyn_p (by omega) (by omega) (by omega)))) (sta_up (dyn_p (by omega) (by omega) (by omega)))
          have n10 : (up (up (up a (106 + 13 * j + 9) (nI 1)) (76 + 10 * k + 6) (nI 1)) (76 + 10 * k + 7) (nI j)) (106 + 13 * j + 10) = a (106 + 13 * j + 10) := by simp (disch := first | assumption | omega) only [up_ne]
          have hg3 : gai (sai (sai (sai g 20 0 (106 + 13 * j + 9) (nI 1)) 20 0 (76 + 10 * k + 6) (nI 1)) 20 0 (76 + 10 * k + 7) (nI j)) 20 0 = up (up (up a (106 + 13 * j + 9) (nI 1)) (76 + 10 * k + 6) (nI 1)) (76 + 10 * k + 7) (nI j) := by rw [up_sai, up_sai, up_sai, hag]
          have hg2 : gai (sai (sai (sai g 20 0 (106 + 13 * j + 9) (nI 1)) 20 0 (76 + 10 * k + 6) (nI 1)) 20 0 (76 + 10 * k + 7) (nI j)) 20 2 = l := by rw [up_sai_ne _ _ _ _ _ _ (by omega), up_sai_ne _ _ _ _ _ _ (by omega), up_sai_ne _ _ _ _ _ _ (by omega), hgl]
          have M3 : MS g (sai (sai (sai g 20 0 (106 + 13 * j + 9) (nI 1)) 20 0 (76 + 10 * k + 6) (nI 1)) 20 0 (76 + 10 * k + 7) (nI j)) := MS_tr (MS_tr (MS_sai (Or.inl rfl)) (MS_sai (Or.inl rfl))) (MS_sai (Or.inl rfl))
          have F3 : FS g (sai (sai (sai g 20 0 (106 + 13 * j + 9) (nI 1)) 20 0 (76 + 10 * k + 6) (nI 1)) 20 0 (76 + 10 * k + 7) (nI j)) := FS_tr (FS_tr FS_sai FS_sai) FS_sai
          generalize hgg : sai (sai (sai g 20 0 (106 + 13 * j + 9) (nI 1)) 20 0 (76 + 10 * k + 6) (nI 1)) 20 0 (76 + 10 * k + 7) (nI j) = g3 at *
          generalize up (up (up a (106 + 13 * j + 9) (nI 1)) (76 + 10 * k + 6) (nI 1)) (76 + 10 * k + 7) (nI j) = a3 at *
          obtain ⟨g4, k1, k2, k3, k4⟩ := m_begin (MI_MS hM M3) hj24 hp3 (by rw [hg3, hg2]; exact sta_Job s1 hj24 hJ) (by rw [hg3, sta_jN s1 hj24 (by omega)]; exact sta_Doc s1 hDoc.2 hDoc.1) (by rw [hg3, sta_jN s1 hj24 (by omega)]; exact hDoc.2) (by rw [hg3]; exact sta_Pr s1 hp3 (i1.2.2.2.2.2.2 k hkp)) (by rw [hg3, n10, sta_SH s1 hj24, hx.1]; exact vl_of hxl (by have := SH_le hJ; omega))
          rw [hg3, hg2] at k4
          refine go g4 ?_ (MS_tr M3 k2) (FS_tr F3 k3) (by rw [hT2]; dsimp only; rw [hgo]; exact k4)
          rw [f10_tick_b79.eq_2]
          simp (disch := first | with_reducible assumption | omega | (simp only [MI_sai_iff, MI_sfi_iff]; with_reducible assumption)) only [li, ↓lr_, ↓bd_m, ↓oc_m, ↓reduceIte, bi_0, bi_0n, bi_1, bi_1n, not_true_eq_false, not_false_eq_true, Nat.reduceAdd, Nat.reduceMul, nI_mul, nI_add, inb_T, ix_nI, le_T, le_F, lt_T, lt_F, eq_F, MI_a hM, MI_n hM, hag, e5, m_ofPrinter, hw, e3, enc, f10_tick_b109, m_setJob, m_setPrinter, hgg, k1, f10_tick_b144]
      · refine go g ?_ MS_rfl FS_rfl ?_
        · rw [f10_tick_b79.eq_2]
          simp (disch := first | with_reducible assumption | omega | (simp only [MI_sai_iff, MI_sfi_iff]; with_reducible assumption)) only [li, ↓lr_, ↓bd_m, ↓oc_m, ↓reduceIte, bi_0, bi_0n, bi_1, bi_1n, not_true_eq_false, not_false_eq_true, Nat.reduceAdd, Nat.reduceMul, nI_mul, nI_add, inb_T, ix_nI, le_T, le_F, lt_T, lt_F, eq_F, MI_a hM, MI_n hM, hag, e5, m_ofPrinter, eq_false hw, f10_tick_b109, neg6_lt, f10_tick_b144]
        · unfold T_p2
          rw [if_neg (fun q => hw q.1)]
          exact hag
theorem m_tick {g : GS_} (h : MI g) {c n : Nat} (h0 : Iv0 (gai g 20 0) (gai g 20 2)) (hI : Ivd (gai g 20 0)) (hL : Lg (gai g 20 0) n) (hn : n < 10000000) (hc : gfi g 341 0 = nI c) (hcl : c < 10000000) :
    ∃ g', f10_tick 0 g = some ((), g') ∧ TMany g g' c 3 (fun F => T_tick (gai g 20 2) (gai g 20 0, F)) := by
  have M1 : MS g (sai g 20 0 0 (gai g 20 0 0 + nI 1)) := MS_sai (Or.inl rfl)
  have F1 : FS g (sai g 20 0 0 (gai g 20 0 0 + nI 1)) := FS_sai
  have a1 : gai (sai g 20 0 0 (gai g 20 0 0 + nI 1)) 20 0 = (T_time (gai g 20 0, [])).1 := by rw [up_sai]; rfl
  have l1 : gai (sai g 20 0 0 (gai g 20 0 0 + nI 1)) 20 2 = gai g 20 2 := up_sai_ne _ _ _ _ _ _ (by omega)
  obtain ⟨t1, t2, t3⟩ := time_inv (s := (gai g 20 0, [])) h0 hI
  have e5 : (T_time (gai g 20 0, [])).1 5 = gai g 20 0 5 := sta_sc t3 (by omega)
  have tL : Lg (T_time (gai g 20 0, [])).1 n := Lg_eq hL (show up (gai g 20 0) 0 (gai g 20 0 0 + nI 1) 6 = gai g 20 0 6 from up_ne (by omega))
  have key : f10_tick 0 g = f10_tick_b12 FU_ 0 (nI 0) (sai g 20 0 0 (gai g 20 0 0 + nI 1)) := by
    simp (disch := first | with_reducible assumption | omega | (simp only [MI_sai_iff, MI_sfi_iff]; with_reducible assumption)) only [li, ↓lr_, ↓bd_m, ↓oc_m, ↓reduceIte, bi_0, bi_0n, bi_1, bi_1n, not_true_eq_false, not_false_eq_true, Nat.reduceAdd, Nat.reduceMul, nI_mul, nI_add, inb_T, ix_nI, le_T, le_F, lt_T, lt_F, eq_F, f10_tick, MI_a h, MI_n h]
  generalize hg1 : sai g 20 0 0 (gai g 20 0 0 + nI 1) = g1 at *
  have hM1 := MI_MS h M1
  have hTime : ∀ F, T_time (gai g 20 0, F) = (gai g1 20 0, F) := fun F => by rw [a1]; rfl
  rw [← a1] at t1 t2 t3 tL e5
  have hp := Iv0_p t1
  obtain ⟨g2, b1, b2⟩ := m_ph1 hM1 (c := c) (n := n) (by rw [l1]; exact t1) t2 tL hn hcl FU_ 0 g1 (by omega) (by unfold FU_; omega) ⟨MS_rfl, ⟨c, F1.1.trans hc, by omega⟩, fun F => ⟨rfl, fun q _ => q⟩⟩
  rw [l1] at b2
  obtain ⟨c2, hc2, hc3⟩ := b2.2.1
  obtain ⟨u1, u2, u3, u4⟩ := ph_inv (l := gai g 20 2) (f := T_p1 (gai g 20 2)) (tn (gai g1 20 0 5)) hp (fun a F p g1 g2 g3 g4 => p1_Ivd g1 g2 (by omega)) (tn (gai g1 20 0 5)) (gai g1 20 0, []) (Nat.le_refl _) t1 t2 rfl
  have ha2 : gai g2 20 0 = (T_ph (T_p1 (gai g 20 2)) (tn (gai g1 20 0 5)) (gai g1 20 0, [])).1 := (b2.2.2 []).1
  have l2 : gai g2 20 2 = gai g 20 2 := by rw [b2.1.2.2.2.2.2.2.1 2 (by omega) (by omega), l1]
  rw [← ha2] at u1 u2 u3 u4
  obtain ⟨g3, d1, d2, d3, d4⟩ := m_ph2 (MI_MS hM1 b2.1) (by rw [l2]; exact u1) u2 hc2 FU_ 0 g2 (by omega) (by rw [u4]; unfold FU_; omega) ⟨MS_rfl, FS_rfl, rfl⟩
  rw [l2, u4] at d4
  refine ⟨g3, by rw [key, b1, d1], MS_tr M1 (MS_tr b2.1 d2), ⟨c2, d3.1.trans hc2, by omega⟩, fun F => ?_⟩
  have e0 : T_tick (gai g 20 2) (gai g 20 0, F) = T_ph (T_p2 (gai g 20 2)) (tn (gai g1 20 0 5)) (T_ph (T_p1 (gai g 20 2)) (tn (gai g1 20 0 5)) (gai g1 20 0, F)) := by
    unfold T_tick
    rw [hTime, e5]
  obtain ⟨v1, v2⟩ := b2.2.2 F
  dsimp only at v1 v2 ⊢
  rw [e0]
  have eS : T_ph (T_p1 (gai g 20 2)) (tn (gai g1 20 0 5)) (gai g1 20 0, F) = (gai g2 20 0, (T_ph (T_p1 (gai g 20 2)) (tn (gai g1 20 0 5)) (gai g1 20 0, F)).2) := by rw [v1]
  rw [eS]
  have first : ∀ (k : Nat) (G : List Nat), (T_ph (T_p2 (gai g 20 2)) k (gai g2 20 0, G)).1 = (T_ph (T_p2 (gai g 20 2)) k (gai g2 20 0, [])).1 := by
    intro k G
    induction k with
    | zero => rfl
    | succ k ih =>
      rw [T_ph_s, T_ph_s]
      have w1 : T_ph (T_p2 (gai g 20 2)) k (gai g2 20 0, G) = ((T_ph (T_p2 (gai g 20 2)) k (gai g2 20 0, [])).1, G) := by
        rw [← ih]
        exact Prod.ext rfl (T_ph2_F k)
      have w2 : T_ph (T_p2 (gai g 20 2)) k (gai g2 20 0, []) = ((T_ph (T_p2 (gai g 20 2)) k (gai g2 20 0, [])).1, []) := Prod.ext rfl (T_ph2_F k)
      rw [w1, w2]
      unfold T_p2
      dsimp only
      split <;> rfl
  refine ⟨d4.trans (first _ _).symm, fun q1 q2 => ?_⟩
  rw [T_ph2_F] at q2 ⊢
  exact Fst_FS d3 (v2 (Fst_FS F1 q1) q2)
