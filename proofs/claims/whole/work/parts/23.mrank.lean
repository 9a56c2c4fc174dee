/-! the reference: ticks of a sheet, rank, what is printable, the best one -/
def tkp (f : Nat → Nat) (sp : Nat) (n : Nat) : Nat := match n with
  | 0 => 0
  | n + 1 => tkp f sp n + (if f n = 0 then 0 else sp + f n)
theorem tkp_0 (f : Nat → Nat) (sp : Nat) : tkp f sp 0 = 0 := rfl
theorem tkp_s (f : Nat → Nat) (sp n : Nat) : tkp f sp (n + 1) = tkp f sp n + (if f n = 0 then 0 else sp + f n) := rfl
def sTK (a l : Nat → Int32) (j x p : Nat) : Nat := tkp (fun side => sBD a l j x side p) (pN a p 0) (sdz (jN a j 3) (jN a j 2))
theorem sBD_le {a l : Nat → Int32} {j x side p : Nat} : sBD a l j x side p ≤ 16 := by
  have := bz_le (sLD a l j x side) (pN a p 1)
  unfold sBD
  split <;> omega
theorem tkp_le {f : Nat → Nat} {sp : Nat} (h : ∀ k, f k ≤ 16) (hs : sp ≤ 50) : ∀ n, tkp f sp n ≤ 66 * n
  | 0 => by rw [tkp_0]; omega
  | n + 1 => by
    have h1 := tkp_le h hs n
    have h2 := h n
    rw [tkp_s]
    split <;> omega
theorem sTK_le {a l : Nat → Int32} {j x p : Nat} (hP : PrPl a p) : sTK a l j x p ≤ 132 := by
  have h1 := tkp_le (f := fun side => sBD a l j x side p) (sp := pN a p 0) (fun k => sBD_le) (by have := (vl_nI hP.1).2; unfold pN; omega) (sdz (jN a j 3) (jN a j 2))
  have h2 := sdz_pos (jN a j 3) (jN a j 2)
  unfold sTK
  omega
theorem m_ticksFor {g : GS_} (h : MI g) {j x p : Nat} (hj : j < 24) (hp : p < 3) (hJ : JobPl (gai g 20 0) (gai g 20 2) j) (hD : DocOk (gai g 20 0) (jN (gai g 20 0) j 6)) (hd : jN (gai g 20 0) j 6 < 10) (hP : PrPl (gai g 20 0) p) (hx : x < sSH (gai g 20 0) j) :
    ∃ g', f10_ticksFor 0 (nI j) (nI x) (nI p) g = some (nI (sTK (gai g 20 0) (gai g 20 2) j x p), g') ∧ SC g g' ∧ (∀ f, f < 337 ∨ 339 < f → gfi g' f 0 = gfi g f 0) := by
  generalize ha : gai g 20 0 = a at *
  generalize hl : gai g 20 2 = l at *
  obtain ⟨S, hS, hSl⟩ := vl_ex hP.1
  have eS : pN a p 0 = S := tn_of hS (by omega)
  have hsd := sdz_pos (jN a j 3) (jN a j 2)
  have hb : ∀ n, n ≤ 2 → tkp (fun side => sBD a l j x side p) (pN a p 0) n ≤ 132 := fun n hn => Nat.le_trans (tkp_le (fun k => sBD_le) (by omega) n) (by omega)
  have key : ∀ (n k : Nat) (g1 : GS_), SC g g1 → (∀ f, f < 337 ∨ 339 < f → gfi g1 f 0 = gfi g f 0) → k ≤ sdz (jN a j 3) (jN a j 2) → sdz (jN a j 3) (jN a j 2) - k < n →
      ∃ g', f10_ticksFor_b6 n 0 (nI j) (nI x) (nI p) (nI (tkp (fun side => sBD a l j x side p) (pN a p 0) k)) (nI k) g1 = some (nI (sTK a l j x p), g') ∧ SC g g' ∧ (∀ f, f < 337 ∨ 339 < f → gfi g' f 0 = gfi g f 0) := by
    intro n
    induction n with
    | zero => intro k g1 _ _ _ h9; omega
    | succ n ih =>
      intro k g1 hsc hoth hk hn
      have hM1 := MI_SC h hsc
      have hg0 : gai g1 20 0 = a := by rw [hsc.2.1, ha]
      have hg2 : gai g1 20 2 = l := by rw [hsc.2.1, hl]
      have e1 := m_sidesOf hM1 hj (l := l) (by rw [hg0]; exact hJ)
      rw [hg0] at e1
      rw [f10_ticksFor_b6.eq_2, e1]
      simp (disch := first | assumption | omega) only [li, bd_some, bd_none, oc_some, oc_none, lr_, ↓reduceIte, bi_0, bi_0n, bi_1, bi_1n, npp, if_pos, if_neg, not_true_eq_false, not_false_eq_true, Nat.reduceAdd, Nat.reduceMul, le_nI]
      by_cases hks : k = sdz (jN a j 3) (jN a j 2)
      · simp (disch := first | assumption | omega) only [li, bd_some, bd_none, oc_some, oc_none, lr_, ↓reduceIte, bi_0, bi_0n, bi_1, bi_1n, npp, if_pos, if_neg, not_true_eq_false, not_false_eq_true, Nat.reduceAdd, Nat.reduceMul, hks, Nat.le_refl]
        exact ⟨g1, rfl, hsc, hoth⟩
      · have nle : ¬ sdz (jN a j 3) (jN a j 2) ≤ k := by omega
        obtain ⟨g2, f1, f2, f3, f4, f5, f6⟩ := m_laySide hM1 (side := k) hj hp (by rw [hg0, hg2]; exact hJ) (by rw [hg0]; exact hD) (by rw [hg0]; exact hd) (by rw [hg0]; exact hP) (by rw [hg0]; exact hx) (by omega)
        rw [hg0, hg2] at f5
        have hM2 := MI_SC hM1 f2
        have e2 := m_ofPrinter hM2 hp (w := 0) (by omega)
        rw [f2.2.1, hg0, hS] at e2
        have hbd := sBD_le (a := a) (l := l) (j := j) (x := x) (side := k) (p := p)
        have hbk := hb k (by omega)
        have nx := ih (k + 1) g2 (SC_tr hsc f2) (fun f hf => (f3 f hf).trans (hoth f hf)) (by omega) (by omega)
        rw [tkp_s, eS] at nx
        rw [eS] at hbk
        rw [eS]
        unfold f10_ticksFor_b49
        simp (disch := first | assumption | omega) only [li, bd_some, bd_none, oc_some, oc_none, lr_, ↓reduceIte, bi_0, bi_0n, bi_1, bi_1n, npp, if_pos, if_neg, not_true_eq_false, not_false_eq_true, Nat.reduceAdd, Nat.reduceMul, nle, f1, f5, eq_nI, e2, nI_mul, nI_add, inb_nI, ix_nI]
        by_cases hz : sBD a l j x k p = 0
        · simp (disch := first | assumption | omega) only [li, bd_some, bd_none, oc_some, oc_none, lr_, ↓reduceIte, bi_0, bi_0n, bi_1, bi_1n, npp, if_pos, if_neg, not_true_eq_false, not_false_eq_true, Nat.reduceAdd, Nat.reduceMul, hz]
          simp (disch := first | assumption | omega) only [li, bd_some, bd_none, oc_some, oc_none, lr_, ↓reduceIte, bi_0, bi_0n, bi_1, bi_1n, npp, if_pos, if_neg, not_true_eq_false, not_false_eq_true, Nat.reduceAdd, Nat.reduceMul, hz] at nx
          exact nx
        · simp (disch := first | assumption | omega) only [li, bd_some, bd_none, oc_some, oc_none, lr_, ↓reduceIte, bi_0, bi_0n, bi_1, bi_1n, npp, if_pos, if_neg, not_true_eq_false, not_false_eq_true, Nat.reduceAdd, Nat.reduceMul, hz]
          simp (disch := first | assumption | omega) only [li, bd_some, bd_none, oc_some, oc_none, lr_, ↓reduceIte, bi_0, bi_0n, bi_1, bi_1n, npp, if_pos, if_neg, not_true_eq_false, not_false_eq_true, Nat.reduceAdd, Nat.reduceMul, hz] at nx
          exact nx
  exact key FU_ 0 g SC_rfl (fun _ _ => rfl) (by omega) (by unfold FU_; omega)
def rk (a : Nat → Int32) (j : Nat) : Int32 := nI 10 * a (106 + 13 * j + 4) + (a 0 - a (106 + 13 * j + 11)) / a 1
theorem m_rankOf {g : GS_} (h : MI g) {j : Nat} (hj : j < 24) (h1 : gai g 20 0 1 ≠ 0) : f10_rankOf 0 (nI j) g = some (rk (gai g 20 0) j, g) := by
  have h1' : ¬ gai g 20 0 1 = nI 0 := h1
  simp (disch := first | assumption | omega) only [li, bd_some, bd_none, oc_some, oc_none, lr_, ↓reduceIte, bi_0, bi_0n, bi_1, bi_1n, npp, if_pos, if_neg, not_true_eq_false, not_false_eq_true, Nat.reduceAdd, Nat.reduceMul, f10_rankOf, m_ofJob, MI_a h, MI_n h, nI_mul, nI_add, inb_nI, ix_nI, h1', rk]
abbrev prt (a : Nat → Int32) (j p : Nat) : Prop := (a (76 + 10 * p + 2) = nI 1 ∨ sdz (jN a j 3) (jN a j 2) = 1) ∧ a (106 + 13 * j + 9) = nI 0 ∧ ¬ a (76 + 10 * p + (3 + dN a (jN a j 6) 1)) ≤ nI 0 ∧ ¬ a (14 + jN a j 5) ≤ a (20 + jN a j 5)
theorem m_trayFor {g : GS_} (h : MI g) {j p : Nat} (hj : j < 24) (hp : p < 3) {l : Nat → Int32} (hJ : JobPl (gai g 20 0) l j) (hD : DocOk (gai g 20 0) (jN (gai g 20 0) j 6)) (hd : jN (gai g 20 0) j 6 < 10) : f10_trayFor 0 (nI j) (nI p) g = some (gai g 20 0 (76 + 10 * p + (3 + dN (gai g 20 0) (jN (gai g 20 0) j 6) 1)), g) := by
  generalize ha : gai g 20 0 = a at *
  obtain ⟨dd, hdd, hdl⟩ := vl_ex hJ.2.2.2.2.2.2.2.1
  have ed : jN a j 6 = dd := tn_of hdd (by have := tn_lt (x := a 3); omega)
  rw [ed] at hD hd ⊢
  obtain ⟨z, hz, hzl⟩ := vl_ex hD.2.2.1
  have ez : dN a dd 1 = z := tn_of hz (by omega)
  have e1 := m_ofJob h hj (w := 6) (by omega)
  have e2 := m_ofDocument h hd (w := 1) (by omega)
  have e3 := m_ofPrinter h hp (w := 3 + z) (by omega)
  rw [ha] at e1 e2 e3
  rw [hdd] at e1
  rw [hz] at e2
  simp (disch := first | assumption | omega) only [li, bd_some, bd_none, oc_some, oc_none, lr_, ↓reduceIte, bi_0, bi_0n, bi_1, bi_1n, npp, if_pos, if_neg, not_true_eq_false, not_false_eq_true, Nat.reduceAdd, Nat.reduceMul, f10_trayFor, e1, e2, nI_add, e3, ez]
theorem m_hasQuota {g : GS_} (h : MI g) {j : Nat} (hj : j < 24) {l : Nat → Int32} (hJ : JobPl (gai g 20 0) l j) : f10_hasQuota 0 (nI j) g = some (bi (¬ gai g 20 0 (14 + jN (gai g 20 0) j 5) ≤ gai g 20 0 (20 + jN (gai g 20 0) j 5)), g) := by
  obtain ⟨u, hu, hul⟩ := vl_ex hJ.2.2.2.2.2.2.1
  have eu : jN (gai g 20 0) j 5 = u := tn_of hu (by omega)
  rw [eu]
  simp (disch := first | assumption | omega) only [li, bd_some, bd_none, oc_some, oc_none, lr_, ↓reduceIte, bi_0, bi_0n, bi_1, bi_1n, npp, if_pos, if_neg, not_true_eq_false, not_false_eq_true, Nat.reduceAdd, Nat.reduceMul, f10_hasQuota, m_ofJob, MI_a h, MI_n h, hu, nI_mul, nI_add, inb_nI, ix_nI]
  exact bi_somen _ g
theorem m_isPrintable {g : GS_} (h : MI g) {j p : Nat} (hj : j < 24) (hp : p < 3) {l : Nat → Int32} (hJ : JobPl (gai g 20 0) l j) (hD : DocOk (gai g 20 0) (jN (gai g 20 0) j 6)) (hd : jN (gai g 20 0) j 6 < 10) : f10_isPrintable 0 (nI j) (nI p) g = some (bi (prt (gai g 20 0) j p), g) := by
  have hsd := sdz_pos (jN (gai g 20 0) j 3) (jN (gai g 20 0) j 2)
  have e1 := m_trayFor h hj hp hJ hD hd
  have e2 := m_hasQuota h hj hJ
  have e3 := m_sidesOf h hj hJ
  unfold prt
  by_cases c1 : gai g 20 0 (76 + 10 * p + 2) = nI 1
  · simp (disch := first | assumption | omega) only [li, bd_some, bd_none, oc_some, oc_none, lr_, ↓reduceIte, bi_0, bi_0n, bi_1, bi_1n, npp, if_pos, if_neg, not_true_eq_false, not_false_eq_true, Nat.reduceAdd, Nat.reduceMul, f10_isPrintable, m_ofPrinter, c1, f10_isPrintable_b19, f10_isPrintable_b24, f10_isPrintable_b60, eq_nI, m_ofJob, e1, e2]
    by_cases c2 : gai g 20 0 (106 + 13 * j + 9) = nI 0
    · by_cases c3 : gai g 20 0 (76 + 10 * p + (3 + dN (gai g 20 0) (jN (gai g 20 0) j 6) 1)) ≤ nI 0
      · simp (disch := first | assumption | omega) only [li, bd_some, bd_none, oc_some, oc_none, lr_, ↓reduceIte, bi_0, bi_0n, bi_1, bi_1n, npp, if_pos, if_neg, not_true_eq_false, not_false_eq_true, Nat.reduceAdd, Nat.reduceMul, c2, c3]; rw [bi_f (by simp)]; rfl
      · by_cases c4 : gai g 20 0 (14 + jN (gai g 20 0) j 5) ≤ gai g 20 0 (20 + jN (gai g 20 0) j 5)
        · simp (disch := first | assumption | omega) only [li, bd_some, bd_none, oc_some, oc_none, lr_, ↓reduceIte, bi_0, bi_0n, bi_1, bi_1n, npp, if_pos, if_neg, not_true_eq_false, not_false_eq_true, Nat.reduceAdd, Nat.reduceMul, c2, c3, c4]; rw [bi_f (by simp)]; rfl
        · simp (disch := first | assumption | omega) only [li, bd_some, bd_none, oc_some, oc_none, lr_, ↓reduceIte, bi_0, bi_0n, bi_1, bi_1n, npp, if_pos, if_neg, not_true_eq_false, not_false_eq_true, Nat.reduceAdd, Nat.reduceMul, c2, c3, c4]; rw [bi_t (by simp)]; rfl
    · simp (disch := first | assumption | omega) only [li, bd_some, bd_none, oc_some, oc_none, lr_, ↓reduceIte, bi_0, bi_0n, bi_1, bi_1n, npp, if_pos, if_neg, not_true_eq_false, not_false_eq_true, Nat.reduceAdd, Nat.reduceMul, c2]; rw [bi_f (by simp)]; rfl
  · simp (disch := first | assumption | omega) only [li, bd_some, bd_none, oc_some, oc_none, lr_, ↓reduceIte, bi_0, bi_0n, bi_1, bi_1n, npp, if_pos, if_neg, not_true_eq_false, not_false_eq_true, Nat.reduceAdd, Nat.reduceMul, f10_isPrintable, m_ofPrinter, c1, f10_isPrintable_b19, f10_isPrintable_b24, f10_isPrintable_b60, eq_nI, m_ofJob, e1, e2, e3]
    by_cases c0 : sdz (jN (gai g 20 0) j 3) (jN (gai g 20 0) j 2) = 1
    · by_cases c2 : gai g 20 0 (106 + 13 * j + 9) = nI 0
      · by_cases c3 : gai g 20 0 (76 + 10 * p + (3 + dN (gai g 20 0) (jN (gai g 20 0) j 6) 1)) ≤ nI 0
        · simp (disch := first | assumption | omega) only [li, bd_some, bd_none, oc_some, oc_none, lr_, ↓reduceIte, bi_0, bi_0n, bi_1, bi_1n, npp, if_pos, if_neg, not_true_eq_false, not_false_eq_true, Nat.reduceAdd, Nat.reduceMul, c0, c2, c3]; rw [bi_f (by simp)]; rfl
        · by_cases c4 : gai g 20 0 (14 + jN (gai g 20 0) j 5) ≤ gai g 20 0 (20 + jN (gai g 20 0) j 5)
          · simp (disch := first | assumption | omega) only [li, bd_some, bd_none, oc_some, oc_none, lr_, ↓reduceIte, bi_0, bi_0n, bi_1, bi_1n, npp, if_pos, if_neg, not_true_eq_false, not_false_eq_true, Nat.reduceAdd, Nat.reduceMul, c0, c2, c3, c4]; rw [bi_f (by simp)]; rfl
          · simp (disch := first | assumption | omega) only [li, bd_some, bd_none, oc_some, oc_none, lr_, ↓reduceIte, bi_0, bi_0n, bi_1, bi_1n, npp, if_pos, if_neg, not_true_eq_false, not_false_eq_true, Nat.reduceAdd, Nat.reduceMul, c0, c2, c3, c4]; rw [bi_t (by simp)]; rfl
      · simp (disch := first | assumption | omega) only [li, bd_some, bd_none, oc_some, oc_none, lr_, ↓reduceIte, bi_0, bi_0n, bi_1, bi_1n, npp, if_pos, if_neg, not_true_eq_false, not_false_eq_true, Nat.reduceAdd, Nat.reduceMul, c0, c2]; rw [bi_f (by simp)]; rfl
    · simp (disch := first | assumption | omega) only [li, bd_some, bd_none, oc_some, oc_none, lr_, ↓reduceIte, bi_0, bi_0n, bi_1, bi_1n, npp, if_pos, if_neg, not_true_eq_false, not_false_eq_true, Nat.reduceAdd, Nat.reduceMul, c0]; rw [bi_f (by simp [c0])]; rfl
def bst (pr : Nat → Bool) (rk : Nat → Int32) (n : Nat) : Option Nat := match n with
  | 0 => none
  | n + 1 => if pr n = true then (if (bst pr rk n).isSome ∧ rk n ≤ rk ((bst pr rk n).getD 0) then bst pr rk n else some n) else bst pr rk n
theorem bst_0 (pr : Nat → Bool) (rk : Nat → Int32) : bst pr rk 0 = none := rfl
theorem bst_s (pr : Nat → Bool) (rk : Nat → Int32) (n : Nat) : bst pr rk (n + 1) = if pr n = true then (if (bst pr rk n).isSome ∧ rk n ≤ rk ((bst pr rk n).getD 0) then bst pr rk n else some n) else bst pr rk n := rfl
theorem bst_lt {pr : Nat → Bool} {rk : Nat → Int32} : ∀ {n b : Nat}, bst pr rk n = some b → b < n ∧ pr b = true
  | 0, b, h => by cases h
  | n + 1, b, h => by
    rw [bst_s] at h
    split at h
    · split at h
      · have := bst_lt h
        exact ⟨by omega, this.2⟩
      · cases h
        exact ⟨by omega, by assumption⟩
    · have := bst_lt h
      exact ⟨by omega, this.2⟩
theorem bst_none {pr : Nat → Bool} {rk : Nat → Int32} : ∀ {n : Nat}, bst pr rk n = none ↔ ∀ k, k < n → pr k = false
  | 0 => by simp [bst_0]
  | n + 1 => by
    rw [bst_s]
    by_cases hp : pr n = true
    · rw [if_pos hp]
      constructor
      · intro h
        split at h
        · rename_i h2
          rw [h] at h2
          simp at h2
        · cases h
      · intro h
        have := h n (by omega)
        rw [hp] at this
        cases this
    · rw [if_neg hp, bst_none]
      constructor
      · intro h k hk
        rcases Nat.lt_or_ge k n with h1 | h1
        · exact h k h1
        · rw [show k = n by omega]; simpa using hp
      · exact fun h k hk => h k (by omega)
theorem bst_congr {pr pr' : Nat → Bool} {rk rk' : Nat → Int32} : ∀ n, (∀ k, k < n → pr k = pr' k) → (∀ k, k < n → pr k = true → rk k = rk' k) → bst pr rk n = bst pr' rk' n
  | 0, _, _ => rfl
  | n + 1, h1, h2 => by
    have ih := bst_congr n (fun k hk => h1 k (by omega)) (fun k hk => h2 k (by omega))
    rw [bst_s, bst_s, ih, ← h1 n (by omega)]
    by_cases hp : pr n = true
    · rw [if_pos hp, if_pos hp, h2 n (by omega) hp]
      cases hb : bst pr' rk' n with
      | none => simp
      | some b =>
        rw [← ih] at hb
        have h3 := bst_lt hb
        simp only [Option.getD_some]
        simp only [h2 b (by omega) h3.2]
    · rw [if_neg hp, if_neg hp]
def enc (x : Option Nat) : Int32 := match x with
  | none => -nI 6
  | some b => nI b
def sBF (a : Nat → Int32) (p : Nat) : Option Nat := bst (fun j => decide (prt a j p)) (rk a) (tn (a 4))
theorem enc_lt {x : Option Nat} (h : ∀ b, x = some b → b < 100) : enc x < nI 0 ↔ x = none := by
  cases x with
  | none =>
    show -nI 6 < nI 0 ↔ _
    simp
    decide
  | some b =>
    have := h b rfl
    show nI b < nI 0 ↔ _
    rw [lt_nI (by omega) (by omega)]
    simp
theorem m_bestFor {g : GS_} (h : MI g) {p : Nat} (hp : p < 3) {l : Nat → Int32} {n : Nat} (hn : gai g 20 0 4 = nI n) (hnl : n ≤ 24) (hJ : ∀ j, j < n → JobPl (gai g 20 0) l j) (hD : ∀ j, j < n → DocOk (gai g 20 0) (jN (gai g 20 0) j 6)) (hd : ∀ j, j < n → jN (gai g 20 0) j 6 < 10) (h1 : gai g 20 0 1 ≠ 0) :
    f10_bestFor 0 (nI p) g = some (enc (sBF (gai g 20 0) p), g) := by
  have key : ∀ (f k : Nat), k ≤ n → n - k < f → f10_bestFor_b5 f 0 (nI p) (enc (bst (fun j => decide (prt (gai g 20 0) j p)) (rk (gai g 20 0)) k)) (nI k) g = some (enc (sBF (gai g 20 0) p), g) := by
    intro f
    induction f with
    | zero => intro k _ h9; omega
    | succ f ih =>
      intro k hk hf
      rw [f10_bestFor_b5.eq_2]
      simp (disch := first | assumption | omega) only [li, bd_some, bd_none, oc_some, oc_none, lr_, ↓reduceIte, bi_0, bi_0n, bi_1, bi_1n, npp, if_pos, if_neg, not_true_eq_false, not_false_eq_true, Nat.reduceAdd, Nat.reduceMul, MI_a h, MI_n h, nI_mul, nI_add, inb_nI, ix_nI, hn, le_nI]
      by_cases hkn : k = n
      · simp (disch := first | assumption | omega) only [li, bd_some, bd_none, oc_some, oc_none, lr_, ↓reduceIte, bi_0, bi_0n, bi_1, bi_1n, npp, if_pos, if_neg, not_true_eq_false, not_false_eq_true, Nat.reduceAdd, Nat.reduceMul, hkn, Nat.le_refl, sBF, hn, tn_nI]
      · have hkl : k < n := by omega
        have nle : ¬ n ≤ k := by omega
        have nx := ih (k + 1) (by omega) (by omega)
        rw [bst_s] at nx
        have hlt : ∀ b, bst (fun j => decide (prt (gai g 20 0) j p)) (rk (gai g 20 0)) k = some b → b < 100 := fun b hb => by have := (bst_lt hb).1; omega
        have hen := enc_lt hlt
        simp (disch := first | assumption | omega) only [li, bd_some, bd_none, oc_some, oc_none, lr_, ↓reduceIte, bi_0, bi_0n, bi_1, bi_1n, npp, if_pos, if_neg, not_true_eq_false, not_false_eq_true, Nat.reduceAdd, Nat.reduceMul, nle, m_isPrintable h (show k < 24 by omega) hp (hJ k hkl) (hD k hkl) (hd k hkl), f10_bestFor_b43, f10_bestFor_b41, hen]
        by_cases hpr : prt (gai g 20 0) k p
        · rw [if_pos (decide_eq_true hpr)] at nx
          have hnp : ¬ ¬ prt (gai g 20 0) k p := fun q => q hpr
          rw [if_neg hnp]
          cases hb : bst (fun j => decide (prt (gai g 20 0) j p)) (rk (gai g 20 0)) k with
          | none =>
            rw [hb] at nx
            rw [if_pos rfl]
            rw [if_neg (by simp)] at nx
            simp (disch := first | assumption | omega) only [li, bd_some, bd_none, oc_some, oc_none, lr_, ↓reduceIte, bi_0, bi_0n, bi_1, bi_1n, npp, if_pos, if_neg, not_true_eq_false, not_false_eq_true, Nat.reduceAdd, Nat.reduceMul, nI_add]
            exact nx
          | some b =>
            have hbl := hlt b hb
            have hb2 := (bst_lt hb).1
            rw [hb] at nx
            rw [if_neg (by simp)]
            have e1 := m_rankOf h (show k < 24 by omega) h1
            have e2 := m_rankOf h (show b < 24 by omega) h1
            show bd_ (f10_rankOf 0 (nI k) g) _ = _
            rw [e1, bd_some]
            show bd_ (f10_rankOf 0 (nI b) g) _ = _
            rw [e2, bd_some]
            simp (disch := first | assumption | omega) only [li, bd_some, bd_none, oc_some, oc_none, lr_, ↓reduceIte, bi_0, bi_0n, bi_1, bi_1n, npp, if_pos, if_neg, not_true_eq_false, not_false_eq_true, Nat.reduceAdd, Nat.reduceMul, nI_add]
            by_cases hr : rk (gai g 20 0) k ≤ rk (gai g 20 0) b
            · rw [if_pos ⟨rfl, hr⟩] at nx
              rw [if_pos hr]
              exact nx
            · rw [if_neg (fun q => hr q.2)] at nx
              rw [if_neg hr]
              exact nx
        · rw [if_neg (fun q => hpr (of_decide_eq_true q))] at nx
          rw [if_pos hpr, nI_add]
          exact nx
  exact key FU_ 0 (by omega) (by unfold FU_; omega)
