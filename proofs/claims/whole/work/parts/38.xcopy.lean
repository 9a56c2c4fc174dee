/-! the class: a spool copied onto another -/
theorem XS_GF {g g' : GS_} {S : Nat} (h : GF S g g') (hX : XS g) (hS : S < 4) (hJ : ∀ j J, j < 24 → gar g' 23 S j = some J → J < gcn g' 1 ∧ gfi g' 32 J = nI j ∧ ∀ j', j' < 24 → gar g' 23 S j' = some J → j' = j) : XS g' := by
  obtain ⟨⟨x1, x2, x3, x4, x5, x6, x7, x8, x9, x10, x11, x12, x13, x14, x15, x16, x17, x18, x19, x20, x21⟩, y, z⟩ := hX
  have h' := h
  obtain ⟨a1, a2, a3, a4, a5, a6, a7, a8, a9⟩ := h'
  have er : ∀ f, 64 ≤ f → f / 32 ≠ 4 → gfr g' f 0 = gfr g f 0 := fun f h1 h2 => a2 f 0 (by unfold nwF; omega) (by unfold oR; omega)
  refine ⟨?_, fun S' hS' => XSp_GF h x19 (y S' hS'), ?_⟩
  · rw [er _ (by omega) (by omega), er _ (by omega) (by omega), er _ (by omega) (by omega), er _ (by omega) (by omega), er _ (by omega) (by omega), er _ (by omega) (by omega), er _ (by omega) (by omega), er _ (by omega) (by omega), er _ (by omega) (by omega), er _ (by omega) (by omega), a6 25 0 (by omega), a4 25 0 (by omega), a3 18 (by omega), a3 19 (by omega), a3 20 (by omega), a3 21 (by omega), a3 22 (by omega), a8.1, a8.2]
    exact ⟨x1, x2, x3, x4, x5, x6, x7, x8, x9, x10, x11, x12, x13, x14, x15, x16, x17, x18, Nat.le_trans x19 (a7 20), x20, x21⟩
  · intro S1 j J hS1 hj hJ1
    by_cases e : S1 = S
    · subst e
      obtain ⟨b1, b2, b3⟩ := hJ j J hj hJ1
      refine ⟨b1, b2, fun S2 j2 hS2 hj2 hJ2 => ?_⟩
      by_cases e2 : S2 = S1
      · subst e2
        exact ⟨rfl, b3 j2 hj2 hJ2⟩
      · rw [a6 23 S2 (by omega)] at hJ2
        rcases a9 j J hj hJ1 with ⟨j', hj', w⟩ | w
        · have := (z S2 j2 J hS2 hj2 hJ2).2.2 S1 j' hS1 hj' w
          omega
        · have := (z S2 j2 J hS2 hj2 hJ2).1
          omega
    · have hJ1' := hJ1
      rw [a6 23 S1 (by omega)] at hJ1'
      obtain ⟨b1, b2, b3⟩ := z S1 j J hS1 hj hJ1'
      refine ⟨Nat.lt_of_lt_of_le b1 (a7 1), ?_, fun S2 j2 hS2 hj2 hJ2 => ?_⟩
      · rw [a1 32 J (fun q => by have := q.2; rw [show 32 / 32 = 1 from rfl] at this; omega) (by unfold oF; omega)]
        exact b2
      · by_cases e2 : S2 = S
        · subst e2
          rcases a9 j2 J hj2 hJ2 with ⟨j', hj', w⟩ | w
          · have := b3 S2 j' hS2 hj' w
            omega
          · omega
        · rw [a6 23 S2 (by omega)] at hJ2
          exact b3 S2 j2 hS2 hj2 hJ2
theorem gfi_sfr (g : GS_) (f i : Nat) (v : Option Nat) : gfi (sfr g f i v) = gfi g := rfl
/-- a job is copied -/
theorem x_jobCopy {g : GS_} {J J' : Nat} : ∃ g', f1_copyFrom J (some J') g = some ((), g') ∧ (∀ f i, gfi g' f i = if (34 ≤ f ∧ f < 39) ∧ i = J then gfi g f J' else gfi g f i) ∧ (∀ f i, gfr g' f i = if f = 33 ∧ i = J then gfr g 33 J' else gfr g f i) ∧ gai g' = gai g ∧ gar g' = gar g ∧ gln g' = gln g ∧ gcn g' = gcn g ∧ ghs g' = ghs g ∧ gsl g' = gsl g := by
  refine ⟨_, by simp (disch := first | with_reducible assumption | omega | (simp only [MI_sai_iff, MI_sfi_iff]; with_reducible assumption)) only [li, ↓lr_, ↓bd_m, ↓oc_m, ↓reduceIte, bi_0, bi_0n, bi_1, bi_1n, not_true_eq_false, not_false_eq_true, Nat.reduceAdd, Nat.reduceMul, nI_mul, nI_add, inb_T, ix_nI, le_T, le_F, lt_T, lt_F, eq_F, f1_copyFrom]; rfl, ?_⟩
  refine ⟨fun f i => ?_, fun f i => rfl, rfl, rfl, rfl, rfl, rfl, rfl⟩
  by_cases hi : i = J
  · subst hi
    by_cases h34 : f = 34
    · subst h34; simp [e_gfi_sfi, e_gfi_sfr]
    by_cases h35 : f = 35
    · subst h35; simp [e_gfi_sfi, e_gfi_sfr]
    by_cases h36 : f = 36
    · subst h36; simp [e_gfi_sfi, e_gfi_sfr]
    by_cases h37 : f = 37
    · subst h37; simp [e_gfi_sfi, e_gfi_sfr]
    by_cases h38 : f = 38
    · subst h38; simp [e_gfi_sfi, e_gfi_sfr]
    rw [if_neg (by omega)]
    simp [e_gfi_sfi, e_gfi_sfr, h34, h35, h36, h37, h38]
  · rw [if_neg (fun q => hi q.2)]
    simp [e_gfi_sfi, e_gfi_sfr, hi]
/-- a job is made -/
theorem x_jobNew {g : GS_} {N : Nat} {v : Int32} {x : Option Nat} : ∃ g', f1_init N v x g = some ((), g') ∧ (∀ f i, ¬ (f / 32 = 1 ∧ i = N) → gfi g' f i = gfi g f i) ∧ gfi g' 32 N = v ∧ (∀ f i, ¬ (f / 32 = 1 ∧ i = N) → gfr g' f i = gfr g f i) ∧ gai g' = gai g ∧ gar g' = gar g ∧ gln g' = gln g ∧ gcn g' = gcn g ∧ ghs g' = ghs g ∧ gsl g' = gsl g := by
  refine ⟨_, by simp (disch := first | with_reducible assumption | omega | (simp only [MI_sai_iff, MI_sfi_iff]; with_reducible assumption)) only [li, ↓lr_, ↓bd_m, ↓oc_m, ↓reduceIte, bi_0, bi_0n, bi_1, bi_1n, not_true_eq_false, not_false_eq_true, Nat.reduceAdd, Nat.reduceMul, nI_mul, nI_add, inb_T, ix_nI, le_T, le_F, lt_T, lt_F, eq_F, f1_init]; rfl, ?_⟩
  refine ⟨fun f i h => ?_, ?_, fun f i h => ?_, rfl, rfl, rfl, rfl, rfl, rfl⟩
  · by_cases hi : i = N
    · subst hi
      have : f ≠ 34 ∧ f ≠ 35 ∧ f ≠ 36 ∧ f ≠ 37 ∧ f ≠ 38 ∧ f ≠ 32 := by
        refine ⟨?_, ?_, ?_, ?_, ?_, ?_⟩ <;> (intro e; subst e; exact h ⟨by decide, rfl⟩)
      obtain ⟨h1, h2, h3, h4, h5, h6⟩ := this
      simp [e_gfi_sfi, e_gfi_sfr, h1, h2, h3, h4, h5, h6]
    · simp [e_gfi_sfi, e_gfi_sfr, hi]
  · simp [e_gfi_sfi, e_gfi_sfr]
  · by_cases hi : i = N
    · subst hi
      have : f ≠ 33 := fun e => h ⟨by omega, rfl⟩
      simp [e_gfr_sfi, e_gfr_sfr, this]
    · simp [e_gfr_sfi, e_gfr_sfr, hi]
/-- jobs copied so far -/
def JC (S S' n : Nat) (g g' : GS_) (k b : Nat) : Prop :=
  GF S g g' ∧ gai g' = gai g ∧ gln g' = gln g ∧ (∀ t, t ≠ 1 → gcn g' t = gcn g t) ∧ (∀ f i, f / 32 ≠ 1 → gfi g' f i = gfi g f i) ∧ (∀ f i, f / 32 ≠ 1 → gfr g' f i = gfr g f i) ∧ (∀ t i, ¬ (t = 23 ∧ i = S) → gar g' t i = gar g t i) ∧
  (ghs g' ≤ ghs g + b ∧ gsl g' ≤ gsl g + 7 * b) ∧
  (∀ j, j < k → ∃ J J', gar g' 23 S j = some J ∧ gar g 23 S' j = some J' ∧ gfr g' 33 J = gfr g 33 J' ∧ ∀ f, 34 ≤ f → f < 39 → gfi g' f J = gfi g f J') ∧
  ∀ j J, j < 24 → gar g' 23 S j = some J → J < gcn g' 1 ∧ gfi g' 32 J = nI j ∧ ∀ j', j' < 24 → gar g' 23 S j' = some J → j' = j
theorem x_copyJobsLoop {S S' n : Nat} {g : GS_} (hX : XS g) (hS : S < 4) (hS' : S' < 4) (hne : S' ≠ S) (hn : n ≤ 24) (hc : gfi g 259 S = nI n) (hc' : gfi g 259 S' = nI n) (hs : ∀ j, j < n → ∃ J', gar g 23 S' j = some J') :
    ∀ (fuel k : Nat) (g1 : GS_), k ≤ n → n - k < fuel → JC S S' n g g1 k k → ∃ g', f8_copyJobs_b10 fuel S (some S') (nI k) g1 = some ((), g') ∧ JC S S' n g g' n n
  | 0, k, g1, h1, h2, _ => by omega
  | fuel + 1, k, g1, h1, h2, h3 => by
    have hx : XS g1 := XS_GF h3.1 hX hS h3.2.2.2.2.2.2.2.2.2
    obtain ⟨c1, c2, c3, c4, c5, c6, c7, c8, c9, c10⟩ := id h3
    have n1 : gfi g1 259 S = nI n := by rw [c5 _ _ (by omega)]; exact hc
    have n1' : gfi g1 259 S' = nI n := by rw [c5 _ _ (by omega)]; exact hc'
    obtain ⟨s1, s2, s3, s4, -⟩ := id (hx.2.1 S hS)
    rw [f8_copyJobs_b10.eq_2]
    by_cases he : k = n
    · subst he
      exact ⟨g1, by simp (disch := first | with_reducible assumption | omega | (simp only [MI_sai_iff, MI_sfi_iff]; with_reducible assumption)) only [li, ↓lr_, ↓bd_m, ↓oc_m, ↓reduceIte, bi_0, bi_0n, bi_1, bi_1n, not_true_eq_false, not_false_eq_true, Nat.reduceAdd, Nat.reduceMul, nI_mul, nI_add, inb_T, ix_nI, le_T, le_F, lt_T, lt_F, eq_F, n1, Nat.le_refl], h3⟩
    · have hkn : k < n := by omega
      obtain ⟨J', hJ'⟩ := hs k hkn
      have hJ1' : gar g1 23 S' k = some J' := by rw [c7 23 S' (by omega)]; exact hJ'
      have e1 := x_jobAt (hx.2.1 S' hS') n1' hn (nI k)
      rw [if_pos (vl_of hkn (by omega)), tn_nI (by omega), hJ1'] at e1
      obtain ⟨w1, w2, w3⟩ := hX.2.2 S' k J' hS' (by omega) hJ'
      have hno : ∀ j', j' < 24 → gar g1 23 S j' ≠ some J' := fun j' hj' q => by
        have := (hx.2.2 S j' J' hS hj' q).2.2 S' k hS' (by omega) hJ1'
        omega
      have hno0 : ∀ j', j' < 24 → gar g 23 S j' ≠ some J' := fun j' hj' q => by
        have := (hX.2.2 S j' J' hS hj' q).2.2 S' k hS' (by omega) hJ'
        omega
      have src : ∀ f, 34 ≤ f → f < 39 → gfi g1 f J' = gfi g f J' := fun f f1 f2 => by
        refine c1.1 f J' (fun q => by have := q.2; rw [show f / 32 = 1 by omega] at this; omega) ?_
        rintro (⟨-, -, j', hj', e⟩ | w | w)
        · exact hno0 j' hj' e
        · omega
        · omega
      have srcr : gfr g1 33 J' = gfr g 33 J' := by
        refine c1.2.1 33 J' (fun q => by have := q.2; rw [show 33 / 32 = 1 from rfl] at this; omega) ?_
        rintro ⟨-, j', hj', e⟩
        exact hno0 j' hj' e
      -- a job of its own is there: it takes over
      have go : ∀ g2 J, JC S S' n g g2 k (k + 1) → gar g2 23 S k = some J → (∀ f, 34 ≤ f → f < 39 → gfi g2 f J' = gfi g f J') → gfr g2 33 J' = gfr g 33 J' →
          ∃ g', f8_copyJobs_b64 (f8_copyJobs_b10 fuel) S (some S') (nI k) (some J') g2 = some ((), g') ∧ JC S S' n g g' n n := by
        intro g2 J hC hJ hs1 hs2
        have hx2 : XS g2 := XS_GF hC.1 hX hS hC.2.2.2.2.2.2.2.2.2
        obtain ⟨d1, d2, d3, d4, d5, d6, d7, d8, d9, d10⟩ := hC
        obtain ⟨g3, r1, r2, r3, r4, r5, r6, r7, r8, r9⟩ := x_jobCopy (g := g2) (J := J) (J' := J')
        obtain ⟨v1, v2, v3⟩ := d10 k J (by omega) hJ
        have own : (∃ j', j' < 24 ∧ gar g 23 S j' = some J) ∨ gcn g 1 ≤ J := d1.2.2.2.2.2.2.2.2 k J (by omega) hJ
        have hC3 : JC S S' n g g3 (k + 1) (k + 1) := by
          refine ⟨?_, r4.trans d2, r6.trans d3, fun t ht => by rw [r7]; exact d4 t ht, fun f i hf => ?_, fun f i hf => ?_, fun t i q => by rw [r5]; exact d7 t i q, ⟨by rw [r8]; exact d8.1, by rw [r9]; exact d8.2⟩, fun j hj => ?_, fun j I hj hI => ?_⟩
          · refine GF_tr d1 ⟨fun f i _ q => ?_, fun f i _ q => ?_, fun i _ => by rw [r6], fun t i _ => by rw [r6], fun i _ _ => by rw [r4], fun t i _ => by rw [r5], fun t => by rw [r7]; exact Nat.le_refl _, ⟨by rw [r7], by rw [r7]⟩, fun j I hj hI => Or.inl ⟨j, hj, by rw [← r5]; exact hI⟩⟩
            · rw [r2, if_neg]
              rintro ⟨⟨f1, f2⟩, e⟩
              subst e
              exact q (Or.inl ⟨f1, f2, k, by omega, hJ⟩)
            · rw [r3, if_neg]
              rintro ⟨f1, e⟩
              subst e
              exact q ⟨f1, k, by omega, hJ⟩
          · rw [r2, if_neg (by omega)]
            exact d5 f i hf
          · rw [r3, if_neg (by omega)]
            exact d6 f i hf
          · by_cases ej : j = k
            · subst ej
              refine ⟨J, J', by rw [r5]; exact hJ, hJ', ?_, fun f f1 f2 => ?_⟩
              · rw [r3, if_pos ⟨rfl, rfl⟩, hs2]
              · rw [r2, if_pos ⟨⟨f1, f2⟩, rfl⟩, hs1 f f1 f2]
            · obtain ⟨I, I', u1, u2, u3, u4⟩ := d9 j (by omega)
              have hne2 : I ≠ J := fun e => ej (v3 j (by omega) (by rw [← e]; exact u1))
              refine ⟨I, I', by rw [r5]; exact u1, u2, ?_, fun f f1 f2 => ?_⟩
              · rw [r3, if_neg (fun q => hne2 q.2), u3]
              · rw [r2, if_neg (fun q => hne2 q.2), u4 f f1 f2]
          · rw [r5] at hI
            rw [r5, r7, r2, if_neg (by omega)]
            exact d10 j I hj hI
        obtain ⟨g', t1, t2⟩ := x_copyJobsLoop hX hS hS' hne hn hc hc' hs fuel (k + 1) g3 (by omega) (by omega) hC3
        obtain ⟨s1, s2, s3, s4, -⟩ := id (hx2.2.1 S hS)
        refine ⟨g', ?_, t2⟩
        simp (disch := first | with_reducible assumption | omega | (simp only [MI_sai_iff, MI_sfi_iff]; with_reducible assumption)) only [li, ↓lr_, ↓bd_m, ↓oc_m, ↓reduceIte, bi_0, bi_0n, bi_1, bi_1n, not_true_eq_false, not_false_eq_true, Nat.reduceAdd, Nat.reduceMul, nI_mul, nI_add, inb_T, ix_nI, le_T, le_F, lt_T, lt_F, eq_F, f8_copyJobs_b64, s3, s4, hJ, r1, f8_copyJobs_b74, t1]
      cases hk : gar g1 23 S k with
      | some J =>
        obtain ⟨g', t1, t2⟩ := go g1 J ⟨c1, c2, c3, c4, c5, c6, c7, ⟨by omega, by omega⟩, c9, c10⟩ hk src srcr
        refine ⟨g', ?_, t2⟩
        simp (disch := first | with_reducible assumption | omega | (simp only [MI_sai_iff, MI_sfi_iff]; with_reducible assumption)) only [li, ↓lr_, ↓bd_m, ↓oc_m, ↓reduceIte, bi_0, bi_0n, bi_1, bi_1n, not_true_eq_false, not_false_eq_true, Nat.reduceAdd, Nat.reduceMul, nI_mul, nI_add, inb_T, ix_nI, le_T, le_F, lt_T, lt_F, eq_F, n1, s3, s4, ofN, e1, hk, t1]
      | none =>
        obtain ⟨g2, r1, r2, r3, r4, r5, r6, r7, r8, r9, r10⟩ := x_jobNew (g := nwo g1 1 7) (N := gcn g1 1) (v := nI k) (x := gfr (nwo g1 1 7) 33 J')
        have hnl : gcn g1 1 ≥ gcn g 1 := c1.2.2.2.2.2.2.1 1
        have hJl : J' < gcn g1 1 := by omega
        have hC2 : JC S S' n g (sar g2 23 S k (some (gcn g1 1))) k (k + 1) := by
          have G : GF S g1 (sar g2 23 S k (some (gcn g1 1))) := by
            refine ⟨fun f i q _ => ?_, fun f i q _ => ?_, fun i _ => ?_, fun t i _ => ?_, fun i _ _ => ?_, fun t i q => ?_, fun t => ?_, ⟨?_, ?_⟩, fun j I hj hI => ?_⟩
            · have hno2 : ¬ (f / 32 = 1 ∧ i = gcn g1 1) := fun w => q ⟨Or.inr (Or.inl w.1), by rw [w.1, w.2]; exact Nat.le_refl _⟩
              show gfi g2 f i = _
              rw [r2 f i hno2, e_gfi_nwo, if_neg hno2]
            · have hno2 : ¬ (f / 32 = 1 ∧ i = gcn g1 1) := fun w => q ⟨Or.inr (Or.inl w.1), by rw [w.1, w.2]; exact Nat.le_refl _⟩
              show gfr g2 f i = _
              rw [r4 f i hno2, e_gfr_nwo, if_neg hno2]
            · show gln g2 20 i = _
              rw [r7]
              rfl
            · show gln g2 t i = _
              rw [r7]
              rfl
            · show gai g2 20 i = _
              rw [r5]
              rfl
            · funext j
              show (if t = 23 ∧ i = S ∧ j = k then some (gcn g1 1) else gar g2 t i j) = _
              rw [if_neg (fun w => q (Or.inr ⟨Or.inr w.1, w.2.1⟩)), r6]
              rfl
            · show gcn g1 t ≤ gcn g2 t
              rw [r8, e_gcn_nwo]
              split
              · rename_i e; rw [e]; omega
              · exact Nat.le_refl _
            · show gcn g2 22 = _
              rw [r8]
              rfl
            · show gcn g2 23 = _
              rw [r8]
              rfl
            · have hI' : (if (23 = 23 ∧ S = S ∧ j = k) then some (gcn g1 1) else gar g2 23 S j) = some I := hI
              by_cases ej : j = k
              · rw [if_pos ⟨rfl, rfl, ej⟩] at hI'
                cases hI'
                exact Or.inr (Nat.le_refl _)
              · rw [if_neg (fun w => ej w.2.2), r6] at hI'
                exact Or.inl ⟨j, hj, hI'⟩
          have gN : gcn (sar g2 23 S k (some (gcn g1 1))) 1 = gcn g1 1 + 1 := by
            show gcn g2 1 = _
            rw [r8]
            rfl
          have gar2 : ∀ j, j ≠ k → gar (sar g2 23 S k (some (gcn g1 1))) 23 S j = gar g1 23 S j := fun j ej => by
            show (if (23 = 23 ∧ S = S ∧ j = k) then some (gcn g1 1) else gar g2 23 S j) = _
            rw [if_neg (fun w => ej w.2.2), r6]
            rfl
          have garK : gar (sar g2 23 S k (some (gcn g1 1))) 23 S k = some (gcn g1 1) := if_pos ⟨rfl, rfl, rfl⟩
          refine ⟨GF_tr c1 G, (show gai g2 = _ by rw [r5]; exact c2), (show gln g2 = _ by rw [r7]; exact c3), fun t ht => ?_, fun f i hf => ?_, fun f i hf => ?_, fun t i q => ?_, ?_, fun j hj => ?_, fun j I hj hI => ?_⟩
          · show gcn g2 t = _
            rw [r8, e_gcn_nwo, if_neg ht]
            exact c4 t ht
          · show gfi g2 f i = _
            rw [r2 f i (fun w => hf w.1), e_gfi_nwo, if_neg (fun w => hf w.1)]
            exact c5 f i hf
          · show gfr g2 f i = _
            rw [r4 f i (fun w => hf w.1), e_gfr_nwo, if_neg (fun w => hf w.1)]
            exact c6 f i hf
          · funext j
            show (if t = 23 ∧ i = S ∧ j = k then some (gcn g1 1) else gar g2 t i j) = _
            rw [if_neg (fun w => q ⟨w.1, w.2.1⟩), r6]
            exact congrFun (c7 t i q) j
          · have e1 : ghs g2 = ghs g1 + 1 := r9
            have e2 : gsl g2 = gsl g1 + 7 := r10
            show ghs g2 ≤ _ ∧ gsl g2 ≤ _
            omega
          · obtain ⟨I, I', u1, u2, u3, u4⟩ := c9 j hj
            have hIl := (c10 j I (by omega) u1).1
            refine ⟨I, I', by rw [gar2 j (by omega)]; exact u1, u2, ?_, fun f f1 f2 => ?_⟩
            · show gfr g2 33 I = _
              rw [r4 33 I (by omega), e_gfr_nwo, if_neg (by omega)]
              exact u3
            · show gfi g2 f I = _
              rw [r2 f I (by omega), e_gfi_nwo, if_neg (by omega)]
              exact u4 f f1 f2
          · rw [gN]
            by_cases ej : j = k
            · subst ej
              rw [garK] at hI
              cases hI
              refine ⟨by omega, r3, fun j' hj' hJj => ?_⟩
              by_cases e2 : j' = j
              · exact e2
              · rw [gar2 j' e2] at hJj
                have := (c10 j' _ hj' hJj).1
                omega
            · rw [gar2 j ej] at hI
              obtain ⟨t1, t2, t3⟩ := c10 j I hj hI
              refine ⟨by omega, ?_, fun j' hj' hJj => ?_⟩
              · show gfi g2 32 I = _
                rw [r2 32 I (by omega), e_gfi_nwo, if_neg (by omega)]
                exact t2
              · by_cases e2 : j' = k
                · subst e2
                  rw [garK] at hJj
                  cases hJj
                  omega
                · rw [gar2 j' e2] at hJj
                  exact t3 j' hj' hJj
        obtain ⟨g', t1, t2⟩ := go (sar g2 23 S k (some (gcn g1 1))) (gcn g1 1) hC2 (if_pos ⟨rfl, rfl, rfl⟩) (fun f f1 f2 => by
          show gfi g2 f J' = _
          rw [r2 f J' (by omega), e_gfi_nwo, if_neg (by omega)]
          exact src f f1 f2) (by
          show gfr g2 33 J' = _
          rw [r4 33 J' (by omega), e_gfr_nwo, if_neg (by omega)]
          exact srcr)
        have l2 : gln g2 23 S = 24 := by rw [r7]; exact s4
        refine ⟨g', ?_, t2⟩
        simp (disch := first | with_reducible assumption | omega | (simp only [MI_sai_iff, MI_sfi_iff]; with_reducible assumption)) only [li, ↓lr_, ↓bd_m, ↓oc_m, ↓reduceIte, bi_0, bi_0n, bi_1, bi_1n, not_true_eq_false, not_false_eq_true, Nat.reduceAdd, Nat.reduceMul, nI_mul, nI_add, inb_T, ix_nI, le_T, le_F, lt_T, lt_F, eq_F, n1, s3, s4, ofN, e1, hk, ↓no_, r1, l2, t1]
theorem x_copyJobs {S S' n : Nat} {g : GS_} (hX : XS g) (hS : S < 4) (hS' : S' < 4) (hne : S' ≠ S) (hn : n ≤ 24) (hc' : gfi g 259 S' = nI n) (hs : ∀ j, j < n → ∃ J', gar g 23 S' j = some J') :
    ∃ g', f8_copyJobs S (some S') g = some ((), g') ∧ JC S S' n (sfi g 259 S (nI n)) g' n n := by
  have T : TF S g (sfi g 259 S (nI n)) := by
    refine ⟨NR_rfl, fun f i q => ?_, fun _ _ => rfl⟩
    rw [e_gfi_sfi, if_neg]
    rintro ⟨rfl, rfl⟩
    exact q (Or.inr (Or.inr ⟨by omega, rfl⟩))
  have hX1 := XS_TF T hX
  obtain ⟨g', a1, a2⟩ := x_copyJobsLoop hX1 hS hS' hne hn (by rw [e_gfi_sfi, if_pos ⟨rfl, rfl⟩]) (by rw [e_gfi_sfi, if_neg (by omega)]; exact hc') hs FU_ 0 (sfi g 259 S (nI n)) (by omega) (by unfold FU_; omega)
    ⟨GF_rfl, rfl, rfl, fun _ _ => rfl, fun _ _ _ => rfl, fun _ _ _ => rfl, fun _ _ _ => rfl, ⟨by omega, by omega⟩, fun j hj => by omega, fun j J hj hJ => by
      obtain ⟨b1, b2, b3⟩ := hX1.2.2 S j J hS hj hJ
      exact ⟨b1, b2, fun j' hj' h' => (b3 S j' hS hj' h').2⟩⟩
  refine ⟨g', ?_, a2⟩
  simp (disch := first | with_reducible assumption | omega | (simp only [MI_sai_iff, MI_sfi_iff]; with_reducible assumption)) only [li, ↓lr_, ↓bd_m, ↓oc_m, ↓reduceIte, bi_0, bi_0n, bi_1, bi_1n, not_true_eq_false, not_false_eq_true, Nat.reduceAdd, Nat.reduceMul, nI_mul, nI_add, inb_T, ix_nI, le_T, le_F, lt_T, lt_F, eq_F, f8_copyJobs, hc', a1]
