/-! a new plan: its fields, its list of pages -/
theorem x_settingAt {g : GS_} {S u : Nat} (h1 : gfr g 263 S = some (bb S + 1)) (h2 : gln g 20 (bb S + 1) = 6) (hu : u < 6) : f8_settingAt S (nI u) g = some (gai g 20 (bb S + 1) u, g) := by
  simp (disch := first | with_reducible assumption | omega | (simp only [MI_sai_iff, MI_sfi_iff]; with_reducible assumption)) only [li, ↓lr_, ↓bd_m, ↓oc_m, ↓reduceIte, bi_0, bi_0n, bi_1, bi_1n, not_true_eq_false, not_false_eq_true, Nat.reduceAdd, Nat.reduceMul, nI_mul, nI_add, inb_T, ix_nI, le_T, le_F, lt_T, lt_F, eq_F, and_self, and_true, true_and, false_and, and_false, or_true, true_or, or_false, false_or, bi_eq, x_within, m_in, f8_settingAt, h1, h2, ofN]
theorem jmax0 {n : Nat} (hn : n < 100000) : jmax (nI 0) (nI n) = nI n := by
  rw [jmax_n2 (by omega) hn, show max 0 n = n by omega]
theorem jmax1 {n : Nat} (h1 : 1 ≤ n) (hn : n < 100000) : jmax (nI 1) (nI n) = nI n := by
  rw [jmax_n2 (by omega) hn, show max 1 n = n by omega]
theorem na_ok {β : Type} {g : GS_} {n : Nat} (hn : n ≤ 100000) (o : Nat → GS_ → Option β) : na_ g 20 (nI n) o = o (gcn g 20) (nwa g 20 n) := by
  unfold na_
  rw [nI_toInt (by omega), if_pos (by omega)]
  rfl
/-- the pages, copied -/
theorem x_copyPages {A : Nat} {X : List Nat} (hX : X.length ≤ 400) (hA : A ≠ 18) : ∀ (fuel k : Nat) (g : GS_), k ≤ X.length → X.length - k < fuel → gfr g 96 0 = some 18 → gln g 20 18 = 400 → LQ (gfi g 97 0) (gai g 20 18) X → gln g 20 A = X.length →
    ∃ g', f3_copyOfPages_b13 fuel 0 A (nI k) g = some (some A, g') ∧ gfi g' = gfi g ∧ gfr g' = gfr g ∧ gln g' = gln g ∧ gar g' = gar g ∧ gcn g' = gcn g ∧ ghs g' = ghs g ∧ gsl g' = gsl g ∧ (∀ t i, ¬ (t = 20 ∧ i = A) → gai g' t i = gai g t i) ∧ (∀ i, i < k → gai g' 20 A i = gai g 20 A i) ∧ (∀ i x, k ≤ i → X[i]? = some x → gai g' 20 A i = nI x)
  | 0, k, g, _, h, _, _, _, _ => by omega
  | fuel + 1, k, g, hk, hf, r1, r2, hL, hl => by
    rw [f3_copyOfPages_b13.eq_2, hl, ofN]
    by_cases he : k = X.length
    · subst he
      rw [if_pos ((le_nI (by omega) (by omega)).mpr (Nat.le_refl _))]
      refine ⟨g, rfl, rfl, rfl, rfl, rfl, rfl, rfl, rfl, fun _ _ _ => rfl, fun _ _ => rfl, fun i x hi hx => ?_⟩
      rw [List.getElem?_eq_none (by omega)] at hx
      cases hx
    · rw [if_neg (fun q => by have := (le_nI (by omega) (by omega)).mp q; omega)]
      obtain ⟨l1, l2⟩ := hL
      have hkl : k < X.length := by omega
      have e0 := l2 k _ (List.getElem?_eq_getElem hkl)
      have e1 : f3_pageAt 0 (nI k) g = some (nI X[k], g) := by
        have hx : X.length ≤ 400 := hX
        obtain ⟨val, hval⟩ : ∃ v, v = nI X[k] := ⟨_, rfl⟩
        rw [← hval] at e0 ⊢
        clear hval
        generalize X.length = xl at *
        simp (disch := first | with_reducible assumption | omega | (simp only [MI_sai_iff, MI_sfi_iff]; with_reducible assumption)) only [li, ↓lr_, ↓bd_m, ↓oc_m, ↓reduceIte, bi_0, bi_0n, bi_1, bi_1n, not_true_eq_false, not_false_eq_true, Nat.reduceAdd, Nat.reduceMul, nI_mul, nI_add, inb_T, ix_nI, le_T, le_F, lt_T, lt_F, eq_F, and_self, and_true, true_and, false_and, and_false, or_true, true_or, or_false, false_or, bi_eq, x_within, m_in, f3_pageAt, f3_has, l1, r1, r2, ofN, e0]
      obtain ⟨g', z1, z2, z3, z4, z5, z6, z7, z8, z9, z10, z11⟩ := x_copyPages hX hA fuel (k + 1) (sai g 20 A k (nI X[k])) (by omega) (by omega) r1 r2 ⟨l1, fun i x hi => by rw [e_gai_sai, if_neg (by omega)]; exact l2 i x hi⟩ hl
      refine ⟨g', ?_, z2, z3, z4, z5, z6, z7, z8, fun t' i q => ?_, fun i hi => ?_, fun i x hi hx => ?_⟩
      · rw [e1, bd_some, hl, if_pos ((inb_nI (by omega)).mpr (by omega)), lr_at, ix_nI (by omega)]
        have : nI k + (1 : Int32) = nI (k + 1) := nI_add _ _
        rw [this]
        exact z1
      · rw [z9 t' i q]
        funext x
        rw [e_gai_sai, if_neg (by rintro ⟨w1, w2, -⟩; exact q ⟨w1, w2⟩)]
      · rw [z10 i (by omega), e_gai_sai, if_neg (by omega)]
      · by_cases c : i = k
        · subst c
          rw [z10 i (by omega), e_gai_sai, if_pos ⟨rfl, rfl, rfl⟩]
          rw [List.getElem?_eq_getElem hkl] at hx
          exact congrArg nI (Option.some.inj hx)
        · exact z11 i x (by omega) hx
/-- the plan's fields, one step after the other -/
theorem x_i223 {g : GS_} {Q n : Nat} (hn : n ≤ 100000) (hn2 : n < 100000) : f4_init_b223 Q Q (nI 0) (nI n) g = f4_init_b234 FU_ Q (nI 0) (sfr (nwa g 20 n) 140 Q (some (gcn g 20))) := by
  rw [f4_init_b223, jmax0 hn2, na_ok hn, lr_at]
  rfl
theorem x_i198 {g : GS_} {Q S sd : Nat} (hS : S ≤ 400) (h7 : gfi g 137 Q = bi (¬ sd = 1)) (hsd : sd = 1 ∨ sd = 2) : f4_init_b198 Q Q (nI S) g = f4_init_b223 Q Q (nI 0) (nI (sd * S)) (sfi g 139 Q (nI S)) := by
  have e1 : gfi (sfi g 139 Q (nI S)) 137 Q = bi (¬ sd = 1) := by rw [e_gfi_sfi, if_neg (by omega)]; exact h7
  have e2 : gfi (sfi g 139 Q (nI S)) 139 Q = nI S := by rw [e_gfi_sfi, if_pos ⟨rfl, rfl⟩]
  rw [f4_init_b198, lr_at, e1, e2]
  rcases hsd with rfl | rfl
  · rw [if_pos (by decide), Nat.one_mul]
    rfl
  · rw [if_neg (by decide)]
    have : (2 : Int32) * nI S = nI (2 * S) := nI_mul 2 S
    rw [this]
    rfl
theorem x_i144 {g : GS_} {Q A len lay sid : Nat} (hl : 1 ≤ len ∧ len ≤ 400) (hlay : lay < 5) (hA : gln g 20 A = len) (h6 : gfi g 136 Q = bi (lay = 0)) (h7 : gfi g 137 Q = bi (¬ sdz lay sid = 1)) : f4_init_b144 Q (some A) Q (nI (psz lay)) g = f4_init_b198 Q Q (nI (scz lay sid len)) (sfi g 138 Q (nI (psz lay))) := by
  have e1 : gfi (sfi g 138 Q (nI (psz lay))) 137 Q = bi (¬ sdz lay sid = 1) := by rw [e_gfi_sfi, if_neg (by omega)]; exact h7
  have e2 : gfi (sfi g 138 Q (nI (psz lay))) 138 Q = nI (psz lay) := by rw [e_gfi_sfi, if_pos ⟨rfl, rfl⟩]
  have e3 : gfi (sfi g 138 Q (nI (psz lay))) 136 Q = bi (lay = 0) := by rw [e_gfi_sfi, if_neg (by omega)]; exact h6
  have e4 : gln (sfi g 138 Q (nI (psz lay))) 20 A = len := hA
  have hp := psz_pos lay
  have hp4 : psz lay ≤ 4 := by unfold psz; split <;> omega
  have hsd := sdz_pos lay sid
  rw [f4_init_b144, lr_at, oc_some, e2, e4, ofN, if_neg (show ¬ nI (psz lay) = (0 : Int32) from fun q => by have := (eq_nI (b := 0) (by omega) (by omega)).mp q; omega)]
  have n1 : nI len + nI (psz lay) - (1 : Int32) = nI (len + psz lay - 1) := by rw [nI_add]; exact nI_sub (b := 1) (by omega)
  have n2 : nI (len + psz lay - 1) / nI (psz lay) = nI ((len + psz lay - 1) / psz lay) := div_nI (by omega) (by omega) (by omega)
  have n3 : (len + psz lay - 1) / psz lay ≤ 500 := Nat.le_trans (Nat.div_le_self _ _) (by omega)
  rw [n1, n2, lr_at, e3]
  unfold scz
  by_cases c : lay = 0
  · rw [bi_t c, if_neg (by decide), if_pos c]
    have m1 : nI len + (3 : Int32) = nI (len + 3) := nI_add len 3
    have m2 : nI (len + 3) / (4 : Int32) = nI ((len + 3) / 4) := div_nI (d := 4) (by omega) (by omega) (by omega)
    rw [m1, m2]
  · have hps : psz lay = lay := if_neg c
    rw [bi_f c, if_pos (by decide), if_neg c, e1]
    rcases (show sdz lay sid = 1 ∨ sdz lay sid = 2 by omega) with w | w
    · rw [w, bi_f (by decide), if_pos (by decide), hps, Nat.add_sub_cancel, Nat.div_one]
    · rw [w, bi_t (by decide), if_neg (by decide), hps]
      rw [hps] at n3
      have m1 : nI ((len + lay - 1) / lay) + (1 : Int32) = nI ((len + lay - 1) / lay + 1) := nI_add _ 1
      have m2 : nI ((len + lay - 1) / lay + 1) / (2 : Int32) = nI (((len + lay - 1) / lay + 1) / 2) := div_nI (d := 2) (by omega) (by omega) (by omega)
      rw [m1, m2]
      rfl
theorem x_i121 {g : GS_} {Q A lay sid : Nat} (hlay : lay < 5) (h6 : gfi g 136 Q = bi (lay = 0)) (h4 : gfi g 134 Q = nI lay) : f4_init_b121 Q (some A) Q (bi (¬ sdz lay sid = 1)) g = f4_init_b144 Q (some A) Q (nI (psz lay)) (sfi g 137 Q (bi (¬ sdz lay sid = 1))) := by
  have e3 : gfi (sfi g 137 Q (bi (¬ sdz lay sid = 1))) 136 Q = bi (lay = 0) := by rw [e_gfi_sfi, if_neg (by omega)]; exact h6
  have e4 : gfi (sfi g 137 Q (bi (¬ sdz lay sid = 1))) 134 Q = nI lay := by rw [e_gfi_sfi, if_neg (by omega)]; exact h4
  rw [f4_init_b121, if_pos (by rw [bi_01]; trivial), lr_at, e3, e4]
  unfold psz
  by_cases c : lay = 0
  · rw [bi_t c, if_neg (by decide), if_pos c]
    rfl
  · rw [bi_f c, if_pos (by decide), if_neg c]
    have : jmax (1 : Int32) (nI lay) = nI lay := jmax1 (by omega) (by omega)
    rw [this]
theorem x_i98 {g : GS_} {Q A lay sid : Nat} (hlay : lay < 5) (hsid : sid < 3) (h3 : gfi g 133 Q = nI sid) : f4_init_b98 Q (some A) Q (bi (lay = 0)) g = f4_init_b121 Q (some A) Q (bi (¬ sdz lay sid = 1)) (sfi g 136 Q (bi (lay = 0))) := by
  have e3 : gfi (sfi g 136 Q (bi (lay = 0))) 136 Q = bi (lay = 0) := by rw [e_gfi_sfi, if_pos ⟨rfl, rfl⟩]
  have e4 : gfi (sfi g 136 Q (bi (lay = 0))) 133 Q = nI sid := by rw [e_gfi_sfi, if_neg (by omega)]; exact h3
  rw [f4_init_b98, if_pos (by rw [bi_01]; trivial), lr_at, e3, e4]
  unfold sdz
  by_cases c : lay = 0
  · rw [bi_t c, if_neg (by decide), if_pos c, bi_t (by decide)]
    rfl
  · rw [bi_f c, if_pos (by decide), if_neg c]
    by_cases d : sid = 0
    · rw [d, if_pos (by decide), if_pos rfl, bi_f (by decide)]
    · rw [if_neg (show ¬ nI sid = (0 : Int32) from fun q => d ((eq_nI (b := 0) (by omega) (by omega)).mp q)), if_neg d, bi_t (by decide)]
      rfl
/-- what a new plan is -/
def NewPl (g : GS_) (Q D A d cop col sid lay usr : Nat) (len : Nat) : Prop :=
  gfr g 128 Q = some D ∧ gfi g 129 Q = nI d ∧ gfr g 130 Q = some A ∧ gfi g 131 Q = nI cop ∧ gfi g 132 Q = nI col ∧ gfi g 133 Q = nI sid ∧ gfi g 134 Q = nI lay ∧ gfi g 135 Q = nI usr ∧
  gfi g 136 Q = bi (lay = 0) ∧ gfi g 137 Q = bi (¬ sdz lay sid = 1) ∧ gfi g 138 Q = nI (psz lay) ∧ gfi g 139 Q = nI (scz lay sid len) ∧ gfr g 140 Q = some (gcn g 20 - 1) ∧ gln g 20 (gcn g 20 - 1) = sdz lay sid * scz lay sid len
/-- the plan's own numbers alone are new -/
def NQ (g g' : GS_) (Q : Nat) : Prop :=
  (∀ f i, ¬ (f / 32 = 4 ∧ i = Q) → gfi g' f i = gfi g f i) ∧ (∀ f i, ¬ (f / 32 = 4 ∧ i = Q) → gfr g' f i = gfr g f i) ∧ (∀ t i, ¬ (t = 20 ∧ i = gcn g 20) → gai g' t i = gai g t i) ∧ (∀ t i, t ≠ 20 → gar g' t i = gar g t i) ∧
  (∀ t i, ¬ (t = 20 ∧ i = gcn g 20) → gln g' t i = gln g t i) ∧ (∀ t, gcn g' t = if t = 20 then gcn g 20 + 1 else gcn g t) ∧ ghs g' = ghs g + 1
/-- fields of the plan Q alone are written -/
def SF (Q : Nat) (g g' : GS_) : Prop :=
  (∀ f i, ¬ (f / 32 = 4 ∧ i = Q) → gfi g' f i = gfi g f i) ∧ (∀ f i, ¬ (f / 32 = 4 ∧ i = Q) → gfr g' f i = gfr g f i) ∧ gai g' = gai g ∧ gar g' = gar g ∧ gln g' = gln g ∧ gcn g' = gcn g ∧ ghs g' = ghs g ∧ gsl g' = gsl g
theorem SF_tr {Q : Nat} {a b c : GS_} (h1 : SF Q a b) (h2 : SF Q b c) : SF Q a c := ⟨fun f i q => (h2.1 f i q).trans (h1.1 f i q), fun f i q => (h2.2.1 f i q).trans (h1.2.1 f i q), h2.2.2.1.trans h1.2.2.1, h2.2.2.2.1.trans h1.2.2.2.1, h2.2.2.2.2.1.trans h1.2.2.2.2.1, h2.2.2.2.2.2.1.trans h1.2.2.2.2.2.1, h2.2.2.2.2.2.2.1.trans h1.2.2.2.2.2.2.1, h2.2.2.2.2.2.2.2.trans h1.2.2.2.2.2.2.2⟩
theorem SF_sfi {Q f : Nat} {g : GS_} {v : Int32} (h : f / 32 = 4) : SF Q g (sfi g f Q v) := ⟨fun f' i q => by rw [e_gfi_sfi, if_neg (by rintro ⟨rfl, rfl⟩; exact q ⟨h, rfl⟩)], fun _ _ _ => rfl, rfl, rfl, rfl, rfl, rfl, rfl⟩
theorem SF_sfr {Q f : Nat} {g : GS_} {v : Option Nat} (h : f / 32 = 4) : SF Q g (sfr g f Q v) := ⟨fun _ _ _ => rfl, fun f' i q => by rw [e_gfr_sfr, if_neg (by rintro ⟨rfl, rfl⟩; exact q ⟨h, rfl⟩)], rfl, rfl, rfl, rfl, rfl, rfl⟩
theorem SF_set {Q : Nat} {g g' : GS_} (h : SF Q g g') (hX : gfr g 263 0 = some (bb 0 + 1) ∧ gln g 20 (bb 0 + 1) = 6) : gfr g' 263 0 = some (bb 0 + 1) ∧ gln g' 20 (bb 0 + 1) = 6 := ⟨(h.2.1 263 0 (by omega)).trans hX.1, by rw [h.2.2.2.2.1]; exact hX.2⟩
theorem x_set0 {g : GS_} {u : Nat} {v : Int32} (hX : gfr g 263 0 = some (bb 0 + 1) ∧ gln g 20 (bb 0 + 1) = 6) (hu : u < 6) (hv : gai g 20 (bb 0 + 1) u = v) : f8_settingAt 0 (nI u) g = some (v, g) := by
  rw [x_settingAt hX.1 hX.2 hu, hv]
theorem x_p1 {g : GS_} {Q D A d cop col sid : Nat} (hX : gfr g 263 0 = some (bb 0 + 1) ∧ gln g 20 (bb 0 + 1) = 6) (v0 : gai g 20 (bb 0 + 1) 0 = nI cop) (v1 : gai g 20 (bb 0 + 1) 1 = nI col) (hcop : 1 ≤ cop ∧ cop ≤ 10)
    (vs : (gfi g 1 D = nI 2 ∧ sid = 0) ∨ (gfi g 1 D ≠ nI 2 ∧ gai g 20 (bb 0 + 1) 2 = nI sid)) :
    ∃ g', f4_init Q (some D) (nI d) (some A) (some 0) g = f4_init_b62 Q (some A) (some 0) Q (nI sid) g' ∧ SF Q g g' ∧ gfr g' 128 Q = some D ∧ gfi g' 129 Q = nI d ∧ gfr g' 130 Q = some A ∧ gfi g' 131 Q = nI cop ∧ gfi g' 132 Q = nI col := by
  have f3 : SF Q g (sfr (sfi (sfr g 128 Q (some D)) 129 Q (nI d)) 130 Q (some A)) := SF_tr (SF_sfr (by decide)) (SF_tr (SF_sfi (by decide)) (SF_sfr (by decide)))
  have r1 : gfr (sfr (sfi (sfr g 128 Q (some D)) 129 Q (nI d)) 130 Q (some A)) 128 Q = some D := by
    rw [e_gfr_sfr, if_neg (by omega), e_gfr_sfi, e_gfr_sfr, if_pos ⟨rfl, rfl⟩]
  have r2 : gfr (sfr (sfi (sfr g 128 Q (some D)) 129 Q (nI d)) 130 Q (some A)) 130 Q = some A := by
    rw [e_gfr_sfr, if_pos ⟨rfl, rfl⟩]
  have r3 : gfi (sfr (sfi (sfr g 128 Q (some D)) 129 Q (nI d)) 130 Q (some A)) 129 Q = nI d := by
    rw [e_gfi_sfr, e_gfi_sfi, if_pos ⟨rfl, rfl⟩]
  rw [f4_init, lr_at, lr_at, lr_at, oc_some]
  generalize sfr (sfi (sfr g 128 Q (some D)) 129 Q (nI d)) 130 Q (some A) = G at *
  have hX3 := SF_set f3 hX
  have a0 : f8_settingAt 0 (0 : Int32) G = some (nI cop, G) := x_set0 (u := 0) hX3 (by omega) (by rw [f3.2.2.1]; exact v0)
  have j1 : jmax (1 : Int32) (nI cop) = nI cop := jmax1 hcop.1 (by omega)
  have f4 : SF Q g (sfi G 131 Q (nI cop)) := SF_tr f3 (SF_sfi (by decide))
  have a1 : f8_settingAt 0 (1 : Int32) (sfi G 131 Q (nI cop)) = some (nI col, sfi G 131 Q (nI cop)) := x_set0 (u := 1) (SF_set f4 hX) (by omega) (by rw [f4.2.2.1]; exact v1)
  rw [a0, bd_some, j1, lr_at, a1, bd_some, lr_at, oc_some]
  have f5 : SF Q g (sfi (sfi G 131 Q (nI cop)) 132 Q (nI col)) := SF_tr f4 (SF_sfi (by decide))
  have r4 : gfi (sfi (sfi G 131 Q (nI cop)) 132 Q (nI col)) 131 Q = nI cop := by rw [e_gfi_sfi, if_neg (by omega), e_gfi_sfi, if_pos ⟨rfl, rfl⟩]
  have r5 : gfi (sfi (sfi G 131 Q (nI cop)) 132 Q (nI col)) 132 Q = nI col := by rw [e_gfi_sfi, if_pos ⟨rfl, rfl⟩]
  have r3' : gfi (sfi (sfi G 131 Q (nI cop)) 132 Q (nI col)) 129 Q = nI d := by rw [e_gfi_sfi, if_neg (by omega), e_gfi_sfi, if_neg (by omega)]; exact r3
  have r1' : gfr (sfi (sfi G 131 Q (nI cop)) 132 Q (nI col)) 128 Q = some D := r1
  have r2' : gfr (sfi (sfi G 131 Q (nI cop)) 132 Q (nI col)) 130 Q = some A := r2
  generalize sfi (sfi G 131 Q (nI cop)) 132 Q (nI col) = H at *
  have fD : gfi H 1 D = gfi g 1 D := f5.1 1 D (by omega)
  refine ⟨H, ?_, f5, r1', r3', r2', r4, r5⟩
  rw [fD]
  rcases vs with ⟨w1, rfl⟩ | ⟨w1, w2⟩
  · rw [if_pos (show gfi g 1 D = (2 : Int32) from w1)]
    rfl
  · rw [if_neg (show ¬ gfi g 1 D = (2 : Int32) from w1)]
    have a2 : f8_settingAt 0 (2 : Int32) H = some (nI sid, H) := x_set0 (u := 2) (SF_set f5 hX) (by omega) (by rw [f5.2.2.1]; exact w2)
    rw [a2, bd_some]
theorem x_p2 {g : GS_} {Q A sid lay usr : Nat} (hX : gfr g 263 0 = some (bb 0 + 1) ∧ gln g 20 (bb 0 + 1) = 6) (v3 : gai g 20 (bb 0 + 1) 3 = nI lay) (v5 : gai g 20 (bb 0 + 1) 5 = nI usr) (hlay : lay < 5) :
    ∃ g', f4_init_b62 Q (some A) (some 0) Q (nI sid) g = f4_init_b98 Q (some A) Q (bi (lay = 0)) g' ∧ SF Q g g' ∧ (∀ f, f < 133 → gfi g' f Q = gfi g f Q) ∧ gfr g' = gfr g ∧ gfi g' 133 Q = nI sid ∧ gfi g' 134 Q = nI lay ∧ gfi g' 135 Q = nI usr := by
  have f1 : SF Q g (sfi g 133 Q (nI sid)) := SF_sfi (by decide)
  have a3 : f8_settingAt 0 (3 : Int32) (sfi g 133 Q (nI sid)) = some (nI lay, sfi g 133 Q (nI sid)) := x_set0 (u := 3) (SF_set f1 hX) (by omega) v3
  have f2 : SF Q g (sfi (sfi g 133 Q (nI sid)) 134 Q (nI lay)) := SF_tr f1 (SF_sfi (by decide))
  have a5 : f8_settingAt 0 (5 : Int32) (sfi (sfi g 133 Q (nI sid)) 134 Q (nI lay)) = some (nI usr, sfi (sfi g 133 Q (nI sid)) 134 Q (nI lay)) := x_set0 (u := 5) (SF_set f2 hX) (by omega) v5
  rw [f4_init_b62, lr_at, oc_some, a3, bd_some, lr_at, a5, bd_some, lr_at]
  have f3 : SF Q g (sfi (sfi (sfi g 133 Q (nI sid)) 134 Q (nI lay)) 135 Q (nI usr)) := SF_tr f2 (SF_sfi (by decide))
  have r3 : gfi (sfi (sfi (sfi g 133 Q (nI sid)) 134 Q (nI lay)) 135 Q (nI usr)) 133 Q = nI sid := by rw [e_gfi_sfi, if_neg (by omega), e_gfi_sfi, if_neg (by omega), e_gfi_sfi, if_pos ⟨rfl, rfl⟩]
  have r4 : gfi (sfi (sfi (sfi g 133 Q (nI sid)) 134 Q (nI lay)) 135 Q (nI usr)) 134 Q = nI lay := by rw [e_gfi_sfi, if_neg (by omega), e_gfi_sfi, if_pos ⟨rfl, rfl⟩]
  have r5 : gfi (sfi (sfi (sfi g 133 Q (nI sid)) 134 Q (nI lay)) 135 Q (nI usr)) 135 Q = nI usr := by rw [e_gfi_sfi, if_pos ⟨rfl, rfl⟩]
  have rl : ∀ f, f < 133 → gfi (sfi (sfi (sfi g 133 Q (nI sid)) 134 Q (nI lay)) 135 Q (nI usr)) f Q = gfi g f Q := fun f q => by rw [e_gfi_sfi, if_neg (by omega), e_gfi_sfi, if_neg (by omega), e_gfi_sfi, if_neg (by omega)]
  have rr : gfr (sfi (sfi (sfi g 133 Q (nI sid)) 134 Q (nI lay)) 135 Q (nI usr)) = gfr g := rfl
  generalize sfi (sfi (sfi g 133 Q (nI sid)) 134 Q (nI lay)) 135 Q (nI usr) = H at *
  refine ⟨H, ?_, f3, rl, rr, r3, r4, r5⟩
  rw [r4]
  by_cases c : lay = 0
  · rw [c, if_pos (by decide), bi_t rfl]
  · rw [if_neg (show ¬ nI lay = (0 : Int32) from fun q => c ((eq_nI (b := 0) (by omega) (by omega)).mp q)), bi_f c]
theorem x_p3 {g : GS_} {Q A len sid lay : Nat} (hl : 1 ≤ len ∧ len ≤ 400) (hA : gln g 20 A = len) (hlay : lay < 5) (hsid : sid < 3) (h3 : gfi g 133 Q = nI sid) (h4 : gfi g 134 Q = nI lay) :
    ∃ g', f4_init_b98 Q (some A) Q (bi (lay = 0)) g = f4_init_b198 Q Q (nI (scz lay sid len)) g' ∧ SF Q g g' ∧ (∀ f, f < 136 → gfi g' f Q = gfi g f Q) ∧ gfr g' = gfr g ∧ gfi g' 136 Q = bi (lay = 0) ∧ gfi g' 137 Q = bi (¬ sdz lay sid = 1) ∧ gfi g' 138 Q = nI (psz lay) := by
  have L3 := x_i98 (A := A) hlay hsid h3
  have f1 : SF Q g (sfi g 136 Q (bi (lay = 0))) := SF_sfi (by decide)
  have k6 : gfi (sfi g 136 Q (bi (lay = 0))) 136 Q = bi (lay = 0) := by rw [e_gfi_sfi, if_pos ⟨rfl, rfl⟩]
  have k4 : gfi (sfi g 136 Q (bi (lay = 0))) 134 Q = nI lay := by rw [e_gfi_sfi, if_neg (by omega)]; exact h4
  have kl : ∀ f, f < 136 → gfi (sfi g 136 Q (bi (lay = 0))) f Q = gfi g f Q := fun f q => by rw [e_gfi_sfi, if_neg (by omega)]
  have kr : gfr (sfi g 136 Q (bi (lay = 0))) = gfr g := rfl
  generalize sfi g 136 Q (bi (lay = 0)) = G1 at *
  have L4 := x_i121 (A := A) (sid := sid) hlay k6 k4
  have f2 : SF Q g (sfi G1 137 Q (bi (¬ sdz lay sid = 1))) := SF_tr f1 (SF_sfi (by decide))
  have m6 : gfi (sfi G1 137 Q (bi (¬ sdz lay sid = 1))) 136 Q = bi (lay = 0) := by rw [e_gfi_sfi, if_neg (by omega)]; exact k6
  have m7 : gfi (sfi G1 137 Q (bi (¬ sdz lay sid = 1))) 137 Q = bi (¬ sdz lay sid = 1) := by rw [e_gfi_sfi, if_pos ⟨rfl, rfl⟩]
  have ml : ∀ f, f < 136 → gfi (sfi G1 137 Q (bi (¬ sdz lay sid = 1))) f Q = gfi g f Q := fun f q => by rw [e_gfi_sfi, if_neg (by omega)]; exact kl f q
  have mr : gfr (sfi G1 137 Q (bi (¬ sdz lay sid = 1))) = gfr g := kr
  generalize sfi G1 137 Q (bi (¬ sdz lay sid = 1)) = G2 at *
  have hA2 : gln G2 20 A = len := by rw [f2.2.2.2.2.1]; exact hA
  have L5 := x_i144 hl hlay hA2 m6 m7
  have f3 : SF Q g (sfi G2 138 Q (nI (psz lay))) := SF_tr f2 (SF_sfi (by decide))
  refine ⟨sfi G2 138 Q (nI (psz lay)), L3.trans (L4.trans L5), f3, fun f q => ?_, mr, ?_, ?_, ?_⟩
  · rw [e_gfi_sfi, if_neg (by omega)]
    exact ml f q
  · rw [e_gfi_sfi, if_neg (by omega)]
    exact m6
  · rw [e_gfi_sfi, if_neg (by omega)]
    exact m7
  · rw [e_gfi_sfi, if_pos ⟨rfl, rfl⟩]
theorem x_planInit {g : GS_} {Q D A d len cop col sid lay usr : Nat} (hX : gfr g 263 0 = some (bb 0 + 1) ∧ gln g 20 (bb 0 + 1) = 6) (hl : 1 ≤ len ∧ len ≤ 400) (hA : gln g 20 A = len)
    (v0 : gai g 20 (bb 0 + 1) 0 = nI cop) (v1 : gai g 20 (bb 0 + 1) 1 = nI col) (v3 : gai g 20 (bb 0 + 1) 3 = nI lay) (v5 : gai g 20 (bb 0 + 1) 5 = nI usr) (hcop : 1 ≤ cop ∧ cop ≤ 10) (hlay : lay < 5) (hsid : sid < 3)
    (vs : (gfi g 1 D = nI 2 ∧ sid = 0) ∨ (gfi g 1 D ≠ nI 2 ∧ gai g 20 (bb 0 + 1) 2 = nI sid)) :
    ∃ g', f4_init Q (some D) (nI d) (some A) (some 0) g = f4_init_b234 FU_ Q (nI 0) g' ∧ NewPl g' Q D A d cop col sid lay usr len ∧ NQ g g' Q ∧ gsl g' = gsl g + sdz lay sid * scz lay sid len := by
  have hsc : scz lay sid len ≤ 400 := scz_le hl.2
  have hsd := sdz_pos lay sid
  have hM : sdz lay sid * scz lay sid len ≤ 800 := by
    have := Nat.mul_le_mul hsd.2 hsc
    omega
  obtain ⟨g1, a1, a2, a3, a4, a5, a6, a7⟩ := x_p1 (A := A) (d := d) (Q := Q) hX v0 v1 hcop vs
  obtain ⟨g2, b1, b2, b3, b4, b5, b6, b7⟩ := x_p2 (A := A) (Q := Q) (sid := sid) (lay := lay) (usr := usr) (SF_set a2 hX) (by rw [a2.2.2.1]; exact v3) (by rw [a2.2.2.1]; exact v5) hlay
  have s2 := SF_tr a2 b2
  obtain ⟨g3, c1, c2, c3, c4, c5, c6, c7⟩ := x_p3 (A := A) (Q := Q) (len := len) hl (by rw [s2.2.2.2.2.1]; exact hA) hlay hsid b5 b6
  have s3 := SF_tr s2 c2
  have L6 := x_i198 hsc c6 (show sdz lay sid = 1 ∨ sdz lay sid = 2 by omega)
  have s4 : SF Q g (sfi g3 139 Q (nI (scz lay sid len))) := SF_tr s3 (SF_sfi (by decide))
  have d9 : gfi (sfi g3 139 Q (nI (scz lay sid len))) 139 Q = nI (scz lay sid len) := by rw [e_gfi_sfi, if_pos ⟨rfl, rfl⟩]
  have dl : ∀ f, f < 139 → gfi (sfi g3 139 Q (nI (scz lay sid len))) f Q = gfi g3 f Q := fun f q => by rw [e_gfi_sfi, if_neg (by omega)]
  have dr : gfr (sfi g3 139 Q (nI (scz lay sid len))) = gfr g3 := rfl
  generalize sfi g3 139 Q (nI (scz lay sid len)) = g4 at *
  have L7 := x_i223 (g := g4) (Q := Q) (n := sdz lay sid * scz lay sid len) (by omega) (by omega)
  have hc4 : gcn g4 20 = gcn g 20 := by rw [s4.2.2.2.2.2.1]
  have q1 : ∀ f i, gfi (sfr (nwa g4 20 (sdz lay sid * scz lay sid len)) 140 Q (some (gcn g4 20))) f i = gfi g4 f i := fun f i => rfl
  have q2 : ∀ f i, ¬ (f = 140 ∧ i = Q) → gfr (sfr (nwa g4 20 (sdz lay sid * scz lay sid len)) 140 Q (some (gcn g4 20))) f i = gfr g4 f i := fun f i q => by rw [e_gfr_sfr, if_neg q, e_gfr_nwa]
  have q3 : gfr (sfr (nwa g4 20 (sdz lay sid * scz lay sid len)) 140 Q (some (gcn g4 20))) 140 Q = some (gcn g4 20) := by rw [e_gfr_sfr, if_pos ⟨rfl, rfl⟩]
  have q4 : ∀ t i, ¬ (t = 20 ∧ i = gcn g4 20) → gai (sfr (nwa g4 20 (sdz lay sid * scz lay sid len)) 140 Q (some (gcn g4 20))) t i = gai g4 t i := fun t i q => by rw [e_gai_sfr, e_gai_nwa, if_neg q]
  have q5 : ∀ t i, t ≠ 20 → gar (sfr (nwa g4 20 (sdz lay sid * scz lay sid len)) 140 Q (some (gcn g4 20))) t i = gar g4 t i := fun t i q => by rw [e_gar_sfr, e_gar_nwa, if_neg (fun w => q w.1)]
  have q6 : ∀ t i, ¬ (t = 20 ∧ i = gcn g4 20) → gln (sfr (nwa g4 20 (sdz lay sid * scz lay sid len)) 140 Q (some (gcn g4 20))) t i = gln g4 t i := fun t i q => by rw [e_gln_sfr, e_gln_nwa, if_neg q]
  have q7 : gln (sfr (nwa g4 20 (sdz lay sid * scz lay sid len)) 140 Q (some (gcn g4 20))) 20 (gcn g4 20) = sdz lay sid * scz lay sid len := by rw [e_gln_sfr, e_gln_nwa, if_pos ⟨rfl, rfl⟩]
  have q8 : ∀ t, gcn (sfr (nwa g4 20 (sdz lay sid * scz lay sid len)) 140 Q (some (gcn g4 20))) t = if t = 20 then gcn g4 20 + 1 else gcn g4 t := fun t => by rw [e_gcn_sfr, e_gcn_nwa]
  have q9 : ghs (sfr (nwa g4 20 (sdz lay sid * scz lay sid len)) 140 Q (some (gcn g4 20))) = ghs g4 + 1 := rfl
  have q10 : gsl (sfr (nwa g4 20 (sdz lay sid * scz lay sid len)) 140 Q (some (gcn g4 20))) = gsl g4 + sdz lay sid * scz lay sid len := rfl
  generalize sfr (nwa g4 20 (sdz lay sid * scz lay sid len)) 140 Q (some (gcn g4 20)) = g5 at *
  have h20 : gcn g5 20 - 1 = gcn g 20 := by rw [q8, if_pos rfl, hc4, Nat.add_sub_cancel]
  have rr : ∀ f, f ≠ 140 → gfr g5 f Q = gfr g1 f Q := fun f q => by rw [q2 f Q (by omega), dr, c4, b4]
  refine ⟨g5, a1.trans (b1.trans (c1.trans (L6.trans L7))), ?_, ?_, ?_⟩
  · refine ⟨(rr 128 (by omega)).trans a3, ?_, (rr 130 (by omega)).trans a5, ?_, ?_, ?_, ?_, ?_, ?_, ?_, ?_, ?_, ?_, ?_⟩
    · rw [q1, dl _ (by omega), c3 _ (by omega), b3 _ (by omega)]; exact a4
    · rw [q1, dl _ (by omega), c3 _ (by omega), b3 _ (by omega)]; exact a6
    · rw [q1, dl _ (by omega), c3 _ (by omega), b3 _ (by omega)]; exact a7
    · rw [q1, dl _ (by omega), c3 _ (by omega)]; exact b5
    · rw [q1, dl _ (by omega), c3 _ (by omega)]; exact b6
    · rw [q1, dl _ (by omega), c3 _ (by omega)]; exact b7
    · rw [q1, dl _ (by omega)]; exact c5
    · rw [q1, dl _ (by omega)]; exact c6
    · rw [q1, dl _ (by omega)]; exact c7
    · rw [q1]; exact d9
    · rw [h20, q3, hc4]
    · rw [h20, ← hc4]; exact q7
  · refine ⟨fun f i q => (q1 f i).trans (s4.1 f i q), fun f i q => (q2 f i (fun w => q ⟨by rw [w.1], w.2⟩)).trans (s4.2.1 f i q), fun t i q => ?_, fun t i q => ?_, fun t i q => ?_, fun t => ?_, ?_⟩
    · rw [q4 t i (by rw [hc4]; exact q), s4.2.2.1]
    · rw [q5 t i q, s4.2.2.2.1]
    · rw [q6 t i (by rw [hc4]; exact q), s4.2.2.2.2.1]
    · rw [q8, s4.2.2.2.2.2.1]
    · rw [q9, s4.2.2.2.2.2.2.1]
  · rw [q10, s4.2.2.2.2.2.2.2]
