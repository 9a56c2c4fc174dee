/-! lists of pages -/
def LQ (s : Int32) (arr : Nat → Int32) (X : List Nat) : Prop := s = nI X.length ∧ ∀ i x, X[i]? = some x → arr i = nI x
theorem LQ_nil {arr : Nat → Int32} : LQ (nI 0) arr [] := ⟨rfl, fun i x h => by simp at h⟩
theorem LQ_add {s : Int32} {arr : Nat → Int32} {X : List Nat} {x : Nat} (h : LQ s arr X) : LQ (nI (X.length + 1)) (up arr X.length (nI x)) (X ++ [x]) := by
  refine ⟨by simp, fun i y hy => ?_⟩
  rcases Nat.lt_trichotomy i X.length with c | c | c
  · rw [List.getElem?_append_left c] at hy
    rw [up_ne (by omega)]
    exact h.2 i y hy
  · subst c
    rw [List.getElem?_append_right (Nat.le_refl _), Nat.sub_self] at hy
    simp at hy
    rw [up_eq rfl, hy]
  · rw [List.getElem?_eq_none (by simp; omega)] at hy
    cases hy
def ua (P : Nat → Bool) : Nat → Nat → List Nat
  | _, 0 => []
  | f, n + 1 => (if P f then [f] else []) ++ ua P (f + 1) n
def da (P : Nat → Bool) : Nat → Nat → List Nat
  | _, 0 => []
  | f, n + 1 => (if P f then [f] else []) ++ da P (f - 1) n
theorem ua_congr {P Q : Nat → Bool} : ∀ (n f : Nat), (∀ x, f ≤ x → x < f + n → P x = Q x) → ua P f n = ua Q f n
  | 0, _, _ => rfl
  | n + 1, f, h => by
    rw [ua, ua, h f (by omega) (by omega), ua_congr n (f + 1) (fun x h1 h2 => h x (by omega) (by omega))]
theorem da_congr {P Q : Nat → Bool} : ∀ (n f : Nat), n ≤ f + 1 → (∀ x, x ≤ f → P x = Q x) → da P f n = da Q f n
  | 0, _, _, _ => rfl
  | n + 1, f, hn, h => by
    rw [da, da, h f (by omega)]
    rcases Nat.eq_zero_or_pos n with rfl | hp
    · rfl
    · rw [da_congr n (f - 1) (by omega) (fun x h1 => h x (by omega))]
theorem ua_no {P : Nat → Bool} : ∀ (n f : Nat), (∀ x, f ≤ x → P x = false) → ua P f n = []
  | 0, _, _ => rfl
  | n + 1, f, h => by
    rw [ua, h f (by omega), ua_no n (f + 1) (fun x hx => h x (by omega))]
    rfl
/-- going up, what is too large falls away -/
theorem ua_cut {P Q : Nat → Bool} {N : Nat} (hQ : ∀ x, Q x = (decide (x ≤ N) && P x)) : ∀ (n f : Nat), ua Q f n = ua P f (min n (N + 1 - f))
  | 0, f => by rw [Nat.zero_min]; rfl
  | n + 1, f => by
    by_cases h : f ≤ N
    · rw [show min (n + 1) (N + 1 - f) = min n (N + 1 - (f + 1)) + 1 by omega, ua, ua, ua_cut hQ n (f + 1), hQ f, decide_eq_true h, Bool.true_and]
    · rw [show N + 1 - f = 0 by omega, Nat.min_zero, ua_no _ _ (fun x hx => by rw [hQ x, decide_eq_false (by omega), Bool.false_and])]
      rfl
/-- going down, what is too large falls away -/
theorem da_cut {P Q : Nat → Bool} {N : Nat} (hQ : ∀ x, Q x = (decide (x ≤ N) && P x)) : ∀ (d L f : Nat), f = L + d → da Q f (d + 1) = da P (min f N) (min f N + 1 - L)
  | 0, L, f, h => by
    by_cases c : f ≤ N
    · rw [show min f N = f by omega, show f + 1 - L = 1 by omega, da, da, hQ f, decide_eq_true c, Bool.true_and]
      rfl
    · rw [show min f N + 1 - L = 0 by omega]
      show (if Q f then [f] else []) ++ [] = []
      rw [hQ f, decide_eq_false c, Bool.false_and]
      rfl
  | d + 1, L, f, h => by
    by_cases c : f ≤ N
    · rw [show min f N = f by omega, show f + 1 - L = d + 1 + 1 by omega]
      refine da_congr _ _ (by omega) (fun x hx => ?_)
      rw [hQ x, decide_eq_true (by omega), Bool.true_and]
    · rw [da, hQ f, decide_eq_false c, Bool.false_and, da_cut hQ d L (f - 1) (by omega), show min (f - 1) N = min f N by omega]
      rfl
def part (h : Int32) (x : Nat) : Bool := if h = nI 0 then true else if h = nI 111 then decide (x % 2 = 1) else decide (x % 2 = 0)
def hok (h : Int32) : Prop := h = nI 0 ∨ h = nI 111 ∨ h = nI 101
theorem hv_ok {c : Nat → Int32} {r : Nat} : hok (hv c r) := by
  unfold hv hok
  split
  · rename_i h
    exact Or.inr h
  · exact Or.inl rfl
def pcl (h : Int32) : Int32 := if h = nI 0 then -nI 1 else if h = nI 111 then nI 1 else nI 0
theorem x_matches {h : Int32} {x : Nat} {g : GS_} (hh : hok h) (hx : x < 100000) : f3_matches (nI x) (pcl h) g = some (bi (part h x = true), g) := by
  have e1 : jrem (nI x) (nI 2) = nI (x % 2) := rem_nI (by omega) (by omega) (by omega)
  have m2 := Nat.mod_two_eq_zero_or_one x
  have n1 : (nI 1 = -nI 1) = False := by decide
  have n0 : (nI 0 = -nI 1) = False := by decide
  unfold part pcl
  rcases hh with rfl | rfl | rfl
  · rw [if_pos rfl, if_pos rfl, bi_t rfl]
    simp (disch := first | with_reducible assumption | omega | (simp only [MI_sai_iff, MI_sfi_iff]; with_reducible assumption)) only [li, ↓lr_, ↓bd_m, ↓oc_m, ↓reduceIte, bi_0, bi_0n, bi_1, bi_1n, not_true_eq_false, not_false_eq_true, Nat.reduceAdd, Nat.reduceMul, nI_mul, nI_add, inb_T, ix_nI, le_T, le_F, lt_T, lt_F, eq_F, and_self, and_true, true_and, false_and, and_false, or_true, true_or, or_false, false_or, bi_eq, x_within, m_in, f3_matches, f3_matches_b12]
  · rw [if_neg (by decide), if_pos rfl, if_neg (by decide), if_pos rfl]
    rcases m2 with q | q
    · rw [bi_f (by rw [q]; decide)]
      rw [q] at e1
      simp (disch := first | with_reducible assumption | omega | (simp only [MI_sai_iff, MI_sfi_iff]; with_reducible assumption)) only [li, ↓lr_, ↓bd_m, ↓oc_m, ↓reduceIte, bi_0, bi_0n, bi_1, bi_1n, not_true_eq_false, not_false_eq_true, Nat.reduceAdd, Nat.reduceMul, nI_mul, nI_add, inb_T, ix_nI, le_T, le_F, lt_T, lt_F, eq_F, and_self, and_true, true_and, false_and, and_false, or_true, true_or, or_false, false_or, bi_eq, x_within, m_in, f3_matches, e1, n1, n0]
    · rw [bi_t (by rw [q]; decide)]
      rw [q] at e1
      simp (disch := first | with_reducible assumption | omega | (simp only [MI_sai_iff, MI_sfi_iff]; with_reducible assumption)) only [li, ↓lr_, ↓bd_m, ↓oc_m, ↓reduceIte, bi_0, bi_0n, bi_1, bi_1n, not_true_eq_false, not_false_eq_true, Nat.reduceAdd, Nat.reduceMul, nI_mul, nI_add, inb_T, ix_nI, le_T, le_F, lt_T, lt_F, eq_F, and_self, and_true, true_and, false_and, and_false, or_true, true_or, or_false, false_or, bi_eq, x_within, m_in, f3_matches, e1, n1, n0, f3_matches_b12]
  · rw [if_neg (by decide), if_neg (by decide), if_neg (by decide), if_neg (by decide)]
    rcases m2 with q | q
    · rw [bi_t (by rw [q]; decide)]
      rw [q] at e1
      simp (disch := first | with_reducible assumption | omega | (simp only [MI_sai_iff, MI_sfi_iff]; with_reducible assumption)) only [li, ↓lr_, ↓bd_m, ↓oc_m, ↓reduceIte, bi_0, bi_0n, bi_1, bi_1n, not_true_eq_false, not_false_eq_true, Nat.reduceAdd, Nat.reduceMul, nI_mul, nI_add, inb_T, ix_nI, le_T, le_F, lt_T, lt_F, eq_F, and_self, and_true, true_and, false_and, and_false, or_true, true_or, or_false, false_or, bi_eq, x_within, m_in, f3_matches, e1, n1, n0, f3_matches_b12]
    · rw [bi_f (by rw [q]; decide)]
      rw [q] at e1
      simp (disch := first | with_reducible assumption | omega | (simp only [MI_sai_iff, MI_sfi_iff]; with_reducible assumption)) only [li, ↓lr_, ↓bd_m, ↓oc_m, ↓reduceIte, bi_0, bi_0n, bi_1, bi_1n, not_true_eq_false, not_false_eq_true, Nat.reduceAdd, Nat.reduceMul, nI_mul, nI_add, inb_T, ix_nI, le_T, le_F, lt_T, lt_F, eq_F, and_self, and_true, true_and, false_and, and_false, or_true, true_or, or_false, false_or, bi_eq, x_within, m_in, f3_matches, e1, n1, n0]
theorem m_isPart {h : Int32} {x : Nat} {g : GS_} (hh : hok h) (h11 : gfi g 331 0 = h) (hx : x < 100000) : f10_isPart 0 (nI x) g = some (bi (part h x = true), g) := by
  have e1 : jrem (nI x) (nI 2) = nI (x % 2) := rem_nI (by omega) (by omega) (by omega)
  have m2 := Nat.mod_two_eq_zero_or_one x
  unfold part
  rcases hh with rfl | rfl | rfl
  · rw [if_pos rfl, bi_t rfl]
    simp (disch := first | with_reducible assumption | omega | (simp only [MI_sai_iff, MI_sfi_iff]; with_reducible assumption)) only [li, ↓lr_, ↓bd_m, ↓oc_m, ↓reduceIte, bi_0, bi_0n, bi_1, bi_1n, not_true_eq_false, not_false_eq_true, Nat.reduceAdd, Nat.reduceMul, nI_mul, nI_add, inb_T, ix_nI, le_T, le_F, lt_T, lt_F, eq_F, and_self, and_true, true_and, false_and, and_false, or_true, true_or, or_false, false_or, bi_eq, x_within, m_in, f10_isPart, h11, f10_isPart_b27]
  · rw [if_neg (by decide), if_pos rfl]
    rcases m2 with q | q
    · rw [bi_f (by rw [q]; decide)]
      rw [q] at e1
      simp (disch := first | with_reducible assumption | omega | (simp only [MI_sai_iff, MI_sfi_iff]; with_reducible assumption)) only [li, ↓lr_, ↓bd_m, ↓oc_m, ↓reduceIte, bi_0, bi_0n, bi_1, bi_1n, not_true_eq_false, not_false_eq_true, Nat.reduceAdd, Nat.reduceMul, nI_mul, nI_add, inb_T, ix_nI, le_T, le_F, lt_T, lt_F, eq_F, and_self, and_true, true_and, false_and, and_false, or_true, true_or, or_false, false_or, bi_eq, x_within, m_in, f10_isPart, h11, e1, f10_isPart_b24]
    · rw [bi_t (by rw [q]; decide)]
      rw [q] at e1
      simp (disch := first | with_reducible assumption | omega | (simp only [MI_sai_iff, MI_sfi_iff]; with_reducible assumption)) only [li, ↓lr_, ↓bd_m, ↓oc_m, ↓reduceIte, bi_0, bi_0n, bi_1, bi_1n, not_true_eq_false, not_false_eq_true, Nat.reduceAdd, Nat.reduceMul, nI_mul, nI_add, inb_T, ix_nI, le_T, le_F, lt_T, lt_F, eq_F, and_self, and_true, true_and, false_and, and_false, or_true, true_or, or_false, false_or, bi_eq, x_within, m_in, f10_isPart, h11, e1, f10_isPart_b24, f10_isPart_b27]
  · rw [if_neg (by decide), if_neg (by decide)]
    rcases m2 with q | q
    · rw [bi_t (by rw [q]; decide)]
      rw [q] at e1
      simp (disch := first | with_reducible assumption | omega | (simp only [MI_sai_iff, MI_sfi_iff]; with_reducible assumption)) only [li, ↓lr_, ↓bd_m, ↓oc_m, ↓reduceIte, bi_0, bi_0n, bi_1, bi_1n, not_true_eq_false, not_false_eq_true, Nat.reduceAdd, Nat.reduceMul, nI_mul, nI_add, inb_T, ix_nI, le_T, le_F, lt_T, lt_F, eq_F, and_self, and_true, true_and, false_and, and_false, or_true, true_or, or_false, false_or, bi_eq, x_within, m_in, f10_isPart, h11, e1, f10_isPart_b24, f10_isPart_b27]
    · rw [bi_f (by rw [q]; decide)]
      rw [q] at e1
      simp (disch := first | with_reducible assumption | omega | (simp only [MI_sai_iff, MI_sfi_iff]; with_reducible assumption)) only [li, ↓lr_, ↓bd_m, ↓oc_m, ↓reduceIte, bi_0, bi_0n, bi_1, bi_1n, not_true_eq_false, not_false_eq_true, Nat.reduceAdd, Nat.reduceMul, nI_mul, nI_add, inb_T, ix_nI, le_T, le_F, lt_T, lt_F, eq_F, and_self, and_true, true_and, false_and, and_false, or_true, true_or, or_false, false_or, bi_eq, x_within, m_in, f10_isPart, h11, e1, f10_isPart_b24]
-- the class's list
/-- what the class's lists and texts may move -/
def FX (g g' : GS_) : Prop := NR g g' ∧ (∀ f i, ¬ ((f = 97 ∨ f = 98 ∨ f = 194 ∨ f = 228) ∧ i = 0) → gfi g' f i = gfi g f i) ∧ ∀ t i, ¬ (t = 20 ∧ 18 ≤ i ∧ i < 23) → gai g' t i = gai g t i
theorem FX_rfl {g : GS_} : FX g g := ⟨NR_rfl, fun _ _ _ => rfl, fun _ _ _ => rfl⟩
theorem FX_tr {a b c : GS_} (h1 : FX a b) (h2 : FX b c) : FX a c := ⟨NR_tr h1.1 h2.1, fun f i q => (h2.2.1 f i q).trans (h1.2.1 f i q), fun t i q => (h2.2.2 t i q).trans (h1.2.2 t i q)⟩
theorem FX_sfi {g : GS_} {f : Nat} {v : Int32} (h : f = 97 ∨ f = 98 ∨ f = 194 ∨ f = 228) : FX g (sfi g f 0 v) := ⟨⟨rfl, rfl, rfl, rfl, rfl, rfl⟩, fun f' i' q => by rw [e_gfi_sfi, if_neg (by rintro ⟨rfl, rfl⟩; exact q ⟨h, rfl⟩)], fun _ _ _ => rfl⟩
theorem FX_sai {g : GS_} {i k : Nat} {v : Int32} (h : 18 ≤ i ∧ i < 23) : FX g (sai g 20 i k v) := by
  refine ⟨⟨rfl, rfl, rfl, rfl, rfl, rfl⟩, fun _ _ _ => rfl, fun t i' q => ?_⟩
  funext j
  rw [e_gai_sai, if_neg (by rintro ⟨rfl, rfl, -⟩; exact q ⟨rfl, h⟩)]
/-- the list's shape -/
def PLs (g : GS_) : Prop := gfr g 96 0 = some 18 ∧ gln g 20 18 = 400
theorem PLs_FX {g g' : GS_} (h : FX g g') (hP : PLs g) : PLs g' := by
  unfold PLs
  rw [h.1.1, h.1.2.1]
  exact hP
def OV (g : GS_) (X : List Nat) : Prop := if X.length ≤ 400 then gfi g 98 0 = nI 0 ∧ LQ (gfi g 97 0) (gai g 20 18) X else gfi g 98 0 = nI 1 ∧ gfi g 97 0 = nI 400
theorem x_appendIf {g : GS_} {X : List Nat} {h : Int32} {x : Nat} (hP : PLs g) (hO : OV g X) (hh : hok h) (hx : x < 100000) : ∃ g', f3_appendIf 0 (nI x) (pcl h) g = some ((), g') ∧ FX g g' ∧ gfi g' 194 0 = gfi g 194 0 ∧ OV g' (X ++ (if part h x then [x] else [])) := by
  have e1 := x_matches (g := g) hh hx
  obtain ⟨r1, r2⟩ := hP
  by_cases c : part h x = true
  · rw [if_pos c]
    rw [bi_t c] at e1
    unfold OV at hO
    by_cases hl : X.length < 400
    · rw [if_pos (by omega)] at hO
      obtain ⟨o1, o2, o3⟩ := hO
      have hadd := LQ_add (x := x) (⟨o2, o3⟩ : LQ (gfi g 97 0) (gai g 20 18) X)
      refine ⟨sfi (sai g 20 18 X.length (nI x)) 97 0 (nI (X.length + 1)), ?_, FX_tr (FX_sai (by omega)) (FX_sfi (by omega)), ?_, ?_⟩
      · generalize X.length = n at *
        simp (disch := first | with_reducible assumption | omega | (simp only [MI_sai_iff, MI_sfi_iff]; with_reducible assumption)) only [li, ↓lr_, ↓bd_m, ↓oc_m, ↓reduceIte, bi_0, bi_0n, bi_1, bi_1n, not_true_eq_false, not_false_eq_true, Nat.reduceAdd, Nat.reduceMul, nI_mul, nI_add, inb_T, ix_nI, le_T, le_F, lt_T, lt_F, eq_F, and_self, and_true, true_and, false_and, and_false, or_true, true_or, or_false, false_or, bi_eq, x_within, m_in, f3_appendIf, e1, o2, r1, r2, ofN, e_gfi_sai]
      · rw [e_gfi_sfi, if_neg (by omega)]
        rfl
      · unfold OV
        rw [if_pos (by simp; omega)]
        refine ⟨?_, ?_⟩
        · rw [e_gfi_sfi, if_neg (by omega)]
          exact o1
        · have : gai (sfi (sai g 20 18 X.length (nI x)) 97 0 (nI (X.length + 1))) 20 18 = up (gai g 20 18) X.length (nI x) := by
            funext k
            rw [e_gai_sfi, e_gai_sai]
            unfold up
            by_cases q : k = X.length
            · rw [if_pos ⟨rfl, rfl, q⟩, if_pos q]
            · rw [if_neg (by omega), if_neg q]
          rw [this, e_gfi_sfi, if_pos ⟨rfl, rfl⟩]
          exact hadd
    · have n97 : gfi g 97 0 = nI 400 := by
        by_cases q : X.length ≤ 400
        · rw [if_pos q] at hO
          rw [hO.2.1, show X.length = 400 by omega]
        · rw [if_neg q] at hO
          exact hO.2
      refine ⟨sfi g 98 0 (nI 1), ?_, FX_sfi (by omega), ?_, ?_⟩
      · simp (disch := first | with_reducible assumption | omega | (simp only [MI_sai_iff, MI_sfi_iff]; with_reducible assumption)) only [li, ↓lr_, ↓bd_m, ↓oc_m, ↓reduceIte, bi_0, bi_0n, bi_1, bi_1n, not_true_eq_false, not_false_eq_true, Nat.reduceAdd, Nat.reduceMul, nI_mul, nI_add, inb_T, ix_nI, le_T, le_F, lt_T, lt_F, eq_F, and_self, and_true, true_and, false_and, and_false, or_true, true_or, or_false, false_or, bi_eq, x_within, m_in, f3_appendIf, e1, n97, r1, r2, ofN, f3_appendIf_b28]
      · rw [e_gfi_sfi, if_neg (by omega)]
      · unfold OV
        rw [if_neg (by simp; omega)]
        refine ⟨by rw [e_gfi_sfi, if_pos ⟨rfl, rfl⟩], ?_⟩
        rw [e_gfi_sfi, if_neg (by omega)]
        exact n97
  · rw [if_neg c, List.append_nil]
    rw [bi_f c] at e1
    refine ⟨g, ?_, FX_rfl, rfl, hO⟩
    simp (disch := first | with_reducible assumption | omega | (simp only [MI_sai_iff, MI_sfi_iff]; with_reducible assumption)) only [li, ↓lr_, ↓bd_m, ↓oc_m, ↓reduceIte, bi_0, bi_0n, bi_1, bi_1n, not_true_eq_false, not_false_eq_true, Nat.reduceAdd, Nat.reduceMul, nI_mul, nI_add, inb_T, ix_nI, le_T, le_F, lt_T, lt_F, eq_F, and_self, and_true, true_and, false_and, and_false, or_true, true_or, or_false, false_or, bi_eq, x_within, m_in, f3_appendIf, e1]
theorem x_spanUp {h : Int32} {L N : Nat} (hh : hok h) (hL : L < 10000) (hN : N < 10000) : ∀ (fuel f : Nat) (g : GS_) (X : List Nat), f < 20000 → min L N + 1 - f < fuel → PLs g → OV g X →
    ∃ g', f3_appendSpan_b8 fuel 0 (nI L) (pcl h) (nI N) (nI f) g = some ((), g') ∧ FX g g' ∧ gfi g' 194 0 = gfi g 194 0 ∧ OV g' (X ++ ua (part h) f (min L N + 1 - f))
  | 0, f, g, X, _, h2, _, _ => by omega
  | fuel + 1, f, g, X, h1, h2, hP, hO => by
    rw [f3_appendSpan_b8.eq_2]
    by_cases c1 : L < f
    · refine ⟨g, ?_, FX_rfl, rfl, ?_⟩
      · simp (disch := first | with_reducible assumption | omega | (simp only [MI_sai_iff, MI_sfi_iff]; with_reducible assumption)) only [li, ↓lr_, ↓bd_m, ↓oc_m, ↓reduceIte, bi_0, bi_0n, bi_1, bi_1n, not_true_eq_false, not_false_eq_true, Nat.reduceAdd, Nat.reduceMul, nI_mul, nI_add, inb_T, ix_nI, le_T, le_F, lt_T, lt_F, eq_F, and_self, and_true, true_and, false_and, and_false, or_true, true_or, or_false, false_or, bi_eq, x_within, m_in, f3_appendSpan_b34]
      · rw [show min L N + 1 - f = 0 by omega, ua, List.append_nil]
        exact hO
    · by_cases c2 : N < f
      · refine ⟨g, ?_, FX_rfl, rfl, ?_⟩
        · simp (disch := first | with_reducible assumption | omega | (simp only [MI_sai_iff, MI_sfi_iff]; with_reducible assumption)) only [li, ↓lr_, ↓bd_m, ↓oc_m, ↓reduceIte, bi_0, bi_0n, bi_1, bi_1n, not_true_eq_false, not_false_eq_true, Nat.reduceAdd, Nat.reduceMul, nI_mul, nI_add, inb_T, ix_nI, le_T, le_F, lt_T, lt_F, eq_F, and_self, and_true, true_and, false_and, and_false, or_true, true_or, or_false, false_or, bi_eq, x_within, m_in, f3_appendSpan_b34]
        · rw [show min L N + 1 - f = 0 by omega, ua, List.append_nil]
          exact hO
      · obtain ⟨g1, a1, a2, a3, a4⟩ := x_appendIf hP hO hh (x := f) (by omega)
        obtain ⟨g2, b1, b2, b3, b4⟩ := x_spanUp hh hL hN fuel (f + 1) g1 _ (by omega) (by omega) (PLs_FX a2 hP) a4
        refine ⟨g2, ?_, FX_tr a2 b2, b3.trans a3, ?_⟩
        · simp (disch := first | with_reducible assumption | omega | (simp only [MI_sai_iff, MI_sfi_iff]; with_reducible assumption)) only [li, ↓lr_, ↓bd_m, ↓oc_m, ↓reduceIte, bi_0, bi_0n, bi_1, bi_1n, not_true_eq_false, not_false_eq_true, Nat.reduceAdd, Nat.reduceMul, nI_mul, nI_add, inb_T, ix_nI, le_T, le_F, lt_T, lt_F, eq_F, and_self, and_true, true_and, false_and, and_false, or_true, true_or, or_false, false_or, bi_eq, x_within, m_in, a1, b1]
        · rw [show min L N + 1 - f = (min L N + 1 - (f + 1)) + 1 by omega, ua, ← List.append_assoc]
          exact b4
theorem x_spanDown {h : Int32} {L : Nat} (hh : hok h) (hL : 1 ≤ L ∧ L < 10000) : ∀ (fuel f : Nat) (g : GS_) (X : List Nat), f < 20000 → f + 1 - L < fuel → PLs g → OV g X →
    ∃ g', f3_appendSpan_b45 fuel 0 (nI L) (pcl h) (nI f) g = some ((), g') ∧ FX g g' ∧ gfi g' 194 0 = gfi g 194 0 ∧ OV g' (X ++ da (part h) f (f + 1 - L))
  | 0, f, g, X, _, h2, _, _ => by omega
  | fuel + 1, f, g, X, h1, h2, hP, hO => by
    rw [f3_appendSpan_b45.eq_2]
    by_cases c1 : f < L
    · refine ⟨g, ?_, FX_rfl, rfl, ?_⟩
      · simp (disch := first | with_reducible assumption | omega | (simp only [MI_sai_iff, MI_sfi_iff]; with_reducible assumption)) only [li, ↓lr_, ↓bd_m, ↓oc_m, ↓reduceIte, bi_0, bi_0n, bi_1, bi_1n, not_true_eq_false, not_false_eq_true, Nat.reduceAdd, Nat.reduceMul, nI_mul, nI_add, inb_T, ix_nI, le_T, le_F, lt_T, lt_F, eq_F, and_self, and_true, true_and, false_and, and_false, or_true, true_or, or_false, false_or, bi_eq, x_within, m_in]
      · rw [show f + 1 - L = 0 by omega, da, List.append_nil]
        exact hO
    · obtain ⟨g1, a1, a2, a3, a4⟩ := x_appendIf hP hO hh (x := f) (by omega)
      obtain ⟨g2, b1, b2, b3, b4⟩ := x_spanDown hh hL fuel (f - 1) g1 _ (by omega) (by omega) (PLs_FX a2 hP) a4
      have e1 : nI f + -nI 1 = nI (f - 1) := by
        obtain ⟨k, rfl⟩ : ∃ k, f = k + 1 := ⟨f - 1, by omega⟩
        exact addneg_nI (by omega)
      refine ⟨g2, ?_, FX_tr a2 b2, b3.trans a3, ?_⟩
      · simp (disch := first | with_reducible assumption | omega | (simp only [MI_sai_iff, MI_sfi_iff]; with_reducible assumption)) only [li, ↓lr_, ↓bd_m, ↓oc_m, ↓reduceIte, bi_0, bi_0n, bi_1, bi_1n, not_true_eq_false, not_false_eq_true, Nat.reduceAdd, Nat.reduceMul, nI_mul, nI_add, inb_T, ix_nI, le_T, le_F, lt_T, lt_F, eq_F, and_self, and_true, true_and, false_and, and_false, or_true, true_or, or_false, false_or, bi_eq, x_within, m_in, a1, e1, b1]
      · rw [show f + 1 - L = (f - 1 + 1 - L) + 1 by omega, da, ← List.append_assoc]
        exact b4
