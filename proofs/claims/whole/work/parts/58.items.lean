/-! an item, in the class and in the reference -/
theorem ua_len {P : Nat → Bool} : ∀ (n f : Nat), (ua P f n).length ≤ n
  | 0, _ => Nat.le_refl _
  | n + 1, f => by
    have := ua_len (P := P) n (f + 1)
    rw [ua]
    split
    · simp; omega
    · simp; omega
theorem da_len {P : Nat → Bool} : ∀ (n f : Nat), (da P f n).length ≤ n
  | 0, _ => Nat.le_refl _
  | n + 1, f => by
    have := da_len (P := P) n (f - 1)
    rw [da]
    split
    · simp; omega
    · simp; omega
theorem ua_mem {P : Nat → Bool} : ∀ (n f x : Nat), x ∈ ua P f n → f ≤ x ∧ x < f + n
  | 0, _, _, h => by simp [ua] at h
  | n + 1, f, x, h => by
    rw [ua, List.mem_append] at h
    rcases h with h | h
    · split at h
      · simp at h; omega
      · simp at h
    · have := ua_mem n (f + 1) x h
      omega
theorem da_mem {P : Nat → Bool} : ∀ (n f x : Nat), n ≤ f → x ∈ da P f n → f < x + n ∧ x ≤ f
  | 0, _, _, _, h => by simp [da] at h
  | n + 1, f, x, hn, h => by
    rw [da, List.mem_append] at h
    rcases h with h | h
    · split at h
      · simp at h; omega
      · simp at h
    · have := da_mem n (f - 1) x (by omega) h
      omega
def spM (h : Int32) (f L N : Nat) : List Nat := if L < f then da (pm h N) f (f - L + 1) else ua (pm h N) f (L + 1 - f)
theorem sp_eq {h : Int32} {f L N : Nat} : spM h f L N = spX h f L N := by
  unfold spM spX
  by_cases c : L < f
  · rw [if_pos c, if_pos c]
    exact da_cut (P := part h) (Q := pm h N) (N := N) (fun _ => rfl) (f - L) L f (by omega)
  · rw [if_neg c, if_neg c, ua_cut (P := part h) (Q := pm h N) (N := N) (fun _ => rfl) (L + 1 - f) f, show min (L + 1 - f) (N + 1 - f) = min L N + 1 - f by omega]
theorem spX_len {h : Int32} {f L N : Nat} (hf : 1 ≤ f) (hL : 1 ≤ L) : (spX h f L N).length ≤ N := by
  unfold spX
  split
  · have := da_len (P := part h) (min f N + 1 - L) (min f N)
    omega
  · have := ua_len (P := part h) (min L N + 1 - f) f
    omega
theorem spX_mem {h : Int32} {f L N x : Nat} (hf : 1 ≤ f) (hL : 1 ≤ L) (hx : x ∈ spX h f L N) : 1 ≤ x ∧ x ≤ N := by
  unfold spX at hx
  split at hx
  · have := da_mem _ _ _ (by omega) hx
    omega
  · have := ua_mem _ _ _ hx
    omega
theorem one_I : nI 1 = (1 : Int32) := rfl
theorem ez_down {f L : Nat} (c : L < f) : (nI L - nI f) * -nI 1 + nI 1 = nI (f - L + 1) := by
  have h1 : (nI L - nI f) * -nI 1 = nI f - nI L := by
    rw [Int32.mul_neg, one_I, Int32.mul_one, Int32.neg_sub]
  rw [h1, nI_sub (by omega), nI_add]
theorem ez_up {f L : Nat} (c : f ≤ L) : (nI L - nI f) * nI 1 + nI 1 = nI (L + 1 - f) := by
  have h1 : (nI L - nI f) * nI 1 = nI L - nI f := by
    rw [one_I, Int32.mul_one]
  rw [h1, nI_sub (by omega), nI_add, show L - f + 1 = L + 1 - f by omega]
theorem m_appendAll {g : GS_} {X : List Nat} {h : Int32} {f L N : Nat} (hh : hok h) (hf : 1 ≤ f ∧ f < 1000) (hL : 1 ≤ L ∧ L < 1000) (hN : N ≤ 400) (hM : MI g) (hW : WL g X) (hX : X.length ≤ 400) (h31 : gfi g 331 0 = h) (h29 : gfi g 329 0 = nI f) :
    ∃ g', f10_append 0 (nI L) (nI N) g = some ((), g') ∧ FL g g' ∧ WL g' (X ++ spX h f L N) := by
  have hlen := spX_len (h := h) (N := N) hf.1 hL.1
  rw [← sp_eq] at hlen ⊢
  unfold spM at hlen ⊢
  by_cases c : L < f
  · rw [if_pos c] at hlen ⊢
    have ez := ez_down c
    obtain ⟨g', a1, a2, a3⟩ := m_down hh hf.2 (show N < 1000 by omega) (show f - L + 1 ≤ f by omega) FU_ 0 g X (by omega) (by unfold FU_; omega) hM hW (by rw [Nat.sub_zero, Nat.sub_zero]; omega) h31 h29
    rw [Nat.sub_zero, Nat.sub_zero] at a3
    refine ⟨g', ?_, a2, a3⟩
    rw [f10_append, h29, if_pos ((lt_nI (by omega) (by omega)).mpr c), f10_append_b13, lr_at, h29]
    simp only [li]
    rw [ez]
    exact a1
  · rw [if_neg c] at hlen ⊢
    have ez := ez_up (show f ≤ L by omega)
    obtain ⟨g', a1, a2, a3⟩ := m_up hh hf.2 (show N < 1000 by omega) (show L + 1 - f < 1000 by omega) FU_ 0 g X (by omega) (by unfold FU_; omega) hM hW (by rw [Nat.sub_zero, Nat.add_zero]; omega) h31 h29
    rw [Nat.sub_zero, Nat.add_zero] at a3
    refine ⟨g', ?_, a2, a3⟩
    rw [f10_append, h29, if_neg (fun q => c ((lt_nI (by omega) (by omega)).mp q)), f10_append_b13, lr_at, h29]
    simp only [li]
    rw [ez]
    exact a1
theorem m_isInItem {g : GS_} {h : Int32} {f L x : Nat} (hh : hok h) (hf : f < 1000) (hL : L < 1000) (hx : x < 1000) (h31 : gfi g 331 0 = h) (h29 : gfi g 329 0 = nI f) : f10_isInItem 0 (nI x) (nI L) g = some (bi (kp h (min f L) (max f L) x = false), g) := by
  have e2 := m_isPart hh h31 (x := x) (by omega)
  have lo : ∀ lo hi : Nat, lo = min f L → hi = max f L → f10_isInItem_b33 0 (nI x) (nI lo) (nI hi) g = some (bi (kp h (min f L) (max f L) x = false), g) := by
    rintro lo hi rfl rfl
    by_cases c1 : min f L ≤ x
    · by_cases c2 : x ≤ max f L
      · have ek := kp_in (h := h) c1 c2
        have hm1 : max f L < 1000 := by omega
        generalize min f L = a at *
        generalize max f L = b at *
        cases hq : part h x
        · rw [hq] at e2
          rw [bi_f (by decide)] at e2
          rw [bi_f (by rw [ek, hq]; decide)]
          simp (disch := first | with_reducible assumption | omega | (simp only [MI_sai_iff, MI_sfi_iff]; with_reducible assumption)) only [li, ↓lr_, ↓bd_m, ↓oc_m, ↓reduceIte, bi_0, bi_0n, bi_1, bi_1n, not_true_eq_false, not_false_eq_true, Nat.reduceAdd, Nat.reduceMul, nI_mul, nI_add, inb_T, ix_nI, le_T, le_F, lt_T, lt_F, eq_F, and_self, and_true, true_and, false_and, and_false, or_true, true_or, or_false, false_or, bi_eq, x_within, m_in, f10_isInItem_b33, e2, f10_isInItem_b57]
        · rw [hq] at e2
          rw [bi_t rfl] at e2
          rw [bi_t (by rw [ek, hq]; decide)]
          simp (disch := first | with_reducible assumption | omega | (simp only [MI_sai_iff, MI_sfi_iff]; with_reducible assumption)) only [li, ↓lr_, ↓bd_m, ↓oc_m, ↓reduceIte, bi_0, bi_0n, bi_1, bi_1n, not_true_eq_false, not_false_eq_true, Nat.reduceAdd, Nat.reduceMul, nI_mul, nI_add, inb_T, ix_nI, le_T, le_F, lt_T, lt_F, eq_F, and_self, and_true, true_and, false_and, and_false, or_true, true_or, or_false, false_or, bi_eq, x_within, m_in, f10_isInItem_b33, e2]
      · have ek := kp_hi (h := h) (lo := min f L) (show max f L < x by omega)
        have ci : (nI (min f L) ≤ nI x ∧ nI x ≤ nI (max f L)) = False := eq_false (fun q => c2 ((le_nI (by omega) (by omega)).mp q.2))
        rw [bi_f (by rw [ek]; decide)]
        generalize min f L = a at *
        generalize max f L = b at *
        simp (disch := first | with_reducible assumption | omega | (simp only [MI_sai_iff, MI_sfi_iff]; with_reducible assumption)) only [li, ↓lr_, ↓bd_m, ↓oc_m, ↓reduceIte, bi_0, bi_0n, bi_1, bi_1n, not_true_eq_false, not_false_eq_true, Nat.reduceAdd, Nat.reduceMul, nI_mul, nI_add, inb_T, ix_nI, le_T, le_F, lt_T, lt_F, eq_F, and_self, and_true, true_and, false_and, and_false, or_true, true_or, or_false, false_or, bi_eq, x_within, m_in, f10_isInItem_b33, ci, f10_isInItem_b57]
    · have ek := kp_lo (h := h) (hi := max f L) (show x < min f L by omega)
      have ci : (nI (min f L) ≤ nI x ∧ nI x ≤ nI (max f L)) = False := eq_false (fun q => c1 ((le_nI (by omega) (by omega)).mp q.1))
      rw [bi_f (by rw [ek]; decide)]
      generalize min f L = a at *
      generalize max f L = b at *
      simp (disch := first | with_reducible assumption | omega | (simp only [MI_sai_iff, MI_sfi_iff]; with_reducible assumption)) only [li, ↓lr_, ↓bd_m, ↓oc_m, ↓reduceIte, bi_0, bi_0n, bi_1, bi_1n, not_true_eq_false, not_false_eq_true, Nat.reduceAdd, Nat.reduceMul, nI_mul, nI_add, inb_T, ix_nI, le_T, le_F, lt_T, lt_F, eq_F, and_self, and_true, true_and, false_and, and_false, or_true, true_or, or_false, false_or, bi_eq, x_within, m_in, f10_isInItem_b33, ci, f10_isInItem_b57]
  by_cases c : L ≤ f
  · have := lo L f (by omega) (by omega)
    simp (disch := first | with_reducible assumption | omega | (simp only [MI_sai_iff, MI_sfi_iff]; with_reducible assumption)) only [li, ↓lr_, ↓bd_m, ↓oc_m, ↓reduceIte, bi_0, bi_0n, bi_1, bi_1n, not_true_eq_false, not_false_eq_true, Nat.reduceAdd, Nat.reduceMul, nI_mul, nI_add, inb_T, ix_nI, le_T, le_F, lt_T, lt_F, eq_F, and_self, and_true, true_and, false_and, and_false, or_true, true_or, or_false, false_or, bi_eq, x_within, m_in, f10_isInItem, h29, f10_isInItem_b16, this]
  · have := lo f L (by omega) (by omega)
    simp (disch := first | with_reducible assumption | omega | (simp only [MI_sai_iff, MI_sfi_iff]; with_reducible assumption)) only [li, ↓lr_, ↓bd_m, ↓oc_m, ↓reduceIte, bi_0, bi_0n, bi_1, bi_1n, not_true_eq_false, not_false_eq_true, Nat.reduceAdd, Nat.reduceMul, nI_mul, nI_add, inb_T, ix_nI, le_T, le_F, lt_T, lt_F, eq_F, and_self, and_true, true_and, false_and, and_false, or_true, true_or, or_false, false_or, bi_eq, x_within, m_in, f10_isInItem, h29, f10_isInItem_b16, this]
theorem m_rem {h : Int32} {f L : Nat} (hh : hok h) (hf : f < 1000) (hL : L < 1000) : ∀ (fuel : Nat) (B K : List Nat) (g : GS_) (k : Nat), B.length < fuel → MI g → K.length ≤ k → k + B.length ≤ 800 → gfi g 331 0 = h → gfi g 329 0 = nI f → gfi g 333 0 = nI (k + B.length) → (∀ i x, K[i]? = some x → gai g 20 5 i = nI x) → (∀ i x, B[i]? = some x → gai g 20 5 (k + i) = nI x) → (∀ x, x ∈ B → x < 1000) →
    ∃ g', f10_takeOut_b4 fuel 0 (nI L) (nI K.length) (nI k) g = some ((), g') ∧ FL g g' ∧ WL g' (K ++ B.filter (kp h (min f L) (max f L)))
  | 0, B, K, g, k, h1, _, _, _, _, _, _, _, _, _ => by omega
  | fuel + 1, [], K, g, k, h1, hM, hk, hl, h31, h29, h97, hK, hB, hx => by
    rw [f10_takeOut_b4.eq_2]
    have h97' : gfi g 333 0 = nI k := h97
    refine ⟨sfi g 333 0 (nI K.length), ?_, FL_sfi, ?_⟩
    · generalize K.length = n at *
      simp (disch := first | with_reducible assumption | omega | (simp only [MI_sai_iff, MI_sfi_iff]; with_reducible assumption)) only [li, ↓lr_, ↓bd_m, ↓oc_m, ↓reduceIte, bi_0, bi_0n, bi_1, bi_1n, not_true_eq_false, not_false_eq_true, Nat.reduceAdd, Nat.reduceMul, nI_mul, nI_add, inb_T, ix_nI, le_T, le_F, lt_T, lt_F, eq_F, and_self, and_true, true_and, false_and, and_false, or_true, true_or, or_false, false_or, bi_eq, x_within, m_in, h97', Nat.le_refl]
    · rw [List.filter_nil, List.append_nil]
      exact ⟨by rw [e_gfi_sfi, if_pos ⟨rfl, rfl⟩], fun i x hi => hK i x hi⟩
  | fuel + 1, x :: B, K, g, k, h1, hM, hk, hl, h31, h29, h97, hK, hB, hx => by
    have hl' : k + (B.length + 1) ≤ 800 := hl
    have h97' : gfi g 333 0 = nI (k + (B.length + 1)) := h97
    have h1' : B.length + 1 < fuel + 1 := h1
    have e0 : gai g 20 5 k = nI x := hB 0 x rfl
    have hx0 : x < 1000 := hx x (by simp)
    have hx' : ∀ y, y ∈ B → y < 1000 := fun y hy => hx y (by simp [hy])
    have r1 : gfr g 332 0 = some 5 := by obtain ⟨-, -, -, -, -, -, h, -⟩ := hM; exact h
    have r2 : gln g 20 5 = 801 := by obtain ⟨-, -, -, -, -, -, -, -, -, -, -, -, -, -, -, -, h, -⟩ := hM; exact h
    have e1 := m_isInItem (x := x) hh hf hL hx0 h31 h29
    rw [f10_takeOut_b4.eq_2]
    cases hq : kp h (min f L) (max f L) x
    · -- out
      rw [bi_t hq] at e1
      obtain ⟨g', a1, a2, a3⟩ := m_rem hh hf hL fuel B K g (k + 1) (by omega) hM (by omega) (by omega) h31 h29 (h97'.trans (by rw [show k + (B.length + 1) = k + 1 + B.length by omega])) hK (fun i y hi => by rw [show k + 1 + i = k + (i + 1) by omega]; exact hB (i + 1) y hi) hx'
      refine ⟨g', ?_, a2, ?_⟩
      · generalize K.length = n at *
        simp (disch := first | with_reducible assumption | omega | (simp only [MI_sai_iff, MI_sfi_iff]; with_reducible assumption)) only [li, ↓lr_, ↓bd_m, ↓oc_m, ↓reduceIte, bi_0, bi_0n, bi_1, bi_1n, not_true_eq_false, not_false_eq_true, Nat.reduceAdd, Nat.reduceMul, nI_mul, nI_add, inb_T, ix_nI, le_T, le_F, lt_T, lt_F, eq_F, and_self, and_true, true_and, false_and, and_false, or_true, true_or, or_false, false_or, bi_eq, x_within, m_in, h97', r1, r2, e0, e1, f10_takeOut_b41, a1]
      · rw [List.filter_cons_of_neg (by rw [hq]; decide)]
        exact a3
    · rw [bi_f (by rw [hq]; decide)] at e1
      have hfx : FL g (sai g 20 5 K.length (nI x)) := FL_sai
      have nK : ∀ i y, (K ++ [x])[i]? = some y → gai (sai g 20 5 K.length (nI x)) 20 5 i = nI y := by
        intro i y hi
        rcases Nat.lt_trichotomy i K.length with c | c | c
        · rw [List.getElem?_append_left c] at hi
          rw [e_gai_sai, if_neg (by omega)]
          exact hK i y hi
        · subst c
          rw [List.getElem?_append_right (Nat.le_refl _), Nat.sub_self] at hi
          simp at hi
          rw [e_gai_sai, if_pos ⟨rfl, rfl, rfl⟩, hi]
        · rw [List.getElem?_eq_none (by simp; omega)] at hi
          cases hi
      have nB : ∀ i y, B[i]? = some y → gai (sai g 20 5 K.length (nI x)) 20 5 (k + 1 + i) = nI y := by
        intro i y hi
        rw [e_gai_sai, if_neg (by omega), show k + 1 + i = k + (i + 1) by omega]
        exact hB (i + 1) y hi
      obtain ⟨g', a1, a2, a3⟩ := m_rem hh hf hL fuel B (K ++ [x]) (sai g 20 5 K.length (nI x)) (k + 1) (by omega) (MI_FL hM hfx) (by simp; omega) (by omega) h31 h29 (h97'.trans (by rw [show k + (B.length + 1) = k + 1 + B.length by omega])) nK nB hx'
      refine ⟨g', ?_, FL_tr hfx a2, ?_⟩
      · rw [List.length_append] at a1
        have a1' : f10_takeOut_b4 fuel 0 (nI L) (nI (K.length + 1)) (nI (k + 1)) (sai g 20 5 K.length (nI x)) = some ((), g') := a1
        generalize K.length = n at *
        simp (disch := first | with_reducible assumption | omega | (simp only [MI_sai_iff, MI_sfi_iff]; with_reducible assumption)) only [li, ↓lr_, ↓bd_m, ↓oc_m, ↓reduceIte, bi_0, bi_0n, bi_1, bi_1n, not_true_eq_false, not_false_eq_true, Nat.reduceAdd, Nat.reduceMul, nI_mul, nI_add, inb_T, ix_nI, le_T, le_F, lt_T, lt_F, eq_F, and_self, and_true, true_and, false_and, and_false, or_true, true_or, or_false, false_or, bi_eq, x_within, m_in, h97', r1, r2, e0, e1, f10_takeOut_b41, a1']
      · rw [List.filter_cons_of_pos hq]
        rw [List.append_assoc] at a3
        exact a3
theorem m_takeOut {g : GS_} {X : List Nat} {h : Int32} {f L : Nat} (hh : hok h) (hf : f < 1000) (hL : L < 1000) (hM : MI g) (hW : WL g X) (hX : X.length ≤ 400) (h31 : gfi g 331 0 = h) (h29 : gfi g 329 0 = nI f) (hx : ∀ x, x ∈ X → x < 1000) :
    ∃ g', f10_takeOut 0 (nI L) g = some ((), g') ∧ FL g g' ∧ WL g' (X.filter (kp h (min f L) (max f L))) := by
  obtain ⟨g', a1, a2, a3⟩ := m_rem hh hf hL FU_ X [] g 0 (by unfold FU_; omega) hM (by simp) (by omega) h31 h29 (by rw [Nat.zero_add]; exact hW.1) (fun i x q => by simp at q) (fun i x q => by rw [Nat.zero_add]; exact hW.2 i x q) hx
  exact ⟨g', a1, a2, a3⟩
-- the class reads an item
def CT (g : GS_) (c : Nat → Int32) (m : Nat) : Prop := gfi g 193 0 = nI m ∧ gfr g 192 0 = some 0 ∧ gln g 20 0 = 40 ∧ m ≤ 40 ∧ ∀ p, (if p < m then gai g 20 0 p else nI 0) = c p
theorem CT_FX {g g' : GS_} {c : Nat → Int32} {m : Nat} (h : FX g g') (hC : CT g c m) : CT g' c m := by
  unfold CT
  rw [h.1.1, h.1.2.1, h.2.1 193 0 (by omega), h.2.2 20 0 (by omega)]
  exact hC
theorem x_char {g : GS_} {c : Nat → Int32} {m p : Nat} (h : CT g c m) (hp : p < 1000) : f6_characterAt 0 (nI p) g = some (c p, g) := by
  have := x_characterAt h.1 h.2.1 h.2.2.1 h.2.2.2.1 hp
  rw [h.2.2.2.2] at this
  exact this
theorem x_skip1 {g : GS_} {c : Nat → Int32} {m p : Nat} {ch : Int32} (h : CT g c m) (hp : p < 1000) (h4 : gfi g 194 0 = nI p) : f6_skip 0 ch g = some (bi (c p = ch), if c p = ch then sfi g 194 0 (nI (p + 1)) else g) := by
  have e := x_char h hp
  by_cases q : c p = ch
  · rw [if_pos q, bi_t q]
    simp (disch := first | with_reducible assumption | omega | (simp only [MI_sai_iff, MI_sfi_iff]; with_reducible assumption)) only [li, ↓lr_, ↓bd_m, ↓oc_m, ↓reduceIte, bi_0, bi_0n, bi_1, bi_1n, not_true_eq_false, not_false_eq_true, Nat.reduceAdd, Nat.reduceMul, nI_mul, nI_add, inb_T, ix_nI, le_T, le_F, lt_T, lt_F, eq_F, and_self, and_true, true_and, false_and, and_false, or_true, true_or, or_false, false_or, bi_eq, x_within, m_in, f6_skip, h4, e, eq_true q, f6_skip_b17]
  · rw [if_neg q, bi_f q]
    simp (disch := first | with_reducible assumption | omega | (simp only [MI_sai_iff, MI_sfi_iff]; with_reducible assumption)) only [li, ↓lr_, ↓bd_m, ↓oc_m, ↓reduceIte, bi_0, bi_0n, bi_1, bi_1n, not_true_eq_false, not_false_eq_true, Nat.reduceAdd, Nat.reduceMul, nI_mul, nI_add, inb_T, ix_nI, le_T, le_F, lt_T, lt_F, eq_F, and_self, and_true, true_and, false_and, and_false, or_true, true_or, or_false, false_or, bi_eq, x_within, m_in, f6_skip, h4, e, eq_false q, f6_skip_b17]
theorem x_num {g : GS_} {c : Nat → Int32} {m q : Nat} (h : CT g c m) (hq : q < 900) (h6 : gfi g 194 0 = nI q) (d1 : isD1 (c q)) : f6_readNumber 0 g = some (nI (nv c q), sfi g 194 0 (nI (q + nl c q))) := by
  have e0 := x_char h (p := q) (by omega)
  have d0 := (isD1_iff.mp d1).1
  obtain ⟨d, dl, dz, dd⟩ := dg_ex d0
  have fx : ∀ v, FX g (sfi g 194 0 v) := fun v => FX_sfi (by omega)
  have e1 := x_char (CT_FX (fx (nI (q + 1))) h) (p := q + 1) (by omega)
  have s1 : ∀ v : Nat, nI 10 * nI v + nI (48 + d) - nI 48 = nI (10 * v + d) := fun v => by
    rw [nI_mul, nI_add, nI_sub (by omega), show 10 * v + (48 + d) - 48 = 10 * v + d by omega]
  have hF : FU_ = 19996 + 1 + 1 + 1 + 1 := rfl
  unfold nv nl
  rw [dd]
  have w1 : nI 10 * nI 0 + nI (48 + d) - nI 48 = nI d := by rw [s1 0, Nat.mul_zero, Nat.zero_add]
  by_cases a1 : isD (c (q + 1))
  · rw [if_pos a1, if_pos a1]
    obtain ⟨e, el, ez, ee⟩ := dg_ex a1
    rw [ee]
    have e2 := x_char (CT_FX (fx (nI (q + 2))) h) (p := q + 2) (by omega)
    have s2 : ∀ v : Nat, nI 10 * nI v + nI (48 + e) - nI 48 = nI (10 * v + e) := fun v => by
      rw [nI_mul, nI_add, nI_sub (by omega), show 10 * v + (48 + e) - 48 = 10 * v + e by omega]
    by_cases a2 : isD (c (q + 2))
    · rw [if_pos a2, if_pos a2]
      obtain ⟨f, fl, fz, ff⟩ := dg_ex a2
      rw [ff]
      have s3 : ∀ v : Nat, nI 10 * nI v + nI (48 + f) - nI 48 = nI (10 * v + f) := fun v => by
        rw [nI_mul, nI_add, nI_sub (by omega), show 10 * v + (48 + f) - 48 = 10 * v + f by omega]
      rw [dz] at e0 d0 d1
      rw [ez] at e1 a1
      rw [fz] at e2 a2
      rw [f6_readNumber, hF]
      generalize 19996 = n
      simp (disch := first | with_reducible assumption | omega) only [li, ↓lr_at, ↓bd_m, h6, e0, x_isDigit, bi_eq, not_true_eq_false, ↓reduceIte, f6_readNumber_b4, le_F, le_T, eq_true d0, w1, nI_add, e_gfi_sfi, and_self, e1, eq_true a1, s2, sfi_same, e2, eq_true a2, s3, Nat.reduceAdd]
      rw [show 10 * (10 * d + e) + f = 100 * d + 10 * e + f by omega]
    · rw [if_neg a2, if_neg a2]
      rw [dz] at e0 d0 d1
      rw [ez] at e1 a1
      rw [f6_readNumber, hF]
      generalize 19996 = n
      simp (disch := first | with_reducible assumption | omega) only [li, ↓lr_at, ↓bd_m, h6, e0, x_isDigit, bi_eq, not_true_eq_false, not_false_eq_true, ↓reduceIte, f6_readNumber_b4, le_F, le_T, eq_true d0, w1, nI_add, e_gfi_sfi, and_self, e1, eq_true a1, s2, sfi_same, e2, eq_false a2, Nat.reduceAdd]
  · rw [if_neg a1, if_neg a1]
    rw [dz] at e0 d0 d1
    rw [f6_readNumber, hF]
    generalize 19996 = n
    simp (disch := first | with_reducible assumption | omega) only [li, ↓lr_at, ↓bd_m, h6, e0, x_isDigit, bi_eq, not_true_eq_false, not_false_eq_true, ↓reduceIte, f6_readNumber_b4, le_F, le_T, eq_true d0, w1, nI_add, e_gfi_sfi, and_self, e1, eq_false a1, sfi_same, Nat.reduceAdd]
theorem x_num0 {g : GS_} {c : Nat → Int32} {m q : Nat} (h : CT g c m) (hq : q < 900) (h6 : gfi g 194 0 = nI q) (d1 : ¬ isD (c q)) : f6_readNumber 0 g = some (nI 0, g) := by
  have e0 := x_char h (p := q) (by omega)
  have hF : FU_ = 19999 + 1 := rfl
  rw [f6_readNumber, hF]
  generalize 19999 = n
  simp (disch := first | with_reducible assumption | omega) only [li, ↓lr_at, ↓bd_m, h6, e0, x_isDigit, bi_eq, not_true_eq_false, not_false_eq_true, ↓reduceIte, f6_readNumber_b4, le_F, le_T, eq_false d1]
