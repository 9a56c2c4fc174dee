/-! the reference lays its text -/
theorem m_stepAt {g : GS_} {jb m i : Nat} {x : Nat → Nat} (hM : MI g) (hR : MRw g jb m x) (hi : i + 1 < m) : f10_stepAt 0 (nI jb) (nI i) g = some (nI (x (i + 1)) - nI (x i), g) := by
  obtain ⟨h1, h2, h3, h4⟩ := hR
  have r2 : gfr g 322 0 = some 2 := MI_l hM
  have n2 : gln g 20 2 = 9600 := MI_ln hM
  have ei : (400 : Int32) * nI jb + nI i = nI (400 * jb + i) := by
    have : (400 : Int32) * nI jb = nI (400 * jb) := nI_mul 400 jb
    rw [this, nI_add]
  have e1 : nI (400 * jb + i) + (1 : Int32) = nI (400 * jb + (i + 1)) := nI_add _ 1
  rw [f10_stepAt, r2, lr_at, oc_some, n2, ei, e1, if_pos ((inb_nI (by omega)).mpr (by omega)), ix_nI (by omega), lr_at, oc_some, n2, if_pos ((inb_nI (by omega)).mpr (by omega)), ix_nI (by omega), (h4 (i + 1) (by omega)).1, (h4 i (by omega)).1]
theorem CUm_iff {x : Nat → Nat} {m i : Nat} {g : GS_} {P Q : Nat → Prop} (hPQ : ∀ u, P u ↔ Q u) (h : CUm x m g i P) : CUm x m g i Q := ⟨h.1, h.2.1, h.2.2.1, LM_iff hPQ h.2.2.2⟩
theorem m_many {jb m i : Nat} {x : Nat → Nat} {c12 : Nat → Int32 → Int32 → Int32 → GS_ → Option (Unit × GS_)} (hi : i < m) : ∀ (fuel v : Nat) (g : GS_) (G : Prop) [Decidable G], m + 2 - v < fuel → 2 ≤ v → v ≤ m + 1 → MI g → MRw g jb m x → Va x m i (v - 1) → (i + v ≤ m → (G ↔ Va x m i v)) → ABm x m g (i + 1) → CUm x m g i (fun u => 1 ≤ u ∧ u < v) → mC g i ≤ 1600 → mT g i ≤ 400 → (1 ≤ mK g i ∧ mK g i ≤ 400) →
    ∃ g', f10_layText_b76 c12 fuel 0 (nI jb) (nI m) (nI i) (sI x m i) (bi G) (nI v) g = c12 0 (nI jb) (nI m) (nI i + -nI 1) g' ∧ FMc g g' ∧ ABm x m g' i
  | 0, v, g, G, _, h, _, _, _, _, _, _, _, _, _, _, _ => by omega
  | fuel + 1, v, g, G, _, hf, hv, hvm, hM, hR, hV, hG, hA, hC, hc1, ht1, hk1 => by
    obtain ⟨p1, p2, p3, p4⟩ := id hR
    have hx : ∀ q, q < m → x q < 1000 := fun q hq => (p4 q hq).2
    have e1 : nI i + nI v = nI (i + v) := nI_add _ _
    have eneg : (-1 : Int32) = -nI 1 := rfl
    have stop : ¬ Va x m i v → ABm x m g i := by
      intro hn
      refine CU_ABm hi hA (CUm_iff (fun u => ⟨fun q => Va_down hV q.1 (by omega), fun q => ⟨q.1, ?_⟩⟩) hC)
      rcases Nat.lt_or_ge u v with w | w
      · exact w
      · exact absurd (Va_down q (by omega) w) hn
    rw [f10_layText_b76.eq_2, e1]
    by_cases c1 : m < i + v
    · rw [if_pos ((lt_nI (by omega) (by omega)).mpr c1)]
      exact ⟨g, by rw [f10_layText_b136, eneg], FMc_rfl, stop (fun q => by have := q.2.1; omega)⟩
    · rw [if_neg (fun q => c1 ((lt_nI (by omega) (by omega)).mp q))]
      have hG' := hG (by omega)
      by_cases c2 : G
      · have hVv := hG'.mp c2
        rw [bi_t c2, if_neg (by decide)]
        have hoks := hVv.2.2.1 hv
        obtain ⟨g1, a1, a2, a3, a4, a5, a6, -, a7⟩ := m_more (s := sI x m i) (P := fun u => 1 ≤ u ∧ u < v) hM hR hi hVv (fun _ => rfl) hA (Or.inr ⟨hC, hc1, ht1, hk1, hv, fun u hu => hu⟩)
        have a4' : CUm x m g1 i (fun u => 1 ≤ u ∧ u < v + 1) := by
          rcases a4 with ⟨q, -⟩ | ⟨-, q⟩
          · omega
          · exact CUm_iff (fun u => by omega) q
        have a5' := a5 (by omega)
        have hM1 := MI_FMc hM a2
        have hR1 := MRw_FMc a2 hR
        have e2 : nI v + (1 : Int32) = nI (v + 1) := nI_add v 1
        have next : ∀ (G' : Prop) [Decidable G'], (i + (v + 1) ≤ m → (G' ↔ Va x m i (v + 1))) → ∃ g', f10_layText_b76 c12 fuel 0 (nI jb) (nI m) (nI i) (sI x m i) (bi G') (nI (v + 1)) g1 = c12 0 (nI jb) (nI m) (nI i + -nI 1) g' ∧ FMc g g' ∧ ABm x m g' i := by
          intro G' _ hG2
          obtain ⟨g', b1, b2, b3⟩ := m_many (c12 := c12) hi fuel (v + 1) g1 G' (by omega) (by omega) (by omega) hM1 hR1 (by rw [Nat.add_sub_cancel]; exact hVv) hG2 a3 a4' (by omega) a6 a7
          exact ⟨g', b1, FMc_tr a2 b2, b3⟩
        rw [a1, bd_some]
        by_cases c3 : m ≤ i + v
        · obtain ⟨g', b1, b2⟩ := next False (fun q => by omega)
          refine ⟨g', ?_, b2⟩
          rw [if_pos ((le_nI (by omega) (by omega)).mpr c3), f10_layText_b127, f10_layText_b128, e2]
          exact b1
        · have e3 : nI (i + v) - (1 : Int32) = nI (i + v - 1) := nI_sub (b := 1) (by omega)
          have st := m_stepAt hM1 hR1 (i := i + v - 1) (by omega)
          rw [show i + v - 1 + 1 = i + v by omega] at st
          have hse : (nI (x (i + v)) - nI (x (i + v - 1)) = sI x m i) ↔ stp x (i + v - 1) = stp x i := by
            unfold sI
            rw [if_neg (by omega), sub_eq2 (by have := hx (i + v) (by omega); omega) (by have := hx (i + v - 1) (by omega); omega) (by have := hx (i + 1) (by omega); omega) (by have := hx i (by omega); omega)]
            unfold stp
            rw [show i + v - 1 + 1 = i + v by omega]
          have hVn : (stp x (i + v - 1) = stp x i) ↔ Va x m i (v + 1) := by
            constructor
            · intro q
              refine ⟨by omega, by omega, fun _ => hoks, fun k hk => ?_⟩
              rcases Nat.lt_or_ge (k + 1) v with w | w
              · exact hVv.2.2.2 k w
              · rw [show i + k = i + v - 1 by omega]
                exact q
            · intro q
              have := q.2.2.2 (v - 1) (by omega)
              rw [show i + (v - 1) = i + v - 1 by omega] at this
              exact this
          rw [if_neg (fun q => c3 ((le_nI (by omega) (by omega)).mp q)), e3, st, bd_some]
          by_cases c4 : stp x (i + v - 1) = stp x i
          · obtain ⟨g', b1, b2⟩ := next True (fun _ => ⟨fun _ => hVn.mp c4, fun _ => trivial⟩)
            refine ⟨g', ?_, b2⟩
            rw [if_pos (hse.mpr c4), f10_layText_b128, e2]
            exact b1
          · obtain ⟨g', b1, b2⟩ := next False (fun _ => ⟨fun q => q.elim, fun q => c4 (hVn.mpr q)⟩)
            refine ⟨g', ?_, b2⟩
            rw [if_neg (fun q => c4 (hse.mp q)), f10_layText_b127, f10_layText_b128, e2]
            exact b1
      · rw [bi_f c2, if_pos (by decide)]
        exact ⟨g, by rw [f10_layText_b136, eneg], FMc_rfl, stop (fun q => c2 (hG'.mpr q))⟩
theorem m_layLoop {jb m : Nat} {x : Nat → Nat} : ∀ (n fuel : Nat) (g : GS_), n < fuel → n ≤ m → MI g → MRw g jb m x → ABm x m g n →
    ∃ g', f10_layText_b12 fuel 0 (nI jb) (nI m) (nI n + -nI 1) g = some ((), g') ∧ FMc g g' ∧ ABm x m g' 0
  | 0, fuel, g, h1, h2, hM, hR, hA => by
    obtain ⟨f, rfl⟩ : ∃ f, fuel = f + 1 := ⟨fuel - 1, by omega⟩
    refine ⟨g, ?_, FMc_rfl, hA⟩
    rw [f10_layText_b12.eq_2, if_pos (show nI 0 + -nI 1 < (0 : Int32) by decide)]
  | n + 1, fuel, g, h1, h2, hM, hR, hA => by
    obtain ⟨f, rfl⟩ : ∃ f, fuel = f + 1 := ⟨fuel - 1, by omega⟩
    obtain ⟨p1, p2, p3, p4⟩ := id hR
    have hx : ∀ q, q < m → x q < 1000 := fun q hq => (p4 q hq).2
    obtain ⟨s1, s2, s3, l1, l2, l3⟩ := MC_r hM
    have e0 : nI (n + 1) + -nI 1 = nI n := addneg_nI (by omega)
    have e1 : nI n + (1 : Int32) = nI (n + 1) := nI_add n 1
    have f0 : FMc g (sai g 20 8 n (nI 0)) := FMc_sai (by omega)
    have hM0 := MI_FMc hM f0
    have hR0 := MRw_FMc f0 hR
    have old : ∀ q, q ≠ n → gai (sai g 20 8 n (nI 0)) 20 8 q = gai g 20 8 q := fun q hq => by rw [e_gai_sai, if_neg (by omega)]
    have o6 : gai (sai g 20 8 n (nI 0)) 20 6 = gai g 20 6 := by funext q; rw [e_gai_sai, if_neg (by omega)]
    have o7 : gai (sai g 20 8 n (nI 0)) 20 7 = gai g 20 7 := by funext q; rw [e_gai_sai, if_neg (by omega)]
    have z8 : gai (sai g 20 8 n (nI 0)) 20 8 n = nI 0 := by rw [e_gai_sai, if_pos ⟨rfl, rfl, rfl⟩]
    have hA0 : ABm x m (sai g 20 8 n (nI 0)) (n + 1) := by
      intro j j1 j2
      obtain ⟨c1, c2, c3, c4⟩ := hA j j1 j2
      rw [o6, o7, old j (by omega)]
      refine ⟨c1, c2, c3, ?_⟩
      unfold Bst at c4 ⊢
      show LM x (fun q => tn (gai g 20 6 q)) (fun q => tn (gai g 20 7 q)) m j (Va x m j) (tn (gai g 20 6 j)) (tn (gai g 20 7 j)) (tn (gai (sai g 20 8 n (nI 0)) 20 8 j))
      rw [old j (by omega)]
      exact c4
    have hV1 : Va x m n 1 := ⟨Nat.le_refl _, by omega, fun q => by omega, fun k q => by omega⟩
    obtain ⟨g1, a1, a2, a3, a4, -, a6, a7, a8⟩ := m_more (s := nI 0) (P := fun _ => False) hM0 hR0 (show n < m by omega) hV1 (fun q => by omega) hA0 (Or.inl ⟨rfl, z8⟩)
    have a4' : CUm x m g1 n (fun u => 1 ≤ u ∧ u < 2) := by
      rcases a4 with ⟨-, q⟩ | ⟨q, -⟩
      · exact CUm_iff (fun u => by omega) q
      · exact absurd rfl q
    have hM1 := MI_FMc hM0 a2
    have hR1 := MRw_FMc a2 hR0
    have a1' : f10_takeItem 0 (nI jb) (nI n) (1 : Int32) (0 : Int32) (sai g 20 8 n (0 : Int32)) = some ((), g1) := a1
    -- the first step
    have go : ∀ (G : Prop) [Decidable G], (n + 2 ≤ m → (G ↔ Va x m n 2)) → f10_layText_b48 (f10_layText_b12 f) 0 (nI jb) (nI m) (nI n) (sI x m n) g1 = f10_layText_b76 (f10_layText_b12 f) FU_ 0 (nI jb) (nI m) (nI n) (sI x m n) (bi G) (nI 2) g1 → ∃ g', f10_layText_b12 (f + 1) 0 (nI jb) (nI m) (nI (n + 1) + -nI 1) g = some ((), g') ∧ FMc g g' ∧ ABm x m g' 0 := by
      intro G _ hG hgo
      obtain ⟨g2, b1, b2, b3⟩ := m_many (c12 := f10_layText_b12 f) (show n < m by omega) FU_ 2 g1 G (by unfold FU_; omega) (by omega) (by omega) hM1 hR1 hV1 hG a3 a4' (a7 rfl) a6 a8
      obtain ⟨g', d1, d2, d3⟩ := m_layLoop n f g2 (by omega) (by omega) (MI_FMc hM1 b2) (MRw_FMc b2 hR1) b3
      refine ⟨g', ?_, FMc_tr f0 (FMc_tr a2 (FMc_tr b2 d2)), d3⟩
      rw [f10_layText_b12.eq_2, e0, if_neg (show ¬ nI n < (0 : Int32) from fun q => by have := (lt_nI (b := 0) (by omega) (by omega)).mp q; omega), s3, lr_at, oc_some, l3, if_pos ((inb_nI (by omega)).mpr (by omega)), ix_nI (by omega), lr_at, a1', bd_some, e1]
      by_cases c : m ≤ n + 1
      · have hsI : sI x m n = nI 0 := if_pos c
        rw [hsI] at hgo b1
        rw [if_pos ((le_nI (by omega) (by omega)).mpr c)]
        exact hgo.trans (b1.trans d1)
      · have hsI : sI x m n = nI (x (n + 1)) - nI (x n) := if_neg c
        rw [if_neg (fun q => c ((le_nI (by omega) (by omega)).mp q)), m_stepAt hM1 hR1 (by omega), bd_some, ← hsI]
        exact hgo.trans (b1.trans d1)
    have hok := sI_ok hx (show n < m by omega)
    by_cases hk : n + 1 < m ∧ oks (stp x n)
    · refine go True (fun q => ⟨fun _ => ⟨by omega, q, fun _ => hk.2, fun k w => by rw [show n + k = n by omega]⟩, fun _ => trivial⟩) ?_
      have hs := hok.mpr hk
      rw [f10_layText_b48]
      rcases hs with q | q | q | q
      all_goals
        rw [q, if_neg (by decide), m_in, bd_some, if_neg (by decide)]
        rfl
    · refine go False (fun q => ⟨fun w => w.elim, fun w => hk ⟨by omega, w.2.2.1 (by omega)⟩⟩) ?_
      have hs := fun q => hk (hok.mp q)
      rw [f10_layText_b48]
      by_cases z : sI x m n = (0 : Int32)
      · rw [if_pos z, f10_layText_b70, f10_layText_b71]
        rfl
      · rw [if_neg z, m_in, bd_some]
        by_cases w : (-2 : Int32) ≤ sI x m n ∧ sI x m n ≤ (2 : Int32)
        · exfalso
          rw [leI, leI] at w
          have w1 : (-2 : Int32).toInt = -2 := by decide
          have w2 : (2 : Int32).toInt = 2 := by decide
          rw [w1, w2] at w
          have z' : (sI x m n).toInt ≠ 0 := fun q => z ((eqI _ _).mpr (by rw [q]; decide))
          refine hs ?_
          rw [eqI, eqI, eqI, eqI, show (nI 1).toInt = 1 by decide, show (-nI 1).toInt = -1 by decide, show (nI 2).toInt = 2 by decide, show (-nI 2).toInt = -2 by decide]
          omega
        · rw [bi_f w, if_pos (show (0 : Int32) = 0 from rfl), f10_layText_b70, f10_layText_b71]
          rfl
