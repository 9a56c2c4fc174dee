/-! the class writes the text -/
/-- the text alone moves -/
def FW (g g' : GS_) : Prop := FX g g' ∧ gai g' 20 19 = gai g 20 19 ∧ gai g' 20 20 = gai g 20 20 ∧ gai g' 20 21 = gai g 20 21
theorem FW_rfl {g : GS_} : FW g g := ⟨FX_rfl, rfl, rfl, rfl⟩
theorem FW_tr {a b c : GS_} (h1 : FW a b) (h2 : FW b c) : FW a c := ⟨FX_tr h1.1 h2.1, h2.2.1.trans h1.2.1, h2.2.2.1.trans h1.2.2.1, h2.2.2.2.trans h1.2.2.2⟩
def CL (g : GS_) (L : List Nat) : Prop := LQ (gfi g 228 0) (gai g 20 22) L
theorem x_putC {g : GS_} {L : List Nat} {ch : Nat} (hS : CSh g) (hL : CL g L) (hl : L.length < 1600) : ∃ g', f7_put 0 (nI ch) g = some ((), g') ∧ FW g g' ∧ CL g' (L ++ [ch]) := by
  obtain ⟨s1, s2, s3, s4, l1, l2, l3, l4⟩ := hS
  have n228 := hL.1
  have hadd := LQ_add (x := ch) (⟨hL.1, hL.2⟩ : LQ (gfi g 228 0) (gai g 20 22) L)
  have e1 : nI L.length + (1 : Int32) = nI (L.length + 1) := nI_add _ 1
  refine ⟨sfi (sai g 20 22 L.length (nI ch)) 228 0 (nI (L.length + 1)), ?_, ⟨FX_tr (FX_sai (by omega)) (FX_sfi (by omega)), ?_, ?_, ?_⟩, ?_⟩
  · have n2 : gfi (sai g 20 22 L.length (nI ch)) 228 0 = nI L.length := n228
    rw [f7_put, n228, if_neg (show ¬ nI L.length < (0 : Int32) from fun q => by have := (lt_nI (b := 0) (by omega) (by omega)).mp q; omega), s4, lr_at, oc_some, l4, ofN, if_neg (fun q => by have := (le_nI (by omega) (by omega)).mp q; omega), lr_at, oc_some, l4, if_pos ((inb_nI (by omega)).mpr hl), ix_nI (by omega), lr_at, n2, e1, lr_at]
  · funext k
    rw [e_gai_sfi, e_gai_sai, if_neg (by omega)]
  · funext k
    rw [e_gai_sfi, e_gai_sai, if_neg (by omega)]
  · funext k
    rw [e_gai_sfi, e_gai_sai, if_neg (by omega)]
  · have : gai (sfi (sai g 20 22 L.length (nI ch)) 228 0 (nI (L.length + 1))) 20 22 = up (gai g 20 22) L.length (nI ch) := by
      funext k
      rw [e_gai_sfi, e_gai_sai]
      unfold up
      by_cases q : k = L.length
      · rw [if_pos ⟨rfl, rfl, q⟩, if_pos q]
      · rw [if_neg (by omega), if_neg q]
    unfold CL
    rw [this, e_gfi_sfi, if_pos ⟨rfl, rfl⟩]
    exact hadd
theorem x_putNumber {g : GS_} {L : List Nat} {v : Nat} (hS : CSh g) (hL : CL g L) (hv : v < 1000) (hl : L.length + dgs v ≤ 1600) : ∃ g', f7_putNumber 0 (nI v) g = some ((), g') ∧ FW g g' ∧ CL g' (L ++ sgN v) := by
  have dg : ∀ n : Nat, n < 100000 → jrem (nI n) (10 : Int32) = nI (n % 10) := fun n hn => rem_nI (d := 10) (by omega) (by omega) (by omega)
  have d1 : nI v / (10 : Int32) = nI (v / 10) := div_nI (d := 10) (by omega) (by omega) (by omega)
  have d2 : nI v / (100 : Int32) = nI (v / 100) := div_nI (d := 100) (by omega) (by omega) (by omega)
  have a48 : ∀ n : Nat, (48 : Int32) + nI n = nI (48 + n) := fun n => nI_add 48 n
  -- the last figure
  have last : ∀ (G : GS_) (M : List Nat), CSh G → CL G M → M.length < 1600 → ∃ g', f7_putNumber_b40 0 (nI v) G = some ((), g') ∧ FW G g' ∧ CL g' (M ++ [48 + v % 10]) := by
    intro G M h1 h2 h3
    obtain ⟨g', b1, b2, b3⟩ := x_putC (ch := 48 + v % 10) h1 h2 h3
    refine ⟨g', ?_, b2, b3⟩
    rw [f7_putNumber_b40, dg v (by omega), a48, b1, bd_some]
  unfold dgs at hl
  unfold sgN
  by_cases c1 : v < 10
  · rw [if_pos c1] at hl ⊢
    obtain ⟨g', b1, b2, b3⟩ := last g L hS hL (by omega)
    refine ⟨g', ?_, b2, ?_⟩
    · rw [f7_putNumber, if_pos (show nI v < (100 : Int32) from (lt_nI (b := 100) (by omega) (by omega)).mpr (by omega)), f7_putNumber_b20, if_pos (show nI v < (10 : Int32) from (lt_nI (b := 10) (by omega) (by omega)).mpr c1)]
      exact b1
    · rw [show v % 10 = v by omega] at b3
      exact b3
  · -- the last two
    have mid : ∀ (G : GS_) (M : List Nat), CSh G → CL G M → M.length + 1 < 1600 → ∃ g', f7_putNumber_b20 0 (nI v) G = some ((), g') ∧ FW G g' ∧ CL g' (M ++ [48 + v / 10 % 10, 48 + v % 10]) := by
      intro G M h1 h2 h3
      obtain ⟨g1, b1, b2, b3⟩ := x_putC (ch := 48 + v / 10 % 10) h1 h2 (by omega)
      obtain ⟨g2, c1', c2, c3⟩ := last g1 _ (CSh_FX b2.1 h1) b3 (by simp; omega)
      refine ⟨g2, ?_, FW_tr b2 c2, ?_⟩
      · rw [f7_putNumber_b20, if_neg (show ¬ nI v < (10 : Int32) from fun q => c1 ((lt_nI (b := 10) (by omega) (by omega)).mp q)), d1, dg _ (by omega), a48, b1, bd_some]
        exact c1'
      · rw [List.append_assoc] at c3
        exact c3
    rw [if_neg c1] at hl ⊢
    by_cases c2 : v < 100
    · rw [if_pos c2] at hl ⊢
      obtain ⟨g', b1, b2, b3⟩ := mid g L hS hL (by omega)
      refine ⟨g', ?_, b2, ?_⟩
      · rw [f7_putNumber, if_pos (show nI v < (100 : Int32) from (lt_nI (b := 100) (by omega) (by omega)).mpr c2)]
        exact b1
      · rw [show v / 10 % 10 = v / 10 by omega] at b3
        exact b3
    · rw [if_neg c2] at hl ⊢
      obtain ⟨g1, b1, b2, b3⟩ := x_putC (ch := 48 + v / 100) hS hL (by omega)
      obtain ⟨g2, m1, m2, m3⟩ := mid g1 _ (CSh_FX b2.1 hS) b3 (by simp; omega)
      refine ⟨g2, ?_, FW_tr b2 m2, ?_⟩
      · rw [f7_putNumber, if_neg (show ¬ nI v < (100 : Int32) from fun q => c2 ((lt_nI (b := 100) (by omega) (by omega)).mp q)), d2, dg _ (by omega), show v / 100 % 10 = v / 100 by omega, a48, b1, bd_some]
        exact m1
      · rw [List.append_assoc] at m3
        exact m3
theorem x_writeItem {g : GS_} {L : List Nat} {x : Nat → Nat} {m i t : Nat} (hm : m ≤ 400) (hx : ∀ j, j < m → x j < 1000) (hS : CSh g) (hL : CL g L) (hV : Va x m i t) (hl : L.length + lnI x i t ≤ 1600) : ∃ g', f7_writeItem 0 (nI (x i)) (nI (x (i + t - 1))) (nI t) g = some ((), g') ∧ FW g g' ∧ CL g' (L ++ sgI x i t) := by
  obtain ⟨v1, v2, -, -⟩ := id hV
  have h1 := hx i (by omega)
  have h2 := hx (i + t - 1) (by omega)
  have dp := dgs_pos (x i)
  unfold lnI at hl
  unfold sgI
  by_cases c : t = 1
  · subst c
    rw [if_pos rfl] at hl ⊢
    obtain ⟨g', b1, b2, b3⟩ := x_putNumber hS hL h1 hl
    refine ⟨g', ?_, b2, b3⟩
    rw [f7_writeItem, b1, bd_some, if_pos (show nI 1 = (1 : Int32) from rfl)]
  · rw [if_neg c] at hl ⊢
    obtain ⟨g1, b1, b2, b3⟩ := x_putNumber hS hL h1 (by omega)
    have n1 : (L ++ sgN (x i)).length = L.length + dgs (x i) := by rw [List.length_append, sgN_len]
    have S1 := CSh_FX b2.1 hS
    obtain ⟨g2, c1, c2, c3⟩ := x_putC (ch := 45) S1 b3 (by omega)
    have S2 := CSh_FX c2.1 S1
    have n2 : (L ++ sgN (x i) ++ [45]).length = L.length + dgs (x i) + 1 := by rw [List.length_append, n1]; rfl
    obtain ⟨g3, d1, d2, d3⟩ := x_putNumber S2 c3 h2 (by omega)
    have S3 := CSh_FX d2.1 S2
    have n3 : (L ++ sgN (x i) ++ [45] ++ sgN (x (i + t - 1))).length = L.length + dgs (x i) + 1 + dgs (x (i + t - 1)) := by rw [List.length_append, n2, sgN_len]
    have sp := x_spaced (g := g3) hm hV (by omega) hx
    have nt : ¬ nI t = (1 : Int32) := fun q => c ((eq_nI (b := 1) (by omega) (by omega)).mp q)
    have s01 : spd (stp x i) = 0 ∨ spd (stp x i) = 1 := by unfold spd; split <;> omega
    have c1' : f7_put 0 (45 : Int32) g1 = some ((), g2) := c1
    rcases s01 with q | q
    · rw [q] at sp
      rw [if_neg (by omega), List.append_nil]
      refine ⟨g3, ?_, FW_tr b2 (FW_tr c2 d2), ?_⟩
      · rw [f7_writeItem, b1, bd_some, if_neg nt, c1', bd_some, d1, bd_some, sp, bd_some, if_pos (show nI 0 = (0 : Int32) from rfl)]
      · rw [List.append_assoc, List.append_assoc] at d3
        exact d3
    · rw [q] at sp hl
      rw [if_pos q]
      have dr : jrem (nI (x i)) (2 : Int32) = nI (x i % 2) := rem_nI (d := 2) (by omega) (by omega) (by omega)
      by_cases w : x i % 2 = 1
      · rw [if_pos w]
        obtain ⟨g4, e1, e2, e3⟩ := x_putC (ch := 111) S3 d3 (by omega)
        refine ⟨g4, ?_, FW_tr b2 (FW_tr c2 (FW_tr d2 e2)), ?_⟩
        · have e1' : f7_put 0 (111 : Int32) g3 = some ((), g4) := e1
          rw [f7_writeItem, b1, bd_some, if_neg nt, c1', bd_some, d1, bd_some, sp, bd_some, if_neg (show ¬ nI 1 = (0 : Int32) by decide), dr, w, if_pos (show nI 1 = (1 : Int32) from rfl), f7_writeItem_b46, e1', bd_some]
        · rw [List.append_assoc, List.append_assoc, List.append_assoc] at e3
          exact e3
      · rw [if_neg w]
        obtain ⟨g4, e1, e2, e3⟩ := x_putC (ch := 101) S3 d3 (by omega)
        refine ⟨g4, ?_, FW_tr b2 (FW_tr c2 (FW_tr d2 e2)), ?_⟩
        · have e1' : f7_put 0 (101 : Int32) g3 = some ((), g4) := e1
          rw [f7_writeItem, b1, bd_some, if_neg nt, c1', bd_some, d1, bd_some, sp, bd_some, if_neg (show ¬ nI 1 = (0 : Int32) by decide), dr, if_neg (show ¬ nI (x i % 2) = (1 : Int32) from fun q => w ((eq_nI (b := 1) (by omega) (by omega)).mp q)), f7_writeItem_b46, e1', bd_some]
        · rw [List.append_assoc, List.append_assoc, List.append_assoc] at e3
          exact e3
/-- the writing, from an item on -/
theorem x_writeLoop {A m : Nat} {x C T K : Nat → Nat} (hB : ∀ j, j < m → Bst x C T K m j) : ∀ (n fuel i : Nat) (g : GS_) (L : List Nat), m - i ≤ n → n < fuel → i < m → CSh g → PA g A m x → (∀ j, j < m → gai g 20 21 j = nI (K j)) → CL g L → L.length + (if i = 0 then 0 else 1) + C i ≤ 1600 →
    ∃ g', f7_write_b7 fuel 0 (some A) (nI m) (nI i) g = some ((), g') ∧ FW g g' ∧ CL g' (L ++ ((if i = 0 then [] else [44]) ++ txt x K m n i))
  | 0, fuel, i, g, L, h1, _, h2, _, _, _, _, _ => by omega
  | n + 1, fuel, i, g, L, h1, hf, hi, hS, hP, hK, hL, hl => by
    obtain ⟨f, rfl⟩ : ∃ f, fuel = f + 1 := ⟨fuel - 1, by omega⟩
    obtain ⟨s1, s2, s3, s4, l1, l2, l3, l4⟩ := id hS
    obtain ⟨p1, p2, p3, p4⟩ := id hP
    have hx : ∀ j, j < m → x j < 1000 := fun j hj => (p4 j hj).2
    obtain ⟨hV, bC, -, -⟩ := hB i hi
    have v1 := hV.1
    have v2 := hV.2.1
    have jm : jmax (1 : Int32) (nI (K i)) = nI (K i) := jmax1 v1 (by omega)
    have e2 : nI i + nI (K i) - (1 : Int32) = nI (i + K i - 1) := by rw [nI_add]; exact nI_sub (b := 1) (by omega)
    have e3 : nI i + nI (K i) = nI (i + K i) := nI_add _ _
    -- behind the comma
    have rest : ∀ (g1 : GS_) (L1 : List Nat), FW g g1 → CL g1 L1 → L1.length + C i ≤ 1600 → ∃ g', f7_write_b65 (f7_write_b7 f) 0 (some A) (nI m) (nI i) (nI (K i)) (nI (i + K i - 1)) g1 = some ((), g') ∧ FW g1 g' ∧ CL g' (L1 ++ txt x K m (n + 1) i) := by
      intro g1 L1 k1 k2 k3
      have P1 := PA_FX k1.1 hP
      obtain ⟨-, q2, -, q4⟩ := id P1
      have hCi : C i = lnI x i (K i) + (if i + K i = m then 0 else 1 + C (i + K i)) := bC
      obtain ⟨g2, a1, a2, a3⟩ := x_writeItem p3 hx (CSh_FX k1.1 hS) k2 hV (by omega)
      have e65 : f7_write_b65 (f7_write_b7 f) 0 (some A) (nI m) (nI i) (nI (K i)) (nI (i + K i - 1)) g1 = f7_write_b7 f 0 (some A) (nI m) (nI (i + K i)) g2 := by
        rw [f7_write_b65, oc_some, q2, if_pos ((inb_nI (by omega)).mpr hi), if_pos ((inb_nI (by omega)).mpr (by omega)), ix_nI (by omega), ix_nI (by omega), (q4 i hi).1, (q4 (i + K i - 1) (by omega)).1, a1, bd_some, e3, lr_at]
      rw [e65, txt, if_neg (by omega)]
      by_cases c : i + K i = m
      · rw [if_pos c, List.append_nil]
        obtain ⟨f', rfl⟩ : ∃ f', f = f' + 1 := ⟨f - 1, by omega⟩
        refine ⟨g2, ?_, a2, a3⟩
        rw [f7_write_b7.eq_2, c, if_pos ((le_nI (by omega) (by omega)).mpr (Nat.le_refl _))]
      · rw [if_neg c] at hCi ⊢
        have FW2 := FW_tr k1 a2
        obtain ⟨g3, b1, b2, b3⟩ := x_writeLoop hB n f (i + K i) g2 _ (by omega) (by omega) (by omega) (CSh_FX FW2.1 hS) (PA_FX FW2.1 hP) (fun j hj => by rw [FW2.2.2.2]; exact hK j hj) a3 (by rw [List.length_append, sgI_len, if_neg (by omega)]; omega)
        refine ⟨g3, b1, FW_tr a2 b2, ?_⟩
        rw [if_neg (by omega), List.append_assoc] at b3
        exact b3
    have head : f7_write_b7 (f + 1) 0 (some A) (nI m) (nI i) g = (if nI i ≤ (0 : Int32) then f7_write_b65 (f7_write_b7 f) 0 (some A) (nI m) (nI i) (nI (K i)) (nI (i + K i - 1)) g else bd_ (f7_put 0 (44 : Int32) g) fun _ g11 => f7_write_b65 (f7_write_b7 f) 0 (some A) (nI m) (nI i) (nI (K i)) (nI (i + K i - 1)) g11) := by
      rw [f7_write_b7.eq_2, if_neg (fun q => by have := (le_nI (by omega) (by omega)).mp q; omega), oc_some, p2, ofN, if_neg (fun q => by have := (le_nI (by omega) (by omega)).mp q; omega), s3, lr_at, oc_some, l3, ofN, if_neg (fun q => by have := (le_nI (by omega) (by omega)).mp q; omega), lr_at, oc_some, l3, if_pos ((inb_nI (by omega)).mpr (by omega)), ix_nI (by omega), hK i hi, jm, lr_at, e2, lr_at, if_pos ((lt_nI (by omega) (by omega)).mpr (by omega))]
    rw [head]
    by_cases c0 : i = 0
    · rw [if_pos c0] at hl ⊢
      rw [if_pos (show nI i ≤ (0 : Int32) from (le_nI (b := 0) (by omega) (by omega)).mpr (by omega)), List.nil_append]
      exact rest g L FW_rfl hL (by omega)
    · rw [if_neg c0] at hl ⊢
      rw [if_neg (show ¬ nI i ≤ (0 : Int32) from fun q => by have := (le_nI (b := 0) (by omega) (by omega)).mp q; omega)]
      obtain ⟨g1, a1, a2, a3⟩ := x_putC (ch := 44) hS hL (by omega)
      have a1' : f7_put 0 (44 : Int32) g = some ((), g1) := a1
      obtain ⟨g2, b1, b2, b3⟩ := rest g1 _ a2 a3 (by rw [List.length_append]; show L.length + 1 + C i ≤ 1600; omega)
      refine ⟨g2, ?_, FW_tr a2 b2, ?_⟩
      · rw [a1', bd_some]
        exact b1
      · rw [List.append_assoc] at b3
        exact b3
