/-! the class lays the text and writes it -/
theorem sub_toInt {a b : Nat} (ha : a < 100000) (hb : b < 100000) : (nI a - nI b).toInt = (a : Int) - (b : Int) := by
  rw [Int32.toInt_sub, nI_toInt (by omega), nI_toInt (by omega)]
  exact Int.bmod_eq_of_le (by omega) (by omega)
theorem sub_eq2 {a b c d : Nat} (ha : a < 100000) (hb : b < 100000) (hc : c < 100000) (hd : d < 100000) : (nI a - nI b = nI c - nI d) ↔ (a : Int) - (b : Int) = (c : Int) - (d : Int) := by
  rw [eqI, sub_toInt ha hb, sub_toInt hc hd]
def sI (x : Nat → Nat) (m i : Nat) : Int32 := if m ≤ i + 1 then nI 0 else nI (x (i + 1)) - nI (x i)
/-- whether a run may go on from i -/
theorem sI_ok {x : Nat → Nat} {m i : Nat} (hx : ∀ j, j < m → x j < 1000) (hi : i < m) : (sI x m i = nI 1 ∨ sI x m i = -nI 1 ∨ sI x m i = nI 2 ∨ sI x m i = -nI 2) ↔ (i + 1 < m ∧ oks (stp x i)) := by
  unfold sI
  by_cases c : m ≤ i + 1
  · rw [if_pos c]
    constructor
    · rintro (q | q | q | q) <;> exact absurd q (by decide)
    · rintro ⟨q, -⟩; omega
  · rw [if_neg c]
    have h1 := hx (i + 1) (by omega)
    have h2 := hx i hi
    have e1 : nI 1 = nI 1 - nI 0 := by decide
    have e2 : -nI 1 = nI 0 - nI 1 := by decide
    have e3 : nI 2 = nI 2 - nI 0 := by decide
    have e4 : -nI 2 = nI 0 - nI 2 := by decide
    have w1 : (nI (x (i + 1)) - nI (x i) = nI 1) ↔ stp x i = 1 := by
      rw [e1, sub_eq2 (by omega) (by omega) (by omega) (by omega)]; unfold stp; constructor <;> (intro w; omega)
    have w2 : (nI (x (i + 1)) - nI (x i) = -nI 1) ↔ stp x i = -1 := by
      rw [e2, sub_eq2 (by omega) (by omega) (by omega) (by omega)]; unfold stp; constructor <;> (intro w; omega)
    have w3 : (nI (x (i + 1)) - nI (x i) = nI 2) ↔ stp x i = 2 := by
      rw [e3, sub_eq2 (by omega) (by omega) (by omega) (by omega)]; unfold stp; constructor <;> (intro w; omega)
    have w4 : (nI (x (i + 1)) - nI (x i) = -nI 2) ↔ stp x i = -2 := by
      rw [e4, sub_eq2 (by omega) (by omega) (by omega) (by omega)]; unfold stp; constructor <;> (intro w; omega)
    rw [w1, w2, w3, w4]
    unfold oks
    constructor
    · intro w; exact ⟨by omega, w⟩
    · rintro ⟨-, w⟩; exact w
theorem IsR_1 {x : Nat → Nat} {m i : Nat} (hi : i < m) (h : ¬ (i + 1 < m ∧ oks (stp x i))) : IsR x m i 1 := by
  refine ⟨⟨Nat.le_refl _, by omega, fun q => by omega, fun k q => by omega⟩, ?_⟩
  rintro ⟨-, h2, h3, -⟩
  exact h ⟨by omega, h3 (by omega)⟩
theorem IsR_2 {x : Nat → Nat} {m i : Nat} (h : i + 1 < m ∧ oks (stp x i)) (h2 : ¬ (i + 2 < m ∧ stp x (i + 1) = stp x i)) : IsR x m i 2 := by
  refine ⟨⟨by omega, by omega, fun _ => h.2, fun k q => ?_⟩, ?_⟩
  · rw [show i + k = i by omega]
  · rintro ⟨-, w2, -, w4⟩
    exact h2 ⟨by omega, w4 1 (by omega)⟩
theorem IsR_s {x : Nat → Nat} {m i R : Nat} (h : i + 1 < m ∧ oks (stp x i)) (h2 : i + 2 < m ∧ stp x (i + 1) = stp x i) (hR : IsR x m (i + 1) R) : IsR x m i (R + 1) := by
  obtain ⟨⟨r1, r2, r3, r4⟩, r5⟩ := hR
  refine ⟨⟨by omega, by omega, fun _ => h.2, fun k q => ?_⟩, ?_⟩
  · rcases Nat.eq_zero_or_pos k with rfl | hk
    · rfl
    · have := r4 (k - 1) (by omega)
      rw [show i + 1 + (k - 1) = i + k by omega] at this
      rw [this, h2.2]
  · rintro ⟨w1, w2, w3, w4⟩
    refine r5 ⟨by omega, by omega, fun _ => by rw [h2.2]; exact h.2, fun k q => ?_⟩
    have := w4 (k + 1) (by omega)
    rw [show i + (k + 1) = i + 1 + k by omega] at this
    rw [this, h2.2]
theorem x_desc {A m : Nat} {x : Nat → Nat} : ∀ (n fuel : Nat) (g : GS_) (R : Nat) (s : Int32), n < fuel → n ≤ m → CSh g → PA g A m x → ABg x m g n → (n < m → IsR x m n R ∧ s = sI x m n) → R < 1000 →
    ∃ g', f7_describe_b40 fuel 0 (some A) (nI m) (nI R) s (nI n + -nI 1) g = (bd_ (f7_write 0 (some A) (nI m) g') fun _ g2 => some ((), g2)) ∧ FX g g' ∧ ABg x m g' 0
  | 0, fuel, g, R, s, h1, h2, hS, hP, hA, hR, hR2 => by
    obtain ⟨f, rfl⟩ : ∃ f, fuel = f + 1 := ⟨fuel - 1, by omega⟩
    refine ⟨g, ?_, FX_rfl, hA⟩
    rw [f7_describe_b40.eq_2, if_pos (show nI 0 + -nI 1 < (0 : Int32) by decide)]
  | n + 1, fuel, g, R, s, h1, h2, hS, hP, hA, hR, hR2 => by
    obtain ⟨f, rfl⟩ : ∃ f, fuel = f + 1 := ⟨fuel - 1, by omega⟩
    have p3 := hP.2.2.1
    have hx : ∀ j, j < m → x j < 1000 := fun j hj => (hP.2.2.2 j hj).2
    have e0 : nI (n + 1) + -nI 1 = nI n := addneg_nI (by omega)
    have e1 : nI n + (1 : Int32) = nI (n + 1) := nI_add n 1
    have eneg : (-1 : Int32) = -nI 1 := rfl
    -- the step
    have hstep : f7_describe_b40 (f + 1) 0 (some A) (nI m) (nI R) s (nI (n + 1) + -nI 1) g = f7_describe_b68 (f7_describe_b40 f) 0 (some A) (nI m) (nI R) s (nI n) (sI x m n) g := by
      rw [f7_describe_b40.eq_2, e0, if_neg (show ¬ nI n < (0 : Int32) from fun q => by have := (lt_nI (b := 0) (by omega) (by omega)).mp q; omega), e1]
      unfold sI
      by_cases c : m ≤ n + 1
      · rw [if_pos ((le_nI (by omega) (by omega)).mpr c), if_pos c]
        rfl
      · obtain ⟨p1, p2, -, p4⟩ := hP
        rw [if_neg (fun q => c ((le_nI (by omega) (by omega)).mp q)), if_neg c, oc_some, p2, if_pos ((inb_nI (by omega)).mpr (by omega)), if_pos ((inb_nI (by omega)).mpr (by omega)), ix_nI (by omega), ix_nI (by omega), (p4 (n + 1) (by omega)).1, (p4 n (by omega)).1]
    -- behind the run's length
    have go : ∀ R' : Nat, IsR x m n R' → f7_describe_b68 (f7_describe_b40 f) 0 (some A) (nI m) (nI R) s (nI n) (sI x m n) g = f7_describe_b125 (f7_describe_b40 f) 0 (some A) (nI m) (nI n) (sI x m n) (nI R') g → ∃ g', f7_describe_b40 (f + 1) 0 (some A) (nI m) (nI R) s (nI (n + 1) + -nI 1) g = (bd_ (f7_write 0 (some A) (nI m) g') fun _ g2 => some ((), g2)) ∧ FX g g' ∧ ABg x m g' 0 := by
      intro R' hR' hgo
      obtain ⟨g1, a1, a2, a3⟩ := x_choose hS hP (show n < m by omega) hR' hA
      have hr := hR'.1.2.1
      obtain ⟨g', b1, b2, b3⟩ := x_desc n f g1 R' (sI x m n) (by omega) (by omega) (CSh_FX a2 hS) (PA_FX a2 hP) a3 (fun _ => ⟨hR', rfl⟩) (by omega)
      refine ⟨g', ?_, FX_tr a2 b2, b3⟩
      rw [hstep, hgo, f7_describe_b125, a1, bd_some, eneg]
      exact b1
    by_cases hk : n + 1 < m ∧ oks (stp x n)
    · have hs := (sI_ok hx (show n < m by omega)).mpr hk
      have b95 : f7_describe_b68 (f7_describe_b40 f) 0 (some A) (nI m) (nI R) s (nI n) (sI x m n) g = f7_describe_b100 (f7_describe_b40 f) 0 (some A) (nI m) (nI R) s (nI n) (sI x m n) (nI 1) g := by
        rw [f7_describe_b68]
        rcases hs with q | q | q | q
        · rw [q, if_pos (show nI 1 = (1 : Int32) from rfl)]; rfl
        · rw [q, if_neg (show ¬ -nI 1 = (1 : Int32) by decide), if_pos (show -nI 1 = (-1 : Int32) from rfl)]; rfl
        · rw [q, if_neg (show ¬ nI 2 = (1 : Int32) by decide), if_neg (show ¬ nI 2 = (-1 : Int32) by decide), if_pos (show nI 2 = (2 : Int32) from rfl)]; rfl
        · rw [q, if_neg (show ¬ -nI 2 = (1 : Int32) by decide), if_neg (show ¬ -nI 2 = (-1 : Int32) by decide), if_neg (show ¬ -nI 2 = (2 : Int32) by decide), if_pos (show -nI 2 = (-2 : Int32) from rfl)]; rfl
      obtain ⟨hR1, hs1⟩ := hR hk.1
      by_cases he : n + 2 < m ∧ stp x (n + 1) = stp x n
      · have hse : sI x m n = s := by
          rw [hs1]
          unfold sI
          rw [if_neg (by omega), if_neg (by omega)]
          have y1 := hx n (by omega)
          have y2 := hx (n + 1) (by omega)
          have y3 := hx (n + 1 + 1) (by omega)
          rw [sub_eq2 (by omega) (by omega) (by omega) (by omega)]
          have := he.2
          unfold stp at this
          omega
        refine go (R + 1) (IsR_s hk he hR1) ?_
        rw [b95, f7_describe_b100, if_neg (by decide), if_pos hse]
        have : nI R + (1 : Int32) = nI (R + 1) := nI_add R 1
        rw [this]
      · have hse : ¬ sI x m n = s := by
          rw [hs1]
          intro q
          have y1 := hx n (by omega)
          have y2 := hx (n + 1) (by omega)
          have ho := hk.2
          unfold sI at q
          rw [if_neg (by omega)] at q
          by_cases c : m ≤ n + 1 + 1
          · rw [if_pos c, show nI 0 = nI 0 - nI 0 by decide, sub_eq2 (by omega) (by omega) (by omega) (by omega)] at q
            unfold oks stp at ho
            omega
          · rw [if_neg c] at q
            have y3 := hx (n + 1 + 1) (by omega)
            rw [sub_eq2 (by omega) (by omega) (by omega) (by omega)] at q
            refine he ⟨by omega, ?_⟩
            unfold stp
            omega
        refine go 2 (IsR_2 hk he) ?_
        rw [b95, f7_describe_b100, if_neg (by decide), if_neg hse]
        rfl
    · have hs := fun q => hk ((sI_ok hx (show n < m by omega)).mp q)
      refine go 1 (IsR_1 (by omega) hk) ?_
      rw [f7_describe_b68, if_neg (show ¬ sI x m n = (1 : Int32) from fun q => hs (Or.inl q)), if_neg (show ¬ sI x m n = (-1 : Int32) from fun q => hs (Or.inr (Or.inl q))), if_neg (show ¬ sI x m n = (2 : Int32) from fun q => hs (Or.inr (Or.inr (Or.inl q)))), if_neg (show ¬ sI x m n = (-2 : Int32) from fun q => hs (Or.inr (Or.inr (Or.inr q)))), f7_describe_b100, if_pos (show (0 : Int32) = 0 from rfl)]
      rfl
