/-! the reference: load, bands, ticks; rank; what is printable -/
/-- only ints of the object itself have changed -/
def SC (g g' : GS_) : Prop := gfr g' = gfr g ∧ gai g' = gai g ∧ gar g' = gar g ∧ gln g' = gln g ∧ gcn g' = gcn g ∧ ghs g' = ghs g ∧ gsl g' = gsl g
theorem SC_rfl {g : GS_} : SC g g := ⟨rfl, rfl, rfl, rfl, rfl, rfl, rfl⟩
theorem SC_sfi {g : GS_} {f i : Nat} {v : Int32} : SC g (sfi g f i v) := ⟨rfl, rfl, rfl, rfl, rfl, rfl, rfl⟩
theorem SC_tr {a b c : GS_} (h1 : SC a b) (h2 : SC b c) : SC a c := ⟨h2.1.trans h1.1, h2.2.1.trans h1.2.1, h2.2.2.1.trans h1.2.2.1, h2.2.2.2.1.trans h1.2.2.2.1, h2.2.2.2.2.1.trans h1.2.2.2.2.1, h2.2.2.2.2.2.1.trans h1.2.2.2.2.2.1, h2.2.2.2.2.2.2.trans h1.2.2.2.2.2.2⟩
theorem MI_eq {g g' : GS_} (h : MI g) (h1 : gfr g' = gfr g) (h2 : gln g' = gln g) : MI g' := by
  unfold MI at h ⊢
  rw [h1, h2]
  exact h
theorem MI_SC {g g' : GS_} (h : MI g) (h1 : SC g g') : MI g' := MI_eq h h1.1 h1.2.2.2.1
theorem MI_sai {g : GS_} {t i j : Nat} {v : Int32} (h : MI g) : MI (sai g t i j v) := h
theorem MI_sfi {g : GS_} {f i : Nat} {v : Int32} (h : MI g) : MI (sfi g f i v) := h
-- weights
def wgt (a : Nat → Int32) (d p : Nat) : Nat := dN a d 2 + (p * dN a d 3) % dN a d 4
theorem wgt_le {a : Nat → Int32} {d p : Nat} (h : DocOk a d) : wgt a d p ≤ 1000 := by
  obtain ⟨-, -, -, h2, -, h4, h5⟩ := h
  have e2 := (vl_nI h2).2
  have e4 := (vl_nI h4).2
  have := Nat.mod_lt (p * dN a d 3) h5
  unfold wgt
  unfold dN at *
  omega
theorem m_weightOf {g : GS_} (h : MI g) {d p : Nat} (hd : d < 10) (hp : p < 1000) (hD : DocOk (gai g 20 0) d) : f10_weightOf 0 (nI d) (nI p) g = some (nI (wgt (gai g 20 0) d p), g) := by
  obtain ⟨-, -, -, h2, h3, h4, h5⟩ := hD
  obtain ⟨b, hb, hbl⟩ := vl_ex h2
  obtain ⟨s, hs, hsl⟩ := vl_ex h3
  obtain ⟨n, hn, hnl⟩ := vl_ex h4
  have eb : dN (gai g 20 0) d 2 = b := tn_of hb (by omega)
  have es : dN (gai g 20 0) d 3 = s := tn_of hs (by omega)
  have en : dN (gai g 20 0) d 4 = n := tn_of hn (by omega)
  rw [en] at h5
  have hps : p * s ≤ 1000 * 50 := Nat.mul_le_mul (by omega) (by omega)
  unfold wgt
  simp (disch := first | assumption | omega) only [li, bd_some, bd_none, oc_some, oc_none, lr_, ↓reduceIte, bi_0, bi_0n, bi_1, bi_1n, npp, if_pos, if_neg, not_true_eq_false, not_false_eq_true, Nat.reduceAdd, Nat.reduceMul, f10_weightOf, m_ofDocument, hb, hs, hn, eb, es, en, eq_nI, nI_mul, nI_add, inb_nI, ix_nI, rem_nI]
-- bands
def bok (load mem b : Nat) : Prop := 2 * ((load + b - 1) / b) ≤ mem
theorem bok_dec (load mem b : Nat) : (2 * ((load + b - 1) / b) ≤ mem) = bok load mem b := rfl
def bdz (load mem : Nat) : Nat := if 2 * ((load + 1 - 1) / 1) ≤ mem then 1 else if 2 * ((load + 2 - 1) / 2) ≤ mem then 2 else if 2 * ((load + 4 - 1) / 4) ≤ mem then 4 else if 2 * ((load + 8 - 1) / 8) ≤ mem then 8 else if 2 * ((load + 16 - 1) / 16) ≤ mem then 16 else 0
def bz (load mem : Nat) : Nat := if bdz load mem ≠ 0 then bdz load mem else if bdz (load / 4) mem ≠ 0 then bdz (load / 4) mem else 16
theorem bdz_le (load mem : Nat) : bdz load mem ≤ 16 := by
  unfold bdz
  split
  · omega
  · split
    · omega
    · split
      · omega
      · split
        · omega
        · split <;> omega
theorem bz_le (load mem : Nat) : 1 ≤ bz load mem ∧ bz load mem ≤ 16 := by
  have h1 := bdz_le load mem
  have h2 := bdz_le (load / 4) mem
  unfold bz
  split
  · omega
  · split <;> omega
theorem m_bandsFor {g : GS_} {load mem : Nat} (hl : load < 100000) (hm : mem < 100000) : f10_bandsFor (nI load) (nI mem) g = some (if bdz load mem = 0 then -nI 6 else nI (bdz load mem), g) := by
  have key : ∀ n, f10_bandsFor_b2 (n + 6) (nI load) (nI mem) (nI 1) g = some (if bdz load mem = 0 then -nI 6 else nI (bdz load mem), g) := by
    intro n
    have one : ∀ (n b : Nat), 1 ≤ b → b ≤ 16 → f10_bandsFor_b2 (n + 1) (nI load) (nI mem) (nI b) g = if 2 * ((load + b - 1) / b) ≤ mem then some (nI b, g) else f10_bandsFor_b2 n (nI load) (nI mem) (nI (b * 2)) g := by
      intro n b h1 h2
      have h3 : (load + b - 1) / b ≤ load + b - 1 := Nat.div_le_self _ _
      have h4 : (load + b - 1) / b < 100020 := by omega
      rw [f10_bandsFor_b2.eq_2]
      simp (disch := first | assumption | omega) only [li, bd_some, bd_none, oc_some, oc_none, lr_, ↓reduceIte, bi_0, bi_0n, bi_1, bi_1n, npp, if_pos, if_neg, not_true_eq_false, not_false_eq_true, Nat.reduceAdd, Nat.reduceMul, lt_nI, eq_nI, nI_mul, nI_add, inb_nI, ix_nI, nI_sub, div_nI]
      generalize (load + b - 1) / b = q at h4 ⊢
      by_cases hq : 2 * q ≤ mem
      · simp (disch := first | assumption | omega) only [li, bd_some, bd_none, oc_some, oc_none, lr_, ↓reduceIte, bi_0, bi_0n, bi_1, bi_1n, npp, if_pos, if_neg, not_true_eq_false, not_false_eq_true, Nat.reduceAdd, Nat.reduceMul, hq, Nat.not_lt]
      · simp (disch := first | assumption | omega) only [li, bd_some, bd_none, oc_some, oc_none, lr_, ↓reduceIte, bi_0, bi_0n, bi_1, bi_1n, npp, if_pos, if_neg, not_true_eq_false, not_false_eq_true, Nat.reduceAdd, Nat.reduceMul, hq, Nat.not_le.mp hq]
    rw [show n + 6 = n + 5 + 1 from rfl, one _ _ (by omega) (by omega)]
    unfold bdz
    by_cases c1 : 2 * ((load + 1 - 1) / 1) ≤ mem
    · rw [if_pos c1, if_pos c1]; rfl
    rw [if_neg c1, if_neg c1, show n + 5 = n + 4 + 1 from rfl, one _ _ (by omega) (by omega)]
    by_cases c2 : 2 * ((load + 2 - 1) / 2) ≤ mem
    · rw [if_pos c2, if_pos c2]; rfl
    rw [if_neg c2, if_neg c2, show n + 4 = n + 3 + 1 from rfl, one _ _ (by omega) (by omega)]
    by_cases c3 : 2 * ((load + 4 - 1) / 4) ≤ mem
    · rw [if_pos c3, if_pos c3]; rfl
    rw [if_neg c3, if_neg c3, show n + 3 = n + 2 + 1 from rfl, one _ _ (by omega) (by omega)]
    by_cases c4 : 2 * ((load + 8 - 1) / 8) ≤ mem
    · rw [if_pos c4, if_pos c4]; rfl
    rw [if_neg c4, if_neg c4, show n + 2 = n + 1 + 1 from rfl, one _ _ (by omega) (by omega)]
    by_cases c5 : 2 * ((load + 16 - 1) / 16) ≤ mem
    · rw [if_pos c5, if_pos c5]; rfl
    rw [if_neg c5, if_neg c5]
    unfold f10_bandsFor_b2
    simp (disch := first | assumption | omega) only [li, bd_some, bd_none, oc_some, oc_none, lr_, ↓reduceIte, bi_0, bi_0n, bi_1, bi_1n, npp, if_pos, if_neg, not_true_eq_false, not_false_eq_true, Nat.reduceAdd, Nat.reduceMul, lt_nI]
  exact key 19994
-- the load of a side
def ldp (f w : Nat → Nat) (per : Nat) (n : Nat) : Nat := match n with
  | 0 => 0
  | n + 1 => ldp f w per n + (if f n = 0 then 0 else w (f n) / per)
theorem ldp_0 (f w : Nat → Nat) (per : Nat) : ldp f w per 0 = 0 := rfl
theorem ldp_s (f w : Nat → Nat) (per n : Nat) : ldp f w per (n + 1) = ldp f w per n + (if f n = 0 then 0 else w (f n) / per) := rfl
theorem ldp_le {f w : Nat → Nat} {per : Nat} (h : ∀ p, w p ≤ 1000) : ∀ n, ldp f w per n ≤ 1000 * n
  | 0 => by rw [ldp_0]; omega
  | n + 1 => by
    have h1 := ldp_le (f := f) (per := per) h n
    have h2 := Nat.div_le_self (w (f n)) per
    have h3 := h (f n)
    rw [ldp_s]
    split <;> omega
theorem ldp_congr {f f' w w' : Nat → Nat} {per : Nat} : ∀ n, (∀ k, k < n → f k = f' k) → (∀ k, k < n → f k ≠ 0 → w (f k) = w' (f k)) → ldp f w per n = ldp f' w' per n
  | 0, _, _ => rfl
  | n + 1, h1, h2 => by
    rw [ldp_s, ldp_s, ldp_congr n (fun k hk => h1 k (by omega)) (fun k hk => h2 k (by omega)), ← h1 n (by omega)]
    by_cases h0 : f n = 0
    · rw [if_pos h0, if_pos h0]
    · rw [if_neg h0, if_neg h0, h2 n (by omega) h0]
def blk (f : Nat → Nat) (n : Nat) : Prop := ∀ k, k < n → f k = 0
theorem blk_s (f : Nat → Nat) (n : Nat) : blk f (n + 1) ↔ blk f n ∧ f n = 0 := by
  unfold blk
  constructor
  · exact fun h => ⟨fun k hk => h k (by omega), h n (by omega)⟩
  · intro h k hk
    rcases Nat.lt_or_ge k n with h1 | h1
    · exact h.1 k h1
    · rw [show k = n by omega]; exact h.2
def blb (f : Nat → Nat) (n : Nat) : Int32 := match n with
  | 0 => 1
  | n + 1 => if blb f n = 0 then 0 else if f n = 0 then 1 else 0
theorem blb_iff (f : Nat → Nat) : ∀ n, (blb f n = 0 ∧ ¬ blk f n) ∨ (blb f n = 1 ∧ blk f n)
  | 0 => Or.inr ⟨rfl, fun k hk => absurd hk (Nat.not_lt_zero k)⟩
  | n + 1 => by
    rw [blk_s]
    show ((if blb f n = 0 then (0 : Int32) else if f n = 0 then 1 else 0) = 0 ∧ _) ∨ ((if blb f n = 0 then (0 : Int32) else if f n = 0 then 1 else 0) = 1 ∧ _)
    rcases blb_iff f n with ⟨h1, h2⟩ | ⟨h1, h2⟩
    · rw [h1]; exact Or.inl ⟨rfl, fun h => h2 h.1⟩
    · rw [h1]
      by_cases h0 : f n = 0
      · exact Or.inr ⟨by simp [h0], h2, h0⟩
      · exact Or.inl ⟨by simp [h0], fun h => h0 h.2⟩
def sLD (a l : Nat → Int32) (j x side : Nat) : Nat := ldp (sPG a l j x side) (wgt a (jN a j 6)) (psz (jN a j 3)) (psz (jN a j 3))
def sBL (a l : Nat → Int32) (j x side : Nat) : Int32 := blb (sPG a l j x side) (psz (jN a j 3))
def sBD (a l : Nat → Int32) (j x side p : Nat) : Nat := if sBL a l j x side = 0 then bz (sLD a l j x side) (pN a p 1) else 0
def sCO (a l : Nat → Int32) (j x side p : Nat) : Int32 := if sBL a l j x side = 0 then (if bdz (sLD a l j x side) (pN a p 1) = 0 then 1 else 0) else 0
def PrPl (a : Nat → Int32) (p : Nat) : Prop := vl (a (76 + 10 * p + 0)) 51 ∧ 1 ≤ pN a p 0 ∧ vl (a (76 + 10 * p + 1)) 2001 ∧ 1 ≤ pN a p 1 ∧ vl (a (76 + 10 * p + 2)) 2
theorem sPG_le {a l : Nat → Int32} {j x side pos : Nat} (hJ : JobPl a l j) : sPG a l j x side pos ≤ 400 := by
  unfold sPG sPGc
  split
  · rename_i h
    have := (vl_nI (hJ.2.2.2.2.2.2.2.2.2.2.2 _ h).1).2
    omega
  · omega
theorem m_laySide {g : GS_} (h : MI g) {j x side p : Nat} (hj : j < 24) (hp : p < 3) (hJ : JobPl (gai g 20 0) (gai g 20 2) j) (hD : DocOk (gai g 20 0) (jN (gai g 20 0) j 6)) (hd : jN (gai g 20 0) j 6 < 10) (hP : PrPl (gai g 20 0) p) (hx : x < sSH (gai g 20 0) j) (hs : side < 2) :
    ∃ g', f10_laySide 0 (nI j) (nI x) (nI side) (nI p) g = some ((), g') ∧ SC g g' ∧ (∀ f, f < 337 ∨ 339 < f → gfi g' f 0 = gfi g f 0) ∧
      gfi g' 337 0 = nI (sLD (gai g 20 0) (gai g 20 2) j x side) ∧ gfi g' 338 0 = nI (sBD (gai g 20 0) (gai g 20 2) j x side p) ∧ gfi g' 339 0 = sCO (gai g 20 0) (gai g 20 2) j x side p := by
  generalize ha : gai g 20 0 = a at *
  generalize hl : gai g 20 2 = l at *
  have hpx := psz_pos (jN a j 3)
  obtain ⟨y, hy, hyl⟩ := vl_ex hJ.2.2.2.2.1
  have ey : jN a j 3 = y := tn_of hy (by omega)
  have hpy : psz (jN a j 3) ≤ 5 := by rw [ey]; unfold psz; split <;> omega
  obtain ⟨M, hM, hMl⟩ := vl_ex hP.2.2.1
  have eM : pN a p 1 = M := tn_of hM (by omega)
  obtain ⟨dd, hdd, hdl⟩ := vl_ex hJ.2.2.2.2.2.2.2.1
  have ed : jN a j 6 = dd := tn_of hdd (by have := tn_lt (x := a 3); omega)
  have hw : ∀ q, wgt a (jN a j 6) q ≤ 1000 := fun q => wgt_le hD
  have hLb : ∀ n, n ≤ 5 → ldp (sPG a l j x side) (wgt a (jN a j 6)) (psz (jN a j 3)) n ≤ 5000 := fun n hn => Nat.le_trans (ldp_le hw n) (by omega)
  have key : ∀ (n k : Nat) (g1 : GS_), SC g g1 → (∀ f, f < 337 ∨ 339 < f → gfi g1 f 0 = gfi g f 0) → gfi g1 337 0 = nI (ldp (sPG a l j x side) (wgt a (jN a j 6)) (psz (jN a j 3)) k) → gfi g1 338 0 = 0 → gfi g1 339 0 = 0 → k ≤ psz (jN a j 3) → psz (jN a j 3) - k < n →
      ∃ g', f10_laySide_b21 n 0 (nI j) (nI x) (nI side) (nI p) (blb (sPG a l j x side) k) (nI k) g1 = some ((), g') ∧ SC g g' ∧ (∀ f, f < 337 ∨ 339 < f → gfi g' f 0 = gfi g f 0) ∧
        gfi g' 337 0 = nI (sLD a l j x side) ∧ gfi g' 338 0 = nI (sBD a l j x side p) ∧ gfi g' 339 0 = sCO a l j x side p := by
    intro n
    induction n with
    | zero => intro k g1 _ _ _ _ _ _ h9; omega
    | succ n ih =>
      intro k g1 hsc hoth h337 h338 h339 hk hn
      have hM1 := MI_SC h hsc
      have hg0 : gai g1 20 0 = a := by rw [hsc.2.1, ha]
      have hg2 : gai g1 20 2 = l := by rw [hsc.2.1, hl]
      have e1 := m_perSide hM1 hj (l := l) (by rw [hg0]; exact hJ)
      rw [hg0] at e1
      unfold f10_laySide_b21
      rw [e1]
      simp (disch := first | assumption | omega) only [li, bd_some, bd_none, oc_some, oc_none, lr_, ↓reduceIte, bi_0, bi_0n, bi_1, bi_1n, npp, if_pos, if_neg, not_true_eq_false, not_false_eq_true, Nat.reduceAdd, Nat.reduceMul]
      by_cases hkp : k = psz (jN a j 3)
      · simp (disch := first | assumption | omega) only [li, bd_some, bd_none, oc_some, oc_none, lr_, ↓reduceIte, bi_0, bi_0n, bi_1, bi_1n, npp, if_pos, if_neg, not_true_eq_false, not_false_eq_true, Nat.reduceAdd, Nat.reduceMul, le_nI, hkp, Nat.le_refl]
        rcases blb_iff (sPG a l j x side) (psz (jN a j 3)) with ⟨b1, b2⟩ | ⟨b1, b2⟩
        · have e3 := m_ofPrinter hM1 hp (w := 1) (by omega)
          rw [hg0, hM] at e3
          have hL := hLb (psz (jN a j 3)) hpy
          rw [hkp] at h337
          have e4 := @m_bandsFor g1 (ldp (sPG a l j x side) (wgt a (jN a j 6)) (psz (jN a j 3)) (psz (jN a j 3))) M (by omega) (by omega)
          have eLD : ldp (sPG a l j x side) (wgt a (jN a j 6)) (psz (jN a j 3)) (psz (jN a j 3)) = sLD a l j x side := rfl
          have eBL : sBL a l j x side = 0 := b1
          rw [eLD] at h337 e4 hL
          have hb1 := bdz_le (sLD a l j x side) M
          have hb2 := bdz_le (sLD a l j x side / 4) M
          rw [b1]
          simp (disch := first | assumption | omega) only [li, bd_some, bd_none, oc_some, oc_none, lr_, ↓reduceIte, bi_0, bi_0n, bi_1, bi_1n, npp, if_pos, if_neg, not_true_eq_false, not_false_eq_true, Nat.reduceAdd, Nat.reduceMul, e3, h337, e4, e_gfi_sfi, e_gfi_sfr, e_gfi_sai, e_gfi_sar, e_gfi_saw, e_gfr_sfi, e_gfr_sfr, e_gfr_sai, e_gfr_sar, e_gfr_saw, e_gai_sfi, e_gai_sfr, e_gai_sai, e_gai_sar, e_gai_saw, e_gar_sfi, e_gar_sfr, e_gar_sai, e_gar_sar, e_gar_saw, e_gln_sfi, e_gln_sfr, e_gln_sai, e_gln_sar, e_gln_saw, e_gcn_sfi, e_gcn_sfr, e_gcn_sai, e_gcn_sar, e_gcn_saw, e_ghs_sfi, e_ghs_sfr, e_ghs_sai, e_ghs_sar, e_ghs_saw, e_gsl_sfi, e_gsl_sfr, e_gsl_sai, e_gsl_sar, e_gsl_saw]
          by_cases z : bdz (sLD a l j x side) M = 0
          · have e5 := @m_bandsFor (sfi (sfi g1 338 0 (-nI 6)) 339 0 (nI 1)) (sLD a l j x side / 4) M (by omega) (by omega)
            have e6 : bz (sLD a l j x side) M = if bdz (sLD a l j x side / 4) M ≠ 0 then bdz (sLD a l j x side / 4) M else 16 := by unfold bz; rw [if_neg (by omega)]
            simp (disch := first | assumption | omega) only [li, bd_some, bd_none, oc_some, oc_none, lr_, ↓reduceIte, bi_0, bi_0n, bi_1, bi_1n, npp, if_pos, if_neg, not_true_eq_false, not_false_eq_true, Nat.reduceAdd, Nat.reduceMul, z, e_gfi_sfi, e_gfi_sfr, e_gfi_sai, e_gfi_sar, e_gfi_saw, e_gfr_sfi, e_gfr_sfr, e_gfr_sai, e_gfr_sar, e_gfr_saw, e_gai_sfi, e_gai_sfr, e_gai_sai, e_gai_sar, e_gai_saw, e_gar_sfi, e_gar_sfr, e_gar_sai, e_gar_sar, e_gar_saw, e_gln_sfi, e_gln_sfr, e_gln_sai, e_gln_sar, e_gln_saw, e_gcn_sfi, e_gcn_sfr, e_gcn_sai, e_gcn_sar, e_gcn_saw, e_ghs_sfi, e_ghs_sfr, e_ghs_sai, e_ghs_sar, e_ghs_saw, e_gsl_sfi, e_gsl_sfr, e_gsl_sai, e_gsl_sar, e_gsl_saw, h337, div_nI, and_self, and_true, and_false, reduceCtorEq, Nat.reduceEqDiff, e5]
            by_cases z2 : bdz (sLD a l j x side / 4) M = 0
            · simp (disch := first | assumption | omega) only [li, bd_some, bd_none, oc_some, oc_none, lr_, ↓reduceIte, bi_0, bi_0n, bi_1, bi_1n, npp, if_pos, if_neg, not_true_eq_false, not_false_eq_true, Nat.reduceAdd, Nat.reduceMul, z2, f10_laySide_b178, e_gfi_sfi, e_gfi_sfr, e_gfi_sai, e_gfi_sar, e_gfi_saw, e_gfr_sfi, e_gfr_sfr, e_gfr_sai, e_gfr_sar, e_gfr_saw, e_gai_sfi, e_gai_sfr, e_gai_sai, e_gai_sar, e_gai_saw, e_gar_sfi, e_gar_sfr, e_gar_sai, e_gar_sar, e_gar_saw, e_gln_sfi, e_gln_sfr, e_gln_sai, e_gln_sar, e_gln_saw, e_gcn_sfi, e_gcn_sfr, e_gcn_sai, e_gcn_sar, e_gcn_saw, e_ghs_sfi, e_ghs_sfr, e_ghs_sai, e_ghs_sar, e_ghs_saw, e_gsl_sfi, e_gsl_sfr, e_gsl_sai, e_gsl_sar, e_gsl_saw, and_self]
              refine ⟨_, rfl, SC_tr hsc (SC_tr SC_sfi (SC_tr SC_sfi (SC_tr SC_sfi SC_sfi))), ?_, ?_, ?_, ?_⟩
              · intro f hf
                simp (disch := first | assumption | omega) only [li, bd_some, bd_none, oc_some, oc_none, lr_, ↓reduceIte, bi_0, bi_0n, bi_1, bi_1n, npp, if_pos, if_neg, not_true_eq_false, not_false_eq_true, Nat.reduceAdd, Nat.reduceMul, e_gfi_sfi, e_gfi_sfr, e_gfi_sai, e_gfi_sar, e_gfi_saw, e_gfr_sfi, e_gfr_sfr, e_gfr_sai, e_gfr_sar, e_gfr_saw, e_gai_sfi, e_gai_sfr, e_gai_sai, e_gai_sar, e_gai_saw, e_gar_sfi, e_gar_sfr, e_gar_sai, e_gar_sar, e_gar_saw, e_gln_sfi, e_gln_sfr, e_gln_sai, e_gln_sar, e_gln_saw, e_gcn_sfi, e_gcn_sfr, e_gcn_sai, e_gcn_sar, e_gcn_saw, e_ghs_sfi, e_ghs_sfr, e_ghs_sai, e_ghs_sar, e_ghs_saw, e_gsl_sfi, e_gsl_sfr, e_gsl_sai, e_gsl_sar, e_gsl_saw, and_true, show f ≠ 338 by omega, show f ≠ 339 by omega]
                exact hoth f hf
              · simp (disch := first | assumption | omega) only [li, bd_some, bd_none, oc_some, oc_none, lr_, ↓reduceIte, bi_0, bi_0n, bi_1, bi_1n, npp, if_pos, if_neg, not_true_eq_false, not_false_eq_true, Nat.reduceAdd, Nat.reduceMul, e_gfi_sfi, e_gfi_sfr, e_gfi_sai, e_gfi_sar, e_gfi_saw, e_gfr_sfi, e_gfr_sfr, e_gfr_sai, e_gfr_sar, e_gfr_saw, e_gai_sfi, e_gai_sfr, e_gai_sai, e_gai_sar, e_gai_saw, e_gar_sfi, e_gar_sfr, e_gar_sai, e_gar_sar, e_gar_saw, e_gln_sfi, e_gln_sfr, e_gln_sai, e_gln_sar, e_gln_saw, e_gcn_sfi, e_gcn_sfr, e_gcn_sai, e_gcn_sar, e_gcn_saw, e_ghs_sfi, e_ghs_sfr, e_ghs_sai, e_ghs_sar, e_ghs_saw, e_gsl_sfi, e_gsl_sfr, e_gsl_sai, e_gsl_sar, e_gsl_saw, and_true, Nat.reduceEqDiff]
                exact h337
              · simp (disch := first | assumption | omega) only [li, bd_some, bd_none, oc_some, oc_none, lr_, ↓reduceIte, bi_0, bi_0n, bi_1, bi_1n, npp, if_pos, if_neg, not_true_eq_false, not_false_eq_true, Nat.reduceAdd, Nat.reduceMul, e_gfi_sfi, e_gfi_sfr, e_gfi_sai, e_gfi_sar, e_gfi_saw, e_gfr_sfi, e_gfr_sfr, e_gfr_sai, e_gfr_sar, e_gfr_saw, e_gai_sfi, e_gai_sfr, e_gai_sai, e_gai_sar, e_gai_saw, e_gar_sfi, e_gar_sfr, e_gar_sai, e_gar_sar, e_gar_saw, e_gln_sfi, e_gln_sfr, e_gln_sai, e_gln_sar, e_gln_saw, e_gcn_sfi, e_gcn_sfr, e_gcn_sai, e_gcn_sar, e_gcn_saw, e_ghs_sfi, e_ghs_sfr, e_ghs_sai, e_ghs_sar, e_ghs_saw, e_gsl_sfi, e_gsl_sfr, e_gsl_sai, e_gsl_sar, e_gsl_saw, and_true, sBD, eBL, eM, e6, z2]
              · simp (disch := first | assumption | omega) only [li, bd_some, bd_none, oc_some, oc_none, lr_, ↓reduceIte, bi_0, bi_0n, bi_1, bi_1n, npp, if_pos, if_neg, not_true_eq_false, not_false_eq_true, Nat.reduceAdd, Nat.reduceMul, e_gfi_sfi, e_gfi_sfr, e_gfi_sai, e_gfi_sar, e_gfi_saw, e_gfr_sfi, e_gfr_sfr, e_gfr_sai, e_gfr_sar, e_gfr_saw, e_gai_sfi, e_gai_sfr, e_gai_sai, e_gai_sar, e_gai_saw, e_gar_sfi, e_gar_sfr, e_gar_sai, e_gar_sar, e_gar_saw, e_gln_sfi, e_gln_sfr, e_gln_sai, e_gln_sar, e_gln_saw, e_gcn_sfi, e_gcn_sfr, e_gcn_sai, e_gcn_sar, e_gcn_saw, e_ghs_sfi, e_ghs_sfr, e_ghs_sai, e_ghs_sar, e_ghs_saw, e_gsl_sfi, e_gsl_sfr, e_gsl_sai, e_gsl_sar, e_gsl_saw, and_true, Nat.reduceEqDiff, sCO, eBL, eM, z]
            · have z3 : ¬ nI (bdz (sLD a l j x side / 4) M) = -nI 6 := by
                rw [eqI, toIntI (by omega)]
                have : (-nI 6).toInt = -6 := by decide
                omega
              simp (disch := first | assumption | omega) only [li, bd_some, bd_none, oc_some, oc_none, lr_, ↓reduceIte, bi_0, bi_0n, bi_1, bi_1n, npp, if_pos, if_neg, not_true_eq_false, not_false_eq_true, Nat.reduceAdd, Nat.reduceMul, z2, z3, f10_laySide_b178, e_gfi_sfi, e_gfi_sfr, e_gfi_sai, e_gfi_sar, e_gfi_saw, e_gfr_sfi, e_gfr_sfr, e_gfr_sai, e_gfr_sar, e_gfr_saw, e_gai_sfi, e_gai_sfr, e_gai_sai, e_gai_sar, e_gai_saw, e_gar_sfi, e_gar_sfr, e_gar_sai, e_gar_sar, e_gar_saw, e_gln_sfi, e_gln_sfr, e_gln_sai, e_gln_sar, e_gln_saw, e_gcn_sfi, e_gcn_sfr, e_gcn_sai, e_gcn_sar, e_gcn_saw, e_ghs_sfi, e_ghs_sfr, e_ghs_sai, e_ghs_sar, e_ghs_saw, e_gsl_sfi, e_gsl_sfr, e_gsl_sai, e_gsl_sar, e_gsl_saw, and_self]
              refine ⟨_, rfl, SC_tr hsc (SC_tr SC_sfi (SC_tr SC_sfi (SC_tr SC_sfi SC_sfi))), ?_, ?_, ?_, ?_⟩
              · intro f hf
                simp (disch := first | assumption | omega) only [li, bd_some, bd_none, oc_some, oc_none, lr_, ↓reduceIte, bi_0, bi_0n, bi_1, bi_1n, npp, if_pos, if_neg, not_true_eq_false, not_false_eq_true, Nat.reduceAdd, Nat.reduceMul, e_gfi_sfi, e_gfi_sfr, e_gfi_sai, e_gfi_sar, e_gfi_saw, e_gfr_sfi, e_gfr_sfr, e_gfr_sai, e_gfr_sar, e_gfr_saw, e_gai_sfi, e_gai_sfr, e_gai_sai, e_gai_sar, e_gai_saw, e_gar_sfi, e_gar_sfr, e_gar_sai, e_gar_sar, e_gar_saw, e_gln_sfi, e_gln_sfr, e_gln_sai, e_gln_sar, e_gln_saw, e_gcn_sfi, e_gcn_sfr, e_gcn_sai, e_gcn_sar, e_gcn_saw, e_ghs_sfi, e_ghs_sfr, e_ghs_sai, e_ghs_sar, e_ghs_saw, e_gsl_sfi, e_gsl_sfr, e_gsl_sai, e_gsl_sar, e_gsl_saw, and_true, show f ≠ 338 by omega, show f ≠ 339 by omega]
                exact hoth f hf
              · simp (disch := first | assumption | omega) only [li, bd_some, bd_none, oc_some, oc_none, lr_, ↓reduceIte, bi_0, bi_0n, bi_1, bi_1n, npp, if_pos, if_neg, not_true_eq_false, not_false_eq_true, Nat.reduceAdd, Nat.reduceMul, e_gfi_sfi, e_gfi_sfr, e_gfi_sai, e_gfi_sar, e_gfi_saw, e_gfr_sfi, e_gfr_sfr, e_gfr_sai, e_gfr_sar, e_gfr_saw, e_gai_sfi, e_gai_sfr, e_gai_sai, e_gai_sar, e_gai_saw, e_gar_sfi, e_gar_sfr, e_gar_sai, e_gar_sar, e_gar_saw, e_gln_sfi, e_gln_sfr, e_gln_sai, e_gln_sar, e_gln_saw, e_gcn_sfi, e_gcn_sfr, e_gcn_sai, e_gcn_sar, e_gcn_saw, e_ghs_sfi, e_ghs_sfr, e_ghs_sai, e_ghs_sar, e_ghs_saw, e_gsl_sfi, e_gsl_sfr, e_gsl_sai, e_gsl_sar, e_gsl_saw, and_true, Nat.reduceEqDiff]
                exact h337
              · simp (disch := first | assumption | omega) only [li, bd_some, bd_none, oc_some, oc_none, lr_, ↓reduceIte, bi_0, bi_0n, bi_1, bi_1n, npp, if_pos, if_neg, not_true_eq_false, not_false_eq_true, Nat.reduceAdd, Nat.reduceMul, e_gfi_sfi, e_gfi_sfr, e_gfi_sai, e_gfi_sar, e_gfi_saw, e_gfr_sfi, e_gfr_sfr, e_gfr_sai, e_gfr_sar, e_gfr_saw, e_gai_sfi, e_gai_sfr, e_gai_sai, e_gai_sar, e_gai_saw, e_gar_sfi, e_gar_sfr, e_gar_sai, e_gar_sar, e_gar_saw, e_gln_sfi, e_gln_sfr, e_gln_sai, e_gln_sar, e_gln_saw, e_gcn_sfi, e_gcn_sfr, e_gcn_sai, e_gcn_sar, e_gcn_saw, e_ghs_sfi, e_ghs_sfr, e_ghs_sai, e_ghs_sar, e_ghs_saw, e_gsl_sfi, e_gsl_sfr, e_gsl_sai, e_gsl_sar, e_gsl_saw, and_true, sBD, eBL, eM, e6, z2, ne_eq]
              · simp (disch := first | assumption | omega) only [li, bd_some, bd_none, oc_some, oc_none, lr_, ↓reduceIte, bi_0, bi_0n, bi_1, bi_1n, npp, if_pos, if_neg, not_true_eq_false, not_false_eq_true, Nat.reduceAdd, Nat.reduceMul, e_gfi_sfi, e_gfi_sfr, e_gfi_sai, e_gfi_sar, e_gfi_saw, e_gfr_sfi, e_gfr_sfr, e_gfr_sai, e_gfr_sar, e_gfr_saw, e_gai_sfi, e_gai_sfr, e_gai_sai, e_gai_sar, e_gai_saw, e_gar_sfi, e_gar_sfr, e_gar_sai, e_gar_sar, e_gar_saw, e_gln_sfi, e_gln_sfr, e_gln_sai, e_gln_sar, e_gln_saw, e_gcn_sfi, e_gcn_sfr, e_gcn_sai, e_gcn_sar, e_gcn_saw, e_ghs_sfi, e_ghs_sfr, e_ghs_sai, e_ghs_sar, e_ghs_saw, e_gsl_sfi, e_gsl_sfr, e_gsl_sai, e_gsl_sar, e_gsl_saw, and_true, Nat.reduceEqDiff, sCO, eBL, eM, z]
          · have z3 : ¬ nI (bdz (sLD a l j x side) M) = -nI 6 := by
              rw [eqI, toIntI (by omega)]
              have : (-nI 6).toInt = -6 := by decide
              omega
            have e6 : bz (sLD a l j x side) M = bdz (sLD a l j x side) M := by unfold bz; rw [if_pos z]
            simp (disch := first | assumption | omega) only [li, bd_some, bd_none, oc_some, oc_none, lr_, ↓reduceIte, bi_0, bi_0n, bi_1, bi_1n, npp, if_pos, if_neg, not_true_eq_false, not_false_eq_true, Nat.reduceAdd, Nat.reduceMul, z, z3, e_gfi_sfi, e_gfi_sfr, e_gfi_sai, e_gfi_sar, e_gfi_saw, e_gfr_sfi, e_gfr_sfr, e_gfr_sai, e_gfr_sar, e_gfr_saw, e_gai_sfi, e_gai_sfr, e_gai_sai, e_gai_sar, e_gai_saw, e_gar_sfi, e_gar_sfr, e_gar_sai, e_gar_sar, e_gar_saw, e_gln_sfi, e_gln_sfr, e_gln_sai, e_gln_sar, e_gln_saw, e_gcn_sfi, e_gcn_sfr, e_gcn_sai, e_gcn_sar, e_gcn_saw, e_ghs_sfi, e_ghs_sfr, e_ghs_sai, e_ghs_sar, e_ghs_saw, e_gsl_sfi, e_gsl_sfr, e_gsl_sai, e_gsl_sar, e_gsl_saw, and_self]
            refine ⟨_, rfl, SC_tr hsc SC_sfi, ?_, ?_, ?_, ?_⟩
            · intro f hf
              simp (disch := first | assumption | omega) only [li, bd_some, bd_none, oc_some, oc_none, lr_, ↓reduceIte, bi_0, bi_0n, bi_1, bi_1n, npp, if_pos, if_neg, not_true_eq_false, not_false_eq_true, Nat.reduceAdd, Nat.reduceMul, e_gfi_sfi, e_gfi_sfr, e_gfi_sai, e_gfi_sar, e_gfi_saw, e_gfr_sfi, e_gfr_sfr, e_gfr_sai, e_gfr_sar, e_gfr_saw, e_gai_sfi, e_gai_sfr, e_gai_sai, e_gai_sar, e_gai_saw, e_gar_sfi, e_gar_sfr, e_gar_sai, e_gar_sar, e_gar_saw, e_gln_sfi, e_gln_sfr, e_gln_sai, e_gln_sar, e_gln_saw, e_gcn_sfi, e_gcn_sfr, e_gcn_sai, e_gcn_sar, e_gcn_saw, e_ghs_sfi, e_ghs_sfr, e_ghs_sai, e_ghs_sar, e_ghs_saw, e_gsl_sfi, e_gsl_sfr, e_gsl_sai, e_gsl_sar, e_gsl_saw, and_true, show f ≠ 338 by omega]
              exact hoth f hf
            · simp (disch := first | assumption | omega) only [li, bd_some, bd_none, oc_some, oc_none, lr_, ↓reduceIte, bi_0, bi_0n, bi_1, bi_1n, npp, if_pos, if_neg, not_true_eq_false, not_false_eq_true, Nat.reduceAdd, Nat.reduceMul, e_gfi_sfi, e_gfi_sfr, e_gfi_sai, e_gfi_sar, e_gfi_saw, e_gfr_sfi, e_gfr_sfr, e_gfr_sai, e_gfr_sar, e_gfr_saw, e_gai_sfi, e_gai_sfr, e_gai_sai, e_gai_sar, e_gai_saw, e_gar_sfi, e_gar_sfr, e_gar_sai, e_gar_sar, e_gar_saw, e_gln_sfi, e_gln_sfr, e_gln_sai, e_gln_sar, e_gln_saw, e_gcn_sfi, e_gcn_sfr, e_gcn_sai, e_gcn_sar, e_gcn_saw, e_ghs_sfi, e_ghs_sfr, e_ghs_sai, e_ghs_sar, e_ghs_saw, e_gsl_sfi, e_gsl_sfr, e_gsl_sai, e_gsl_sar, e_gsl_saw, and_true, Nat.reduceEqDiff]
              exact h337
            · simp (disch := first | assumption | omega) only [li, bd_some, bd_none, oc_some, oc_none, lr_, ↓reduceIte, bi_0, bi_0n, bi_1, bi_1n, npp, if_pos, if_neg, not_true_eq_false, not_false_eq_true, Nat.reduceAdd, Nat.reduceMul, e_gfi_sfi, e_gfi_sfr, e_gfi_sai, e_gfi_sar, e_gfi_saw, e_gfr_sfi, e_gfr_sfr, e_gfr_sai, e_gfr_sar, e_gfr_saw, e_gai_sfi, e_gai_sfr, e_gai_sai, e_gai_sar, e_gai_saw, e_gar_sfi, e_gar_sfr, e_gar_sai, e_gar_sar, e_gar_saw, e_gln_sfi, e_gln_sfr, e_gln_sai, e_gln_sar, e_gln_saw, e_gcn_sfi, e_gcn_sfr, e_gcn_sai, e_gcn_sar, e_gcn_saw, e_ghs_sfi, e_ghs_sfr, e_ghs_sai, e_ghs_sar, e_ghs_saw, e_gsl_sfi, e_gsl_sfr, e_gsl_sai, e_gsl_sar, e_gsl_saw, and_true, sBD, eBL, eM, e6]
            · simp (disch := first | assumption | omega) only [li, bd_some, bd_none, oc_some, oc_none, lr_, ↓reduceIte, bi_0, bi_0n, bi_1, bi_1n, npp, if_pos, if_neg, not_true_eq_false, not_false_eq_true, Nat.reduceAdd, Nat.reduceMul, e_gfi_sfi, e_gfi_sfr, e_gfi_sai, e_gfi_sar, e_gfi_saw, e_gfr_sfi, e_gfr_sfr, e_gfr_sai, e_gfr_sar, e_gfr_saw, e_gai_sfi, e_gai_sfr, e_gai_sai, e_gai_sar, e_gai_saw, e_gar_sfi, e_gar_sfr, e_gar_sai, e_gar_sar, e_gar_saw, e_gln_sfi, e_gln_sfr, e_gln_sai, e_gln_sar, e_gln_saw, e_gcn_sfi, e_gcn_sfr, e_gcn_sai, e_gcn_sar, e_gcn_saw, e_ghs_sfi, e_ghs_sfr, e_ghs_sai, e_ghs_sar, e_ghs_saw, e_gsl_sfi, e_gsl_sfr, e_gsl_sai, e_gsl_sar, e_gsl_saw, and_true, Nat.reduceEqDiff, sCO, eBL, eM, z, h339]
        · have eBL : sBL a l j x side = 1 := b1
          rw [b1]
          simp (disch := first | assumption | omega) only [li, bd_some, bd_none, oc_some, oc_none, lr_, ↓reduceIte, bi_0, bi_0n, bi_1, bi_1n, npp, if_pos, if_neg, not_true_eq_false, not_false_eq_true, Nat.reduceAdd, Nat.reduceMul, eq_nI]
          rw [hkp] at h337
          refine ⟨g1, rfl, hsc, hoth, h337, ?_, ?_⟩
          · simp (disch := first | assumption | omega) only [li, bd_some, bd_none, oc_some, oc_none, lr_, ↓reduceIte, bi_0, bi_0n, bi_1, bi_1n, npp, if_pos, if_neg, not_true_eq_false, not_false_eq_true, Nat.reduceAdd, Nat.reduceMul, h338, sBD, eBL, eq_nI]
          · simp (disch := first | assumption | omega) only [li, bd_some, bd_none, oc_some, oc_none, lr_, ↓reduceIte, bi_0, bi_0n, bi_1, bi_1n, npp, if_pos, if_neg, not_true_eq_false, not_false_eq_true, Nat.reduceAdd, Nat.reduceMul, h339, sCO, eBL, eq_nI]
      · have e2 := m_pageAt hM1 hj (side := side) (pos := k) (by rw [hg0, hg2]; exact hJ) (by rw [hg0]; exact hx) hs (by rw [hg0]; omega)
        rw [hg0, hg2] at e2
        have hpg := sPG_le (x := x) (side := side) (pos := k) hJ
        have e3 := m_ofJob hM1 hj (w := 6) (by omega)
        rw [hg0, hdd] at e3
        have e4 := m_weightOf hM1 (d := dd) (p := sPG a l j x side k) (by omega) (by omega) (by rw [hg0, ← ed]; exact hD)
        rw [hg0] at e4
        have hwk := hw (sPG a l j x side k)
        rw [ed] at hwk
        have hL := hLb k (by omega)
        have next : ∀ v : Nat, v = (if sPG a l j x side k = 0 then 0 else wgt a (jN a j 6) (sPG a l j x side k) / psz (jN a j 3)) → ∃ g', f10_laySide_b92 (f10_laySide_b21 n) 0 (nI j) (nI x) (nI side) (nI p) (blb (sPG a l j x side) (k + 1)) (nI k) 0 (gfi g1 337 0) (nI v) g1 = some ((), g') ∧ SC g g' ∧ (∀ f, f < 337 ∨ 339 < f → gfi g' f 0 = gfi g f 0) ∧
            gfi g' 337 0 = nI (sLD a l j x side) ∧ gfi g' 338 0 = nI (sBD a l j x side p) ∧ gfi g' 339 0 = sCO a l j x side p := by
          intro v hv
          unfold f10_laySide_b92
          simp (disch := first | assumption | omega) only [li, bd_some, bd_none, oc_some, oc_none, lr_, ↓reduceIte, bi_0, bi_0n, bi_1, bi_1n, npp, if_pos, if_neg, not_true_eq_false, not_false_eq_true, Nat.reduceAdd, Nat.reduceMul, nI_add]
          refine ih (k + 1) _ (SC_tr hsc SC_sfi) ?_ ?_ ?_ ?_ (by omega) (by omega)
          · intro f hf
            simp (disch := first | assumption | omega) only [li, bd_some, bd_none, oc_some, oc_none, lr_, ↓reduceIte, bi_0, bi_0n, bi_1, bi_1n, npp, if_pos, if_neg, not_true_eq_false, not_false_eq_true, Nat.reduceAdd, Nat.reduceMul, e_gfi_sfi, e_gfi_sfr, e_gfi_sai, e_gfi_sar, e_gfi_saw, e_gfr_sfi, e_gfr_sfr, e_gfr_sai, e_gfr_sar, e_gfr_saw, e_gai_sfi, e_gai_sfr, e_gai_sai, e_gai_sar, e_gai_saw, e_gar_sfi, e_gar_sfr, e_gar_sai, e_gar_sar, e_gar_saw, e_gln_sfi, e_gln_sfr, e_gln_sai, e_gln_sar, e_gln_saw, e_gcn_sfi, e_gcn_sfr, e_gcn_sai, e_gcn_sar, e_gcn_saw, e_ghs_sfi, e_ghs_sfr, e_ghs_sai, e_ghs_sar, e_ghs_saw, e_gsl_sfi, e_gsl_sfr, e_gsl_sai, e_gsl_sar, e_gsl_saw, and_true, show f ≠ 337 by omega]
            exact hoth f hf
          · simp (disch := first | assumption | omega) only [li, bd_some, bd_none, oc_some, oc_none, lr_, ↓reduceIte, bi_0, bi_0n, bi_1, bi_1n, npp, if_pos, if_neg, not_true_eq_false, not_false_eq_true, Nat.reduceAdd, Nat.reduceMul, e_gfi_sfi, e_gfi_sfr, e_gfi_sai, e_gfi_sar, e_gfi_saw, e_gfr_sfi, e_gfr_sfr, e_gfr_sai, e_gfr_sar, e_gfr_saw, e_gai_sfi, e_gai_sfr, e_gai_sai, e_gai_sar, e_gai_saw, e_gar_sfi, e_gar_sfr, e_gar_sai, e_gar_sar, e_gar_saw, e_gln_sfi, e_gln_sfr, e_gln_sai, e_gln_sar, e_gln_saw, e_gcn_sfi, e_gcn_sfr, e_gcn_sai, e_gcn_sar, e_gcn_saw, e_ghs_sfi, e_ghs_sfr, e_ghs_sai, e_ghs_sar, e_ghs_saw, e_gsl_sfi, e_gsl_sfr, e_gsl_sai, e_gsl_sar, e_gsl_saw, and_self, h337, nI_add]
            rw [ldp_s, hv]
          · simp (disch := first | assumption | omega) only [li, bd_some, bd_none, oc_some, oc_none, lr_, ↓reduceIte, bi_0, bi_0n, bi_1, bi_1n, npp, if_pos, if_neg, not_true_eq_false, not_false_eq_true, Nat.reduceAdd, Nat.reduceMul, e_gfi_sfi, e_gfi_sfr, e_gfi_sai, e_gfi_sar, e_gfi_saw, e_gfr_sfi, e_gfr_sfr, e_gfr_sai, e_gfr_sar, e_gfr_saw, e_gai_sfi, e_gai_sfr, e_gai_sai, e_gai_sar, e_gai_saw, e_gar_sfi, e_gar_sfr, e_gar_sai, e_gar_sar, e_gar_saw, e_gln_sfi, e_gln_sfr, e_gln_sai, e_gln_sar, e_gln_saw, e_gcn_sfi, e_gcn_sfr, e_gcn_sai, e_gcn_sar, e_gcn_saw, e_ghs_sfi, e_ghs_sfr, e_ghs_sai, e_ghs_sar, e_ghs_saw, e_gsl_sfi, e_gsl_sfr, e_gsl_sai, e_gsl_sar, e_gsl_saw, Nat.reduceEqDiff, and_true]
            exact h338
          · simp (disch := first | assumption | omega) only [li, bd_some, bd_none, oc_some, oc_none, lr_, ↓reduceIte, bi_0, bi_0n, bi_1, bi_1n, npp, if_pos, if_neg, not_true_eq_false, not_false_eq_true, Nat.reduceAdd, Nat.reduceMul, e_gfi_sfi, e_gfi_sfr, e_gfi_sai, e_gfi_sar, e_gfi_saw, e_gfr_sfi, e_gfr_sfr, e_gfr_sai, e_gfr_sar, e_gfr_saw, e_gai_sfi, e_gai_sfr, e_gai_sai, e_gai_sar, e_gai_saw, e_gar_sfi, e_gar_sfr, e_gar_sai, e_gar_sar, e_gar_saw, e_gln_sfi, e_gln_sfr, e_gln_sai, e_gln_sar, e_gln_saw, e_gcn_sfi, e_gcn_sfr, e_gcn_sai, e_gcn_sar, e_gcn_saw, e_ghs_sfi, e_ghs_sfr, e_ghs_sai, e_ghs_sar, e_ghs_saw, e_gsl_sfi, e_gsl_sfr, e_gsl_sai, e_gsl_sar, e_gsl_saw, Nat.reduceEqDiff, and_true]
            exact h339
        have hbs : blb (sPG a l j x side) (k + 1) = if blb (sPG a l j x side) k = 0 then 0 else if sPG a l j x side k = 0 then 1 else 0 := rfl
        have nle : ¬ psz (jN a j 3) ≤ k := by omega
        unfold f10_laySide_b56 f10_laySide_b57
        simp (disch := first | assumption | omega) only [li, bd_some, bd_none, oc_some, oc_none, lr_, ↓reduceIte, bi_0, bi_0n, bi_1, bi_1n, npp, if_pos, if_neg, not_true_eq_false, not_false_eq_true, Nat.reduceAdd, Nat.reduceMul, le_nI, nle, e2, eq_nI]
        by_cases z : sPG a l j x side k = 0
        · have n0 := next 0 (by rw [if_pos z])
          rcases blb_iff (sPG a l j x side) k with ⟨b1, b2⟩ | ⟨b1, b2⟩
          · rw [hbs, b1, if_pos rfl] at n0
            simp (disch := first | assumption | omega) only [li, bd_some, bd_none, oc_some, oc_none, lr_, ↓reduceIte, bi_0, bi_0n, bi_1, bi_1n, npp, if_pos, if_neg, not_true_eq_false, not_false_eq_true, Nat.reduceAdd, Nat.reduceMul, z, b1]
            exact n0
          · rw [hbs, b1, if_neg (by decide), if_pos z] at n0
            simp (disch := first | assumption | omega) only [li, bd_some, bd_none, oc_some, oc_none, lr_, ↓reduceIte, bi_0, bi_0n, bi_1, bi_1n, npp, if_pos, if_neg, not_true_eq_false, not_false_eq_true, Nat.reduceAdd, Nat.reduceMul, z, b1, eq_nI]
            exact n0
        · have n0 := next _ (by rw [if_neg z])
          rw [ed] at n0
          have hb0 : (if blb (sPG a l j x side) k = 0 then (0 : Int32) else if sPG a l j x side k = 0 then 1 else 0) = 0 := by
            rw [if_neg z]; split <;> rfl
          rw [hbs, hb0] at n0
          simp (disch := first | assumption | omega) only [li, bd_some, bd_none, oc_some, oc_none, lr_, ↓reduceIte, bi_0, bi_0n, bi_1, bi_1n, npp, if_pos, if_neg, not_true_eq_false, not_false_eq_true, Nat.reduceAdd, Nat.reduceMul, z, e3, e4, e1, eq_nI, div_nI]
          have hz : (if blb (sPG a l j x side) k = nI 0 then f10_laySide_b92 (f10_laySide_b21 n) 0 (nI j) (nI x) (nI side) (nI p) (nI 0) (nI k) 0 (gfi g1 337 0) (nI (wgt a dd (sPG a l j x side k) / psz (jN a j 3))) g1 else f10_laySide_b92 (f10_laySide_b21 n) 0 (nI j) (nI x) (nI side) (nI p) (nI 0) (nI k) 0 (gfi g1 337 0) (nI (wgt a dd (sPG a l j x side k) / psz (jN a j 3))) g1) = f10_laySide_b92 (f10_laySide_b21 n) 0 (nI j) (nI x) (nI side) (nI p) (nI 0) (nI k) 0 (gfi g1 337 0) (nI (wgt a dd (sPG a l j x side k) / psz (jN a j 3))) g1 := by split <;> rfl
          first | (rw [hz]; exact n0) | exact n0
  unfold f10_laySide
  simp (disch := first | assumption | omega) only [li, bd_some, bd_none, oc_some, oc_none, lr_, ↓reduceIte, bi_0, bi_0n, bi_1, bi_1n, npp, if_pos, if_neg, not_true_eq_false, not_false_eq_true, Nat.reduceAdd, Nat.reduceMul]
  refine key FU_ 0 _ (SC_tr SC_sfi (SC_tr SC_sfi SC_sfi)) ?_ ?_ ?_ ?_ (by omega) (by unfold FU_; omega)
  · intro f hf
    simp (disch := first | assumption | omega) only [li, bd_some, bd_none, oc_some, oc_none, lr_, ↓reduceIte, bi_0, bi_0n, bi_1, bi_1n, npp, if_pos, if_neg, not_true_eq_false, not_false_eq_true, Nat.reduceAdd, Nat.reduceMul, e_gfi_sfi, e_gfi_sfr, e_gfi_sai, e_gfi_sar, e_gfi_saw, e_gfr_sfi, e_gfr_sfr, e_gfr_sai, e_gfr_sar, e_gfr_saw, e_gai_sfi, e_gai_sfr, e_gai_sai, e_gai_sar, e_gai_saw, e_gar_sfi, e_gar_sfr, e_gar_sai, e_gar_sar, e_gar_saw, e_gln_sfi, e_gln_sfr, e_gln_sai, e_gln_sar, e_gln_saw, e_gcn_sfi, e_gcn_sfr, e_gcn_sai, e_gcn_sar, e_gcn_saw, e_ghs_sfi, e_ghs_sfr, e_ghs_sai, e_ghs_sar, e_ghs_saw, e_gsl_sfi, e_gsl_sfr, e_gsl_sai, e_gsl_sar, e_gsl_saw, and_true, show f ≠ 337 by omega, show f ≠ 338 by omega, show f ≠ 339 by omega]
  · simp (disch := first | assumption | omega) only [li, bd_some, bd_none, oc_some, oc_none, lr_, ↓reduceIte, bi_0, bi_0n, bi_1, bi_1n, npp, if_pos, if_neg, not_true_eq_false, not_false_eq_true, Nat.reduceAdd, Nat.reduceMul, e_gfi_sfi, e_gfi_sfr, e_gfi_sai, e_gfi_sar, e_gfi_saw, e_gfr_sfi, e_gfr_sfr, e_gfr_sai, e_gfr_sar, e_gfr_saw, e_gai_sfi, e_gai_sfr, e_gai_sai, e_gai_sar, e_gai_saw, e_gar_sfi, e_gar_sfr, e_gar_sai, e_gar_sar, e_gar_saw, e_gln_sfi, e_gln_sfr, e_gln_sai, e_gln_sar, e_gln_saw, e_gcn_sfi, e_gcn_sfr, e_gcn_sai, e_gcn_sar, e_gcn_saw, e_ghs_sfi, e_ghs_sfr, e_ghs_sai, e_ghs_sar, e_ghs_saw, e_gsl_sfi, e_gsl_sfr, e_gsl_sai, e_gsl_sar, e_gsl_saw, Nat.reduceEqDiff, and_true]
    rfl
  · simp (disch := first | assumption | omega) only [li, bd_some, bd_none, oc_some, oc_none, lr_, ↓reduceIte, bi_0, bi_0n, bi_1, bi_1n, npp, if_pos, if_neg, not_true_eq_false, not_false_eq_true, Nat.reduceAdd, Nat.reduceMul, e_gfi_sfi, e_gfi_sfr, e_gfi_sai, e_gfi_sar, e_gfi_saw, e_gfr_sfi, e_gfr_sfr, e_gfr_sai, e_gfr_sar, e_gfr_saw, e_gai_sfi, e_gai_sfr, e_gai_sai, e_gai_sar, e_gai_saw, e_gar_sfi, e_gar_sfr, e_gar_sai, e_gar_sar, e_gar_saw, e_gln_sfi, e_gln_sfr, e_gln_sai, e_gln_sar, e_gln_saw, e_gcn_sfi, e_gcn_sfr, e_gcn_sai, e_gcn_sar, e_gcn_saw, e_ghs_sfi, e_ghs_sfr, e_ghs_sai, e_ghs_sar, e_ghs_saw, e_gsl_sfi, e_gsl_sfr, e_gsl_sai, e_gsl_sar, e_gsl_saw, Nat.reduceEqDiff, and_true]
  · simp (disch := first | assumption | omega) only [li, bd_some, bd_none, oc_some, oc_none, lr_, ↓reduceIte, bi_0, bi_0n, bi_1, bi_1n, npp, if_pos, if_neg, not_true_eq_false, not_false_eq_true, Nat.reduceAdd, Nat.reduceMul, e_gfi_sfi, e_gfi_sfr, e_gfi_sai, e_gfi_sar, e_gfi_saw, e_gfr_sfi, e_gfr_sfr, e_gfr_sai, e_gfr_sar, e_gfr_saw, e_gai_sfi, e_gai_sfr, e_gai_sai, e_gai_sar, e_gai_saw, e_gar_sfi, e_gar_sfr, e_gar_sai, e_gar_sar, e_gar_saw, e_gln_sfi, e_gln_sfr, e_gln_sai, e_gln_sar, e_gln_saw, e_gcn_sfi, e_gcn_sfr, e_gcn_sai, e_gcn_sar, e_gcn_saw, e_ghs_sfi, e_ghs_sfr, e_ghs_sai, e_ghs_sar, e_ghs_saw, e_gsl_sfi, e_gsl_sfr, e_gsl_sai, e_gsl_sar, e_gsl_saw, Nat.reduceEqDiff, and_true]
