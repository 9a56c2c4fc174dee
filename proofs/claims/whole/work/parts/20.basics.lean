/-! reading what was written -/
theorem e_gfi_sfi (g : GS_) (f i : Nat) (v : Int32) (f' i' : Nat) : gfi (sfi g f i v) f' i' = if f' = f ∧ i' = i then v else gfi g f' i' := rfl
theorem e_gfr_sfi (g : GS_) (f i : Nat) (v : Int32) : gfr (sfi g f i v) = gfr g := rfl
theorem e_gai_sfi (g : GS_) (f i : Nat) (v : Int32) : gai (sfi g f i v) = gai g := rfl
theorem e_gar_sfi (g : GS_) (f i : Nat) (v : Int32) : gar (sfi g f i v) = gar g := rfl
theorem e_gln_sfi (g : GS_) (f i : Nat) (v : Int32) : gln (sfi g f i v) = gln g := rfl
theorem e_gcn_sfi (g : GS_) (f i : Nat) (v : Int32) : gcn (sfi g f i v) = gcn g := rfl
theorem e_ghs_sfi (g : GS_) (f i : Nat) (v : Int32) : ghs (sfi g f i v) = ghs g := rfl
theorem e_gsl_sfi (g : GS_) (f i : Nat) (v : Int32) : gsl (sfi g f i v) = gsl g := rfl
theorem e_gfi_sfr (g : GS_) (f i : Nat) (v : Option Nat) : gfi (sfr g f i v) = gfi g := rfl
theorem e_gfr_sfr (g : GS_) (f i : Nat) (v : Option Nat) (f' i' : Nat) : gfr (sfr g f i v) f' i' = if f' = f ∧ i' = i then v else gfr g f' i' := rfl
theorem e_gai_sfr (g : GS_) (f i : Nat) (v : Option Nat) : gai (sfr g f i v) = gai g := rfl
theorem e_gar_sfr (g : GS_) (f i : Nat) (v : Option Nat) : gar (sfr g f i v) = gar g := rfl
theorem e_gln_sfr (g : GS_) (f i : Nat) (v : Option Nat) : gln (sfr g f i v) = gln g := rfl
theorem e_gcn_sfr (g : GS_) (f i : Nat) (v : Option Nat) : gcn (sfr g f i v) = gcn g := rfl
theorem e_ghs_sfr (g : GS_) (f i : Nat) (v : Option Nat) : ghs (sfr g f i v) = ghs g := rfl
theorem e_gsl_sfr (g : GS_) (f i : Nat) (v : Option Nat) : gsl (sfr g f i v) = gsl g := rfl
theorem e_gfi_sai (g : GS_) (t i j : Nat) (v : Int32) : gfi (sai g t i j v) = gfi g := rfl
theorem e_gfr_sai (g : GS_) (t i j : Nat) (v : Int32) : gfr (sai g t i j v) = gfr g := rfl
theorem e_gai_sai (g : GS_) (t i j : Nat) (v : Int32) (t' i' j' : Nat) : gai (sai g t i j v) t' i' j' = if t' = t ∧ i' = i ∧ j' = j then v else gai g t' i' j' := rfl
theorem e_gar_sai (g : GS_) (t i j : Nat) (v : Int32) : gar (sai g t i j v) = gar g := rfl
theorem e_gln_sai (g : GS_) (t i j : Nat) (v : Int32) : gln (sai g t i j v) = gln g := rfl
theorem e_gcn_sai (g : GS_) (t i j : Nat) (v : Int32) : gcn (sai g t i j v) = gcn g := rfl
theorem e_ghs_sai (g : GS_) (t i j : Nat) (v : Int32) : ghs (sai g t i j v) = ghs g := rfl
theorem e_gsl_sai (g : GS_) (t i j : Nat) (v : Int32) : gsl (sai g t i j v) = gsl g := rfl
theorem e_gfi_sar (g : GS_) (t i j : Nat) (v : Option Nat) : gfi (sar g t i j v) = gfi g := rfl
theorem e_gfr_sar (g : GS_) (t i j : Nat) (v : Option Nat) : gfr (sar g t i j v) = gfr g := rfl
theorem e_gai_sar (g : GS_) (t i j : Nat) (v : Option Nat) : gai (sar g t i j v) = gai g := rfl
theorem e_gar_sar (g : GS_) (t i j : Nat) (v : Option Nat) (t' i' j' : Nat) : gar (sar g t i j v) t' i' j' = if t' = t ∧ i' = i ∧ j' = j then v else gar g t' i' j' := rfl
theorem e_gln_sar (g : GS_) (t i j : Nat) (v : Option Nat) : gln (sar g t i j v) = gln g := rfl
theorem e_gcn_sar (g : GS_) (t i j : Nat) (v : Option Nat) : gcn (sar g t i j v) = gcn g := rfl
theorem e_ghs_sar (g : GS_) (t i j : Nat) (v : Option Nat) : ghs (sar g t i j v) = ghs g := rfl
theorem e_gsl_sar (g : GS_) (t i j : Nat) (v : Option Nat) : gsl (sar g t i j v) = gsl g := rfl
theorem e_gfi_saw (g : GS_) (t i : Nat) (w : Nat → Int32) : gfi (saw g t i w) = gfi g := rfl
theorem e_gfr_saw (g : GS_) (t i : Nat) (w : Nat → Int32) : gfr (saw g t i w) = gfr g := rfl
theorem e_gai_saw (g : GS_) (t i : Nat) (w : Nat → Int32) (t' i' : Nat) : gai (saw g t i w) t' i' = if t' = t ∧ i' = i then w else gai g t' i' := rfl
theorem e_gar_saw (g : GS_) (t i : Nat) (w : Nat → Int32) : gar (saw g t i w) = gar g := rfl
theorem e_gln_saw (g : GS_) (t i : Nat) (w : Nat → Int32) : gln (saw g t i w) = gln g := rfl
theorem e_gcn_saw (g : GS_) (t i : Nat) (w : Nat → Int32) : gcn (saw g t i w) = gcn g := rfl
theorem e_ghs_saw (g : GS_) (t i : Nat) (w : Nat → Int32) : ghs (saw g t i w) = ghs g := rfl
theorem e_gsl_saw (g : GS_) (t i : Nat) (w : Nat → Int32) : gsl (saw g t i w) = gsl g := rfl
theorem e_gfi_nwo (g : GS_) (t N f i : Nat) : gfi (nwo g t N) f i = if f / 32 = t ∧ i = gcn g t then 0 else gfi g f i := rfl
theorem e_gfr_nwo (g : GS_) (t N f i : Nat) : gfr (nwo g t N) f i = if f / 32 = t ∧ i = gcn g t then none else gfr g f i := rfl
theorem e_gcn_nwo (g : GS_) (t N x : Nat) : gcn (nwo g t N) x = if x = t then gcn g t + 1 else gcn g x := rfl
theorem e_ghs_nwo (g : GS_) (t N : Nat) : ghs (nwo g t N) = ghs g + 1 := rfl
theorem e_gsl_nwo (g : GS_) (t N : Nat) : gsl (nwo g t N) = gsl g + N := rfl
theorem e_gai_nwa (g : GS_) (t n t' i : Nat) : gai (nwa g t n) t' i = if t' = t ∧ i = gcn g t then (fun _ => 0) else gai g t' i := rfl
theorem e_gar_nwa (g : GS_) (t n t' i : Nat) : gar (nwa g t n) t' i = if t' = t ∧ i = gcn g t then (fun _ => none) else gar g t' i := rfl
theorem e_gln_nwa (g : GS_) (t n t' i : Nat) : gln (nwa g t n) t' i = if t' = t ∧ i = gcn g t then n else gln g t' i := rfl
theorem e_gcn_nwa (g : GS_) (t n x : Nat) : gcn (nwa g t n) x = if x = t then gcn g t + 1 else gcn g x := rfl
theorem e_ghs_nwa (g : GS_) (t n : Nat) : ghs (nwa g t n) = ghs g + 1 := rfl
theorem e_gsl_nwa (g : GS_) (t n : Nat) : gsl (nwa g t n) = gsl g + n := rfl
theorem e_gai_nwo (g : GS_) (t N : Nat) : gai (nwo g t N) = gai g := rfl
theorem e_gar_nwo (g : GS_) (t N : Nat) : gar (nwo g t N) = gar g := rfl
theorem e_gln_nwo (g : GS_) (t N : Nat) : gln (nwo g t N) = gln g := rfl
theorem e_gfi_nwa (g : GS_) (t n : Nat) : gfi (nwa g t n) = gfi g := rfl
theorem e_gfr_nwa (g : GS_) (t n : Nat) : gfr (nwa g t n) = gfr g := rfl
/-! numbers -/
def tn (x : Int32) : Nat := x.toInt.toNat
theorem li (n : Nat) : (OfNat.ofNat n : Int32) = nI n := by cases n <;> rfl
theorem tn_nI {n : Nat} (h : n < 2147483648) : tn (nI n) = n := by
  unfold tn
  rw [nI_toInt h]
  rfl
theorem ix_nI {n : Nat} (h : n < 2147483648) : (nI n).toInt.toNat = n := tn_nI h
theorem inb_nI {n N : Nat} (h : n < 2147483648) : inb (nI n) N ↔ n < N := by
  unfold inb
  rw [nI_toInt h]
  omega
theorem lt_nI {a b : Nat} (ha : a < 2147483648) (hb : b < 2147483648) : nI a < nI b ↔ a < b := nI_ltI ha hb
theorem le_nI {a b : Nat} (ha : a < 2147483648) (hb : b < 2147483648) : nI a ≤ nI b ↔ a ≤ b := nI_leI ha hb
theorem eq_nI {a b : Nat} (ha : a < 2147483648) (hb : b < 2147483648) : nI a = nI b ↔ a = b := nI_eq ha hb
theorem nI_mul (a b : Nat) : nI a * nI b = nI (a * b) := by
  unfold nI
  rw [← Int32.ofNat_mul]
theorem nI_sub {a b : Nat} (h : b ≤ a) : nI a - nI b = nI (a - b) := by
  have h1 : nI (a - b) + nI b = nI a := by rw [nI_add]; congr 1; omega
  rw [← h1]
  simp [Int32.add_sub_cancel]
theorem rem_nI {a d : Nat} (ha : a < 2147483648) (h0 : 0 < d) (hd : d < 2147483648) : jrem (nI a) (nI d) = nI (a % d) := pk_rem ha h0 hd
theorem div_nI {a d : Nat} (ha : a < 2147483648) (h0 : 0 < d) (hd : d < 2147483648) : nI a / nI d = nI (a / d) := pk_div ha h0 hd
theorem of_tn {x : Int32} (h : 0 ≤ x.toInt) : x = nI (tn x) := by
  apply Int32.toInt_inj.mp
  have h2 : x.toInt < 2147483648 := by have := Int32.toInt_lt x; omega
  unfold tn
  rw [nI_toInt (by omega)]
  omega
theorem tn_lt {x : Int32} : tn x < 2147483648 := by
  have h2 : x.toInt < 2147483648 := by have := Int32.toInt_lt x; omega
  unfold tn
  omega
/-- x is one of 0 .. n - 1 -/
abbrev vl (x : Int32) (n : Nat) : Prop := 0 ≤ x.toInt ∧ x.toInt < n
theorem vl_nI {x : Int32} {n : Nat} (h : vl x n) : x = nI (tn x) ∧ tn x < n := ⟨of_tn h.1, by unfold tn; have := h.1; have := h.2; omega⟩
theorem vl_of {k n : Nat} (h : k < n) (hn : n ≤ 2147483648) : vl (nI k) n := by
  unfold vl
  rw [nI_toInt (by omega)]
  omega
theorem ltI (x y : Int32) : x < y ↔ x.toInt < y.toInt := Int32.lt_iff_toInt_lt
theorem leI (x y : Int32) : x ≤ y ↔ x.toInt ≤ y.toInt := Int32.le_iff_toInt_le
theorem eqI (x y : Int32) : x = y ↔ x.toInt = y.toInt := Int32.toInt_inj.symm
theorem toIntI {n : Nat} (h : n < 2147483648) : (nI n).toInt = n := nI_toInt h

