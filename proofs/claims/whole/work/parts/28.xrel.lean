/-! the class's numbers: shape, what a spool says, frames -/
def bb (S : Nat) : Nat := if S = 0 then 0 else if S = 1 then 9 else if S = 2 then 23 else 32
theorem bb_lt {S : Nat} : bb S ≤ 32 := by unfold bb; split; omega; split; omega; split <;> omega
theorem bb_ne {S S' k k' : Nat} (hS : S < 4) (hS' : S' < 4) (hk : k < 9) (hk' : k' < 9) (h : S' ≠ S) : bb S' + k' ≠ bb S + k := by
  unfold bb
  rcases (show S = 0 ∨ S = 1 ∨ S = 2 ∨ S = 3 by omega) with rfl | rfl | rfl | rfl <;> rcases (show S' = 0 ∨ S' = 1 ∨ S' = 2 ∨ S' = 3 by omega) with rfl | rfl | rfl | rfl <;> simp at h ⊢ <;> omega
theorem ofN (n : Nat) : Int32.ofNat n = nI n := by cases n <;> rfl
/-- the shape of a spool -/
def XSp (g : GS_) (S : Nat) : Prop :=
  gfr g 256 S = some S ∧ gln g 22 S = 10 ∧ gfr g 258 S = some S ∧ gln g 23 S = 24 ∧ gfr g 260 S = some S ∧ gln g 24 S = 3 ∧ gfr g 262 S = some S ∧ gfr g 192 S = some (bb S) ∧ gln g 20 (bb S) = 40 ∧
  gfr g 263 S = some (bb S + 1) ∧ gln g 20 (bb S + 1) = 6 ∧ gfr g 264 S = some (bb S + 2) ∧ gln g 20 (bb S + 2) = 6 ∧ gfr g 265 S = some (bb S + 3) ∧ gln g 20 (bb S + 3) = 6 ∧
  gfr g 266 S = some S ∧ gfr g 64 S = some (bb S + 4) ∧ gln g 20 (bb S + 4) = 400 ∧ gfr g 267 S = some (bb S + 5) ∧ gln g 20 (bb S + 5) = 24 ∧
  ∀ p, p < 3 → gar g 24 S p = some (3 * S + p) ∧ gfr g 163 (3 * S + p) = some (bb S + (6 + p)) ∧ gln g 20 (bb S + (6 + p)) = 3
/-- the shape of all -/
def XS (g : GS_) : Prop :=
  (gfr g 288 0 = some 0 ∧ gfr g 289 0 = some 1 ∧ gfr g 290 0 = some 0 ∧ gar g 25 0 0 = some 2 ∧ gar g 25 0 1 = some 3 ∧ gln g 25 0 = 2 ∧ gfr g 291 0 = some 0 ∧ gfr g 96 0 = some 18 ∧ gln g 20 18 = 400 ∧
    gfr g 292 0 = some 0 ∧ gfr g 224 0 = some 19 ∧ gfr g 225 0 = some 20 ∧ gfr g 226 0 = some 21 ∧ gfr g 227 0 = some 22 ∧ gln g 20 19 = 401 ∧ gln g 20 20 = 401 ∧ gln g 20 21 = 401 ∧ gln g 20 22 = 1600 ∧ 41 ≤ gcn g 20 ∧ gcn g 22 = 4 ∧ gcn g 23 = 4) ∧
  (∀ S, S < 4 → XSp g S) ∧
  ∀ S j J, S < 4 → j < 24 → gar g 23 S j = some J → J < gcn g 1 ∧ gfi g 32 J = nI j ∧ ∀ S' j', S' < 4 → j' < 24 → gar g 23 S' j' = some J → S' = S ∧ j' = j
def DocV (g : GS_) (D : Nat) (a : Nat → Int32) (d : Nat) : Prop := D < gcn g 0 ∧ ∀ w, w < 5 → gfi g w D = a (26 + 5 * d + w)
def cLD (a l : Nat → Int32) (j t side : Nat) : Nat := ldp (sPGc a l j t side) (wgt a (jN a j 6)) (psz (jN a j 3)) (psz (jN a j 3))
def cLV (a l : Nat → Int32) (j t side : Nat) : Int32 := if blb (sPGc a l j t side) (psz (jN a j 3)) = 0 then nI (cLD a l j t side) else -nI 1
/-- a plan is that of a job of the numbers -/
def PlV (g : GS_) (Q : Nat) (a l : Nat → Int32) (j : Nat) : Prop :=
  Q < gcn g 4 ∧ (∃ D, gfr g 128 Q = some D ∧ DocV g D a (jN a j 6)) ∧ gfi g 129 Q = a (106 + 13 * j + 6) ∧
  (∃ A, gfr g 130 Q = some A ∧ 41 ≤ A ∧ A < gcn g 20 ∧ gln g 20 A = jN a j 7 ∧ ∀ i, i < jN a j 7 → gai g 20 A i = l (400 * j + i)) ∧
  gfi g 131 Q = a (106 + 13 * j + 0) ∧ gfi g 132 Q = a (106 + 13 * j + 1) ∧ gfi g 133 Q = a (106 + 13 * j + 2) ∧ gfi g 134 Q = a (106 + 13 * j + 3) ∧ gfi g 135 Q = a (106 + 13 * j + 5) ∧
  gfi g 136 Q = bi (a (106 + 13 * j + 3) = nI 0) ∧ gfi g 137 Q = bi (¬ sdz (jN a j 3) (jN a j 2) = 1) ∧ gfi g 138 Q = nI (psz (jN a j 3)) ∧ gfi g 139 Q = nI (sSC a j) ∧
  ∃ A, gfr g 140 Q = some A ∧ 41 ≤ A ∧ A < gcn g 20 ∧ gln g 20 A = sdz (jN a j 3) (jN a j 2) * sSC a j ∧ ∀ t s, t < sSC a j → s < sdz (jN a j 3) (jN a j 2) → gai g 20 A (sdz (jN a j 3) (jN a j 2) * t + s) = cLV a l j t s
/-- what time leaves alone in a spool -/
def XT0 (g : GS_) (S : Nat) (a l : Nat → Int32) : Prop :=
  (gfi g 257 S = a 3 ∧ gfi g 259 S = a 4 ∧ gfi g 261 S = a 5 ∧ gfi g 269 S = a 1 ∧ gfi g 270 S = a 2 ∧ gfi g 193 S = a 7) ∧ (∀ k, k < 40 → gai g 20 (bb S) k = a (418 + k)) ∧
  (∀ u, u < 6 → gai g 20 (bb S + 1) u = a (8 + u) ∧ gai g 20 (bb S + 2) u = a (14 + u)) ∧
  (∀ d, d < tn (a 3) → ∃ D, gar g 22 S d = some D ∧ DocV g D a d) ∧
  (∀ j, j < tn (a 4) → ∃ J Q, gar g 23 S j = some J ∧ gfr g 33 J = some Q ∧ PlV g Q a l j ∧ gfi g 34 J = a (106 + 13 * j + 4)) ∧
  ∀ p, p < tn (a 5) → gfi g 160 (3 * S + p) = a (76 + 10 * p + 0) ∧ gfi g 161 (3 * S + p) = a (76 + 10 * p + 1) ∧ gfi g 162 (3 * S + p) = a (76 + 10 * p + 2)
def rq (x : Int32) : Int32 := if x = nI 0 then -nI 1 else x
/-- what moves with time in a spool -/
def XD (g : GS_) (S : Nat) (a : Nat → Int32) (F : List Nat) : Prop :=
  (∀ j J, j < tn (a 4) → gar g 23 S j = some J → gfi g 35 J = a (106 + 13 * j + 9) ∧ gfi g 36 J = a (106 + 13 * j + 10) ∧ gfi g 37 J = a (106 + 13 * j + 11) ∧ gfi g 38 J = rq (a (106 + 13 * j + 12))) ∧
  (∀ p, p < tn (a 5) → (∀ z, z < 3 → gai g 20 (bb S + (6 + p)) z = a (76 + 10 * p + (3 + z))) ∧ gfi g 164 (3 * S + p) = a (76 + 10 * p + 6) ∧ (a (76 + 10 * p + 6) = nI 1 → gfi g 165 (3 * S + p) = a (76 + 10 * p + 7) ∧ gfi g 166 (3 * S + p) = a (76 + 10 * p + 8)) ∧ gfi g 167 (3 * S + p) = a (76 + 10 * p + 9)) ∧
  (gfi g 65 S = a 6 ∧ ∀ k, k < 400 → gai g 20 (bb S + 4) k = a (458 + k)) ∧ (∀ u, u < 6 → gai g 20 (bb S + 3) u = a (20 + u)) ∧ gfi g 271 S = a 0 ∧ gfi g 268 S = nI F.length ∧ ∀ i x, F[i]? = some x → gai g 20 (bb S + 5) i = nI x
/-- frames: what a spool owns -/
def oF (g : GS_) (S f i : Nat) : Prop := (34 ≤ f ∧ f < 39 ∧ ∃ j, j < 24 ∧ gar g 23 S j = some i) ∨ (160 ≤ f ∧ f < 168 ∧ 3 * S ≤ i ∧ i < 3 * S + 3) ∨ ((f = 65 ∨ f = 193 ∨ f = 194 ∨ (257 ≤ f ∧ f < 273)) ∧ i = S)
def oT (g : GS_) (S f i : Nat) : Prop := (35 ≤ f ∧ f < 39 ∧ ∃ j, j < 24 ∧ gar g 23 S j = some i) ∨ (164 ≤ f ∧ f < 168 ∧ 3 * S ≤ i ∧ i < 3 * S + 3) ∨ ((f = 65 ∨ f = 268 ∨ f = 271) ∧ i = S)
def NR (g g' : GS_) : Prop := gfr g' = gfr g ∧ gln g' = gln g ∧ gar g' = gar g ∧ gcn g' = gcn g ∧ ghs g' = ghs g ∧ gsl g' = gsl g
def TF (S : Nat) (g g' : GS_) : Prop := NR g g' ∧ (∀ f i, ¬ oF g S f i → gfi g' f i = gfi g f i) ∧ ∀ i, ¬ (bb S ≤ i ∧ i < bb S + 9) → gai g' 20 i = gai g 20 i
def TT (S : Nat) (g g' : GS_) : Prop := NR g g' ∧ (∀ f i, ¬ oT g S f i → gfi g' f i = gfi g f i) ∧ ∀ i, ¬ (bb S + 3 ≤ i ∧ i < bb S + 9) → gai g' 20 i = gai g 20 i
theorem NR_rfl {g : GS_} : NR g g := ⟨rfl, rfl, rfl, rfl, rfl, rfl⟩
theorem NR_tr {a b c : GS_} (h1 : NR a b) (h2 : NR b c) : NR a c := ⟨h2.1.trans h1.1, h2.2.1.trans h1.2.1, h2.2.2.1.trans h1.2.2.1, h2.2.2.2.1.trans h1.2.2.2.1, h2.2.2.2.2.1.trans h1.2.2.2.2.1, h2.2.2.2.2.2.trans h1.2.2.2.2.2⟩
theorem TT_rfl {S : Nat} {g : GS_} : TT S g g := ⟨NR_rfl, fun _ _ _ => rfl, fun _ _ => rfl⟩
theorem TF_rfl {S : Nat} {g : GS_} : TF S g g := ⟨NR_rfl, fun _ _ _ => rfl, fun _ _ => rfl⟩
theorem TT_tr {S : Nat} {a b c : GS_} (h1 : TT S a b) (h2 : TT S b c) : TT S a c :=
  ⟨NR_tr h1.1 h2.1, fun f i h => (h2.2.1 f i (by unfold oT at h ⊢; rw [h1.1.2.2.1]; exact h)).trans (h1.2.1 f i h), fun i h => (h2.2.2 i h).trans (h1.2.2 i h)⟩
theorem TF_tr {S : Nat} {a b c : GS_} (h1 : TF S a b) (h2 : TF S b c) : TF S a c :=
  ⟨NR_tr h1.1 h2.1, fun f i h => (h2.2.1 f i (by unfold oF at h ⊢; rw [h1.1.2.2.1]; exact h)).trans (h1.2.1 f i h), fun i h => (h2.2.2 i h).trans (h1.2.2 i h)⟩
theorem TT_TF {S : Nat} {a b : GS_} (h : TT S a b) : TF S a b := by
  refine ⟨h.1, fun f i q => h.2.1 f i (fun w => q ?_), fun i q => h.2.2 i (by omega)⟩
  rcases w with ⟨w1, w2, w3⟩ | ⟨w1, w2, w3⟩ | ⟨w1, w2⟩
  · exact Or.inl ⟨by omega, w2, w3⟩
  · exact Or.inr (Or.inl ⟨by omega, w2, w3⟩)
  · exact Or.inr (Or.inr ⟨by omega, w2⟩)
theorem XSp_NR {g g' : GS_} {S : Nat} (h : NR g g') (hX : XSp g S) : XSp g' S := by
  obtain ⟨e1, e2, e3, -⟩ := h
  unfold XSp
  rw [e1, e2, e3]
  exact hX
theorem XS_NR {g g' : GS_} (h : NR g g') (h32 : ∀ J, gfi g' 32 J = gfi g 32 J) (hX : XS g) : XS g' := by
  obtain ⟨a1, a2, a3⟩ := hX
  refine ⟨?_, fun S hS => XSp_NR h (a2 S hS), ?_⟩
  · obtain ⟨e1, e2, e3, e4, -⟩ := h
    rw [e1, e2, e3, e4]
    exact a1
  · obtain ⟨e1, e2, e3, e4, -⟩ := h
    rw [e3, e4]
    intro S j J hS hj hJ
    rw [h32]
    exact a3 S j J hS hj hJ
theorem TF_32 {g g' : GS_} {S : Nat} (h : TF S g g') (J : Nat) : gfi g' 32 J = gfi g 32 J := h.2.1 32 J (by unfold oF; omega)
theorem XS_TF {g g' : GS_} {S : Nat} (h : TF S g g') (hX : XS g) : XS g' := XS_NR h.1 (TF_32 h) hX
theorem DocV_TF {g g' : GS_} {S : Nat} (h : TF S g g') {D : Nat} {a : Nat → Int32} {d : Nat} (hD : DocV g D a d) : DocV g' D a d := by
  refine ⟨by rw [h.1.2.2.2.1]; exact hD.1, fun w hw => ?_⟩
  rw [h.2.1 w D (by unfold oF; omega)]
  exact hD.2 w hw
theorem PlV_TF {g g' : GS_} {S : Nat} (h : TF S g g') {Q : Nat} {a l : Nat → Int32} {j : Nat} (hP : PlV g Q a l j) : PlV g' Q a l j := by
  obtain ⟨p1, ⟨D, p2, p3⟩, p4, ⟨A, p5, p6, p7, p8, p9⟩, q1, q2, q3, q4, q5, q6, q7, q8, q9, B, r1, r2, r3, r4, r5⟩ := hP
  have ef : ∀ f, 128 ≤ f → f < 160 → gfi g' f Q = gfi g f Q := fun f h1 h2 => h.2.1 f Q (by unfold oF; omega)
  have ea : ∀ i, 41 ≤ i → gai g' 20 i = gai g 20 i := fun i hi => h.2.2 i (by have := @bb_lt S; omega)
  unfold PlV
  rw [h.1.1, h.1.2.1, h.1.2.2.2.1, ef _ (by omega) (by omega), ef _ (by omega) (by omega), ef _ (by omega) (by omega), ef _ (by omega) (by omega), ef _ (by omega) (by omega), ef _ (by omega) (by omega), ef _ (by omega) (by omega), ef _ (by omega) (by omega), ef _ (by omega) (by omega), ef _ (by omega) (by omega)]
  exact ⟨p1, ⟨D, p2, DocV_TF h p3⟩, p4, ⟨A, p5, p6, p7, p8, fun i hi => by rw [ea A p6]; exact p9 i hi⟩, q1, q2, q3, q4, q5, q6, q7, q8, q9, B, r1, r2, r3, r4, fun t s ht hs => by rw [ea B r2]; exact r5 t s ht hs⟩
theorem XT0_TT {g g' : GS_} {S : Nat} (h : TT S g g') {a l : Nat → Int32} (hX : XT0 g S a l) : XT0 g' S a l := by
  have hF := TT_TF h
  obtain ⟨h1, h2, h3, h4, h5, h6⟩ := hX
  have e8 : ∀ f i, f < 32 ∨ (38 < f ∧ f < 65) ∨ (65 < f ∧ f < 164) ∨ (167 < f ∧ f < 268) ∨ f = 269 ∨ f = 270 ∨ f = 34 → gfi g' f i = gfi g f i := fun f i hf => h.2.1 f i (by unfold oT; omega)
  have ea : ∀ k, k < 3 → gai g' 20 (bb S + k) = gai g 20 (bb S + k) := fun k hk => h.2.2 _ (by omega)
  refine ⟨?_, ?_, ?_, ?_, ?_, ?_⟩
  · rw [e8 _ _ (by omega), e8 _ _ (by omega), e8 _ _ (by omega), e8 _ _ (by omega), e8 _ _ (by omega), e8 _ _ (by omega)]
    exact h1
  · intro k hk
    rw [show gai g' 20 (bb S) = gai g 20 (bb S) from ea 0 (by omega)]
    exact h2 k hk
  · intro u hu
    rw [ea 1 (by omega), ea 2 (by omega)]
    exact h3 u hu
  · intro d hd
    obtain ⟨D, q1, q2⟩ := h4 d hd
    exact ⟨D, by rw [h.1.2.2.1]; exact q1, DocV_TF hF q2⟩
  · intro j hj
    obtain ⟨J, Q, q1, q2, q3, q4⟩ := h5 j hj
    exact ⟨J, Q, by rw [h.1.2.2.1]; exact q1, by rw [h.1.1]; exact q2, PlV_TF hF q3, by rw [e8 _ _ (by omega)]; exact q4⟩
  · intro p hp
    rw [e8 _ _ (by omega), e8 _ _ (by omega), e8 _ _ (by omega)]
    exact h6 p hp
/-- the others stand -/
theorem XT0_oth {g g' : GS_} {S S' : Nat} (h : TF S g g') (hX : XS g) (hS : S < 4) (hS' : S' < 4) (hne : S' ≠ S) {a l : Nat → Int32} (h4 : tn (a 4) ≤ 24) (h5 : tn (a 5) ≤ 3) (hR : XT0 g S' a l) : XT0 g' S' a l := by
  obtain ⟨q1, q2, q3, q4, q5, q6⟩ := hR
  have e8 : ∀ f, 168 ≤ f → gfi g' f S' = gfi g f S' := fun f hf => h.2.1 f S' (by unfold oF; omega)
  have ea : ∀ k, k < 9 → gai g' 20 (bb S' + k) = gai g 20 (bb S' + k) := fun k hk => h.2.2 _ (by
    intro q
    exact bb_ne hS hS' (show bb S' + k - bb S < 9 by omega) hk hne (by omega))
  have ep : ∀ f p, p < 3 → 160 ≤ f → f < 168 → gfi g' f (3 * S' + p) = gfi g f (3 * S' + p) := fun f p hp h1 h2 => h.2.1 f _ (by unfold oF; omega)
  refine ⟨?_, ?_, ?_, ?_, ?_, ?_⟩
  · rw [e8 _ (by omega), e8 _ (by omega), e8 _ (by omega), e8 _ (by omega), e8 _ (by omega), e8 _ (by omega)]
    exact q1
  · intro k hk
    rw [show gai g' 20 (bb S') = gai g 20 (bb S') from ea 0 (by omega)]
    exact q2 k hk
  · intro u hu
    rw [ea 1 (by omega), ea 2 (by omega)]
    exact q3 u hu
  · intro d hd
    obtain ⟨D, r1, r2⟩ := q4 d hd
    exact ⟨D, by rw [h.1.2.2.1]; exact r1, DocV_TF h r2⟩
  · intro j hj
    obtain ⟨J, Q, r1, r2, r3, r4⟩ := q5 j hj
    refine ⟨J, Q, by rw [h.1.2.2.1]; exact r1, by rw [h.1.1]; exact r2, PlV_TF h r3, ?_⟩
    rw [h.2.1 34 J]
    · exact r4
    · unfold oF
      intro w
      rcases w with ⟨-, -, j', hj', e⟩ | w | w
      · have := (hX.2.2 S j' J hS hj' e).2.2 S' j hS' (by omega) r1
        omega
      · omega
      · omega
  · intro p hp
    rw [ep _ _ (by omega) (by omega) (by omega), ep _ _ (by omega) (by omega) (by omega), ep _ _ (by omega) (by omega) (by omega)]
    exact q6 p hp
theorem XD_oth {g g' : GS_} {S S' : Nat} (h : TF S g g') (hX : XS g) (hS : S < 4) (hS' : S' < 4) (hne : S' ≠ S) {a : Nat → Int32} {F : List Nat} (h4 : tn (a 4) ≤ 24) (h5 : tn (a 5) ≤ 3) (hR : XD g S' a F) : XD g' S' a F := by
  obtain ⟨q1, q2, q3, q4, q5, q6, q7⟩ := hR
  have e8 : ∀ f, 168 ≤ f ∨ (38 < f ∧ f < 160) → gfi g' f S' = gfi g f S' := fun f hf => h.2.1 f S' (by unfold oF; omega)
  have ea : ∀ k, k < 9 → gai g' 20 (bb S' + k) = gai g 20 (bb S' + k) := fun k hk => h.2.2 _ (by
    intro q
    exact bb_ne hS hS' (show bb S' + k - bb S < 9 by omega) hk hne (by omega))
  have ep : ∀ f p, p < 3 → 160 ≤ f → f < 168 → gfi g' f (3 * S' + p) = gfi g f (3 * S' + p) := fun f p hp h1 h2 => h.2.1 f _ (by unfold oF; omega)
  refine ⟨?_, ?_, ?_, ?_, ?_, ?_, ?_⟩
  · intro j J hj hJ
    rw [h.1.2.2.1] at hJ
    have ej : ∀ f, 32 < f → f < 39 → gfi g' f J = gfi g f J := by
      intro f h1 h2
      refine h.2.1 f J ?_
      unfold oF
      intro w
      rcases w with ⟨-, -, j', hj', e⟩ | w | w
      · have := (hX.2.2 S j' J hS hj' e).2.2 S' j hS' (by omega) hJ
        omega
      · omega
      · omega
    rw [ej _ (by omega) (by omega), ej _ (by omega) (by omega), ej _ (by omega) (by omega), ej _ (by omega) (by omega)]
    exact q1 j J hj hJ
  · intro p hp
    rw [ep _ _ (by omega) (by omega) (by omega), ep _ _ (by omega) (by omega) (by omega), ep _ _ (by omega) (by omega) (by omega), ep _ _ (by omega) (by omega) (by omega), ea _ (by omega)]
    exact q2 p hp
  · rw [e8 _ (by omega), ea _ (by omega)]
    exact q3
  · rw [ea _ (by omega)]
    exact q4
  · rw [e8 _ (by omega)]
    exact q5
  · rw [e8 _ (by omega)]
    exact q6
  · rw [ea _ (by omega)]
    exact q7
