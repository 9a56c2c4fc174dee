/-! the class makes a plan and a job -/
def MP (g g' : GS_) (Q m : Nat) : Prop :=
  (∀ f i, ¬ (f / 32 = 4 ∧ i = Q) → ¬ (f = 193 ∧ i = 0) → gfi g' f i = gfi g f i) ∧ (∀ f i, ¬ (f / 32 = 4 ∧ i = Q) → gfr g' f i = gfr g f i) ∧ (∀ t i, (t = 20 → i < gcn g 20) → gai g' t i = gai g t i ∧ gln g' t i = gln g t i) ∧
  (∀ t i, t ≠ 20 → gar g' t i = gar g t i) ∧ (∀ t, gcn g' t = if t = 4 then gcn g 4 + 1 else if t = 20 then gcn g 20 + 2 else gcn g t) ∧ gfi g' 193 0 = nI 0 ∧ ghs g' = ghs g + 3 ∧ gsl g' ≤ gsl g + 13 + 400 + 800
theorem x_make {g : GS_} {a b l l' : Nat → Int32} {F : List Nat} {N d D cop col sid lay usr pri : Nat} {X : List Nat} (hX : XS g) (hS : SpO g 0 a l F) (hO : OV g X) (hN : N < 24) (hJb : NewJob a b l l' N d cop col sid lay usr pri X) (hB : JBd a d cop col sid lay usr pri X)
    (w0 : a 8 = nI cop) (w1 : a 9 = nI col) (w2 : (a (26 + 5 * d + 1) = nI 2 ∧ sid = 0) ∨ (a (26 + 5 * d + 1) ≠ nI 2 ∧ a 10 = nI sid)) (w3 : a 11 = nI lay) (w5 : a 13 = nI usr) (hD : gar g 22 0 d = some D) :
    ∃ g', f9_submit_b66 0 (nI d) (some D) (nI 0) g = bd_ (f8_keepJob 0 (some (gcn g 4)) g') (fun z19 g18 => some (z19, g18)) ∧ MP g g' (gcn g 4) 0 ∧ PlV g' (gcn g 4) b l' N := by
  have h0 := hS.2.2.1
  have h3 := Iv0_d h0
  obtain ⟨t4, j0, j1, j2, j3, j6, j7, js, jh, jm⟩ := NJ_n hJb hB hN h3
  have hJob := NJ_job hJb hB hN h0
  obtain ⟨⟨k4, k7⟩, ⟨n0, n1, n2, n3, n4, n5, n6, n7⟩, ⟨n8, n9, n10, n11, n12⟩, ek, ex, el⟩ := id hJb
  obtain ⟨⟨c1, c2⟩, c3, c4, ⟨c5, c5'⟩, c6, c7, c8, ⟨c9, c10⟩, c11⟩ := id hB
  obtain ⟨⟨r288, -, -, -, -, -, r291, r96, l18, -, -, -, -, -, -, -, -, -, hc20, -⟩, hXs, -⟩ := id hX
  obtain ⟨s1, s2, s3, s4, s5, s6, s7, s8, s9, s10, s11, -⟩ := hXs 0 (by omega)
  obtain ⟨q1, q2, q3⟩ := XT0_parts hS.2.2.2.1
  obtain ⟨D', u1, u2, u3⟩ := hS.2.2.2.1.2.2.2.1 d c8
  have hDD : D' = D := Option.some.inj (u1.symm.trans hD)
  subst hDD
  unfold OV at hO
  rw [if_pos c10] at hO
  obtain ⟨o1, o2, o3⟩ := hO
  have hok : DocOk b (jN b N 6) := by
    rw [j6]
    have q := h0.2.2.2.2.1 d c8
    have e : ∀ w, w < 5 → b (26 + 5 * d + w) = a (26 + 5 * d + w) := fun w hw => ek _ (by omega) (by omega) (by omega)
    unfold DocOk dN at q ⊢
    simp (disch := first | assumption | omega) only [e]
    exact q
  -- the new plan's place, the list's array
  have hb0 : bb 0 = 0 := rfl
  let g2 := nwa (nwo (sfi g 193 0 (nI 0)) 4 13) 20 X.length
  have g2i : ∀ f i, ¬ (f / 32 = 4 ∧ i = gcn g 4) → ¬ (f = 193 ∧ i = 0) → gfi g2 f i = gfi g f i := fun f i p1 p2 => by
    show (if f / 32 = 4 ∧ i = gcn g 4 then (0 : Int32) else gfi (sfi g 193 0 (nI 0)) f i) = _
    rw [if_neg p1, e_gfi_sfi, if_neg p2]
  have g2r : ∀ f i, ¬ (f / 32 = 4 ∧ i = gcn g 4) → gfr g2 f i = gfr g f i := fun f i p1 => by
    show (if f / 32 = 4 ∧ i = gcn g 4 then (none : Option Nat) else gfr g f i) = _
    rw [if_neg p1]
  have g2193 : gfi g2 193 0 = nI 0 := by
    show gfi (nwo (sfi g 193 0 (nI 0)) 4 13) 193 0 = _
    rw [e_gfi_nwo, if_neg (by omega), e_gfi_sfi, if_pos ⟨rfl, rfl⟩]
  have g2a : ∀ t i, ¬ (t = 20 ∧ i = gcn g 20) → gai g2 t i = gai g t i := fun t i p => by
    show (if t = 20 ∧ i = gcn g 20 then (fun _ => (0 : Int32)) else gai g t i) = _
    rw [if_neg p]
  have g2l : ∀ t i, ¬ (t = 20 ∧ i = gcn g 20) → gln g2 t i = gln g t i := fun t i p => by
    show (if t = 20 ∧ i = gcn g 20 then X.length else gln g t i) = _
    rw [if_neg p]
  have g2lA : gln g2 20 (gcn g 20) = X.length := by
    show gln (nwa (nwo (sfi g 193 0 (nI 0)) 4 13) 20 X.length) 20 (gcn g 20) = _
    rw [e_gln_nwa, if_pos ⟨rfl, rfl⟩]
  have g2g : ∀ t i, t ≠ 20 → gar g2 t i = gar g t i := fun t i p => by
    show gar (nwa (nwo (sfi g 193 0 (nI 0)) 4 13) 20 X.length) t i = _
    rw [e_gar_nwa, if_neg (fun w => p w.1)]
    rfl
  have g2c : ∀ t, gcn g2 t = if t = 4 then gcn g 4 + 1 else if t = 20 then gcn g 20 + 1 else gcn g t := fun t => by
    show gcn (nwa (nwo (sfi g 193 0 (nI 0)) 4 13) 20 X.length) t = _
    rw [e_gcn_nwa, e_gcn_nwo, e_gcn_nwo]
    by_cases z : t = 20
    · subst z
      rw [if_pos rfl, if_neg (by omega), if_neg (by omega), if_pos rfl]
      rfl
    · rw [if_neg z, if_neg z]
      rfl
  have g2h : ghs g2 = ghs g + 2 ∧ gsl g2 = gsl g + 13 + X.length := ⟨rfl, rfl⟩
  have n97 : gfi g 97 0 = nI X.length := o2
  have eq2 : f9_submit_b66 0 (nI d) (some D') (nI 0) g = bd_ (f3_copyOfPages_b13 FU_ 0 (gcn g 20) (nI 0) g2) fun x14 g13 => lr_ (gfr g13 288 0) fun x15 => bd_ (f4_init (gcn g 4) (some D') (nI d) x14 x15 g13) fun _ g16 => bd_ (f8_keepJob 0 (some (gcn g 4)) g16) fun z19 g18 => some (z19, g18) := by
    have r1 : gfr (sfi g 193 0 (nI 0)) 288 0 = some 0 := r288
    have r2 : gfr (nwo (sfi g 193 0 (nI 0)) 4 13) 291 0 = some 0 := by
      rw [e_gfr_nwo, if_neg (by omega)]
      exact r291
    have r3 : gfi (nwo (sfi g 193 0 (nI 0)) 4 13) 97 0 = nI X.length := by
      rw [e_gfi_nwo, if_neg (by omega), e_gfi_sfi, if_neg (by omega)]
      exact n97
    have jm0 : jmax (0 : Int32) (nI X.length) = nI X.length := jmax0 (by omega)
    rw [f9_submit_b66, r291, lr_at, oc_some, n97, if_neg (show ¬ nI X.length = (0 : Int32) from fun q => by have := (eq_nI (b := 0) (by omega) (by omega)).mp q; omega), if_pos (show nI 0 = (0 : Int32) from rfl), r288, lr_at, oc_some, s7, lr_at, oc_some, lr_at]
    rw [show gfr (sfi g 193 0 (0 : Int32)) 288 0 = some 0 from r1, lr_at, no_]
    rw [show gfr (nwo (sfi g 193 0 (0 : Int32)) 4 13) 291 0 = some 0 from r2, lr_at, oc_some, f3_copyOfPages]
    rw [show gfi (nwo (sfi g 193 0 (0 : Int32)) 4 13) 97 0 = nI X.length from r3, jm0, na_ok (by omega)]
    rfl
  -- the pages
  have hA41 : 41 ≤ gcn g 20 := hc20
  obtain ⟨g3, y1, y2, y3, y4, y5, y6, y7, y8, y9, y10, y11⟩ := x_copyPages (A := gcn g 20) (X := X) c10 (by omega) FU_ 0 g2 (by omega) (by unfold FU_; omega) (by rw [g2r _ _ (by omega)]; exact r96) (by rw [g2l _ _ (by omega)]; exact l18) ⟨by rw [g2i _ _ (by omega) (by omega)]; exact o2, fun i x hi => by rw [g2a _ _ (by omega)]; exact o3 i x hi⟩ g2lA
  clear_value g2
  -- the fields
  have d1 : gfi g3 1 D' = a (26 + 5 * d + 1) := by
    rw [y2, g2i _ _ (by omega) (by omega)]
    exact u3 1 (by omega)
  have sA : ∀ u, u < 6 → gai g3 20 (bb 0 + 1) u = a (8 + u) := fun u hu => by
    rw [y9 20 (bb 0 + 1) (by omega), g2a _ _ (by omega)]
    exact (q3 u hu).1
  obtain ⟨g4, z1, z2, z3, z4⟩ := x_planInit (g := g3) (Q := gcn g 4) (D := D') (A := gcn g 20) (d := d) (len := X.length) (cop := cop) (col := col) (sid := sid) (lay := lay) (usr := usr) ⟨by rw [y3, g2r _ _ (by omega)]; exact s10, by rw [y4, g2l _ _ (by omega)]; exact s11⟩ ⟨c9, c10⟩ (by rw [y4]; exact g2lA) ((sA 0 (by omega)).trans w0) ((sA 1 (by omega)).trans w1) ((sA 3 (by omega)).trans w3) ((sA 5 (by omega)).trans w5) ⟨c1, c2⟩ c5 c4 (by
    rw [d1, sA 2 (by omega)]
    exact w2)
  obtain ⟨p128, p129, p130, p131, p132, p133, p134, p135, p136, p137, p138, p139, p140, pB⟩ := z2
  obtain ⟨v1, v2, v3, v4, v5, v6, v7⟩ := z3
  have hc3 : gcn g3 20 = gcn g 20 + 1 := by rw [y6, g2c, if_neg (by omega), if_pos rfl]
  have hc4 : gcn g4 20 - 1 = gcn g 20 + 1 := by rw [v6, if_pos rfl, hc3, Nat.add_sub_cancel]
  rw [hc4] at p140 pB
  have hdocb : ∀ w, w < 5 → b (26 + 5 * d + w) = a (26 + 5 * d + w) := fun w hw => ek _ (by omega) (by omega) (by omega)
  have hP0 : PlV0 g4 (gcn g 4) b l' N := by
    unfold PlV0
    rw [j3, j2, j6, j7, js, n3]
    refine ⟨⟨D', p128, ?_, fun w hw => ?_⟩, ⟨gcn g 20, p130, ?_, fun i hi => ?_⟩, ?_, p137, p138, p139⟩
    · rw [v6, if_neg (by omega), y6, g2c, if_neg (by omega), if_neg (by omega)]
      exact u2
    · rw [v1 _ _ (by omega), y2, g2i _ _ (by omega) (by omega), hdocb w hw]
      exact u3 w hw
    · rw [v5 _ _ (by omega), y4]
      exact g2lA
    · have hx := List.getElem?_eq_getElem hi
      rw [v3 _ _ (by omega), y11 i _ (by omega) hx, ex i _ hx]
    · rw [p136]
      unfold bi
      by_cases z : lay = 0
      · rw [if_pos z, if_pos (by rw [z])]
      · rw [if_neg z, if_neg (fun q => z ((eq_nI (by omega) (by omega)).mp q))]
  have hBne : ∀ A, gfr g4 130 (gcn g 4) = some A → A ≠ gcn g 20 + 1 := fun A q => by
    have : A = gcn g 20 := Option.some.inj (q.symm.trans p130)
    omega
  have hsd := sdz_pos (jN b N 3) (jN b N 2)
  have hsc : sSC b N ≤ 400 := (Jn hJob).2.2.2.2.2.2.2.2.1
  have hMx : sdz (jN b N 3) (jN b N 2) * sSC b N ≤ 800 := by
    have := Nat.mul_le_mul hsd.2 hsc
    omega
  obtain ⟨g5, e1, e2, e3, e4, e5, e6, e7, e8, e9, e10, e11⟩ := x_loadsLoop (B := gcn g 20 + 1) hJob hok FU_ 0 g4 (by omega) (by unfold FU_; omega) hP0 hBne p140 (by rw [js, j3, j2]; exact pB)
  refine ⟨g5, ?_, ?_, ?_⟩
  · have r4 : gfr g3 288 0 = some 0 := by rw [y3, g2r _ _ (by omega)]; exact r288
    rw [eq2, y1, bd_some, r4, lr_at, z1, e1, bd_some]
  · refine ⟨fun f i p1 p2 => ?_, fun f i p1 => ?_, fun t i p => ⟨?_, ?_⟩, fun t i p => ?_, fun t => ?_, ?_, ?_, ?_⟩
    · rw [e2, v1 f i p1, y2, g2i f i p1 p2]
    · rw [e3, v2 f i p1, y3, g2r f i p1]
    · have nA : ¬ (t = 20 ∧ i = gcn g 20) := fun w => by have := p w.1; omega
      have nB : ¬ (t = 20 ∧ i = gcn g 20 + 1) := fun w => by have := p w.1; omega
      rw [e9 t i nB, v3 t i (by rw [hc3]; exact nB), y9 t i nA, g2a t i nA]
    · have nA : ¬ (t = 20 ∧ i = gcn g 20) := fun w => by have := p w.1; omega
      have nB : ¬ (t = 20 ∧ i = gcn g 20 + 1) := fun w => by have := p w.1; omega
      rw [e4, v5 t i (by rw [hc3]; exact nB), y4, g2l t i nA]
    · rw [e5, v4 t i p, y5, g2g t i p]
    · rw [e6, v6]
      by_cases z : t = 20
      · subst z
        rw [if_pos rfl, hc3, if_neg (by omega), if_pos rfl]
      · rw [if_neg z, y6, g2c, if_neg z, if_neg z]
    · rw [e2, v1 193 0 (by omega), y2]
      exact g2193
    · rw [e7, v7, y7, g2h.1]
    · rw [e8, z4, y8, g2h.2]
      rw [j3, j2, js] at hMx
      omega
  · unfold PlV
    obtain ⟨P1, ⟨A, P2, P3, P4⟩, P5, P6, P7, P8⟩ := hP0
    have hA : A = gcn g 20 := Option.some.inj (P2.symm.trans p130)
    subst hA
    rw [e3, e4, e6, e2, n0, n1, n2, n5, n6, p129, p131, p132, p133, p134, p135, n3]
    refine ⟨?_, ?_, rfl, ⟨gcn g 20, P2, by omega, ?_, P3, fun i hi => ?_⟩, rfl, rfl, rfl, rfl, rfl, ?_, P6, P7, P8, gcn g 20 + 1, p140, by omega, ?_, ?_, fun t s ht hs => ?_⟩
    · rw [v6, if_neg (by omega), y6, g2c, if_pos rfl]
      omega
    · obtain ⟨Dd, w1, w2⟩ := P1
      refine ⟨Dd, w1, ?_, fun w hw => ?_⟩
      · rw [e6]
        exact w2.1
      · rw [e2]
        exact w2.2 w hw
    · rw [v6, if_pos rfl, hc3]
      omega
    · rw [e9 _ _ (by omega)]
      exact P4 i hi
    · rw [n3] at P5
      exact P5
    · rw [v6, if_pos rfl, hc3]
      omega
    · rw [js, j3, j2]
      exact pB
    · exact e11 t s ht hs (by omega)
