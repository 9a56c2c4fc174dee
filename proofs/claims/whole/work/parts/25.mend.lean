/-! what always holds of the reference's numbers, and that time keeps it -/
def Iv0 (a l : Nat → Int32) : Prop := vl (a 3) 11 ∧ vl (a 4) 25 ∧ vl (a 5) 4 ∧ (1 ≤ (a 1).toInt ∧ (a 1).toInt ≤ 1000) ∧ (∀ d, d < tn (a 3) → DocOk a d) ∧ (∀ j, j < tn (a 4) → JobPl a l j) ∧ ∀ p, p < tn (a 5) → PrPl a p
def JobSt (a : Nat → Int32) (j : Nat) : Prop := vl (a (106 + 13 * j + 4)) 10 ∧ vl (a (106 + 13 * j + 9)) 5 ∧ vl (a (106 + 13 * j + 10)) (sSH a j + 1) ∧ (a (106 + 13 * j + 9) ≠ nI 3 → jN a j 10 < sSH a j) ∧ (a (106 + 13 * j + 12) = nI 0 ∨ ((a (106 + 13 * j + 12) = nI 2 ∨ a (106 + 13 * j + 12) = nI 4) ∧ a (106 + 13 * j + 9) = nI 1))
def PrTr (a : Nat → Int32) (p : Nat) : Prop := vl (a (76 + 10 * p + 3)) 501 ∧ vl (a (76 + 10 * p + 4)) 501 ∧ vl (a (76 + 10 * p + 5)) 501 ∧ vl (a (76 + 10 * p + 6)) 3
def PrWk (a : Nat → Int32) (p : Nat) : Prop := a (76 + 10 * p + 6) = nI 1 → vl (a (76 + 10 * p + 7)) (tn (a 4)) ∧ a (106 + 13 * pN a p 7 + 9) = nI 1 ∧ vl (a (76 + 10 * p + 8)) 200 ∧ 1 ≤ pN a p 8
def PrUq (a : Nat → Int32) : Prop := ∀ p q, p < tn (a 5) → q < tn (a 5) → p ≠ q → a (76 + 10 * p + 6) = nI 1 → a (76 + 10 * q + 6) = nI 1 → a (76 + 10 * p + 7) ≠ a (76 + 10 * q + 7)
def Ivd (a : Nat → Int32) : Prop := (∀ j, j < tn (a 4) → JobSt a j) ∧ (∀ p, p < tn (a 5) → PrTr a p ∧ PrWk a p) ∧ PrUq a
theorem Iv0_j {a l : Nat → Int32} (h : Iv0 a l) : tn (a 4) ≤ 24 := by have := (vl_nI h.2.1).2; omega
theorem Iv0_p {a l : Nat → Int32} (h : Iv0 a l) : tn (a 5) ≤ 3 := by have := (vl_nI h.2.2.1).2; omega
theorem Iv0_d {a l : Nat → Int32} (h : Iv0 a l) : tn (a 3) ≤ 10 := by have := (vl_nI h.1).2; omega
theorem Iv0_dj {a l : Nat → Int32} (h : Iv0 a l) {j : Nat} (hj : j < tn (a 4)) : DocOk a (jN a j 6) ∧ jN a j 6 < 10 := by
  have h1 := (vl_nI (h.2.2.2.2.2.1 j hj).2.2.2.2.2.2.2.1).2
  have h2 := Iv0_d h
  exact ⟨h.2.2.2.2.1 _ h1, by unfold jN; omega⟩
theorem Iv0_1 {a l : Nat → Int32} (h : Iv0 a l) : a 1 ≠ 0 := by
  intro e
  have := h.2.2.2.1.1
  rw [e, Int32.toInt_zero] at this
  omega
theorem Iv0_sta {a a' l : Nat → Int32} (hs : sta a a') (h : Iv0 a l) : Iv0 a' l := by
  have h3 := Iv0_d h
  have h4 := Iv0_j h
  have h5 := Iv0_p h
  obtain ⟨i1, i2, i3, i4, i5, i6, i7⟩ := h
  unfold Iv0
  rw [sta_sc hs (k := 3) (by omega), sta_sc hs (k := 4) (by omega), sta_sc hs (k := 5) (by omega), sta_sc hs (k := 1) (by omega)]
  exact ⟨i1, i2, i3, i4, fun d hd => sta_Doc hs (by omega) (i5 d hd), fun j hj => sta_Job hs (by omega) (i6 j hj), fun p hp => sta_Pr hs (by omega) (i7 p hp)⟩
theorem SH_le {a l : Nat → Int32} {j : Nat} (hJ : JobPl a l j) : sSH a j ≤ 4000 := by
  have h1 := scz_le (lay := jN a j 3) (sid := jN a j 2) (m := jN a j 7) (by have := (vl_nI hJ.2.2.2.2.2.2.2.2.1).2; unfold jN; omega)
  have h2 : jN a j 0 ≤ 10 := by have := (vl_nI hJ.1).2; unfold jN; omega
  have h3 := Nat.mul_le_mul h2 h1
  have h4 : sSH a j = jN a j 0 * scz (jN a j 3) (jN a j 2) (jN a j 7) := rfl
  omega
-- a sheet takes time
theorem elz_front {lay sid m t : Nat} (ht : t < scz lay sid m) (hm : 1 ≤ m) : ∃ pos, pos < psz lay ∧ elz lay sid m t 0 pos < m := by
  by_cases h0 : lay = 0
  · subst h0
    refine ⟨1, by decide, ?_⟩
    unfold elz
    rw [if_pos rfl, if_pos rfl, if_neg (by omega)]
    unfold scz at ht
    rw [if_pos rfl] at ht
    omega
  · refine ⟨0, by have := psz_pos lay; omega, ?_⟩
    unfold elz
    rw [if_neg h0]
    unfold scz at ht
    rw [if_neg h0] at ht
    have e1 : psz lay = lay := if_neg h0
    have h2 := sdz_pos lay sid
    have hq : (m + lay - 1) / lay * lay ≤ m + lay - 1 := Nat.div_mul_le_self _ _
    generalize (m + lay - 1) / lay = Q at ht hq
    generalize sdz lay sid = sd at ht h2
    have h3 : (t + 1) * sd ≤ Q + sd - 1 := Nat.le_trans (Nat.mul_le_mul_right sd ht) (Nat.div_mul_le_self _ _)
    have h4 : sd * t + 1 ≤ Q := by
      rw [Nat.add_mul] at h3
      have := Nat.mul_comm t sd
      omega
    rw [e1]
    have h5 := Nat.mul_le_mul_right lay h4
    rw [Nat.add_mul] at h5
    have h6 : lay * (sd * t + 0) = sd * t * lay := by rw [Nat.add_zero, Nat.mul_comm]
    omega
theorem sBL_front {a l : Nat → Int32} {j x : Nat} (hJ : JobPl a l j) (hx : x < sSH a j) : sBL a l j x 0 = 0 := by
  have h7 : 1 ≤ jN a j 7 := hJ.2.2.2.2.2.2.2.2.2.1
  obtain ⟨pos, hp, he⟩ := elz_front (sT_lt hJ hx) h7
  rcases blb_iff (sPG a l j x 0) (psz (jN a j 3)) with ⟨h1, -⟩ | ⟨-, h2⟩
  · exact h1
  · exfalso
    have h3 := h2 pos hp
    unfold sPG sPGc at h3
    have he' : sEL a j (sT a j x) 0 pos < jN a j 7 := he
    rw [if_pos he'] at h3
    have := (hJ.2.2.2.2.2.2.2.2.2.2.2 _ he').2
    omega
theorem sTK_pos {a l : Nat → Int32} {j x p : Nat} (hJ : JobPl a l j) (hx : x < sSH a j) : 1 ≤ sTK a l j x p := by
  have h1 : 1 ≤ sBD a l j x 0 p := by
    unfold sBD
    rw [if_pos (sBL_front hJ hx)]
    exact (bz_le _ _).1
  have mono : ∀ n, 1 ≤ n → 1 ≤ tkp (fun side => sBD a l j x side p) (pN a p 0) n := by
    intro n hn
    induction n with
    | zero => omega
    | succ n ih =>
      rw [tkp_s]
      rcases Nat.eq_zero_or_pos n with rfl | h
      · rw [tkp_0, if_neg (by omega)]
        omega
      · have := ih h
        omega
  exact mono _ (sdz_pos _ _).1
/-- only one job and one printer have moved -/
theorem Ivd_of {a b : Nat → Int32} {j p : Nat} (hs : sta a b) (hnj : tn (a 4) ≤ 24) (hnp : tn (a 5) ≤ 3)
    (hj1 : ∀ i, i < tn (a 4) → i ≠ j → JobSt a i) (hj2 : ∀ i w, i < tn (a 4) → i ≠ j → 9 ≤ w → w < 13 → b (106 + 13 * i + w) = a (106 + 13 * i + w)) (hj3 : j < tn (a 4) → JobSt b j)
    (hp1 : ∀ q, q < tn (a 5) → q ≠ p → PrTr a q ∧ PrWk a q) (hp2 : ∀ q w, q < tn (a 5) → q ≠ p → 3 ≤ w → w < 10 → b (76 + 10 * q + w) = a (76 + 10 * q + w)) (hp3 : PrTr b p ∧ PrWk b p)
    (hu : ∀ q q', q < tn (a 5) → q' < tn (a 5) → q ≠ p → q' ≠ p → q ≠ q' → a (76 + 10 * q + 6) = nI 1 → a (76 + 10 * q' + 6) = nI 1 → a (76 + 10 * q + 7) ≠ a (76 + 10 * q' + 7))
    (hu2 : ∀ q, q < tn (a 5) → q ≠ p → a (76 + 10 * q + 6) = nI 1 → a (76 + 10 * q + 7) ≠ nI j) (hu3 : b (76 + 10 * p + 6) = nI 1 → ∀ q, q < tn (a 5) → q ≠ p → a (76 + 10 * q + 6) = nI 1 → a (76 + 10 * q + 7) ≠ b (76 + 10 * p + 7)) : Ivd b := by
  have e4 : b 4 = a 4 := sta_sc hs (by omega)
  have e5 : b 5 = a 5 := sta_sc hs (by omega)
  refine ⟨?_, ?_, ?_⟩
  · rw [e4]
    intro i hi
    by_cases e : i = j
    · subst e; exact hj3 hi
    · have h1 := hj1 i hi e
      unfold JobSt at h1 ⊢
      unfold jN at h1 ⊢
      rw [sta_SH hs (by omega), sta_j hs (w := 4) (by omega) (by omega), hj2 i 9 hi e (by omega) (by omega), hj2 i 10 hi e (by omega) (by omega), hj2 i 12 hi e (by omega) (by omega)]
      exact h1
  · rw [e5]
    intro q hq
    by_cases e : q = p
    · subst e; exact hp3
    · obtain ⟨t1, t2⟩ := hp1 q hq e
      have s6 := hp2 q 6 hq e (by omega) (by omega)
      have s7 := hp2 q 7 hq e (by omega) (by omega)
      have s8 := hp2 q 8 hq e (by omega) (by omega)
      refine ⟨?_, ?_⟩
      · unfold PrTr at t1 ⊢
        rw [hp2 q 3 hq e (by omega) (by omega), hp2 q 4 hq e (by omega) (by omega), hp2 q 5 hq e (by omega) (by omega), s6]
        exact t1
      · unfold PrWk at t2 ⊢
        have e7 : pN b q 7 = pN a q 7 := by unfold pN; rw [s7]
        have e8 : pN b q 8 = pN a q 8 := by unfold pN; rw [s8]
        rw [s6, s7, s8, e4, e7, e8]
        intro hw
        obtain ⟨u1, u2, u3, u4⟩ := t2 hw
        have h7 := vl_nI u1
        have hne : pN a q 7 ≠ j := by
          intro e9
          refine hu2 q hq e hw ?_
          rw [h7.1]
          congr 1
        refine ⟨u1, ?_, u3, u4⟩
        rw [hj2 (pN a q 7) 9 h7.2 hne (by omega) (by omega)]
        exact u2
  · unfold PrUq
    rw [e5]
    intro q q' hq hq' hne w1 w2
    by_cases e : q = p
    · subst e
      have s6 := hp2 q' 6 hq' (Ne.symm hne) (by omega) (by omega)
      have s7 := hp2 q' 7 hq' (Ne.symm hne) (by omega) (by omega)
      rw [s6] at w2
      rw [s7]
      exact Ne.symm (hu3 w1 q' hq' (Ne.symm hne) w2)
    · have s6 := hp2 q 6 hq e (by omega) (by omega)
      have s7 := hp2 q 7 hq e (by omega) (by omega)
      rw [s6] at w1
      rw [s7]
      by_cases e' : q' = p
      · subst e'
        exact hu3 w2 q hq e w1
      · have s6' := hp2 q' 6 hq' e' (by omega) (by omega)
        have s7' := hp2 q' 7 hq' e' (by omega) (by omega)
        rw [s6'] at w2
        rw [s7']
        exact hu q q' hq hq' e e' hne w1 w2
/-- what holds when a sheet of printer p, of job j, ends -/
def PE (a : Nat → Int32) (j p : Nat) : Prop := j < tn (a 4) ∧ p < tn (a 5) ∧ (∀ i, i < tn (a 4) → JobSt a i) ∧ (∀ q, q < tn (a 5) → q ≠ p → PrTr a q ∧ PrWk a q) ∧ PrTr a p ∧ PrUq a ∧ a (76 + 10 * p + 6) = nI 1 ∧ a (76 + 10 * p + 7) = nI j ∧ a (106 + 13 * j + 9) = nI 1
theorem rec_ne {a : Nat → Int32} {j p k : Nat} (hu : jN a j 5 < 6) (hk : k < 458) (h6 : k ≠ 6) (h20 : k < 20 ∨ 26 ≤ k) (hn : k ≠ 106 + 13 * j + 10) : T_rec a j p k = a k := by
  have hl : 458 ≤ lgk a := by unfold lgk; omega
  unfold T_rec
  simp (disch := first | assumption | omega) only [up_ne]
theorem rec_10 {a : Nat → Int32} {j p : Nat} : T_rec a j p (106 + 13 * j + 10) = a (106 + 13 * j + 10) + nI 1 := by
  unfold T_rec
  rw [up_eq rfl]
theorem trk_eq {a : Nat → Int32} {j p : Nat} (hz : dN a (jN a j 6) 1 < 3) : ∃ z, z < 3 ∧ trk a j p = 76 + 10 * p + (3 + z) := ⟨_, hz, rfl⟩
theorem PrTr_tray {a : Nat → Int32} {p z : Nat} (h : PrTr a p) (hz : z < 3) : vl (a (76 + 10 * p + (3 + z))) 501 := by
  rcases (show z = 0 ∨ z = 1 ∨ z = 2 by omega) with rfl | rfl | rfl
  · exact h.1
  · exact h.2.1
  · exact h.2.2.1
theorem vl_dec {x : Int32} {n : Nat} (h : vl x n) (h0 : x ≠ nI 0) (hn : n < 100000) : vl (x - nI 1) n := by
  obtain ⟨m, rfl, hm⟩ := vl_ex h
  have : m ≠ 0 := fun e => h0 (by rw [e])
  rw [nI_sub (by omega)]
  exact vl_of (by omega) (by omega)
theorem end_Ivd {a l : Nat → Int32} {F : List Nat} {j p : Nat} (h0 : Iv0 a l) (hE : PE a j p) : Ivd (T_end (a, F) l j p).1 := by
  obtain ⟨hj, hp, hJS, hPS, hTr, hUq, h6, h7, h9⟩ := hE
  have hnj := Iv0_j h0
  have hnp := Iv0_p h0
  have hJ := h0.2.2.2.2.2.1 j hj
  have hu : jN a j 5 < 6 := (vl_nI hJ.2.2.2.2.2.2.1).2
  have hDoc := Iv0_dj h0 hj
  have hz : dN a (jN a j 6) 1 < 3 := (vl_nI hDoc.1.2.2.1).2
  have hS := hJS j hj
  have hSH := SH_le hJ
  have hx := vl_nI hS.2.2.1
  have hxl : jN a j 10 < sSH a j := hS.2.2.2.1 (by rw [h9, ne_eq, eq_nI (by omega) (by omega)]; omega)
  generalize hr : T_rec a j p = r
  have s1 : sta a r := by rw [← hr]; exact sta_rec (by omega) hu
  have r10 : r (106 + 13 * j + 10) = nI (jN a j 10 + 1) := by
    rw [← hr, rec_10, hx.1, nI_add]
    rfl
  have rne : ∀ k, k < 458 → k ≠ 6 → (k < 20 ∨ 26 ≤ k) → k ≠ 106 + 13 * j + 10 → r k = a k := fun k g1 g2 g3 g4 => by rw [← hr]; exact rec_ne hu g1 g2 g3 g4
  have r8 : r (106 + 13 * j + 8) = nI (sSH a j) := by rw [rne _ (by omega) (by omega) (by omega) (by omega)]; exact hJ.2.2.2.2.2.2.2.2.2.2.1
  have r12 : r (106 + 13 * j + 12) = a (106 + 13 * j + 12) := rne _ (by omega) (by omega) (by omega) (by omega)
  have r6 : jN r j 6 = jN a j 6 := sta_jN s1 (by omega) (by omega)
  have rz : dN r (jN r j 6) 1 < 3 := by rw [r6, sta_dN s1 hDoc.2 (by omega)]; exact hz
  have s2 : sta r (T_end2 r l F j p).1 := sta_end2 (by omega) (by omega) rz
  have s3 := sta_tr s1 s2
  have huj : ∀ q, q < tn (a 5) → q ≠ p → a (76 + 10 * q + 6) = nI 1 → a (76 + 10 * q + 7) ≠ nI j := fun q hq hne hw => by rw [← h7]; exact hUq q p hq hp hne hw h6
  have hSHr : ∀ b : Nat → Int32, sta r b → sSH b j = sSH a j := fun b hb => sta_SH (sta_tr s1 hb) (by omega)
  show Ivd (T_end2 (T_rec a j p) l F j p).1
  rw [hr]
  have tray : ∀ z, z < 3 → r (76 + 10 * p + (3 + z)) = a (76 + 10 * p + (3 + z)) := fun z hz => rne _ (by omega) (by omega) (by omega) (by omega)
  unfold T_end2 at s2 s3 ⊢
  by_cases c1 : r (106 + 13 * j + 10) = r (106 + 13 * j + 8)
  · rw [if_pos c1] at s2 s3 ⊢
    dsimp only at s2 s3 ⊢
    rw [r10, r8, eq_nI (by omega) (by omega)] at c1
    refine Ivd_of (j := j) (p := p) s3 hnj hnp (fun i hi _ => hJS i hi) ?_ ?_ hPS ?_ ?_ (fun q q' hq hq' _ _ hne => hUq q q' hq hq' hne) huj ?_
    · intro i w hi hne g1 g2
      simp (disch := first | assumption | omega) only [up_ne, rne]
    · intro _
      unfold JobSt
      rw [hSHr _ s2]
      have e10 : jN (up (up (up r (106 + 13 * j + 9) (nI 3)) (106 + 13 * j + 12) (nI 0)) (76 + 10 * p + 6) (nI 0)) j 10 = jN a j 10 + 1 := by
        unfold jN
        simp (disch := first | assumption | omega) only [up_ne]
        rw [r10, tn_nI (by omega)]
        rfl
      rw [e10]
      simp (disch := first | assumption | omega) only [up_ne, up_eq, r10]
      rw [rne _ (by omega) (by omega) (by omega) (by omega)]
      exact ⟨hS.1, vl_of (by omega) (by omega), vl_of (by omega) (by omega), fun q => absurd rfl q, Or.inl trivial⟩
    · intro q w hq hne g1 g2
      simp (disch := first | assumption | omega) only [up_ne, rne]
    · refine ⟨?_, ?_⟩
      · unfold PrTr
        simp (disch := first | assumption | omega) only [up_ne, up_eq, rne]
        exact ⟨hTr.1, hTr.2.1, hTr.2.2.1, vl_of (by omega) (by omega)⟩
      · unfold PrWk
        rw [up_eq rfl, eq_nI (by omega) (by omega)]
        intro q; omega
    · rw [up_eq rfl, eq_nI (by omega) (by omega)]
      intro q; omega
  · rw [if_neg c1] at s2 s3 ⊢
    rw [r10, r8, eq_nI (by omega) (by omega)] at c1
    have stop : ∀ b : Nat → Int32, sta r (up b (76 + 10 * p + 6) (nI 0)) → (∀ k, k ≠ 106 + 13 * j + 9 → k ≠ 106 + 13 * j + 11 → k ≠ 106 + 13 * j + 12 → b k = r k) → vl (b (106 + 13 * j + 9)) 5 → b (106 + 13 * j + 12) = nI 0 → Ivd (up b (76 + 10 * p + 6) (nI 0)) := by
      intro b sb hb b9 b12
      refine Ivd_of (j := j) (p := p) (sta_tr s1 sb) hnj hnp (fun i hi _ => hJS i hi) ?_ ?_ hPS ?_ ?_ (fun q q' hq hq' _ _ hne => hUq q q' hq hq' hne) huj ?_
      · intro i w hi hne g1 g2
        simp (disch := first | assumption | omega) only [up_ne, hb, rne]
      · intro _
        unfold JobSt
        rw [hSHr _ sb]
        have e10 : jN (up b (76 + 10 * p + 6) (nI 0)) j 10 = jN a j 10 + 1 := by
          unfold jN
          rw [up_ne (by omega), hb _ (by omega) (by omega) (by omega), r10, tn_nI (by omega)]
          rfl
        rw [e10, up_ne (by omega), up_ne (by omega), up_ne (by omega), up_ne (by omega), hb (106 + 13 * j + 10) (by omega) (by omega) (by omega), hb (106 + 13 * j + 4) (by omega) (by omega) (by omega), r10, rne _ (by omega) (by omega) (by omega) (by omega)]
        exact ⟨hS.1, b9, vl_of (by omega) (by omega), fun _ => by omega, Or.inl b12⟩
      · intro q w hq hne g1 g2
        simp (disch := first | assumption | omega) only [up_ne, hb, rne]
      · refine ⟨?_, ?_⟩
        · unfold PrTr
          simp (disch := first | assumption | omega) only [up_ne, up_eq, hb, rne]
          exact ⟨hTr.1, hTr.2.1, hTr.2.2.1, vl_of (by omega) (by omega)⟩
        · unfold PrWk
          rw [up_eq rfl, eq_nI (by omega) (by omega)]
          intro q; omega
      · rw [up_eq rfl, eq_nI (by omega) (by omega)]
        intro q; omega
    by_cases c2 : r (106 + 13 * j + 12) = nI 0
    · rw [if_pos c2] at s2 s3 ⊢
      have wait : sta r (up (T_wait r j) (76 + 10 * p + 6) (nI 0)) → Ivd (up (T_wait r j) (76 + 10 * p + 6) (nI 0)) := by
        intro sb
        refine stop _ sb ?_ ?_ ?_
        · intro k k1 k2 k3
          unfold T_wait
          rw [up_ne k2, up_ne k1]
        · unfold T_wait
          rw [up_ne (by omega), up_eq rfl]
          exact vl_of (by omega) (by omega)
        · unfold T_wait
          rw [up_ne (by omega), up_ne (by omega)]
          exact c2
      by_cases c3 : r (trk r j p) = nI 0 ∨ r (14 + jN r j 5) ≤ r (20 + jN r j 5)
      · rw [if_pos c3] at s2 s3 ⊢
        exact wait s2
      · rw [if_neg c3] at s2 s3 ⊢
        by_cases c4 : (sBF r p).isSome ∧ ¬ rk r ((sBF r p).getD 0) ≤ nI 10 * r (106 + 13 * j + 4) + r 2
        · rw [if_pos c4] at s2 s3 ⊢
          exact wait s2
        · rw [if_neg c4] at s2 s3 ⊢
          obtain ⟨z, hzl, ez⟩ := trk_eq (p := p) rz
          have htr := PrTr_tray hTr hzl
          have hP := h0.2.2.2.2.2.2 p hp
          have hJr := sta_Job s1 (show j < 24 by omega) hJ
          have hxr : jN r j 10 = jN a j 10 + 1 := by
            unfold jN; rw [r10, tn_nI (by omega)]; rfl
          have hxs : jN r j 10 < sSH r j := by rw [hxr, hSHr r sta_rfl]; omega
          have ht1 := sTK_pos (p := p) hJr hxs
          have ht2 := sTK_le (l := l) (j := j) (x := jN r j 10) (sta_Pr s1 (show p < 3 by omega) hP)
          have hne0 : r (76 + 10 * p + (3 + z)) ≠ nI 0 := by rw [← ez]; exact fun q => c3 (Or.inl q)
          unfold T_begin at s2 s3 ⊢
          rw [ez] at s2 s3 ⊢
          rw [tray z hzl] at hne0 s2 s3 ⊢
          have hv := vl_dec htr hne0 (by omega)
          generalize a (76 + 10 * p + (3 + z)) - nI 1 = v at *
          generalize sTK r l j (jN r j 10) p = T at *
          refine Ivd_of (j := j) (p := p) s3 hnj hnp (fun i hi _ => hJS i hi) ?_ ?_ hPS ?_ ?_ (fun q q' hq hq' _ _ hne => hUq q q' hq hq' hne) huj ?_
          · intro i w hi hne g1 g2
            simp (disch := first | assumption | omega) only [up_ne, rne]
          · intro _
            unfold JobSt
            rw [hSHr _ s2]
            have e10 : jN (up (up r (76 + 10 * p + (3 + z)) v) (76 + 10 * p + 8) (nI T)) j 10 = jN a j 10 + 1 := by
              unfold jN
              simp (disch := first | assumption | omega) only [up_ne]
              rw [r10, tn_nI (by omega)]
              rfl
            rw [e10]
            simp (disch := first | assumption | omega) only [up_ne, r10]
            rw [rne _ (by omega) (by omega) (by omega) (by omega), rne (106 + 13 * j + 9) (by omega) (by omega) (by omega) (by omega)]
            exact ⟨hS.1, hS.2.1, vl_of (by omega) (by omega), fun _ => by omega, Or.inl c2⟩
          · intro q w hq hne g1 g2
            simp (disch := first | assumption | omega) only [up_ne, rne]
          · refine ⟨?_, ?_⟩
            · unfold PrTr
              rcases (show z = 0 ∨ z = 1 ∨ z = 2 by omega) with rfl | rfl | rfl
              · simp (disch := first | assumption | omega) only [up_ne, up_eq, rne]
                exact ⟨hv, hTr.2.1, hTr.2.2.1, hTr.2.2.2⟩
              · simp (disch := first | assumption | omega) only [up_ne, up_eq, rne]
                exact ⟨hTr.1, hv, hTr.2.2.1, hTr.2.2.2⟩
              · simp (disch := first | assumption | omega) only [up_ne, up_eq, rne]
                exact ⟨hTr.1, hTr.2.1, hv, hTr.2.2.2⟩
            · unfold PrWk
              intro _
              have e7 : pN (up (up r (76 + 10 * p + (3 + z)) v) (76 + 10 * p + 8) (nI T)) p 7 = j := by
                unfold pN
                simp (disch := first | assumption | omega) only [up_ne, rne, h7, tn_nI]
              have e8 : pN (up (up r (76 + 10 * p + (3 + z)) v) (76 + 10 * p + 8) (nI T)) p 8 = T := by
                unfold pN
                simp (disch := first | assumption | omega) only [up_eq, tn_nI]
              rw [e7, e8]
              simp (disch := first | assumption | omega) only [up_ne, up_eq, rne, h7, h9]
              exact ⟨vl_of (by omega) (by omega), trivial, vl_of (by omega) (by omega), ht1⟩
          · intro _ q hq hne hw
            simp (disch := first | assumption | omega) only [up_ne, rne, h7]
            exact huj q hq hne hw
    · rw [if_neg c2] at s2 s3 ⊢
      have c2' := c2
      rw [r12] at c2'
      unfold T_leave at s2 s3 ⊢
      rw [if_neg c2] at s2 s3 ⊢
      refine stop _ s2 ?_ ?_ ?_
      · intro k k1 k2 k3
        rw [up_ne k3, up_ne k1]
      · rw [up_ne (by omega), up_eq rfl, r12]
        rcases hS.2.2.2.2 with q | ⟨q | q, -⟩
        · exact absurd q c2'
        · rw [q]; exact vl_of (by omega) (by omega)
        · rw [q]; exact vl_of (by omega) (by omega)
      · rw [up_eq rfl]
