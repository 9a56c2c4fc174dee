/-! both lists from a text without a fault -/
def FLi (g g' : GS_) : Prop := NR g g' ∧ (∀ f, (f < 326 ∨ 331 < f) → f ≠ 333 → gfi g' f 0 = gfi g f 0) ∧ ∀ t i, ¬ (t = 20 ∧ i = 5) → gai g' t i = gai g t i
theorem FLi_tr {a b c : GS_} (h1 : FLi a b) (h2 : FLi b c) : FLi a c := ⟨NR_tr h1.1 h2.1, fun f q q2 => (h2.2.1 f q q2).trans (h1.2.1 f q q2), fun t i q => (h2.2.2 t i q).trans (h1.2.2 t i q)⟩
theorem FLi_FL {a b : GS_} (h : FL a b) : FLi a b := ⟨h.1, fun f _ q => h.2.1 f q, h.2.2⟩
theorem FLi_FRi {a b : GS_} (h : FRi a b) : FLi a b := ⟨⟨h.1.1, h.1.2.2.2.1, h.1.2.2.1, h.1.2.2.2.2.1, h.1.2.2.2.2.2.1, h.1.2.2.2.2.2.2⟩, fun f q _ => h.2 f q, fun t i _ => by rw [h.1.2.1]⟩
theorem FLi_rfl {a : GS_} : FLi a a := FLi_FL FL_rfl
theorem TX_FLi {g g' : GS_} {c : Nat → Int32} {m : Nat} (h : TX g c m) (hf : FLi g g') : TX g' c m := by
  refine ⟨MI_eq h.1 hf.1.1 hf.1.2.1, ?_⟩
  rw [hf.2.2 20 0 (by omega)]
  exact h.2
theorem WL_FRi {g g' : GS_} {X : List Nat} (h : FRi g g') (hW : WL g X) : WL g' X := by
  unfold WL
  rw [h.2 333 (by omega), h.1.2.1]
  exact hW
theorem filter_all {P : Nat → Bool} : ∀ X : List Nat, (∀ x, x ∈ X → P x = true) → X.filter P = X
  | [], _ => rfl
  | x :: X, h => by
    rw [List.filter_cons_of_pos (h x (by simp)), filter_all X (fun y hy => h y (by simp [hy]))]
theorem filter_same {P Q : Nat → Bool} : ∀ X : List Nat, (∀ x, x ∈ X → P x = Q x) → X.filter P = X.filter Q
  | [], _ => rfl
  | x :: X, h => by
    have ih := filter_same (P := P) (Q := Q) X (fun y hy => h y (by simp [hy]))
    have e := h x (by simp)
    cases hp : P x
    · rw [List.filter_cons_of_neg (by rw [hp]; decide), List.filter_cons_of_neg (by rw [← e, hp]; decide), ih]
    · rw [List.filter_cons_of_pos hp, List.filter_cons_of_pos (by rw [← e, hp]), ih]
theorem filter_len {P : Nat → Bool} (X : List Nat) : (X.filter P).length ≤ X.length := List.length_filter_le P X
theorem res_none {t : Prop} [Decidable t] {h : Int32} {f N : Nat} {X : List Nat} (hN : N ≤ 400) (hX : ∀ x, x ∈ X → 1 ≤ x ∧ x ≤ N) (hf : N < f) (hf2 : f ≤ 999) : resX t h f 999 N X = X := by
  unfold resX
  by_cases ht : t
  · rw [if_pos ht]
    refine filter_all X (fun x hx => kp_lo ?_)
    have := hX x hx
    omega
  · rw [if_neg ht]
    unfold spX
    rw [if_neg (by omega), show min 999 N + 1 - f = 0 by omega, ua, List.append_nil]
theorem res_open {t : Prop} [Decidable t] {h : Int32} {f N : Nat} {X : List Nat} (hN : N ≤ 400) (hX : ∀ x, x ∈ X → 1 ≤ x ∧ x ≤ N) (hf : f ≤ N) : resX t h f 999 N X = resX t h f N N X := by
  unfold resX
  by_cases ht : t
  · rw [if_pos ht, if_pos ht]
    refine filter_same X (fun x hx => ?_)
    have := hX x hx
    by_cases c : x < f
    · rw [kp_lo (by omega), kp_lo (by omega)]
    · rw [kp_in (by omega) (by omega), kp_in (by omega) (by omega)]
  · rw [if_neg ht, if_neg ht]
    unfold spX
    rw [if_neg (by omega), if_neg (by omega), show min 999 N = min N N by omega]
theorem res_mem {t : Prop} [Decidable t] {h : Int32} {f L N : Nat} {X : List Nat} (hf : 1 ≤ f) (hL : 1 ≤ L) (hX : ∀ x, x ∈ X → 1 ≤ x ∧ x ≤ N) : ∀ x, x ∈ resX t h f L N X → 1 ≤ x ∧ x ≤ N := by
  intro x hx
  unfold resX at hx
  split at hx
  · exact hX x (List.mem_filter.mp hx).1
  · rcases List.mem_append.mp hx with q | q
    · exact hX x q
    · exact spX_mem hf hL q
theorem res_len {t : Prop} [Decidable t] {h : Int32} {f L N : Nat} {X : List Nat} (hf : 1 ≤ f) (hL : 1 ≤ L) : (resX t h f L N X).length ≤ X.length + N := by
  unfold resX
  split
  · have := filter_len (P := kp h (min f L) (max f L)) X
    omega
  · have := spX_len (h := h) (N := N) hf hL
    rw [List.length_append]
    omega
/-- the reference's step behind a read item -/
theorem m_step {g : GS_} {c19 : Nat → Int32 → Int32 → GS_ → Option (Int32 × GS_)} {t : Prop} [Decidable t] {h : Int32} {f la N : Nat} {X : List Nat} (hh : hok h) (hf : 1 ≤ f ∧ f < 1000) (hla : la < 1000) (hN : 1 ≤ N ∧ N ≤ 400) (hM : MI g) (hW : WL g X) (hX : X.length ≤ 400) (hx : ∀ x, x ∈ X → 1 ≤ x ∧ x ≤ N) (h28 : gfi g 328 0 = bi t) (h29 : gfi g 329 0 = nI f) (h30 : gfi g 330 0 = nI la) (h31 : gfi g 331 0 = h) :
    ∃ g', f10_makeList_b39 c19 0 (nI N) (bi (la = 0)) g = f10_makeList_b109 c19 0 (nI N) g' ∧ FL g g' ∧ WL g' (resX t h f (nz 999 la) N X) := by
  have hx' : ∀ x, x ∈ X → x < 1000 := fun x q => by have := hx x q; omega
  -- it has some
  have some1 : ∀ L : Nat, 1 ≤ L → L < 1000 → ∃ g', f10_makeList_b74 c19 0 (nI N) (nI L) (nI 1) g = f10_makeList_b109 c19 0 (nI N) g' ∧ FL g g' ∧ WL g' (resX t h f L N X) := by
    intro L hL1 hL2
    unfold resX
    by_cases ht : t
    · obtain ⟨g', a1, a2, a3⟩ := m_takeOut hh hf.2 hL2 hM hW hX h31 h29 hx'
      rw [bi_t ht] at h28
      rw [if_pos ht]
      refine ⟨g', ?_, a2, a3⟩
      rw [f10_makeList_b74, if_neg (by decide), h28, if_neg (by decide), a1, bd_some]
    · obtain ⟨g', a1, a2, a3⟩ := m_appendAll hh hf ⟨hL1, hL2⟩ hN.2 hM hW hX h31 h29
      rw [bi_f ht] at h28
      rw [if_neg ht]
      refine ⟨g', ?_, a2, a3⟩
      rw [f10_makeList_b74, if_neg (by decide), h28, if_pos (by decide), f10_makeList_b97, if_neg (by decide), a1, bd_some]
  by_cases hop : la = 0
  · subst hop
    rw [bi_t rfl, show nz 999 0 = 999 from rfl]
    by_cases c : N < f
    · rw [res_none hN.2 hx c (by omega)]
      refine ⟨g, ?_, FL_rfl, hW⟩
      rw [f10_makeList_b39, if_neg (by decide), f10_makeList_b54, if_neg (by decide), h29, if_pos ((lt_nI (by omega) (by omega)).mpr c), f10_makeList_b74, if_pos (by decide), f10_makeList_b97, if_pos (by decide)]
    · rw [res_open hN.2 hx (by omega)]
      obtain ⟨g', a1, a2, a3⟩ := some1 N hN.1 (by omega)
      refine ⟨g', ?_, a2, a3⟩
      rw [f10_makeList_b39, if_neg (by decide), f10_makeList_b54, if_neg (by decide), h29, if_neg (fun q => c ((lt_nI (by omega) (by omega)).mp q)), f10_makeList_b69]
      exact a1
  · rw [bi_f hop, show nz 999 la = la from if_neg hop]
    obtain ⟨g', a1, a2, a3⟩ := some1 la (by omega) hla
    refine ⟨g', ?_, a2, a3⟩
    rw [f10_makeList_b39, if_pos (by decide), f10_makeList_b54, if_pos (by decide), h30, f10_makeList_b69]
    exact a1
theorem Aut_lt {c : Nat → Int32} {m p : Nat} (hc : ∀ i, m ≤ i → c i = nI 0) (hm : m ≤ 40) (hp : p ≤ m) (h : Aut c m 0 p = -nI 6) : p < m := by
  rcases Nat.lt_or_ge p m with q | q
  · exact q
  · have e : p = m := by omega
    subst e
    rw [Aut_none (Nat.le_refl _) (by rw [hc _ (Nat.le_refl _)]; exact dl_0 (by omega))] at h
    unfold stk at h
    rw [if_neg (by omega), if_pos (by omega), neg_eq (by omega) (by omega) (by omega)] at h
    exact h.elim
/-- an item of a text without a fault -/
theorem Aut_ok {c : Nat → Int32} {m p : Nat} (hc : ∀ i, m ≤ i → c i = nI 0) (hm : m ≤ 40) (hp : p ≤ m) (h : Aut c m 0 p = -nI 6) : ¬ brk c p ∧ p < m ∧ p < e2 c p ∧ e2 c p ≤ m ∧ ((c (e2 c p) = nI 44 ∧ e2 c p < m ∧ Aut c m 0 (e2 c p + 1) = -nI 6) ∨ (¬ c (e2 c p) = nI 44 ∧ e2 c p = m)) := by
  obtain ⟨k1, k2⟩ := Aut_item hc hp
  have hb : ¬ brk c p := by
    intro hb
    obtain ⟨a1, a2⟩ := k1 hb
    rw [a1, neg_eq (by omega) (by omega) (by omega)] at h
    exact h
  obtain ⟨a1, a2⟩ := k2 hb
  have hlt : p < e2 c p := by
    have w1 : p ≤ pB c p := by unfold pB; split <;> omega
    have w3 : e1 c p ≤ e2 c p := by unfold e2 hEnd; split <;> omega
    have w2 : pB c p < e1 c p := by
      have l1 : 1 ≤ nl c (pB c p) := by unfold nl; split <;> (try split) <;> omega
      unfold e1 e1q
      split
      · omega
      · split
        · omega
        · split
          · split <;> omega
          · omega
    omega
  refine ⟨hb, Aut_lt hc hm hp h, hlt, a1, ?_⟩
  rw [a2] at h
  unfold TT3 at h
  by_cases d : c (e2 c p) = nI 44
  · rw [if_pos d] at h
    exact Or.inl ⟨d, nz_lt hc (by rw [d]; decide), h⟩
  · rw [if_neg d] at h
    refine Or.inr ⟨d, ?_⟩
    rcases Nat.lt_or_ge (e2 c p) m with q | q
    · rw [if_pos q, neg_eq (by omega) (by omega) (by omega)] at h
      exact h.elim
    · omega
theorem lists_loop {c : Nat → Int32} {m N : Nat} (hc : ∀ i, m ≤ i → c i = nI 0) (hm : m ≤ 40) (hN : 1 ≤ N ∧ N ≤ 400) : ∀ (fuel p : Nat) (gX gM : GS_) (X : List Nat), p ≤ m → m + 1 - p < fuel → Aut c m 0 p = -nI 6 → TX gM c m → gfi gM 326 0 = nI p → gfi gM 327 0 = nI 0 → WL gM X → CT gX c m → gfi gX 194 0 = nI p → PLs gX → OV gX X → X.length ≤ 400 → (∀ x, x ∈ X → 1 ≤ x ∧ x ≤ N) →
    ∃ gX' gM' X', f6_expand_b9 fuel 0 (some 0) (nI N) gX = some ((), gX') ∧ FX gX gX' ∧ OV gX' X' ∧ (∀ x, x ∈ X' → 1 ≤ x ∧ x ≤ N) ∧ f10_makeList_b19 fuel 0 (nI N) (nI 1) gM = some (if X'.length ≤ 400 then nI 1 else nI 0, gM') ∧ FLi gM gM' ∧ (X'.length ≤ 400 → WL gM' X')
  | 0, p, gX, gM, X, _, h, _, _, _, _, _, _, _, _, _, _, _ => by omega
  | fuel + 1, p, gX, gM, X, hp, hf, hA, hT, h6, h7, hW, hC, h4, hP, hO, hX, hx => by
    obtain ⟨hb, hpm, hlt, he, hnext⟩ := Aut_ok hc hm hp hA
    have hnx : c (e2 c p) = nI 44 ∨ c (e2 c p) = nI 0 := by
      rcases hnext with ⟨q, -⟩ | ⟨-, q⟩
      · exact Or.inl q
      · exact Or.inr (hc _ (by omega))
    have hx' : ∀ x, x ∈ X → x < 1000 := fun x q => by have := hx x q; omega
    obtain ⟨g1, a1, a2, a3, a4⟩ := x_expItem (N := N) hC (by omega) h4 hb hnx (by omega) hP hO hX hx'
    obtain ⟨m1, b1, b2, b3, -, b5⟩ := m_readItem hT (p := p) (by omega) h6 h7
    obtain ⟨b6, b7, b8, b9, b10⟩ := b5 hb
    have hT1 := TX_FRi hT b2
    have hf1 := fiq_le (c := c) (q := pB c p) hb
    have hl1 := laq_le (c := c) (q := pB c p) hb
    have hL : 1 ≤ nz 999 (laq c (pB c p)) := by unfold nz; split <;> omega
    have hmem := res_mem (t := c p = nI 33) (h := hv c (e1 c p)) hf1.1 hL hx
    have hlen := res_len (t := c p = nI 33) (h := hv c (e1 c p)) (N := N) (X := X) hf1.1 hL
    obtain ⟨m2, d1, d2, d3⟩ := m_step (c19 := f10_makeList_b19 fuel) (t := c p = nI 33) hv_ok ⟨hf1.1, by omega⟩ (show laq c (pB c p) < 1000 by omega) hN hT1.1 (WL_FRi b2 hW) hX hx b3 b8 b9 b10
    have hT2 := TX_FLi hT1 (FLi_FL d2)
    have fm : FLi gM m2 := FLi_tr (FLi_FRi b2) (FLi_FL d2)
    have p6 : gfi m2 326 0 = nI (e2 c p) := (d2.2.1 326 (by omega)).trans b7
    have p7 : gfi m2 327 0 = nI 0 := (d2.2.1 327 (by omega)).trans b6
    have e3 := m_signAt hT2 (p := e2 c p) (by omega)
    have h333 := d3.1
    rw [f6_expand_b9.eq_2, f10_makeList_b19.eq_2]
    generalize hY : resX (c p = nI 33) (hv c (e1 c p)) (fiq c (pB c p)) (nz 999 (laq c (pB c p))) N X = Y at *
    have hMS : ∀ R, f10_makeList_b109 (f10_makeList_b19 fuel) 0 (nI N) m2 = R → (if nI 1 = (0 : Int32) then some ((1 : Int32), gM) else bd_ (f10_readItem 0 gM) fun _ g6 => if (gfi g6 330 0) = 0 then f10_makeList_b39 (f10_makeList_b19 fuel) 0 (nI N) (1 : Int32) g6 else f10_makeList_b39 (f10_makeList_b19 fuel) 0 (nI N) (0 : Int32) g6) = R := by
      intro R hR
      rw [if_neg (by decide), b1, bd_some]
      by_cases z : laq c (pB c p) = 0
      · rw [b9, z, if_pos (by decide)]
        rw [z] at d1
        rw [bi_t rfl] at d1
        exact d1.trans hR
      · rw [b9, if_neg (show ¬ nI (laq c (pB c p)) = (0 : Int32) from fun q => z ((eq_nI (a := laq c (pB c p)) (b := 0) (by omega) (by omega)).mp q))]
        rw [bi_f z] at d1
        exact d1.trans hR
    have h98 : gfi gX 98 0 = nI 0 := by
      unfold OV at hO
      rw [if_pos hX] at hO
      exact hO.1
    have hC1 := CT_FX a2 hC
    have hP1 := PLs_FX a2 hP
    have h193 : gfi gX 193 0 = nI m := hC.1
    have hXS : ∀ R, f6_expand_b9 fuel 0 (some 0) (nI N) g1 = R → (if (gfi gX 193 0) ≤ (gfi gX 194 0) then some ((), gX) else oc_ (some 0) none fun a1 => if (gfi gX 98 a1) = 0 then lr_ (gfi gX 194 0) fun z2 => bd_ (f6_expandItem 0 (some a1) (nI N) gX) fun _ g3 => if z2 < (gfi g3 194 0) then (f6_expand_b9 fuel) 0 (some a1) (nI N) g3 else some ((), g3) else some ((), gX)) = R := by
      intro R hR
      have hlt2 : nI p < nI (nxt c (e2 c p)) := (lt_nI (by omega) (by unfold nxt; split <;> omega)).mpr (by unfold nxt; split <;> omega)
      rw [h193, h4, if_neg (fun q => by have := (le_nI (by omega) (by omega)).mp q; omega), oc_some, h98, if_pos (by decide), lr_at, a1, bd_some, a3, if_pos hlt2]
      exact hR
    have hfu : ∃ n, fuel = n + 1 := ⟨fuel - 1, by omega⟩
    obtain ⟨n, rfl⟩ := hfu
    by_cases hY4 : Y.length ≤ 400
    · have hle : gfi m2 333 0 ≤ (400 : Int32) := by rw [h333]; exact (le_nI (a := Y.length) (b := 400) (by omega) (by omega)).mpr hY4
      rcases hnext with ⟨q1, q2, q3⟩ | ⟨q1, q2⟩
      · have hT3 : TX (sfi m2 326 0 (nI (e2 c p + 1))) c m := TX_sfi hT2
        have fr : FRi m2 (sfi m2 326 0 (nI (e2 c p + 1))) := FRi_sfi (by omega)
        have hn1 : nxt c (e2 c p) = e2 c p + 1 := if_pos q1
        rw [hn1] at a3
        obtain ⟨gX', gM', X', z1, z2, z3, z4, z5, z6, z7⟩ := lists_loop hc hm hN (n + 1) (e2 c p + 1) g1 (sfi m2 326 0 (nI (e2 c p + 1))) Y (by omega) (by omega) q3 hT3 (by rw [e_gfi_sfi, if_pos ⟨rfl, rfl⟩]) (by rw [e_gfi_sfi, if_neg (by omega)]; exact p7) (WL_FRi fr d3) hC1 a3 hP1 a4 hY4 hmem
        refine ⟨gX', gM', X', hXS _ z1, FX_tr a2 z2, z3, z4, hMS _ ?_, FLi_tr fm (FLi_tr (FLi_FRi fr) z6), z7⟩
        rw [f10_makeList_b109, if_pos hle, p6, e3, bd_some, if_pos (show c (e2 c p) = (44 : Int32) from q1), f10_makeList_b139, lr_at, p6]
        have : nI (e2 c p) + (1 : Int32) = nI (e2 c p + 1) := nI_add _ _
        rw [this]
        exact z5
      · have fr : FRi m2 (sfi m2 326 0 (nI (e2 c p + 1))) := FRi_sfi (by omega)
        have hn1 : nxt c (e2 c p) = e2 c p := if_neg q1
        rw [hn1, q2] at a3
        refine ⟨g1, sfi m2 326 0 (nI (e2 c p + 1)), Y, hXS _ ?_, a2, a4, hmem, hMS _ ?_, FLi_tr fm (FLi_FRi fr), fun _ => WL_FRi fr d3⟩
        · rw [f6_expand_b9.eq_2, hC1.1, a3, if_pos ((le_nI (by omega) (by omega)).mpr (Nat.le_refl m))]
        · rw [f10_makeList_b109, if_pos hle, p6, e3, bd_some, if_neg (show ¬ c (e2 c p) = (44 : Int32) from q1), f10_makeList_b139, lr_at, p6]
          have : nI (e2 c p) + (1 : Int32) = nI (e2 c p + 1) := nI_add _ _
          rw [this, f10_makeList_b19.eq_2, if_pos (by decide), if_pos hY4]
          rfl
    · have hle : ¬ gfi m2 333 0 ≤ (400 : Int32) := by rw [h333]; exact fun q => hY4 ((le_nI (a := Y.length) (b := 400) (by omega) (by omega)).mp q)
      refine ⟨g1, m2, Y, hXS _ ?_, a2, a4, hmem, hMS _ ?_, fm, fun q => absurd q hY4⟩
      · have o1 : gfi g1 98 0 = nI 1 := by
          unfold OV at a4
          rw [if_neg hY4] at a4
          exact a4.1
        rw [f6_expand_b9.eq_2]
        by_cases w : gfi g1 193 0 ≤ gfi g1 194 0
        · rw [if_pos w]
        · rw [if_neg w, oc_some, o1, if_neg (by decide)]
      · rw [f10_makeList_b109, if_neg hle, if_neg hY4]
        rfl
