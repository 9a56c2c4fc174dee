/-! the law's own walk: two heaps as numbers beside each other, the class's and the reference's -/
theorem rep_kept {D : va_G} {α : Nat → Nat → Nat} {g : GS_} {H H1 : Heap} (h : Rep_ D α g H) (hz : H.size ≤ H1.size) (hk : ∀ t i, i < gcn g t → H1[α t i]? = H[α t i]?) : Rep_ D α g H1 := by
  obtain ⟨r1, r2, r3, r4, r5, r6, r7⟩ := h
  refine ⟨fun t i hi => Nat.lt_of_lt_of_le (r1 t i hi) hz, r2, r3, r4, fun t C T N i hc hi => (r5 t C T N i hc hi).kept (hk t i hi), fun t i ht hi => ?_, fun t t' i ht hi => ?_⟩
  · rw [hk t i hi]
    exact r6 t i ht hi
  · rw [hk t i hi]
    exact r7 t t' i ht hi
/-- both heaps as numbers are held, apart from each other and from what was there before -/
def LW_ (D : va_G) (s : State) (α β : Nat → Nat → Nat) (g k : GS_) (H : Heap) (locs : List Loc) : Prop :=
  Rep_ D α g H ∧ Rep_ D β k H ∧ (∀ t i, i < gcn g t → s.heap.size ≤ α t i) ∧ (∀ t i, i < gcn k t → s.heap.size ≤ β t i) ∧ (∀ t i t' i', i < gcn g t → i' < gcn k t' → α t i ≠ β t' i') ∧ va_S (fun q : Nat => s.heap.size ≤ q) s.heap H locs
def LQ_ (α : Nat → Nat → Nat) (g : GS_) (t q : Nat) : Prop := 0 < gcn g t ∧ α t 0 = q
theorem LW_swap {D : va_G} {s : State} {α β : Nat → Nat → Nat} {g k : GS_} {H : Heap} {locs : List Loc} (h : LW_ D s α β g k H locs) : LW_ D s β α k g H locs :=
  ⟨h.2.1, h.1, h.2.2.2.1, h.2.2.1, fun t i t' i' h1 h2 q => h.2.2.2.2.1 t' i' t i h2 h1 q.symm, h.2.2.2.2.2⟩
section LC
variable {p : Program} {l : Launch} {e : Env} {s : State} {m : MethodId} {below : List Frame} {meth : Method} {c : Code} {b L : Nat} {xs : Nat → Int32} {Q : State → Prop} {D : va_G}
variable {H : Heap} {locs : List Loc} {cells slots pc : Nat} {ls : Array Slot} {rest st0 : List Value} {α β : Nat → Nat → Nat} {g g1 k : GS_}
theorem lw_go {v : Option AV_} {mc ms : Nat} (hLW : LW_ D s α β g k H locs)
    (hr : va_Run p l e room_1 s m #[Value.ref b] below meth c H locs cells slots mc ms (F0 m pc ls st0) rest (QC_ D (fun q => H.size ≤ q ∨ ∃ t i, i < gcn g t ∧ q = α t i) α g g1 v) (fun q => H.size ≤ q ∨ ∃ t i, i < gcn g t ∧ q = α t i))
    (kk : ∀ (α' : Nat → Nat → Nat) (H1 : Heap) (locs1 : List Loc), LW_ D s α' β g1 k H1 locs1 → (∀ t i, i < gcn g t → α' t i = α t i) → (∀ t, gcn g t ≤ gcn g1 t) → W p l e room_1 s m #[Value.ref b] below meth c H1 locs1 (cells + mc) (slots + ms) Q (F0 m (pc + 3) ls ((v.map (cv_ α')).toList ++ rest))) :
    W p l e room_1 s m #[Value.ref b] below meth c H locs cells slots Q (F0 m pc ls st0) := by
  obtain ⟨h1, h2, h3, h4, h5, hS⟩ := hLW
  have hA : ∀ q : Nat, (H.size ≤ q ∨ ∃ t i, i < gcn g t ∧ q = α t i) → s.heap.size ≤ q := by
    rintro q (h | ⟨t, i, hi, rfl⟩)
    · exact Nat.le_trans hS.1 h
    · exact h3 t i hi
  refine w_run (A0 := fun q : Nat => s.heap.size ≤ q) hr hS hA (fun α' H1 locs1 q1 q3 q4 q5 q6 q7 q8 hS1 => kk α' H1 locs1 ⟨q1, rep_kept h2 q7 (fun t i hi => q8 _ (h2.1 t i hi) ?_), fun t i hi => hA _ (q5 t i hi), h4, fun t i t' i' hi hi' he => ?_, hS1⟩ q3 q4)
  · rintro (h | ⟨t2, i2, hi2, he⟩)
    · have := h2.1 t i hi
      omega
    · exact h5 t2 i2 t i hi2 hi he.symm
  · rcases q5 t i hi with h | ⟨t2, i2, hi2, he2⟩
    · have := h2.1 t' i' hi'
      omega
    · exact h5 t2 i2 t' i' hi2 hi' (he2.symm.trans he)
theorem lw_tw : ∀ w ∈ TW_, w ∈ lw_tbl := fun w h => (List.mem_filter.mp h).1
/-- a call of a method that answers an int -/
theorem lw_call {y : MethodName} {bb : ByteArray} {maxL index n dep loc t1 q1 : Nat} {As : List Int32} {r : Int32} (hM : Cn_ y bb maxL (some .int) dep loc EI_ (.inr (t1, some 0) :: As.map Sum.inl) g (some (r, g1))) (hw : VW_ y bb maxL (some .int) t1 n) (hl : Cond.methodLink R_law index y ∈ TW_) (d : decode code pc = .ok (.invokevirtual index, 3))
    (hlen : As.length = n) (hfr : dep + 1 ≤ 15) (hlo : 8 + (maxL + 11) + loc ≤ 612) (C0 : lw_At p s m meth c b L xs) (hAm : Amb_ D s) (hls : ls.size = 4) (hLW : LW_ D s α β g k H locs) (hLQ : LQ_ α g t1 q1) (hW : (rest.map fun v => v.category).sum ≤ 8) (hce : cells + (ghs g1 - ghs g) ≤ 600000) (hsl : slots + (gsl g1 - gsl g) ≤ 7302250)
    (hst : (As.map Value.int).reverse ++ .ref q1 :: rest = st0)
    (kk : ∀ (α' : Nat → Nat → Nat) (H1 : Heap) (locs1 : List Loc), LW_ D s α' β g1 k H1 locs1 → LQ_ α' g1 t1 q1 → W p l e room_1 s m #[Value.ref b] below meth c H1 locs1 (cells + (ghs g1 - ghs g)) (slots + (gsl g1 - gsl g)) Q (F0 m (pc + 3) ls (.int r :: rest))) :
    W p l e room_1 s m #[Value.ref b] below meth c H locs cells slots Q (F0 m pc ls st0) := by
  subst hst
  obtain ⟨hx, hb, hr, hml, hown, hts, hX, hbl, hlocks, hgv⟩ := C0
  obtain ⟨h6, h7⟩ := hLQ
  subst h7
  have e1 : (As.map Sum.inl).map (cv_ α) = As.map Value.int := by rw [List.map_map]; rfl
  have h9 := w_callV (p := p) (l := l) (e := e) (R := room_1) (s := s) (m := m) (args := #[Value.ref b]) (below := below) (meth := meth) (c := c) (H := H) (locs := locs) (cells := cells) (slots := slots) (own := R_law) (cc := code) (nL := 4) (pc := pc) (ls := ls) (rest := rest) (D := D) (α := α) (A := fun q => H.size ≤ q ∨ ∃ t i, i < gcn g t ∧ q = α t i) (Ts := lw_tbl) hM hw ⟨hx, hb, hml, hown, hts⟩ lw_tw (Or.inl (lw_tw _ hl)) hAm (by rw [List.length_map]; exact hlen) hls hfr hlo hLW.1 (fun t i hi => Or.inr ⟨t, i, hi, rfl⟩) (fun q h => Or.inl h) (vS_c (fun i hi => by cases hi; exact h6) (fun v hv => by
      obtain ⟨x, -, rfl⟩ := List.mem_map.mp hv
      trivial)) hW hce hsl d (fun _ => (List.mem_filter.mp hl).2)
  rw [e1] at h9
  exact lw_go hLW h9 (fun α' H1 locs1 k1 k2 k3 => kk α' H1 locs1 k1 ⟨Nat.lt_of_lt_of_le h6 (k3 t1), k2 t1 0 h6⟩)
/-- a call of a constructor with no arguments -/
theorem lw_init {y : MethodName} {bb : ByteArray} {maxL index dep loc t1 q1 : Nat} (hM : Cn_ y bb maxL none dep loc EV_ [.inr (t1, some 0)] g (some ((), g1))) (hw : IW_ y bb maxL 0) (hl : Cond.methodLink R_law index y ∈ TW_) (d : decode code pc = .ok (.invokespecial index, 3))
    (hfr : dep + 1 ≤ 15) (hlo : 8 + (maxL + 11) + loc ≤ 612) (C0 : lw_At p s m meth c b L xs) (hAm : Amb_ D s) (hls : ls.size = 4) (hLW : LW_ D s α β g k H locs) (hLQ : LQ_ α g t1 q1) (hW : (rest.map fun v => v.category).sum ≤ 8) (hce : cells + (ghs g1 - ghs g) ≤ 600000) (hsl : slots + (gsl g1 - gsl g) ≤ 7302250)
    (kk : ∀ (α' : Nat → Nat → Nat) (H1 : Heap) (locs1 : List Loc), LW_ D s α' β g1 k H1 locs1 → LQ_ α' g1 t1 q1 → W p l e room_1 s m #[Value.ref b] below meth c H1 locs1 (cells + (ghs g1 - ghs g)) (slots + (gsl g1 - gsl g)) Q (F0 m (pc + 3) ls rest)) :
    W p l e room_1 s m #[Value.ref b] below meth c H locs cells slots Q (F0 m pc ls (.ref q1 :: rest)) := by
  obtain ⟨hx, hb, hr, hml, hown, hts, hX, hbl, hlocks, hgv⟩ := C0
  obtain ⟨h6, h7⟩ := hLQ
  subst h7
  have h9 := w_callI (p := p) (l := l) (e := e) (R := room_1) (s := s) (m := m) (args := #[Value.ref b]) (below := below) (meth := meth) (c := c) (H := H) (locs := locs) (cells := cells) (slots := slots) (own := R_law) (cc := code) (nL := 4) (pc := pc) (ls := ls) (rest := rest) (D := D) (α := α) (A := fun q => H.size ≤ q ∨ ∃ t i, i < gcn g t ∧ q = α t i) (Ts := lw_tbl) (As := []) hM hw ⟨hx, hb, hml, hown, hts⟩ lw_tw (Or.inl (lw_tw _ hl)) hAm rfl hls hfr hlo hLW.1 (fun t i hi => Or.inr ⟨t, i, hi, rfl⟩) (fun q h => Or.inl h) (vS_c (fun i hi => by cases hi; exact h6) (fun v hv => by cases hv)) hW hce hsl d
  exact lw_go hLW h9 (fun α' H1 locs1 k1 k2 k3 => kk α' H1 locs1 k1 ⟨Nat.lt_of_lt_of_le h6 (k3 t1), k2 t1 0 h6⟩)
/-- a new object -/
theorem lw_new {idx t N : Nat} {C : String} {T : u_T} (hcf : CF_ t C T N) (hl : Cond.classLink R_law idx C ∈ TW_) (hi : Cond.instantiable C N ∈ TW_) (hz : Cond.initialized C ∈ TW_) (d : decode code pc = .ok (.new idx, 3)) (C0 : lw_At p s m meth c b L xs) (hAm : Amb_ D s) (hLW : LW_ D s α β g k H locs) (h0 : gcn g t = 0) (hce : cells + 1 ≤ 600000) (hsl : slots + N ≤ 7302250)
    (kk : ∀ (α' : Nat → Nat → Nat) (H1 : Heap) (q1 : Nat), LW_ D s α' β (nwo g t N) k H1 locs → LQ_ α' (nwo g t N) t q1 → W p l e room_1 s m #[Value.ref b] below meth c H1 locs (cells + 1) (slots + N) Q (F0 m (pc + 3) ls (.ref q1 :: rest))) :
    W p l e room_1 s m #[Value.ref b] below meth c H locs cells slots Q (F0 m pc ls rest) := by
  obtain ⟨hx, hb, hr, hml, hown, hts, hX, hbl, hlocks, hgv⟩ := C0
  obtain ⟨h1, h2, h3, h4, h5, hS⟩ := hLW
  have hK := hAm.1
  have htw : ∀ w ∈ TW_, w.before #[Value.ref b] s = true := fun w hw => hts w (lw_tw w hw)
  obtain ⟨hc, hin, hnm, ty, hty, hdv⟩ := hcf
  have hKn := hK.1 t _ hc
  have hgt : gcn (nwo g t N) t = gcn g t + 1 := if_pos rfl
  have hgo : ∀ t', t' ≠ t → gcn (nwo g t N) t' = gcn g t' := fun t' h => if_neg h
  have hAd : ∀ t' i, i < gcn (nwo g t N) t' → aup_ α t (gcn g t) H.size t' i = H.size ∨ (i < gcn g t' ∧ aup_ α t (gcn g t) H.size t' i = α t' i) := by
    intro t' i hi
    by_cases e : t' = t
    · subst e
      rw [hgt] at hi
      by_cases e2 : i = gcn g t'
      · subst e2
        exact Or.inl aup_new
      · exact Or.inr ⟨by omega, aup_old t' i (by omega)⟩
    · rw [hgo t' e] at hi
      exact Or.inr ⟨hi, aup_old t' i hi⟩
  refine W.newcK hx hb hown (htw _ hl) (htw _ hi) (htw _ hz) rfl d hce hsl hKn.2.1 rfl fun H1 kC hkC e1 z1 o1 => ?_
  refine kk (aup_ α t (gcn g t) H.size) H1 H.size ⟨rep_new h1 rfl ?_ ?_ ?_ ?_ z1 o1 ?_ ?_ ?_, rep_kept h2 (by omega) (fun t i hi => o1 _ (h2.1 t i hi)), fun t' i hi => ?_, h4, fun t' i t2 i2 hi hi2 he => ?_, ⟨Nat.le_trans hS.1 (by omega), fun x g1 g2 => (o1 x (Nat.lt_of_lt_of_le g1 hS.1)).trans (hS.2.1 x g1 g2), hS.2.2⟩⟩ ⟨by rw [hgt]; omega, ?_⟩
  · intro f i hne
    have hne2 : ¬ (f / 32 = t ∧ i = gcn g t) := by omega
    exact ⟨if_neg hne2, if_neg hne2⟩
  · exact fun t' i _ => ⟨rfl, rfl, rfl⟩
  · exact fun f t2 _ hf => if_pos ⟨hf, rfl⟩
  · intro j t2 he
    have := es_ge he
    have := (vw_le hc).2
    omega
  · intro C' T' N' hc'
    cases hc.symm.trans hc'
    refine (u_born ty htw hin hKn hkC e1 hty).to (fun k hk => ?_)
    have hk32 : k < 32 := by have := (vw_le hc).1; omega
    rw [hdv k hk]
    have h1 : gfi (nwo g t N) (32 * t + k) (gcn g t) = 0 := if_pos ⟨f_div hk32, rfl⟩
    have h2 : gfr (nwo g t N) (32 * t + k) (gcn g t) = none := if_pos ⟨f_div hk32, rfl⟩
    exact (dv_none h1 h2).symm
  · intro ht
    have := (vw_le hc).2
    omega
  · intro t2 ht
    have := es_ge ht
    have := (vw_le hc).2
    omega
  · rcases hAd t' i hi with h | ⟨h, h'⟩
    · rw [h]
      exact hS.1
    · rw [h']
      exact h3 t' i h
  · have hb2 := h2.1 t2 i2 hi2
    rcases hAd t' i hi with h | ⟨h, h'⟩
    · omega
    · exact h5 t' i t2 i2 h hi2 (h'.symm.trans he)
  · rw [h0]
    exact aup_new
/-- a number of the script -/
theorem lw_arg (i k : Nat) {kc : Int} {q1 q2 : Nat} (C0 : lw_At p s m meth c b L xs) (hS : va_S (fun q : Nat => s.heap.size ≤ q) s.heap H locs) (hL : L ≤ 3072) (hi : i + k < L) (hl : lv_has ls 4 [(0, .ref b), (1, .ref q1), (2, .ref q2), (3, .int (nI i))]) (hk : Int32.ofInt kc = nI k)
    (d0 : decode code pc = .ok (.aload_n 0, 1)) (d1 : decode code (pc + 1) = .ok (.iload_n 3, 1)) (d2 : decode code (pc + 2) = .ok (.iconst kc, 1)) (d3 : decode code (pc + 3) = .ok (.iadd, 1)) (d4 : decode code (pc + 4) = .ok (.iaload, 1))
    (kk : W p l e room_1 s m #[Value.ref b] below meth c H locs cells slots Q (F0 m (pc + 5) ls (.int (xs (i + k)) :: rest))) : W p l e room_1 s m #[Value.ref b] below meth c H locs cells slots Q (F0 m pc ls rest) := by
  obtain ⟨hx, hb, hr, hml, hown, hts, hX, hbl, hlocks, hgv⟩ := C0
  refine lv_aload_n hx hb d0 rfl (lv_at hl 0 rfl) ?_
  refine lv_iload_n hx hb d1 rfl (lv_at hl 3 rfl) ?_
  refine lv_iconst hx hb d2 hk ?_
  refine lv_iadd hx hb d3 ?_
  rw [nI_add]
  refine va_sld hx hb hX hbl (Nat.not_le.mpr hbl) hS (nI_in hi (by omega)) d4 ?_
  rw [nI_clamp (by omega)]
  exact kk
end LC
/-- the law goes on from pc at its n-th turn -/
def LG_ (p : Program) (l : Launch) (e : Env) (s : State) (m : MethodId) (below : List Frame) (meth : Method) (c : Code) (b : Nat) (D : va_G) (Q : State → Prop) (ls : Array Slot) (q1 q2 n pc : Nat) : Prop :=
  ∀ (α β : Nat → Nat → Nat) (gX gM : GS_) (H : Heap) (locs : List Loc) (cells slots : Nat), Rel gX gM n → LW_ D s α β gX gM H locs → LQ_ α gX 9 q1 → LQ_ β gM 10 q2 → cells ≤ 400 + 1000 * n → slots ≤ 100000 + 14000 * n → W p l e room_1 s m #[Value.ref b] below meth c H locs cells slots Q (F0 m pc ls [])
/-- what the tables know of the classes, at the law's entry -/
theorem amb_start {p : Program} {s : State} {m : MethodId} {meth : Method} {c : Code} {b L : Nat} {xs : Nat → Int32} (C0 : lw_At p s m meth c b L xs) : ∃ D : va_G, Amb_ D s := by
  obtain ⟨hx, hb, hr, hml, hown, hts, hX, hbl, hlocks, hgv⟩ := C0
  obtain ⟨c0, i0, k0⟩ := u_known hts (fun w hw => lw_tw _ (cfw_0 w hw)) (hts _ (lw_tw _ in_0.1))
  obtain ⟨c1, i1, k1⟩ := u_known hts (fun w hw => lw_tw _ (cfw_1 w hw)) (hts _ (lw_tw _ in_1.1))
  obtain ⟨c2, i2, k2⟩ := u_known hts (fun w hw => lw_tw _ (cfw_2 w hw)) (hts _ (lw_tw _ in_2.1))
  obtain ⟨c3, i3, k3⟩ := u_known hts (fun w hw => lw_tw _ (cfw_3 w hw)) (hts _ (lw_tw _ in_3.1))
  obtain ⟨c4, i4, k4⟩ := u_known hts (fun w hw => lw_tw _ (cfw_4 w hw)) (hts _ (lw_tw _ in_4.1))
  obtain ⟨c5, i5, k5⟩ := u_known hts (fun w hw => lw_tw _ (cfw_5 w hw)) (hts _ (lw_tw _ in_5.1))
  obtain ⟨c6, i6, k6⟩ := u_known hts (fun w hw => lw_tw _ (cfw_6 w hw)) (hts _ (lw_tw _ in_6.1))
  obtain ⟨c7, i7, k7⟩ := u_known hts (fun w hw => lw_tw _ (cfw_7 w hw)) (hts _ (lw_tw _ in_7.1))
  obtain ⟨c8, i8, k8⟩ := u_known hts (fun w hw => lw_tw _ (cfw_8 w hw)) (hts _ (lw_tw _ in_8.1))
  obtain ⟨c9, i9, k9⟩ := u_known hts (fun w hw => lw_tw _ (cfw_9 w hw)) (hts _ (lw_tw _ in_9.1))
  obtain ⟨c10, i10, k10⟩ := u_known hts (fun w hw => lw_tw _ (cfw_10 w hw)) (hts _ (lw_tw _ in_10.1))
  obtain ⟨a20, K20, p20, f20, g20, h20⟩ := Cond.arrayClass_spec (hts _ (lw_tw _ ac_20))
  obtain ⟨a21, K21, p21, f21, g21, h21⟩ := Cond.arrayClass_spec (hts _ (lw_tw _ ac_21))
  obtain ⟨p22, a22, K22, e22, -, g22, h22, f22⟩ := Cond.arrayOver_spec (hts _ ao_0)
  obtain ⟨p23, a23, K23, e23, -, g23, h23, f23⟩ := Cond.arrayOver_spec (hts _ ao_1)
  obtain ⟨p24, a24, K24, e24, -, g24, h24, f24⟩ := Cond.arrayOver_spec (hts _ ao_5)
  obtain ⟨p25, a25, K25, e25, -, g25, h25, f25⟩ := Cond.arrayOver_spec (hts _ ao_8)
  refine ⟨(fun t => match t with
    | 0 => c0
    | 1 => c1
    | 2 => c2
    | 3 => c3
    | 4 => c4
    | 5 => c5
    | 6 => c6
    | 7 => c7
    | 8 => c8
    | 9 => c9
    | 10 => c10
    | 20 => a20
    | 21 => a21
    | 22 => a22
    | 23 => a23
    | 24 => a24
    | _ => a25, fun t => match t with
    | 0 => i0
    | 1 => i1
    | 2 => i2
    | 3 => i3
    | 4 => i4
    | 5 => i5
    | 6 => i6
    | 7 => i7
    | 8 => i8
    | 9 => i9
    | _ => i10), ⟨fun k q hq => ?_, fun k q hq => ?_⟩, ⟨fun a i b n d h hm => va_Nw.of rfl (hts _ (List.mem_append_right _ hm)), fun a i x h hm => va_Nw.of rfl (hts _ (List.mem_append_right _ hm))⟩, va_AO.of (hts _ ao_0), va_AO.of (hts _ ao_1), va_AO.of (hts _ ao_5), va_AO.of (hts _ ao_8)⟩
  · match k, hq with
    | 0, hq => cases hq; exact k0
    | 1, hq => cases hq; exact k1
    | 2, hq => cases hq; exact k2
    | 3, hq => cases hq; exact k3
    | 4, hq => cases hq; exact k4
    | 5, hq => cases hq; exact k5
    | 6, hq => cases hq; exact k6
    | 7, hq => cases hq; exact k7
    | 8, hq => cases hq; exact k8
    | 9, hq => cases hq; exact k9
    | 10, hq => cases hq; exact k10
    | k + 11, hq => simp [vwCl] at hq
  · match k, hq with
    | 0, hq => cases hq; exact ⟨fun n z => ⟨(fun k h => by cases h), K20, g20, p20, h20⟩, f20⟩
    | 1, hq => cases hq; exact ⟨fun n z => ⟨(fun k h => by cases h), K21, g21, p21, h21⟩, f21⟩
    | 2, hq => cases hq; exact ⟨fun n z => ⟨(fun k h => by cases h), K22, g22, p22, h22⟩, K22, p22, g22, h22, e22, f22⟩
    | 3, hq => cases hq; exact ⟨fun n z => ⟨(fun k h => by cases h), K23, g23, p23, h23⟩, K23, p23, g23, h23, e23, f23⟩
    | 4, hq => cases hq; exact ⟨fun n z => ⟨(fun k h => by cases h), K24, g24, p24, h24⟩, K24, p24, g24, h24, e24, f24⟩
    | 5, hq => cases hq; exact ⟨fun n z => ⟨(fun k h => by cases h), K25, g25, p25, h25⟩, K25, p25, g25, h25, e25, f25⟩
    | k + 6, hq => simp [tys_] at hq
