/-! the walk over numbers: fields, arrays, new things -/
def dv_ (f : Nat) : Value := if (rs_ f).isSome then .null else .int 0
/-- a class's facts -/
def CF_ (t : Nat) (C : String) (T : u_T) (N : Nat) : Prop := vwCl[t]? = some (C, T, N) ∧ (∀ w ∈ u_ws C T N, w ∈ TW_) ∧ (∀ a, a < N → ∀ b, b < N → a ≠ b → (T a).2.1 ≠ (T b).2.1) ∧ ∃ ty : Nat → FieldType, (∀ k, k < N → parseFieldDescriptor (T k).2.2.1 = some (ty k)) ∧ ∀ k, k < N → defaultValue (ty k) = dv_ (32 * t + k)
/-- a place of the pool that names a field -/
def FL_ (own : String) (idx : Nat) (T : u_T) (k : Nat) : Prop := Cond.fieldLink own idx (T k).1 (T k).2.1 (T k).2.2.1 ∈ TW_ ∨ ∃ host, Cond.fieldLinkNest own idx (T k).1 (T k).2.1 (T k).2.2.1 host ∈ tables_1
def FG_ (own : String) (idx t k : Nat) : Prop := ∃ (C : String) (T : u_T) (N : Nat), CF_ t C T N ∧ k < N ∧ FL_ own idx T k
def FP_ (own : String) (idx t k : Nat) (ty : FieldType) : Prop := ∃ (C : String) (T : u_T) (N : Nat), CF_ t C T N ∧ k < N ∧ (T k).2.2.2 = false ∧ parseFieldDescriptor (T k).2.2.1 = some ty ∧ FL_ own idx T k
def FF_ (own : String) (idx t k : Nat) (ty : FieldType) : Prop := ∃ (C : String) (T : u_T) (N : Nat), CF_ t C T N ∧ k < N ∧ (T k).2.2.2 = true ∧ parseFieldDescriptor (T k).2.2.1 = some ty ∧ (T k).1 = own ∧ Cond.fieldLink own idx (T k).1 (T k).2.1 (T k).2.2.1 ∈ TW_
section KW
variable {p : Program} {l : Launch} {e : Env} {R : Room} {s : State} {m : MethodId} {args : Array Value} {below : List Frame} {meth : Method} {c : Code} {H : Heap} {locs : List Loc} {cells slots : Nat} {Q : State → Prop}
variable {own : String} {cc : ByteArray} {pc : Nat} {ls : Array Slot} {rest : List Value} {D : va_G} {α : Nat → Nat → Nat} {g : GS_} {A : Nat → Prop}
theorem w_get {idx t k a : Nat} (hF : FG_ own idx t k) (hx : p.tables.exec = Jvm.exec) (hb : c.code = cc) (hown : s.vm.findClass own = some m.cls) (hts : ∀ w ∈ TW_, w.before args s = true) (hA : Amb_ D s) (hR : Rep_ D α g H) (ha : a < gcn g t) (hd : decode cc pc = .ok (.getfield idx, 3))
    (kk : W p l e R s m args below meth c H locs cells slots Q (F0 m (pc + 3) ls (fv_ α g (32 * t + k) a :: rest))) : W p l e R s m args below meth c H locs cells slots Q (F0 m pc ls (.ref (α t a) :: rest)) := by
  obtain ⟨C, T, N, ⟨hc, hin, hnm, ty, hty, -⟩, hk, hl⟩ := hF
  obtain ⟨cell, q1, q2, q3, q4⟩ := hR.2.2.2.2.1 t C T N a hc ha
  obtain ⟨hS, hfc, kC, hkC, hkind⟩ := hA.1.1 t _ hc
  obtain ⟨cf, kf, fi, f, hi, hsl⟩ := hS k hk
  have hst := (u_facts hfc hkC (u_lays hts hin hk) hi).1
  have hv : cell.slots[f.slot]? = some (fv_ α g (32 * t + k) a) := by rw [hsl]; exact q4 k hk
  rcases hl with hl | ⟨host, hl⟩
  · exact W.getf hx hb hown (hts _ hl) hi hst q1 (by rw [q3]; exact fun h => by cases h) hv rfl rfl hd kk
  · exact va_Wgetf hx hb hown (va_Nw.use rfl (hA.2.1.1 _ _ _ _ _ _ hl)) hi hst q1 (by rw [q3]; exact fun h => by cases h) hv rfl rfl hd kk
theorem w_put {idx t k a : Nat} {ty : FieldType} {v : Value} (hF : FP_ own idx t k ty) (hx : p.tables.exec = Jvm.exec) (hb : c.code = cc) (hown : s.vm.findClass own = some m.cls) (hts : ∀ w ∈ TW_, w.before args s = true) (hA : Amb_ D s) (hR : Rep_ D α g H) (hS0 : va_S A s.heap H locs) (hAa : A (α t a)) (ha : a < gcn g t) (hn : narrow ty v = v) (hfit : fits ty v = true) (hd : decode cc pc = .ok (.putfield idx, 3))
    (kk : ∀ (H1 : Heap) (locs1 : List Loc), (∀ C T N, vwCl[t]? = some (C, T, N) → t_OB (α t a) (D.1 t) N (D.2 t) H1 (updV (fun k => fv_ α g (32 * t + k) a) k v)) → H1.size = H.size → (∀ q, q ≠ α t a → H1[q]? = H[q]?) → va_S A s.heap H1 locs1 → W p l e R s m args below meth c H1 locs1 cells slots Q (F0 m (pc + 3) ls rest)) : W p l e R s m args below meth c H locs cells slots Q (F0 m pc ls (v :: .ref (α t a) :: rest)) := by
  obtain ⟨C, T, N, ⟨hc, hin, hnm, ty0, hty, -⟩, hk, hfin, hty2, hl⟩ := hF
  have hap := va_apart (own := own) hts hin ty0 hty hnm hA.1 hc
  obtain ⟨cell, q1, q2, q3, q4⟩ := hR.2.2.2.2.1 t C T N a hc ha
  obtain ⟨hS, hfc, kC, hkC, hkind⟩ := hA.1.1 t _ hc
  obtain ⟨cf, kf, fi, f, hi, hsl⟩ := hS k hk
  have hlay := hts _ (hin _ (u_in_lay hk))
  unfold u_lay at hlay
  rw [if_neg (by rw [hfin]; decide)] at hlay
  have hst := (u_facts hfc hkC (u_lays hts hin hk) hi).1
  have h6 := u_store hfc hkC hkind hlay hi hty2 hn hfit
  have fin : ∀ H' : Heap, H'[α t a]? = some (cell.setSlot f.slot v) → H'.size = H.size → (∀ q, q ≠ α t a → H'[q]? = H[q]?) → W p l e R s m args below meth c H' (locs ++ [⟨α t a, f.slot⟩]) cells slots Q (F0 m (pc + 3) ls rest) := by
    intro H' e1 e2 e3
    refine kk H' _ (fun C' T' N' hc' => ?_) e2 e3 (hS0.put e2 e3 hAa)
    cases hc.symm.trans hc'
    rw [hsl] at e1
    exact ⟨_, e1, q2, q3, t_set q4 hap hk v⟩
  rcases hl with hl | ⟨host, hl⟩
  · exact W.putK hx hb (f := f) ⟨hown, hts _ hl, ⟨_, _, _, hi⟩, hst⟩ (by rw [q2]; exact h6) q1 q3 (by rw [hsl]; exact k2_hasslot (q4 k hk)) rfl rfl hd fin
  · exact va_WputK hx hb (f := f) hown (va_Nw.use rfl (hA.2.1.1 _ _ _ _ _ _ hl)) hi hst (by rw [q2]; exact h6) q1 q3 (by rw [hsl]; exact k2_hasslot (q4 k hk)) rfl rfl hd fin
theorem w_putF {idx t k a : Nat} {ty : FieldType} {v : Value} (hF : FF_ own idx t k ty) (hx : p.tables.exec = Jvm.exec) (hb : c.code = cc) (hown : s.vm.findClass own = some m.cls) (hts : ∀ w ∈ TW_, w.before args s = true) (hin2 : meth.name = "<init>") (hA : Amb_ D s) (hR : Rep_ D α g H) (hS0 : va_S A s.heap H locs) (hAa : A (α t a)) (ha : a < gcn g t) (hn : narrow ty v = v) (hfit : fits ty v = true) (hd : decode cc pc = .ok (.putfield idx, 3))
    (kk : ∀ (H1 : Heap) (locs1 : List Loc), (∀ C T N, vwCl[t]? = some (C, T, N) → t_OB (α t a) (D.1 t) N (D.2 t) H1 (updV (fun k => fv_ α g (32 * t + k) a) k v)) → H1.size = H.size → (∀ q, q ≠ α t a → H1[q]? = H[q]?) → va_S A s.heap H1 locs1 → W p l e R s m args below meth c H1 locs1 cells slots Q (F0 m (pc + 3) ls rest)) : W p l e R s m args below meth c H locs cells slots Q (F0 m pc ls (v :: .ref (α t a) :: rest)) := by
  obtain ⟨C, T, N, ⟨hc, hin, hnm, ty0, hty, -⟩, hk, hfin, hty2, hdecl, hl⟩ := hF
  have hap := va_apart (own := own) hts hin ty0 hty hnm hA.1 hc
  obtain ⟨cell, q1, q2, q3, q4⟩ := hR.2.2.2.2.1 t C T N a hc ha
  obtain ⟨hS, hfc, kC, hkC, hkind⟩ := hA.1.1 t _ hc
  obtain ⟨cf, kf, fi, f, hi, hsl⟩ := hS k hk
  have hlay := hts _ (hin _ (u_in_lay hk))
  unfold u_lay at hlay
  rw [if_pos hfin] at hlay
  have hst := (u_facts hfc hkC (u_lays hts hin hk) hi).1
  have hcf : m.cls = cf := by
    obtain ⟨_, _, c', _, _, _, -, -, hf', -, -, -, hown2, -⟩ := Cond.laysFinal_spec hlay
    have e1 : c' = cf := by have := hi.symm.trans hf'; simp at this; exact this.1.symm
    rw [hdecl] at hown2
    rw [← e1]; exact Option.some.inj (hown.symm.trans hown2)
  have h6 := u_fits hfc hkC hkind (Or.inr hlay) hi hty2 hn hfit
  refine W.putFinK hx hb hown (hts _ hl) hi hst hcf hin2 (by rw [q2]; exact h6) q1 q3 (by rw [hsl]; exact k2_hasslot (q4 k hk)) rfl rfl hd (fun H' e1 e2 e3 => ?_)
  refine kk H' _ (fun C' T' N' hc' => ?_) e2 e3 (hS0.put e2 e3 hAa)
  cases hc.symm.trans hc'
  rw [hsl] at e1
  exact ⟨_, e1, q2, q3, t_set q4 hap hk v⟩
theorem p1_ {q : Nat × va_E} (h : va_at D vwCl q H) : va_P D vwCl [q] H := by
  intro k q' hk
  cases k with
  | zero => cases hk; exact h
  | succ k => simp at hk
end KW
theorem cat_sum (α : Nat → Nat → Nat) : ∀ st : List AV_, ((st.map (cv_ α)).map fun v => v.category).sum = st.length
  | [] => rfl
  | v :: st => by
    simp only [List.map_cons, List.sum_cons, List.length_cons]
    rw [cv_cat, cat_sum α st]
    omega
theorem inb_in {i : Int32} {n : Nat} (h : inb i n) : vp_in i n := vp_in_iff.mpr h
def no_ {β : Type} (g : GS_) (t N : Nat) (o : Nat → GS_ → β) : β := o (gcn g t) (nwo g t N)
def na_ {β : Type} (g : GS_) (t : Nat) (n : Int32) (o : Nat → GS_ → Option β) : Option β := if 0 ≤ n.toInt ∧ n.toInt ≤ 100000 then o (gcn g t) (nwa g t n.toInt.toNat) else none
def cp_ {β : Type} (g : GS_) (a b : Nat) (sp dp n : Int32) (o : GS_ → Option β) : Option β := if (0 ≤ sp.toInt ∧ 0 ≤ dp.toInt ∧ 0 ≤ n.toInt) ∧ sp.toInt + n.toInt ≤ gln g 20 a ∧ dp.toInt + n.toInt ≤ gln g 20 b then o (saw g 20 b (va_cpy (gai g 20 a) (gai g 20 b) sp.toInt.toNat dp.toInt.toNat n.toInt.toNat)) else none
def jmax (x y : Int32) : Int32 := if x < y then y else x
def jmin (x y : Int32) : Int32 := if y < x then y else x
def jabs (x : Int32) : Int32 := if 0 ≤ x then x else 0 - x
section KH
variable {own : String} {cc : ByteArray} {nL : Nat} {ret : Option FieldType} {dep loc : Nat} {ini : Bool} {ρ : Type} {E : ρ → Option AV_} {pc : Nat} {L L' : List (Option AV_)} {st st' : List AV_} {g : GS_} {o : Option (ρ × GS_)} {oo : GS_ → Option (ρ × GS_)}
/-- a step that changes the heap and makes nothing -/
theorem k_liftG {pc' : Nat} {g' : GS_} (hcn : gcn g' = gcn g) (hhs : ghs g' = ghs g) (hsl : gsl g' = gsl g)
    (h : ∀ (p : Program) (l : Launch) (e : Env) (R : Room) (s : State) (m : MethodId) (args : Array Value) (below : List Frame) (meth : Method) (c : Code) (D : va_G) (A : Nat → Prop) (α : Nat → Nat → Nat) (H : Heap) (locs : List Loc) (ls : Array Slot) (cells slots : Nat) (Q : State → Prop), CX_ own cc nL ret dep loc ini D p R s m args meth c → cells ≤ R.cells → slots ≤ R.slots → Rep_ D α g H → (∀ t i, i < gcn g t → A (α t i)) → va_S A s.heap H locs → vL_ g L → vS_ g st → lvr_ α ls nL L →
      (∀ (H1 : Heap) (locs1 : List Loc), Rep_ D α g' H1 → va_S A s.heap H1 locs1 → W p l e R s m args below meth c H1 locs1 cells slots Q (F0 m pc' ls (st'.map (cv_ α)))) → W p l e R s m args below meth c H locs cells slots Q (F0 m pc ls (st.map (cv_ α))))
    (hst : vS_ g st → vS_ g st') (k : K_ own cc nL ret dep loc ini E pc' L st' g' o) : K_ own cc nL ret dep loc ini E pc L st g o := by
  intro r gf ho
  obtain ⟨hm, hk⟩ := k r gf ho
  rw [hhs, hsl] at hm
  refine ⟨hm, ?_⟩
  intro p l e R s m args below meth c D A α0 α g0 H locs ls cx sx hc hs vl vs hl
  obtain ⟨s1, s2, s3, s4, s5, s6, s7, s8⟩ := sx
  refine h p l e R s m args below meth c D A α H locs ls _ _ _ cx (by omega) (by omega) s1 s2 s4 vl vs hl (fun H1 locs1 hR hS => ?_)
  have hz := hk p l e R s m args below meth c D A α0 α g0 H1 locs1 ls cx ⟨hR, by rw [hcn]; exact s2, s3, hS, s5, by rw [hcn]; exact s6, by rw [hhs]; exact s7, by rw [hsl]; exact s8⟩ hc hs (vL_mono (fun t => by rw [hcn]; exact Nat.le_refl _) vl) (vS_mono (fun t => by rw [hcn]; exact Nat.le_refl _) (hst vs)) hl
  rw [hhs, hsl] at hz
  exact hz
/-- a step that makes a cell of n slots -/
theorem k_liftN {pc' t n : Nat} {g' : GS_} (hcn : gcn g' = fun x => if x = t then gcn g t + 1 else gcn g x) (hhs : ghs g' = ghs g + 1) (hsl : gsl g' = gsl g + n)
    (h : ∀ (p : Program) (l : Launch) (e : Env) (R : Room) (s : State) (m : MethodId) (args : Array Value) (below : List Frame) (meth : Method) (c : Code) (D : va_G) (α : Nat → Nat → Nat) (H : Heap) (locs : List Loc) (ls : Array Slot) (cells slots : Nat) (Q : State → Prop), CX_ own cc nL ret dep loc ini D p R s m args meth c → cells + 1 ≤ R.cells → slots + n ≤ R.slots → Rep_ D α g H →
      (∀ (H1 : Heap), Rep_ D (aup_ α t (gcn g t) H.size) g' H1 → H1.size = H.size + 1 → (∀ q, q < H.size → H1[q]? = H[q]?) → W p l e R s m args below meth c H1 locs (cells + 1) (slots + n) Q (F0 m pc' ls (.ref H.size :: st'.map (cv_ α)))) → W p l e R s m args below meth c H locs cells slots Q (F0 m pc ls (st.map (cv_ α))))
    (hst : vS_ g st → vS_ g st') (k : K_ own cc nL ret dep loc ini E pc' L (.inr (t, some (gcn g t)) :: st') g' o) : K_ own cc nL ret dep loc ini E pc L st g o := by
  intro r gf ho
  obtain ⟨hm, hk⟩ := k r gf ho
  rw [hhs, hsl] at hm
  refine ⟨⟨by omega, by omega⟩, ?_⟩
  intro p l e R s m args below meth c D A α0 α g0 H locs ls cx sx hc hs vl vs hl
  obtain ⟨s1, s2, s3, s4, s5, s6, s7, s8⟩ := sx
  have up : ∀ x, gcn g x ≤ gcn g' x := by
    intro x
    rw [hcn]
    by_cases e : x = t
    · simp [e]
    · simp [e]
  have hA : ∀ t' i', i' < gcn g t' → aup_ α t (gcn g t) H.size t' i' = α t' i' := aup_old
  refine h p l e R s m args below meth c D α H locs ls _ _ _ cx (by omega) (by omega) s1 (fun H1 hR z oq => ?_)
  have hz := hk p l e R s m args below meth c D A α0 (aup_ α t (gcn g t) H.size) g0 H1 locs ls cx ⟨hR, ?_, s3, ⟨by have := s4.1; omega, fun q h1 h2 => (oq q (Nat.lt_of_lt_of_le h1 s4.1)).trans (s4.2.1 q h1 h2), s4.2.2⟩, fun t' i hi => (hA t' i (Nat.lt_of_lt_of_le hi (s6 t'))).trans (s5 t' i hi), fun t' => Nat.le_trans (s6 t') (up t'), by omega, by omega⟩ hc hs (vL_mono up vl) (vS_c (fun i hi => by cases hi; show gcn g t < gcn g' t; rw [hcn]; simp) (vS_mono up (hst vs))) (lvr_ext hA vl hl)
  · have e1 : ghs g' - ghs g0 = ghs g - ghs g0 + 1 := by omega
    have e2 : gsl g' - gsl g0 = gsl g - gsl g0 + n := by omega
    rw [e1, e2, List.map_cons, map_ext hA (hst vs)] at hz
    have e3 : cv_ (aup_ α t (gcn g t) H.size) (.inr (t, some (gcn g t))) = .ref H.size := by
      show Value.ref (aup_ α t (gcn g t) H.size t (gcn g t)) = _
      rw [aup_new]
    rw [e3] at hz
    exact hz
  · intro t' i hi
    by_cases e : t' = t ∧ i = gcn g t
    · obtain ⟨rfl, rfl⟩ := e
      rw [aup_new]
      exact s3 _ s4.1
    · have h1 : i < gcn g t' := by
        rw [hcn] at hi
        by_cases e1 : t' = t
        · simp only [e1, if_true] at hi
          have e2 : i ≠ gcn g t := fun q => e ⟨e1, q⟩
          rw [e1]; omega
        · simpa [e1] using hi
      rw [hA t' i h1]
      exact s2 t' i h1
-- fields
theorem k_geti {idx t k f a : Nat} (hF : FG_ own idx t k) (he : 32 * t + k = f) (hr : rs_ f = none) (d : decode cc pc = .ok (.getfield idx, 3)) (k1 : K_ own cc nL ret dep loc ini E (pc + 3) L (.inl (gfi g f a) :: st) g o) : K_ own cc nL ret dep loc ini E pc L (.inr (t, some a) :: st) g o := by
  subst he
  refine k_lift (fun p l e R s m args below meth c D α H locs ls cells slots Q cx _ _ hR vl vs hl kk => ?_) k1
  refine w_get hF cx.1 cx.2.1 cx.2.2.2.2.1 cx.2.2.2.2.2.1 cx.2.2.2.2.2.2.2.2.2.2 hR (ok_s (vS_h vs)) d ?_
  rw [fv_i hr]
  exact kk vl (vS_i (vS_t vs)) ls hl
theorem k_getr {idx t k f a t2 : Nat} {ox : Option Nat → Option (ρ × GS_)} (hF : FG_ own idx t k) (he : 32 * t + k = f) (hr : rs_ f = some t2) (d : decode cc pc = .ok (.getfield idx, 3)) (k1 : ∀ x, K_ own cc nL ret dep loc ini E (pc + 3) L (.inr (t2, x) :: st) g (ox x)) : K_ own cc nL ret dep loc ini E pc L (.inr (t, some a) :: st) g (lr_ (gfr g f a) ox) := by
  subst he
  refine k_lift (fun p l e R s m args below meth c D α H locs ls cells slots Q cx _ _ hR vl vs hl kk => ?_) (k1 (gfr g (32 * t + k) a))
  refine w_get hF cx.1 cx.2.1 cx.2.2.2.2.1 cx.2.2.2.2.2.1 cx.2.2.2.2.2.2.2.2.2.2 hR (ok_s (vS_h vs)) d ?_
  rw [fv_r hr]
  refine kk vl (vS_c (fun i hi => hR.2.2.1 _ _ _ _ hr ?_ hi) (vS_t vs)) ls hl
  obtain ⟨C, T, N, hcf, hk, -⟩ := hF
  rw [f_div (by have := (vw_le hcf.1).1; omega)]
  exact ok_s (vS_h vs)
theorem FP_lt {idx t k : Nat} {ty : FieldType} (hF : FP_ own idx t k ty) : t < 11 ∧ k < 32 := by
  obtain ⟨C, T, N, hcf, hk, -⟩ := hF
  have := vw_le hcf.1
  omega
theorem FF_lt {idx t k : Nat} {ty : FieldType} (hF : FF_ own idx t k ty) : t < 11 ∧ k < 32 := by
  obtain ⟨C, T, N, hcf, hk, -⟩ := hF
  have := vw_le hcf.1
  omega
theorem k_puti {idx t k f a : Nat} {v : Int32} (hF : FP_ own idx t k .int) (he : 32 * t + k = f) (hr : rs_ f = none) (d : decode cc pc = .ok (.putfield idx, 3)) (k1 : ∀ g', K_ own cc nL ret dep loc ini E (pc + 3) L st g' (oo g')) : K_ own cc nL ret dep loc ini E pc L (.inl v :: .inr (t, some a) :: st) g (lr_ (sfi g f a v) oo) := by
  subst he
  refine k_liftG (g' := sfi g (32 * t + k) a v) rfl rfl rfl (fun p l e R s m args below meth c D A α H locs ls cells slots Q cx _ _ hR hA hS vl vs hl kk => ?_) (fun h => vS_t (vS_t h)) (k1 _)
  have ha := ok_s (vS_h (vS_t vs))
  exact w_put hF cx.1 cx.2.1 cx.2.2.2.2.1 cx.2.2.2.2.2.1 cx.2.2.2.2.2.2.2.2.2.2 hR hS (hA _ _ ha) ha rfl rfl d (fun H1 locs1 e1 z oq hS1 => kk H1 locs1 (rep_fi hR (FP_lt hF).1 ha (FP_lt hF).2 hr e1 z oq) hS1)
theorem k_putz {idx t k f a : Nat} {v : Int32} (hF : FP_ own idx t k .boolean) (he : 32 * t + k = f) (hr : rs_ f = none) (hv : v = 0 ∨ v = 1) (d : decode cc pc = .ok (.putfield idx, 3)) (k1 : ∀ g', K_ own cc nL ret dep loc ini E (pc + 3) L st g' (oo g')) : K_ own cc nL ret dep loc ini E pc L (.inl v :: .inr (t, some a) :: st) g (lr_ (sfi g f a v) oo) := by
  subst he
  refine k_liftG (g' := sfi g (32 * t + k) a v) rfl rfl rfl (fun p l e R s m args below meth c D A α H locs ls cells slots Q cx _ _ hR hA hS vl vs hl kk => ?_) (fun h => vS_t (vS_t h)) (k1 _)
  have ha := ok_s (vS_h (vS_t vs))
  exact w_put hF cx.1 cx.2.1 cx.2.2.2.2.1 cx.2.2.2.2.2.1 cx.2.2.2.2.2.2.2.2.2.2 hR hS (hA _ _ ha) ha (by rcases hv with rfl | rfl <;> rfl) (by rcases hv with rfl | rfl <;> rfl) d (fun H1 locs1 e1 z oq hS1 => kk H1 locs1 (rep_fi hR (FP_lt hF).1 ha (FP_lt hF).2 hr e1 z oq) hS1)
/-- a boolean that must be looked at -/
theorem k_putzc {idx t k f a : Nat} {v : Int32} (hF : FP_ own idx t k .boolean) (he : 32 * t + k = f) (hr : rs_ f = none) (d : decode cc pc = .ok (.putfield idx, 3)) (k1 : ∀ g', K_ own cc nL ret dep loc ini E (pc + 3) L st g' (oo g')) : K_ own cc nL ret dep loc ini E pc L (.inl v :: .inr (t, some a) :: st) g (if v = 0 ∨ v = 1 then lr_ (sfi g f a v) oo else none) :=
  k_case (fun h => k_putz hF he hr h d k1) (fun _ => k_fail)
theorem k_putr {idx t k f a t2 : Nat} {ty : FieldType} {x : Option Nat} (hF : FP_ own idx t k ty) (hty : ∀ w, narrow ty (va_rf w) = va_rf w ∧ fits ty (va_rf w) = true) (he : 32 * t + k = f) (hr : rs_ f = some t2) (d : decode cc pc = .ok (.putfield idx, 3)) (k1 : ∀ g', K_ own cc nL ret dep loc ini E (pc + 3) L st g' (oo g')) : K_ own cc nL ret dep loc ini E pc L (.inr (t2, x) :: .inr (t, some a) :: st) g (lr_ (sfr g f a x) oo) := by
  subst he
  refine k_liftG (g' := sfr g (32 * t + k) a x) rfl rfl rfl (fun p l e R s m args below meth c D A α H locs ls cells slots Q cx _ _ hR hA hS vl vs hl kk => ?_) (fun h => vS_t (vS_t h)) (k1 _)
  have ha := ok_s (vS_h (vS_t vs))
  exact w_put (v := va_rf (x.map (α t2))) hF cx.1 cx.2.1 cx.2.2.2.2.1 cx.2.2.2.2.2.1 cx.2.2.2.2.2.2.2.2.2.2 hR hS (hA _ _ ha) ha (hty _).1 (hty _).2 d (fun H1 locs1 e1 z oq hS1 => kk H1 locs1 (rep_fr hR (FP_lt hF).1 ha (FP_lt hF).2 hr (vS_h vs) e1 z oq) hS1)
theorem k_putfi {idx t k f a : Nat} {v : Int32} (hF : FF_ own idx t k .int) (he : 32 * t + k = f) (hr : rs_ f = none) (hini : ini = true) (d : decode cc pc = .ok (.putfield idx, 3)) (k1 : ∀ g', K_ own cc nL ret dep loc ini E (pc + 3) L st g' (oo g')) : K_ own cc nL ret dep loc ini E pc L (.inl v :: .inr (t, some a) :: st) g (lr_ (sfi g f a v) oo) := by
  subst he
  refine k_liftG (g' := sfi g (32 * t + k) a v) rfl rfl rfl (fun p l e R s m args below meth c D A α H locs ls cells slots Q cx _ _ hR hA hS vl vs hl kk => ?_) (fun h => vS_t (vS_t h)) (k1 _)
  have ha := ok_s (vS_h (vS_t vs))
  exact w_putF hF cx.1 cx.2.1 cx.2.2.2.2.1 cx.2.2.2.2.2.1 (cx.2.2.2.2.2.2.2.2.2.1 hini) cx.2.2.2.2.2.2.2.2.2.2 hR hS (hA _ _ ha) ha rfl rfl d (fun H1 locs1 e1 z oq hS1 => kk H1 locs1 (rep_fi hR (FF_lt hF).1 ha (FF_lt hF).2 hr e1 z oq) hS1)
theorem k_putfz {idx t k f a : Nat} {v : Int32} (hF : FF_ own idx t k .boolean) (he : 32 * t + k = f) (hr : rs_ f = none) (hini : ini = true) (hv : v = 0 ∨ v = 1) (d : decode cc pc = .ok (.putfield idx, 3)) (k1 : ∀ g', K_ own cc nL ret dep loc ini E (pc + 3) L st g' (oo g')) : K_ own cc nL ret dep loc ini E pc L (.inl v :: .inr (t, some a) :: st) g (lr_ (sfi g f a v) oo) := by
  subst he
  refine k_liftG (g' := sfi g (32 * t + k) a v) rfl rfl rfl (fun p l e R s m args below meth c D A α H locs ls cells slots Q cx _ _ hR hA hS vl vs hl kk => ?_) (fun h => vS_t (vS_t h)) (k1 _)
  have ha := ok_s (vS_h (vS_t vs))
  exact w_putF hF cx.1 cx.2.1 cx.2.2.2.2.1 cx.2.2.2.2.2.1 (cx.2.2.2.2.2.2.2.2.2.1 hini) cx.2.2.2.2.2.2.2.2.2.2 hR hS (hA _ _ ha) ha (by rcases hv with rfl | rfl <;> rfl) (by rcases hv with rfl | rfl <;> rfl) d (fun H1 locs1 e1 z oq hS1 => kk H1 locs1 (rep_fi hR (FF_lt hF).1 ha (FF_lt hF).2 hr e1 z oq) hS1)
theorem k_putfzc {idx t k f a : Nat} {v : Int32} (hF : FF_ own idx t k .boolean) (he : 32 * t + k = f) (hr : rs_ f = none) (hini : ini = true) (d : decode cc pc = .ok (.putfield idx, 3)) (k1 : ∀ g', K_ own cc nL ret dep loc ini E (pc + 3) L st g' (oo g')) : K_ own cc nL ret dep loc ini E pc L (.inl v :: .inr (t, some a) :: st) g (if v = 0 ∨ v = 1 then lr_ (sfi g f a v) oo else none) :=
  k_case (fun h => k_putfz hF he hr hini h d k1) (fun _ => k_fail)
theorem k_putfr {idx t k f a t2 : Nat} {ty : FieldType} {x : Option Nat} (hF : FF_ own idx t k ty) (hty : ∀ w, narrow ty (va_rf w) = va_rf w ∧ fits ty (va_rf w) = true) (he : 32 * t + k = f) (hr : rs_ f = some t2) (hini : ini = true) (d : decode cc pc = .ok (.putfield idx, 3)) (k1 : ∀ g', K_ own cc nL ret dep loc ini E (pc + 3) L st g' (oo g')) : K_ own cc nL ret dep loc ini E pc L (.inr (t2, x) :: .inr (t, some a) :: st) g (lr_ (sfr g f a x) oo) := by
  subst he
  refine k_liftG (g' := sfr g (32 * t + k) a x) rfl rfl rfl (fun p l e R s m args below meth c D A α H locs ls cells slots Q cx _ _ hR hA hS vl vs hl kk => ?_) (fun h => vS_t (vS_t h)) (k1 _)
  have ha := ok_s (vS_h (vS_t vs))
  exact w_putF (v := va_rf (x.map (α t2))) hF cx.1 cx.2.1 cx.2.2.2.2.1 cx.2.2.2.2.2.1 (cx.2.2.2.2.2.2.2.2.2.1 hini) cx.2.2.2.2.2.2.2.2.2.2 hR hS (hA _ _ ha) ha (hty _).1 (hty _).2 d (fun H1 locs1 e1 z oq hS1 => kk H1 locs1 (rep_fr hR (FF_lt hF).1 ha (FF_lt hF).2 hr (vS_h vs) e1 z oq) hS1)
theorem ty_obj {C : String} : ∀ w, narrow (.object C) (va_rf w) = va_rf w ∧ fits (.object C) (va_rf w) = true := by
  intro w
  cases w <;> exact ⟨rfl, rfl⟩
theorem ty_arr {t : FieldType} : ∀ w, narrow (.array t) (va_rf w) = va_rf w ∧ fits (.array t) (va_rf w) = true := by
  intro w
  cases w <;> exact ⟨rfl, rfl⟩
-- arrays of ints
theorem k_iald {a : Nat} {i : Int32} (d : decode cc pc = .ok (.iaload, 1)) (k1 : K_ own cc nL ret dep loc ini E (pc + 1) L (.inl (gai g 20 a i.toInt.toNat) :: st) g o) : K_ own cc nL ret dep loc ini E pc L (.inl i :: .inr (20, some a) :: st) g (if inb i (gln g 20 a) then o else none) := by
  refine k_case (fun hin => ?_) (fun _ => k_fail)
  refine k_lift (fun p l e R s m args below meth c D α H locs ls cells slots Q cx _ _ hR vl vs hl kk => ?_) k1
  have ha := ok_s (vS_h (vS_t vs))
  exact va_iald cx.1 cx.2.1 cx.2.2.2.2.2.2.2.2.2.2.1 (p1_ (q := (α 20 a, .inl (D.1 20, gln g 20 a, .inl (gai g 20 a)))) (hR.2.2.2.2.2.1 20 a (Or.inl rfl) ha)) 0 0 rfl rfl (inb_in hin) d (kk vl (vS_i (vS_t (vS_t vs))) ls hl)
theorem k_zald {a : Nat} {i : Int32} (d : decode cc pc = .ok (.baload, 1)) (k1 : K_ own cc nL ret dep loc ini E (pc + 1) L (.inl (gai g 21 a i.toInt.toNat) :: st) g o) : K_ own cc nL ret dep loc ini E pc L (.inl i :: .inr (21, some a) :: st) g (if inb i (gln g 21 a) then o else none) := by
  refine k_case (fun hin => ?_) (fun _ => k_fail)
  refine k_lift (fun p l e R s m args below meth c D α H locs ls cells slots Q cx _ _ hR vl vs hl kk => ?_) k1
  have ha := ok_s (vS_h (vS_t vs))
  exact va_zald cx.1 cx.2.1 cx.2.2.2.2.2.2.2.2.2.2.1 (p1_ (q := (α 21 a, .inl (D.1 21, gln g 21 a, .inl (gai g 21 a)))) (hR.2.2.2.2.2.1 21 a (Or.inr rfl) ha)) 0 1 rfl rfl (inb_in hin) d (kk vl (vS_i (vS_t (vS_t vs))) ls hl)
theorem k_alen {t a : Nat} (d : decode cc pc = .ok (.arraylength, 1)) (ht : t = 20 ∨ t = 22 ∨ t = 23 ∨ t = 24 ∨ t = 25) (k1 : K_ own cc nL ret dep loc ini E (pc + 1) L (.inl (Int32.ofNat (gln g t a)) :: st) g o) : K_ own cc nL ret dep loc ini E pc L (.inr (t, some a) :: st) g o := by
  refine k_lift (fun p l e R s m args below meth c D α H locs ls cells slots Q cx _ _ hR vl vs hl kk => ?_) k1
  have ha := ok_s (vS_h vs)
  have hk := kk vl (vS_i (vS_t vs)) ls hl
  have hK := cx.2.2.2.2.2.2.2.2.2.2.1
  rcases ht with rfl | rfl | rfl | rfl | rfl
  · exact va_alen cx.1 cx.2.1 hK (p1_ (q := (α 20 a, .inl (D.1 20, gln g 20 a, .inl (gai g 20 a)))) (hR.2.2.2.2.2.1 20 a (Or.inl rfl) ha)) 0 0 rfl rfl rfl d hk
  · exact va_alen cx.1 cx.2.1 hK (p1_ (q := (α 22 a, .inl (D.1 22, gln g 22 a, .inr (.inr (.inr (.inr (fun j => (gar g 22 a j).map (α 0)))))))) (hR.2.2.2.2.2.2 22 0 a rfl ha)) 0 2 rfl rfl rfl d hk
  · exact va_alen cx.1 cx.2.1 hK (p1_ (q := (α 23 a, .inl (D.1 23, gln g 23 a, .inr (.inr (.inr (.inr (fun j => (gar g 23 a j).map (α 1)))))))) (hR.2.2.2.2.2.2 23 1 a rfl ha)) 0 3 rfl rfl rfl d hk
  · exact va_alen cx.1 cx.2.1 hK (p1_ (q := (α 24 a, .inl (D.1 24, gln g 24 a, .inr (.inr (.inr (.inr (fun j => (gar g 24 a j).map (α 5)))))))) (hR.2.2.2.2.2.2 24 5 a rfl ha)) 0 4 rfl rfl rfl d hk
  · exact va_alen cx.1 cx.2.1 hK (p1_ (q := (α 25 a, .inl (D.1 25, gln g 25 a, .inr (.inr (.inr (.inr (fun j => (gar g 25 a j).map (α 8)))))))) (hR.2.2.2.2.2.2 25 8 a rfl ha)) 0 5 rfl rfl rfl d hk
theorem upd_cell {c : ClassId} {n j : Nat} {f f' : Nat → Int32} {x : Int32} (h : ∀ q, f' q = if q = j then x else f q) : (vp_cell c (n, .inl f)).setSlot j (.int x) = vp_cell c (n, .inl f') := by
  rw [vp_cell_i, vp_cell_i, arrV_store]
  congr 1
  funext q
  rw [h q]
  by_cases e : q = j
  · simp [updV, e]
  · simp [updV, e]
theorem k_iast {a : Nat} {i v : Int32} (d : decode cc pc = .ok (.iastore, 1)) (k1 : ∀ g', K_ own cc nL ret dep loc ini E (pc + 1) L st g' (oo g')) : K_ own cc nL ret dep loc ini E pc L (.inl v :: .inl i :: .inr (20, some a) :: st) g (if inb i (gln g 20 a) then lr_ (sai g 20 a i.toInt.toNat v) oo else none) := by
  refine k_case (fun hin => ?_) (fun _ => k_fail)
  refine k_liftG (g' := sai g 20 a i.toInt.toNat v) rfl rfl rfl (fun p l e R s m args below meth c D A α H locs ls cells slots Q cx _ _ hR hA hS vl vs hl kk => ?_) (fun h => vS_t (vS_t (vS_t h))) (k1 _)
  have ha := ok_s (vS_h (vS_t (vS_t vs)))
  have hc := hR.2.2.2.2.2.1 20 a (Or.inl rfl) ha
  have hK := cx.2.2.2.2.2.2.2.2.2.2.1
  refine W.iast cx.1 cx.2.1 hc ((hK.2 0 _ rfl).1 (gln g 20 a) (fun j => .int (gai g 20 a j))) (fun q => by cases q) (by show ¬ (i < 0 ∨ (arrV _ _ _).slots.size ≤ _); rw [arrV_size]; exact inb_in hin) rfl rfl d fun H1 e z oq => ?_
  refine kk H1 _ (rep_ai hR (Or.inl rfl) ha rfl rfl rfl rfl rfl (fun t' i' hne => ?_) ?_ z oq) (hS.put z oq (hA _ _ ha))
  · funext j
    show (if t' = 20 ∧ i' = a ∧ j = i.toInt.toNat then v else gai g t' i' j) = _
    rw [if_neg (by omega)]
  · rw [e]
    refine congrArg some (upd_cell (fun q => ?_))
    show (if 20 = 20 ∧ a = a ∧ q = i.toInt.toNat then v else gai g 20 a q) = _
    simp only [true_and]
    rfl
theorem k_zast {a : Nat} {i v : Int32} (hv : v = 0 ∨ v = 1) (d : decode cc pc = .ok (.bastore, 1)) (k1 : ∀ g', K_ own cc nL ret dep loc ini E (pc + 1) L st g' (oo g')) : K_ own cc nL ret dep loc ini E pc L (.inl v :: .inl i :: .inr (21, some a) :: st) g (if inb i (gln g 21 a) then lr_ (sai g 21 a i.toInt.toNat v) oo else none) := by
  refine k_case (fun hin => ?_) (fun _ => k_fail)
  refine k_liftG (g' := sai g 21 a i.toInt.toNat v) rfl rfl rfl (fun p l e R s m args below meth c D A α H locs ls cells slots Q cx _ _ hR hA hS vl vs hl kk => ?_) (fun h => vS_t (vS_t (vS_t h))) (k1 _)
  have ha := ok_s (vS_h (vS_t (vS_t vs)))
  have hc := hR.2.2.2.2.2.1 21 a (Or.inr rfl) ha
  have hK := cx.2.2.2.2.2.2.2.2.2.2.1
  refine W.zast cx.1 cx.2.1 hc ((hK.2 1 _ rfl).1 (gln g 21 a) (fun j => .int (gai g 21 a j))) (fun q => by cases q) (by show ¬ (i < 0 ∨ (arrV _ _ _).slots.size ≤ _); rw [arrV_size]; exact inb_in hin) rfl rfl d fun H1 e z oq => ?_
  refine kk H1 _ (rep_ai hR (Or.inr rfl) ha rfl rfl rfl rfl rfl (fun t' i' hne => ?_) ?_ z oq) (hS.put z oq (hA _ _ ha))
  · funext j
    show (if t' = 21 ∧ i' = a ∧ j = i.toInt.toNat then v else gai g t' i' j) = _
    rw [if_neg (by omega)]
  · rw [e]
    have en : narrow .boolean (.int v) = .int v := by rcases hv with rfl | rfl <;> rfl
    rw [en]
    refine congrArg some (upd_cell (fun q => ?_))
    show (if 21 = 21 ∧ a = a ∧ q = i.toInt.toNat then v else gai g 21 a q) = _
    simp only [true_and]
    rfl
-- arrays of references
theorem tys_at {D : va_G} {t t2 : Nat} (h : es_ t = some t2) : ∃ (k : Nat) (C : String) (T : u_T) (N : Nat), (tys_ D)[k]? = some (D.1 t, .object C) ∧ vwCl[t2]? = some (C, T, N) := by
  have hE := es_ge h
  rcases (show t = 22 ∨ t = 23 ∨ t = 24 ∨ t = 25 by omega) with rfl | rfl | rfl | rfl
  · cases h; exact ⟨2, _, _, _, rfl, rfl⟩
  · cases h; exact ⟨3, _, _, _, rfl, rfl⟩
  · cases h; exact ⟨4, _, _, _, rfl, rfl⟩
  · cases h; exact ⟨5, _, _, _, rfl, rfl⟩
theorem k_aald {t t2 a : Nat} {i : Int32} {ox : Option Nat → Option (ρ × GS_)} (ht : es_ t = some t2) (d : decode cc pc = .ok (.aaload, 1)) (k1 : ∀ x, K_ own cc nL ret dep loc ini E (pc + 1) L (.inr (t2, x) :: st) g (ox x)) : K_ own cc nL ret dep loc ini E pc L (.inl i :: .inr (t, some a) :: st) g (if inb i (gln g t a) then lr_ (gar g t a i.toInt.toNat) ox else none) := by
  refine k_case (fun hin => ?_) (fun _ => k_fail)
  refine k_lift (fun p l e R s m args below meth c D α H locs ls cells slots Q cx _ _ hR vl vs hl kk => ?_) (k1 (gar g t a i.toInt.toNat))
  have ha := ok_s (vS_h (vS_t vs))
  obtain ⟨k, C, T, N, hk, -⟩ := tys_at (D := D) ht
  refine va_aldq cx.1 cx.2.1 cx.2.2.2.2.2.2.2.2.2.2.1 (p1_ (q := (α t a, .inl (D.1 t, gln g t a, .inr (.inr (.inr (.inr (fun j => (gar g t a j).map (α t2)))))))) (hR.2.2.2.2.2.2 t t2 a ht ha)) 0 k rfl hk (inb_in hin) d (kk vl (vS_c (fun j hj => ?_) (vS_t (vS_t vs))) ls hl)
  exact hR.2.2.2.1 t t2 a _ j ht ha (by have := hin.1; have := hin.2; omega) hj
theorem k_aast {t t2 a b : Nat} {i : Int32} (ht : es_ t = some t2) (d : decode cc pc = .ok (.aastore, 1)) (k1 : ∀ g', K_ own cc nL ret dep loc ini E (pc + 1) L st g' (oo g')) : K_ own cc nL ret dep loc ini E pc L (.inr (t2, some b) :: .inl i :: .inr (t, some a) :: st) g (if inb i (gln g t a) then lr_ (sar g t a i.toInt.toNat (some b)) oo else none) := by
  refine k_case (fun hin => ?_) (fun _ => k_fail)
  refine k_liftG (g' := sar g t a i.toInt.toNat (some b)) rfl rfl rfl (fun p l e R s m args below meth c D A α H locs ls cells slots Q cx _ _ hR hA hS vl vs hl kk => ?_) (fun h => vS_t (vS_t (vS_t h))) (k1 _)
  have ha := ok_s (vS_h (vS_t (vS_t vs)))
  have hb := ok_s (vS_h vs)
  have hc := hR.2.2.2.2.2.2 t t2 a ht ha
  have hK := cx.2.2.2.2.2.2.2.2.2.2.1
  obtain ⟨k, C, T, N, hk, hvw⟩ := tys_at (D := D) ht
  obtain ⟨cellV, g1, g2, g3, -⟩ := hR.2.2.2.2.1 t2 C T N b hvw hb
  have hcls := (hK.1 t2 _ hvw).2
  obtain ⟨kA, comp, k1, k2, k3, -⟩ := (hK.2 k _ hk).2
  have hcomp : comp = D.1 t2 := Option.some.inj (k3.symm.trans hcls.1)
  subst hcomp
  obtain ⟨kC, hkC, -⟩ := hcls.2
  have hv := inb_in hin
  refine W.aast cx.1 cx.2.1 hc (fun q h => by cases h) (fun h => by cases h) k1 k2 rfl hkC ⟨fun q => hv (Or.inl q), by show _ < (arrV _ _ _).slots.size; rw [arrV_size]; exact Nat.not_le.mp fun q => hv (Or.inr q)⟩ g1 (fun q h => by rw [g3] at h; cases h) (by rw [g2]; exact hkC) (by rw [g2]; exact va_assign hcls) rfl rfl d fun H1 e z oq => ?_
  refine kk H1 _ (rep_ar hR ht ha (vS_h vs) ?_ z oq) (hS.put z oq (hA _ _ ha))
  rw [e]
  rw [vp_cell_q, vp_cell_q, arrV_store]
  congr 2
  funext q
  by_cases e : q = i.toInt.toNat
  · subst e
    have e3 : i.toNatClampNeg = i.toInt.toNat := rfl
    rw [e3]
    simp [updV, va_up, va_rf]
  · have e2 : ¬ q = i.toNatClampNeg := e
    simp [updV, va_up, e, e2]
-- new things
theorem dv_none {t k i : Nat} {α : Nat → Nat → Nat} {g : GS_} (h1 : gfi g (32 * t + k) i = 0) (h2 : gfr g (32 * t + k) i = none) : fv_ α g (32 * t + k) i = dv_ (32 * t + k) := by
  unfold dv_
  cases hr : rs_ (32 * t + k) with
  | none => rw [fv_i hr, h1]; rfl
  | some t2 => rw [fv_r hr, h2]; rfl
theorem k_new {idx t N : Nat} {C : String} {T : u_T} {on : Nat → GS_ → Option (ρ × GS_)} (hcf : CF_ t C T N) (hl : Cond.classLink own idx C ∈ TW_) (hi : Cond.instantiable C N ∈ TW_) (hz : Cond.initialized C ∈ TW_) (d : decode cc pc = .ok (.new idx, 3)) (k1 : ∀ q g', K_ own cc nL ret dep loc ini E (pc + 3) L (.inr (t, some q) :: st) g' (on q g')) : K_ own cc nL ret dep loc ini E pc L st g (no_ g t N on) := by
  refine k_liftN (g' := nwo g t N) (t := t) (n := N) rfl rfl rfl (fun p l e R s m args below meth c D α H locs ls cells slots Q cx hce hsl hR kk => ?_) id (k1 (gcn g t) (nwo g t N))
  have hK := cx.2.2.2.2.2.2.2.2.2.2.1
  have hts := cx.2.2.2.2.2.1
  obtain ⟨hc, hin, hnm, ty, hty, hdv⟩ := hcf
  have hKn := hK.1 t _ hc
  refine W.newcK cx.1 cx.2.1 cx.2.2.2.2.1 (hts _ hl) (hts _ hi) (hts _ hz) rfl d hce hsl hKn.2.1 rfl fun H1 kC hkC e1 z1 o1 => ?_
  refine kk H1 (rep_new hR rfl ?_ ?_ ?_ ?_ z1 o1 ?_ ?_ ?_) z1 o1
  · intro f i hne
    have hne2 : ¬ (f / 32 = t ∧ i = gcn g t) := by omega
    exact ⟨if_neg hne2, if_neg hne2⟩
  · exact fun t' i _ => ⟨rfl, rfl, rfl⟩
  · exact fun f t2 _ hf => if_pos ⟨hf, rfl⟩
  · intro j t2 he
    have := es_ge he
    have := (vw_le hc).2
    omega
  · intro C' T' N' hc'
    cases hc.symm.trans hc'
    refine (u_born ty hts hin hKn hkC e1 hty).to (fun k hk => ?_)
    have hk32 : k < 32 := by have := (vw_le hc).1; omega
    rw [hdv k hk]
    have h1 : gfi (nwo g t N) (32 * t + k) (gcn g t) = 0 := if_pos ⟨f_div hk32, rfl⟩
    have h2 : gfr (nwo g t N) (32 * t + k) (gcn g t) = none := if_pos ⟨f_div hk32, rfl⟩
    exact (dv_none h1 h2).symm
  · intro ht
    have := (vw_le hc).2
    omega
  · intro t2 ht
    have := es_ge ht
    have := (vw_le hc).2
    omega
theorem k_newa {n : Int32} {on : Nat → GS_ → Option (ρ × GS_)} (hw : Cond.arrayClass .int ∈ TW_) (d : decode cc pc = .ok (.newarray .int, 2)) (k1 : ∀ q g', K_ own cc nL ret dep loc ini E (pc + 2) L (.inr (20, some q) :: st) g' (on q g')) : K_ own cc nL ret dep loc ini E pc L (.inl n :: st) g (na_ g 20 n on) := by
  refine k_case (fun hn => ?_) (fun _ => k_fail)
  refine k_liftN (g' := nwa g 20 n.toInt.toNat) (t := 20) (n := n.toInt.toNat) rfl rfl rfl (fun p l e R s m args below meth c D α H locs ls cells slots Q cx hce hsl hR kk => ?_) vS_t (k1 (gcn g 20) (nwa g 20 n.toInt.toNat))
  have hK := cx.2.2.2.2.2.2.2.2.2.2.1
  have hts := cx.2.2.2.2.2.1
  have hn0 : ¬ n < 0 := by rw [Int32.lt_iff_toInt_lt, Int32.toInt_zero]; omega
  refine va_newaK (atype := .int) (N := n.toInt.toNat) cx.1 cx.2.1 (hts _ hw) rfl d rfl hn0 rfl (by show n.toInt.toNat * 4 ≤ _; omega) hce hsl rfl fun H1 cA e1 z1 o1 hAr hNm => ?_
  have hcA : cA = D.1 20 := Option.some.inj (hNm.symm.trans (hK.2 0 _ rfl).2)
  subst hcA
  refine kk H1 (rep_new hR rfl ?_ ?_ ?_ ?_ z1 o1 ?_ ?_ ?_) z1 o1
  · exact fun f i _ => ⟨rfl, rfl⟩
  · intro t' i hne
    have hne2 : ¬ (t' = 20 ∧ i = gcn g 20) := by omega
    exact ⟨if_neg hne2, if_neg hne2, if_neg hne2⟩
  · intro f t2 hr hf
    exfalso
    unfold rs_ at hr
    split at hr <;> first | omega | (cases hr)
  · intro j t2 he
    have := es_ge he
    omega
  · intro C' T' N' hc'
    have := (vw_le hc').2
    omega
  · intro _
    rw [e1]
    have h1 : gln (nwa g 20 n.toInt.toNat) 20 (gcn g 20) = n.toInt.toNat := if_pos ⟨rfl, rfl⟩
    have h2 : gai (nwa g 20 n.toInt.toNat) 20 (gcn g 20) = fun _ => 0 := if_pos ⟨rfl, rfl⟩
    rw [h1, h2]
    rfl
  · intro t2 ht
    have := es_ge ht
    omega
theorem k_newz {n : Int32} {on : Nat → GS_ → Option (ρ × GS_)} (hw : Cond.arrayClass .boolean ∈ TW_) (d : decode cc pc = .ok (.newarray .boolean, 2)) (k1 : ∀ q g', K_ own cc nL ret dep loc ini E (pc + 2) L (.inr (21, some q) :: st) g' (on q g')) : K_ own cc nL ret dep loc ini E pc L (.inl n :: st) g (na_ g 21 n on) := by
  refine k_case (fun hn => ?_) (fun _ => k_fail)
  refine k_liftN (g' := nwa g 21 n.toInt.toNat) (t := 21) (n := n.toInt.toNat) rfl rfl rfl (fun p l e R s m args below meth c D α H locs ls cells slots Q cx hce hsl hR kk => ?_) vS_t (k1 (gcn g 21) (nwa g 21 n.toInt.toNat))
  have hK := cx.2.2.2.2.2.2.2.2.2.2.1
  have hts := cx.2.2.2.2.2.1
  have hn0 : ¬ n < 0 := by rw [Int32.lt_iff_toInt_lt, Int32.toInt_zero]; omega
  refine va_newaK (atype := .boolean) (N := n.toInt.toNat) cx.1 cx.2.1 (hts _ hw) rfl d rfl hn0 rfl (by show n.toInt.toNat * 1 ≤ _; omega) hce hsl rfl fun H1 cA e1 z1 o1 hAr hNm => ?_
  have hcA : cA = D.1 21 := Option.some.inj (hNm.symm.trans (hK.2 1 _ rfl).2)
  subst hcA
  refine kk H1 (rep_new hR rfl ?_ ?_ ?_ ?_ z1 o1 ?_ ?_ ?_) z1 o1
  · exact fun f i _ => ⟨rfl, rfl⟩
  · intro t' i hne
    have hne2 : ¬ (t' = 21 ∧ i = gcn g 21) := by omega
    exact ⟨if_neg hne2, if_neg hne2, if_neg hne2⟩
  · intro f t2 hr hf
    exfalso
    unfold rs_ at hr
    split at hr <;> first | omega | (cases hr)
  · intro j t2 he
    have := es_ge he
    omega
  · intro C' T' N' hc'
    have := (vw_le hc').2
    omega
  · intro _
    rw [e1]
    have h1 : gln (nwa g 21 n.toInt.toNat) 21 (gcn g 21) = n.toInt.toNat := if_pos ⟨rfl, rfl⟩
    have h2 : gai (nwa g 21 n.toInt.toNat) 21 (gcn g 21) = fun _ => 0 := if_pos ⟨rfl, rfl⟩
    rw [h1, h2]
    rfl
  · intro t2 ht
    have := es_ge ht
    omega
theorem ao_use {t t2 : Nat} {D : va_G} {s : State} (h : es_ t = some t2) (hA : Amb_ D s) : ∃ (C : String) (T : u_T) (N k : Nat), vwCl[t2]? = some (C, T, N) ∧ va_AO C s ∧ (tys_ D)[k]? = some (D.1 t, .object C) := by
  have hE := es_ge h
  rcases (show t = 22 ∨ t = 23 ∨ t = 24 ∨ t = 25 by omega) with rfl | rfl | rfl | rfl
  · cases h; exact ⟨_, _, _, 2, rfl, hA.2.2.1, rfl⟩
  · cases h; exact ⟨_, _, _, 3, rfl, hA.2.2.2.1, rfl⟩
  · cases h; exact ⟨_, _, _, 4, rfl, hA.2.2.2.2.1, rfl⟩
  · cases h; exact ⟨_, _, _, 5, rfl, hA.2.2.2.2.2, rfl⟩
theorem k_anew {idx t t2 : Nat} {n : Int32} {on : Nat → GS_ → Option (ρ × GS_)} (ht : es_ t = some t2) (hl : ∀ C T N, vwCl[t2]? = some (C, T, N) → Cond.classLink own idx C ∈ TW_) (d : decode cc pc = .ok (.anewarray idx, 3)) (k1 : ∀ q g', K_ own cc nL ret dep loc ini E (pc + 3) L (.inr (t, some q) :: st) g' (on q g')) : K_ own cc nL ret dep loc ini E pc L (.inl n :: st) g (na_ g t n on) := by
  refine k_case (fun hn => ?_) (fun _ => k_fail)
  refine k_liftN (g' := nwa g t n.toInt.toNat) (t := t) (n := n.toInt.toNat) rfl rfl rfl (fun p l e R s m args below meth c D α H locs ls cells slots Q cx hce hsl hR kk => ?_) vS_t (k1 (gcn g t) (nwa g t n.toInt.toNat))
  have hK := cx.2.2.2.2.2.2.2.2.2.2.1
  have hts := cx.2.2.2.2.2.1
  have hn0 : ¬ n < 0 := by rw [Int32.lt_iff_toInt_lt, Int32.toInt_zero]; omega
  have hE := es_ge ht
  obtain ⟨C, T, N, k, hvw, hao, hk⟩ := ao_use (D := D) ht cx.2.2.2.2.2.2.2.2.2.2
  refine W.anew cx.1 cx.2.1 cx.2.2.2.2.1 (hts _ (hl C T N hvw)) (va_AO.use hao) rfl d rfl hn0 (by show n.toInt.toNat * 4 ≤ _; omega) hce hsl fun cA kA comp f1 f2 f3 f4 => ?_
  generalize hH1 : H.push ({ cls := cA, slots := Array.replicate n.toNatClampNeg .null, vm := .none } : Cell) = H1
  have z1 : H1.size = H.size + 1 := by rw [← hH1, Array.size_push]
  have e1 : H1[H.size]? = some (arrV cA n.toNatClampNeg (fun _ => .null)) := by rw [← hH1, Array.getElem?_push_size, ← arrV_new]
  have o1 : ∀ q : Nat, q < H.size → H1[q]? = H[q]? := fun q hq => by rw [← hH1, Array.getElem?_push, if_neg (Nat.ne_of_lt hq)]
  obtain ⟨-, -, -, -, -, h9⟩ := (hK.2 k _ hk).2
  have hcA : cA = D.1 t := Option.some.inj (f1.symm.trans h9)
  subst hcA
  refine kk H1 (rep_new hR rfl ?_ ?_ ?_ ?_ z1 o1 ?_ ?_ ?_) z1 o1
  · exact fun f i _ => ⟨rfl, rfl⟩
  · intro t' i hne
    have hne2 : ¬ (t' = t ∧ i = gcn g t) := by omega
    exact ⟨if_neg hne2, if_neg hne2, if_neg hne2⟩
  · intro f t3 hr hf
    exfalso
    unfold rs_ at hr
    split at hr <;> first | omega | (cases hr)
  · intro j t3 he
    have h2 : gar (nwa g t n.toInt.toNat) t (gcn g t) = fun _ => none := if_pos ⟨rfl, rfl⟩
    rw [h2]
  · intro C' T' N' hc'
    have := (vw_le hc').2
    omega
  · intro h
    omega
  · intro t3 ht3
    rw [e1]
    have h1 : gln (nwa g t n.toInt.toNat) t (gcn g t) = n.toInt.toNat := if_pos ⟨rfl, rfl⟩
    have h2 : gar (nwa g t n.toInt.toNat) t (gcn g t) = fun _ => none := if_pos ⟨rfl, rfl⟩
    rw [h1, h2]
    rfl
-- java.lang.Object's constructor, Math, arraycopy
theorem k_objInit {idx : Nat} {t a : Nat} (hl : Cond.methodLink own idx objectInit ∈ TW_) (hi : Cond.instanceMethod objectInit ∈ TW_) (hc : Cond.code objectInit ⟨#[0xb1]⟩ 1 none ∈ TW_) (hd : 1 ≤ dep) (hlo : st.length + 12 ≤ loc) (d : decode cc pc = .ok (.invokespecial idx, 3)) (k1 : K_ own cc nL ret dep loc ini E (pc + 3) L st g o) : K_ own cc nL ret dep loc ini E pc L (.inr (t, some a) :: st) g o := by
  refine k_lift (fun p l e R s m args below meth c D α H locs ls cells slots Q cx _ _ hR vl vs hl' kk => ?_) k1
  have hts := cx.2.2.2.2.2.1
  refine W.objInit cx.1 cx.2.1 cx.2.2.2.2.1 (hts _ hl) (hts _ hi) (hts _ hc) rfl (by rw [cx.2.2.2.1]; exact hl'.1) rfl d (Nat.le_trans hd cx.2.2.2.2.2.2.2.1) ?_ (kk vl (vS_t vs) ls hl')
  show 2 * 0 + ((st.map (cv_ α)).map fun v => v.category).sum + 12 ≤ R.locals
  rw [cat_sum]
  have := cx.2.2.2.2.2.2.2.2.1
  omega
def MW_ (y : MethodName) (b : ByteArray) (n : Nat) : Prop := Cond.static y ∈ TW_ ∧ Cond.initialized "java/lang/Math" ∈ TW_ ∧ Cond.code y b n (some .int) ∈ TW_
theorem k_max {idx : Nat} {x y : Int32} (hw : MW_ Lib.Math.max.name Lib.Math.max.code 2) (hl : Cond.methodLink own idx Lib.Math.max.name ∈ TW_) (hd : 1 ≤ dep) (hlo : st.length + 13 ≤ loc) (d : decode cc pc = .ok (.invokestatic idx, 3)) (k1 : K_ own cc nL ret dep loc ini E (pc + 3) L (.inl (jmax x y) :: st) g o) : K_ own cc nL ret dep loc ini E pc L (.inl y :: .inl x :: st) g o := by
  refine k_lift (fun p l e R s m args below meth c D α H locs ls cells slots Q cx hce hsl hR vl vs hl' kk => ?_) k1
  have hts := cx.2.2.2.2.2.1
  refine va_mmax cx.1 cx.2.1 (by rw [cx.2.2.2.1]; exact hl'.1.symm) cx.2.2.2.2.1 (hts _ hl) (hts _ hw.1) (hts _ hw.2.1) (hts _ hw.2.2) (Nat.le_trans hd cx.2.2.2.2.2.2.2.1) ?_ hce hsl d (kk vl (vS_i (vS_t (vS_t vs))) ls hl')
  rw [cat_sum]
  have := cx.2.2.2.2.2.2.2.2.1
  omega
theorem k_min {idx : Nat} {x y : Int32} (hw : MW_ Lib.Math.min.name Lib.Math.min.code 2) (hl : Cond.methodLink own idx Lib.Math.min.name ∈ TW_) (hd : 1 ≤ dep) (hlo : st.length + 13 ≤ loc) (d : decode cc pc = .ok (.invokestatic idx, 3)) (k1 : K_ own cc nL ret dep loc ini E (pc + 3) L (.inl (jmin x y) :: st) g o) : K_ own cc nL ret dep loc ini E pc L (.inl y :: .inl x :: st) g o := by
  refine k_lift (fun p l e R s m args below meth c D α H locs ls cells slots Q cx hce hsl hR vl vs hl' kk => ?_) k1
  have hts := cx.2.2.2.2.2.1
  refine va_mmin cx.1 cx.2.1 (by rw [cx.2.2.2.1]; exact hl'.1.symm) cx.2.2.2.2.1 (hts _ hl) (hts _ hw.1) (hts _ hw.2.1) (hts _ hw.2.2) (Nat.le_trans hd cx.2.2.2.2.2.2.2.1) ?_ hce hsl d (kk vl (vS_i (vS_t (vS_t vs))) ls hl')
  rw [cat_sum]
  have := cx.2.2.2.2.2.2.2.2.1
  omega
theorem k_abs {idx : Nat} {x : Int32} (hw : MW_ Lib.Math.abs.name Lib.Math.abs.code 1) (hl : Cond.methodLink own idx Lib.Math.abs.name ∈ TW_) (hd : 1 ≤ dep) (hlo : st.length + 13 ≤ loc) (d : decode cc pc = .ok (.invokestatic idx, 3)) (k1 : K_ own cc nL ret dep loc ini E (pc + 3) L (.inl (jabs x) :: st) g o) : K_ own cc nL ret dep loc ini E pc L (.inl x :: st) g o := by
  refine k_lift (fun p l e R s m args below meth c D α H locs ls cells slots Q cx hce hsl hR vl vs hl' kk => ?_) k1
  have hts := cx.2.2.2.2.2.1
  refine va_mabs cx.1 cx.2.1 (by rw [cx.2.2.2.1]; exact hl'.1.symm) cx.2.2.2.2.1 (hts _ hl) (hts _ hw.1) (hts _ hw.2.1) (hts _ hw.2.2) (Nat.le_trans hd cx.2.2.2.2.2.2.2.1) ?_ hce hsl d (kk vl (vS_i (vS_t vs)) ls hl')
  rw [cat_sum]
  have := cx.2.2.2.2.2.2.2.2.1
  omega
def YW_ : Prop := Cond.native arraycopyName ∈ TW_ ∧ Cond.static arraycopyName ∈ TW_ ∧ Cond.initialized "java/lang/System" ∈ TW_
theorem k_copy {idx a b : Nat} {sp dp n : Int32} (hw : YW_) (hl : Cond.methodLink own idx arraycopyName ∈ TW_) (hd : 1 ≤ dep) (hlo : st.length + (nativeFrameWords "java/lang/System" "arraycopy" 5 + 11) ≤ loc) (d : decode cc pc = .ok (.invokestatic idx, 3)) (k1 : ∀ g', K_ own cc nL ret dep loc ini E (pc + 3) L st g' (oo g')) : K_ own cc nL ret dep loc ini E pc L (.inl n :: .inl dp :: .inr (20, some b) :: .inl sp :: .inr (20, some a) :: st) g (cp_ g a b sp dp n oo) := by
  refine k_case (fun hz => ?_) (fun _ => k_fail)
  obtain ⟨⟨z1, z2, z3⟩, z4, z5⟩ := hz
  refine k_liftG (g' := saw g 20 b (va_cpy (gai g 20 a) (gai g 20 b) sp.toInt.toNat dp.toInt.toNat n.toInt.toNat)) rfl rfl rfl (fun p l e R s m args below meth c D A α H locs ls cells slots Q cx _ _ hR hA hS vl vs hl' kk => ?_) (fun h => vS_t (vS_t (vS_t (vS_t (vS_t h))))) (k1 _)
  have hts := cx.2.2.2.2.2.1
  have hK := cx.2.2.2.2.2.2.2.2.2.2.1
  have hb := ok_s (vS_h (vS_t (vS_t vs)))
  have ha := ok_s (vS_h (vS_t (vS_t (vS_t (vS_t vs)))))
  have hc0 := hR.2.2.2.2.2.1 20 a (Or.inl rfl) ha
  have hc1 := hR.2.2.2.2.2.1 20 b (Or.inl rfl) hb
  have ng : ∀ z : Int32, 0 ≤ z.toInt → ¬ z < 0 := by
    intro z hz
    rw [Int32.lt_iff_toInt_lt, Int32.toInt_zero]
    omega
  have ht : sp.toInt.toNat + n.toInt.toNat ≤ gln g 20 a ∧ dp.toInt.toNat + n.toInt.toNat ≤ gln g 20 b := by omega
  intro T hT X
  obtain ⟨-, k0, hk0, cm0, hkk0⟩ := (hK.2 0 _ rfl).1 (gln g 20 a) (fun j => .int (gai g 20 a j))
  obtain ⟨-, k1', hk1, cm1, hkk1⟩ := (hK.2 0 _ rfl).1 (gln g 20 b) (fun j => .int (gai g 20 b j))
  obtain ⟨vm', X', step⟩ := X.arraycopy cx.1 cx.2.2.2.2.1 (hts _ hl) (hts _ hw.1) (hts _ hw.2.1) (hts _ hw.2.2) (src := α 20 a) (dst := α 20 b) (cs := vp_cell (D.1 20) (gln g 20 a, .inl (gai g 20 a))) (cd := vp_cell (D.1 20) (gln g 20 b, .inl (gai g 20 b))) (srcPos := sp) (destPos := dp) (n := n) (by rw [hT]; exact hc0) (by rw [hT]; exact hc1)
    (fun _ h => by cases h) (fun _ h => by cases h) (fun h => by cases h) (fun h => by cases h) hk0 hk1 hkk0 hkk1 (by simp [refKind]) (ng sp z1) (ng dp z2) (ng n z3)
    (by show ¬ _ > ((arrV (D.1 20) (gln g 20 a) (fun j => .int (gai g 20 a j))).slots.size : Int); rw [arrV_size]; omega)
    (by show ¬ _ > ((arrV (D.1 20) (gln g 20 b) (fun j => .int (gai g 20 b j))).slots.size : Int); rw [arrV_size]; omega)
    (fun vm₁ _ i hi => by
      have hi : i < n.toInt.toNat := hi
      have e : (vp_cell (D.1 20) (gln g 20 a, .inl (gai g 20 a))).slots.getD (sp.toNatClampNeg + i) .null = .int (gai g 20 a (sp.toNatClampNeg + i)) := by
        show (arrV (D.1 20) (gln g 20 a) (fun j => .int (gai g 20 a j))).slots.getD _ _ = _
        rw [Array.getD_eq_getD_getElem?, arrV_read _ _ (by show sp.toInt.toNat + i < _; omega)]
        rfl
      refine ⟨?_, ?_⟩
      · rw [e]
        rfl
      · rw [e]
        exact trivial)
    (g := F0 m pc ls ((.inl n :: .inl dp :: .inr (20, some b) :: .inl sp :: .inr (20, some a) :: st : List AV_).map (cv_ α))) rfl (by rw [cx.2.2.2.1]; exact hl'.1) (rest := st.map (cv_ α)) rfl (by rw [cx.2.1]; exact d) (Nat.le_trans hd cx.2.2.2.2.2.2.2.1) (by
      show 2 * 0 + ((st.map (cv_ α)).map fun v => v.category).sum + (nativeFrameWords "java/lang/System" "arraycopy" 5 + 11) ≤ R.locals
      rw [cat_sum]
      have := cx.2.2.2.2.2.2.2.2.1
      omega)
  have e1 : copied (vp_cell (D.1 20) (gln g 20 a, .inl (gai g 20 a))) (vp_cell (D.1 20) (gln g 20 b, .inl (gai g 20 b))) sp dp n = vp_cell (D.1 20) (gln g 20 b, .inl (va_cpy (gai g 20 a) (gai g 20 b) sp.toNatClampNeg dp.toNatClampNeg n.toNatClampNeg)) := va_copied (fun z => .int z) (D.1 20) (D.1 20) (gai g 20 a) (gai g 20 b) ht.1
  rw [e1] at X' step
  have hlt : α 20 b < H.size := hR.1 20 b hb
  have hheap : ((T.setVm vm').setCell (α 20 b) (vp_cell (D.1 20) (gln g 20 b, .inl (va_cpy (gai g 20 a) (gai g 20 b) sp.toNatClampNeg dp.toNatClampNeg n.toNatClampNeg)))).heap = H.setIfInBounds (α 20 b) (vp_cell (D.1 20) (gln g 20 b, .inl (va_cpy (gai g 20 a) (gai g 20 b) sp.toNatClampNeg dp.toNatClampNeg n.toNatClampNeg))) := by rw [← hT]; rfl
  have oq : ∀ q : Nat, q ≠ α 20 b → (H.setIfInBounds (α 20 b) (vp_cell (D.1 20) (gln g 20 b, .inl (va_cpy (gai g 20 a) (gai g 20 b) sp.toNatClampNeg dp.toNatClampNeg n.toNatClampNeg))))[q]? = H[q]? := fun q hq => by simp [Array.getElem?_setIfInBounds, Ne.symm hq]
  have z : (H.setIfInBounds (α 20 b) (vp_cell (D.1 20) (gln g 20 b, .inl (va_cpy (gai g 20 a) (gai g 20 b) sp.toNatClampNeg dp.toNatClampNeg n.toNatClampNeg)))).size = H.size := by simp
  have hS1 := hS
  obtain ⟨t, a1, b1⟩ := kk _ _ (rep_ai hR (Or.inl rfl) hb rfl rfl rfl rfl rfl (fun t' i' hne => by
      show (if t' = 20 ∧ i' = b then _ else gai g t' i') = _
      rw [if_neg (by omega)]) (by
      show (H.setIfInBounds (α 20 b) _)[α 20 b]? = some (vp_cell _ (_, .inl (if 20 = 20 ∧ b = b then _ else gai g 20 b)))
      rw [if_pos ⟨rfl, rfl⟩]
      simp [Array.getElem?_setIfInBounds, hlt]) z oq) ⟨by rw [z]; exact hS.1, fun q g1 g2 => by
        rw [oq q (fun e => g2 (by rw [e]; exact hA _ _ hb))]
        exact hS.2.1 q g1 g2, fun q hq => by
        rcases List.mem_append.mp hq with h | h
        · exact hS.2.2 q h
        · obtain ⟨z, -, hz⟩ := List.mem_map.mp h
          rw [← hz]
          exact hA _ _ hb⟩ _ hheap X'
  exact ⟨t, step t a1, b1⟩
end KH
