/-! THE WALK OVER NUMBERS: K_ says of an instruction of a method, with its locals, its stack and the heap as numbers, that the machine goes from there to the method's end as the outcome o tells (o = none: nothing is said). -/
def TW_ : List Cond := lw_tbl.filter goodWord
theorem tw_mem {w : Cond} (h : w ∈ lw_tbl) (hg : goodWord w = true) : w ∈ TW_ := List.mem_filter.mpr ⟨h, hg⟩
theorem tw_good {ws : List Cond} (h : ∀ w ∈ ws, w ∈ TW_) : GoodIn TW_ ws := fun w hw => ⟨h w hw, good_of_word (List.mem_filter.mp (h w hw)).2⟩
def tys_ (D : va_G) : List (ClassId × FieldType) := [(D.1 20, .int), (D.1 21, .boolean), (D.1 22, .object RX0), (D.1 23, .object RX1), (D.1 24, .object RX5), (D.1 25, .object RX8)]
def NW_ (U : State) : Prop := (∀ a i b n d h, Cond.fieldLinkNest a i b n d h ∈ tables_1 → va_Nw (.fieldLinkNest a i b n d h) U) ∧ ∀ a i x h, Cond.methodLinkNest a i x h ∈ tables_1 → va_Nw (.methodLinkNest a i x h) U
def AO_ (U : State) : Prop := va_AO RX0 U ∧ va_AO RX1 U ∧ va_AO RX5 U ∧ va_AO RX8 U
def Amb_ (D : va_G) (U : State) : Prop := va_K D vwCl (tys_ D) U ∧ NW_ U ∧ AO_ U
theorem Amb_.warm {D : va_G} {s U : State} (hW : s.WarmedH U.vm) (h : Amb_ D s) : Amb_ D U :=
  ⟨va_K.moved hW.alike h.1, ⟨fun a i b n d h9 hm => va_Nw.warmF hW (h.2.1.1 a i b n d h9 hm), fun a i x h9 hm => va_Nw.warmM hW (h.2.1.2 a i x h9 hm)⟩, h.2.2.1.moved hW.alike, h.2.2.2.1.moved hW.alike, h.2.2.2.2.1.moved hW.alike, h.2.2.2.2.2.moved hW.alike⟩
theorem Amb_.calling {D : va_G} {U : State} (g : JFrame) (mk : MethodId) (a : Array Value) (h : Amb_ D U) : Amb_ D (U.calling g mk a) :=
  ⟨va_K.moved (u := U) (U := U.calling g mk a) (Vm.Alike.refl U.vm) h.1, ⟨fun a' i b n d h9 hm => va_Nw.same rfl (rfl : U.vm = (U.calling g mk a).vm) (h.2.1.1 a' i b n d h9 hm), fun a' i x h9 hm => va_Nw.same rfl (rfl : U.vm = (U.calling g mk a).vm) (h.2.1.2 a' i x h9 hm)⟩, va_AO.moved (u := U) (U := U.calling g mk a) (Vm.Alike.refl U.vm) h.2.2.1, va_AO.moved (u := U) (U := U.calling g mk a) (Vm.Alike.refl U.vm) h.2.2.2.1, va_AO.moved (u := U) (U := U.calling g mk a) (Vm.Alike.refl U.vm) h.2.2.2.2.1, va_AO.moved (u := U) (U := U.calling g mk a) (Vm.Alike.refl U.vm) h.2.2.2.2.2⟩
/-- what stands still in a method -/
def CX_ (own : String) (cc : ByteArray) (nL : Nat) (ret : Option FieldType) (dep loc : Nat) (ini : Bool) (D : va_G) (p : Program) (R : Room) (s : State) (m : MethodId) (args : Array Value) (meth : Method) (c : Code) : Prop :=
  p.tables.exec = Jvm.exec ∧ c.code = cc ∧ meth.sig.returnType = ret ∧ c.maxLocals = nL ∧ s.vm.findClass own = some m.cls ∧ (∀ w ∈ TW_, w.before args s = true) ∧ meth.locks = false ∧ dep ≤ R.frames ∧ loc ≤ R.locals ∧ (ini = true → meth.name = "<init>") ∧ Amb_ D s
/-- what moves with the heap -/
def SX_ (D : va_G) (A : Nat → Prop) (s : State) (α0 α : Nat → Nat → Nat) (g0 g : GS_) (H : Heap) (locs : List Loc) : Prop :=
  Rep_ D α g H ∧ (∀ t i, i < gcn g t → A (α t i)) ∧ (∀ q : Nat, s.heap.size ≤ q → A q) ∧ va_S A s.heap H locs ∧ (∀ t i, i < gcn g0 t → α t i = α0 t i) ∧ (∀ t, gcn g0 t ≤ gcn g t) ∧ ghs g0 ≤ ghs g ∧ gsl g0 ≤ gsl g
def QC_ (D : va_G) (A : Nat → Prop) (α0 : Nat → Nat → Nat) (g0 gf : GS_) (v : Option AV_) : State → Outcome → State → Prop := fun st oc t =>
  ∃ α : Nat → Nat → Nat, oc = .returned (v.map (cv_ α)) ∧ Rep_ D α gf t.heap ∧ Amb_ D t ∧ (∀ t' i, i < gcn g0 t' → α t' i = α0 t' i) ∧ (∀ t', gcn g0 t' ≤ gcn gf t') ∧ (∀ t' i, i < gcn gf t' → A (α t' i)) ∧ (∀ w, v = some w → ok_ gf w) ∧ va_F A st t
def K_ (own : String) (cc : ByteArray) (nL : Nat) (ret : Option FieldType) (dep loc : Nat) (ini : Bool) {ρ : Type} (E : ρ → Option AV_) (pc : Nat) (L : List (Option AV_)) (st : List AV_) (g : GS_) (o : Option (ρ × GS_)) : Prop :=
  ∀ (r : ρ) (gf : GS_), o = some (r, gf) → (ghs g ≤ ghs gf ∧ gsl g ≤ gsl gf) ∧
    ∀ (p : Program) (l : Launch) (e : Env) (R : Room) (s : State) (m : MethodId) (args : Array Value) (below : List Frame) (meth : Method) (c : Code) (D : va_G) (A : Nat → Prop) (α0 α : Nat → Nat → Nat) (g0 : GS_) (H : Heap) (locs : List Loc) (ls : Array Slot),
      CX_ own cc nL ret dep loc ini D p R s m args meth c → SX_ D A s α0 α g0 g H locs → ghs gf - ghs g0 ≤ R.cells → gsl gf - gsl g0 ≤ R.slots → vL_ g L → vS_ g st → lvr_ α ls nL L →
      W p l e R s m args below meth c H locs (ghs g - ghs g0) (gsl g - gsl g0) (MQ below (fun _ => QC_ D A α0 g0 gf (E r)) args s (ghs gf - ghs g0) (gsl gf - gsl g0) A) (F0 m pc ls (st.map (cv_ α)))
/-- names that the outcomes use -/
def lr_ {α β : Type} (x : α) (f : α → β) : β := f x
def bd_ {α β : Type} (x : Option (α × GS_)) (f : α → GS_ → Option β) : Option β := x.bind fun q => f q.1 q.2
def oc_ {β : Type} (x : Option Nat) (a : β) (b : Nat → β) : β := match x with
  | none => a
  | some i => b i
abbrev inb (i : Int32) (n : Nat) : Prop := 0 ≤ i.toInt ∧ i.toInt < n
theorem oc_none {β : Type} (a : β) (b : Nat → β) : oc_ none a b = a := rfl
theorem oc_some {β : Type} (i : Nat) (a : β) (b : Nat → β) : oc_ (some i) a b = b i := rfl
theorem bd_none {α β : Type} (f : α → GS_ → Option β) : bd_ none f = none := rfl
theorem bd_some {α β : Type} (x : α) (g : GS_) (f : α → GS_ → Option β) : bd_ (some (x, g)) f = f x g := rfl
section KR
variable {own : String} {cc : ByteArray} {nL : Nat} {ret : Option FieldType} {dep loc : Nat} {ini : Bool} {ρ : Type} {E : ρ → Option AV_} {pc : Nat} {L L' : List (Option AV_)} {st st' : List AV_} {g : GS_} {o : Option (ρ × GS_)}
theorem k_fail : K_ own cc nL ret dep loc ini E pc L st g (none : Option (ρ × GS_)) := fun r gf h => by cases h
theorem k_lift {pc' : Nat}
    (h : ∀ (p : Program) (l : Launch) (e : Env) (R : Room) (s : State) (m : MethodId) (args : Array Value) (below : List Frame) (meth : Method) (c : Code) (D : va_G) (α : Nat → Nat → Nat) (H : Heap) (locs : List Loc) (ls : Array Slot) (cells slots : Nat) (Q : State → Prop), CX_ own cc nL ret dep loc ini D p R s m args meth c → cells ≤ R.cells → slots ≤ R.slots → Rep_ D α g H → vL_ g L → vS_ g st → lvr_ α ls nL L →
      (vL_ g L' → vS_ g st' → ∀ ls', lvr_ α ls' nL L' → W p l e R s m args below meth c H locs cells slots Q (F0 m pc' ls' (st'.map (cv_ α)))) → W p l e R s m args below meth c H locs cells slots Q (F0 m pc ls (st.map (cv_ α))))
    (k : K_ own cc nL ret dep loc ini E pc' L' st' g o) : K_ own cc nL ret dep loc ini E pc L st g o := by
  intro r gf ho
  obtain ⟨hm, hk⟩ := k r gf ho
  refine ⟨hm, ?_⟩
  intro p l e R s m args below meth c D A α0 α g0 H locs ls cx sx hc hs vl vs hl
  exact h p l e R s m args below meth c D α H locs ls _ _ _ cx (by omega) (by omega) sx.1 vl vs hl (fun vl' vs' ls' hl' => hk p l e R s m args below meth c D A α0 α g0 H locs ls' cx sx hc hs vl' vs' hl')
/-- a step that needs the heap not at all, nor new locals -/
theorem k_step {pc' : Nat}
    (h : ∀ (p : Program) (l : Launch) (e : Env) (R : Room) (s : State) (m : MethodId) (args : Array Value) (below : List Frame) (meth : Method) (c : Code) (α : Nat → Nat → Nat) (H : Heap) (locs : List Loc) (ls : Array Slot) (cells slots : Nat) (Q : State → Prop), p.tables.exec = Jvm.exec → c.code = cc →
      W p l e R s m args below meth c H locs cells slots Q (F0 m pc' ls (st'.map (cv_ α))) → W p l e R s m args below meth c H locs cells slots Q (F0 m pc ls (st.map (cv_ α))))
    (hst : vS_ g st → vS_ g st') (k : K_ own cc nL ret dep loc ini E pc' L st' g o) : K_ own cc nL ret dep loc ini E pc L st g o :=
  k_lift (fun p l e R s m args below meth c D α H locs ls cells slots Q cx _ _ hR vl vs hl kk => h p l e R s m args below meth c α H locs ls cells slots Q cx.1 cx.2.1 (kk vl (hst vs) ls hl)) k
theorem k_mask (h : ∀ (i : Nat) (v : AV_), L'[i]? = some (some v) → L[i]? = some (some v)) (k : K_ own cc nL ret dep loc ini E pc L' st g o) : K_ own cc nL ret dep loc ini E pc L st g o :=
  k_lift (fun p l e R s m args below meth c D α H locs ls cells slots Q cx _ _ hR vl vs hl kk => kk (fun i v hv => vl i v (h i v hv)) vs ls ⟨hl.1, hl.2.1, fun i v hv => hl.2.2 i v (h i v hv)⟩) k
def mk_ (b : List Bool) (L : List (Option AV_)) : List (Option AV_) := match b, L with
  | true :: bs, x :: xs => x :: mk_ bs xs
  | false :: bs, _ :: xs => none :: mk_ bs xs
  | _, _ => []
theorem mk_sub : ∀ (b : List Bool) (L : List (Option AV_)) (i : Nat) (v : AV_), (mk_ b L)[i]? = some (some v) → L[i]? = some (some v)
  | [], L, i, v, h => by simp [mk_] at h
  | true :: bs, [], i, v, h => by simp [mk_] at h
  | false :: bs, [], i, v, h => by simp [mk_] at h
  | true :: bs, x :: xs, 0, v, h => by simpa [mk_] using h
  | true :: bs, x :: xs, i + 1, v, h => by
    simp only [mk_, List.getElem?_cons_succ] at h ⊢
    exact mk_sub bs xs i v h
  | false :: bs, x :: xs, 0, v, h => by simp [mk_] at h
  | false :: bs, x :: xs, i + 1, v, h => by
    simp only [mk_, List.getElem?_cons_succ] at h ⊢
    exact mk_sub bs xs i v h
theorem k_msk (b : List Bool) (h : mk_ b L = L') (k : K_ own cc nL ret dep loc ini E pc L' st g o) : K_ own cc nL ret dep loc ini E pc L st g o := k_mask (fun i v hv => mk_sub b L i v (by rw [h]; exact hv)) k
-- constants
theorem k_iconst {n : Int} {v : Int32} (d : decode cc pc = .ok (.iconst n, 1)) (hv : Int32.ofInt n = v) (k : K_ own cc nL ret dep loc ini E (pc + 1) L (.inl v :: st) g o) : K_ own cc nL ret dep loc ini E pc L st g o :=
  k_step (fun p l e R s m args below meth c α H locs ls cells slots Q hx hb kk => lv_iconst hx hb d hv kk) vS_i k
theorem k_bipush {n : Int} {v : Int32} (d : decode cc pc = .ok (.bipush n, 2)) (hv : (Int8.ofInt n).toInt32 = v) (k : K_ own cc nL ret dep loc ini E (pc + 2) L (.inl v :: st) g o) : K_ own cc nL ret dep loc ini E pc L st g o :=
  k_step (fun p l e R s m args below meth c α H locs ls cells slots Q hx hb kk => lv_bipush hx hb d hv kk) vS_i k
theorem k_sipush {n : Int} {v : Int32} (d : decode cc pc = .ok (.sipush n, 3)) (hv : (Int16.ofInt n).toInt32 = v) (k : K_ own cc nL ret dep loc ini E (pc + 3) L (.inl v :: st) g o) : K_ own cc nL ret dep loc ini E pc L st g o :=
  k_step (fun p l e R s m args below meth c α H locs ls cells slots Q hx hb kk => lv_sipush hx hb d hv kk) vS_i k
theorem k_null {t : Nat} (d : decode cc pc = .ok (.aconst_null, 1)) (k : K_ own cc nL ret dep loc ini E (pc + 1) L (.inr (t, none) :: st) g o) : K_ own cc nL ret dep loc ini E pc L st g o :=
  k_step (fun p l e R s m args below meth c α H locs ls cells slots Q hx hb kk => lv_null hx hb d kk) (vS_c ok_n) k
-- loads
theorem k_iloadn {i : Fin 4} {j : Nat} {x : Int32} (d : decode cc pc = .ok (.iload_n i, 1)) (hi : (i : Nat) = j) (hL : L[j]? = some (some (.inl x))) (k : K_ own cc nL ret dep loc ini E (pc + 1) L (.inl x :: st) g o) : K_ own cc nL ret dep loc ini E pc L st g o :=
  k_lift (fun p l e R s m args below meth c D α H locs ls cells slots Q cx _ _ hR vl vs hl kk => lv_iload_n cx.1 cx.2.1 d hi (hl.2.2 j _ hL) (kk vl (vS_i vs) ls hl)) k
theorem k_iload {j : Nat} {x : Int32} (d : decode cc pc = .ok (.iload j, 2)) (hL : L[j]? = some (some (.inl x))) (k : K_ own cc nL ret dep loc ini E (pc + 2) L (.inl x :: st) g o) : K_ own cc nL ret dep loc ini E pc L st g o :=
  k_lift (fun p l e R s m args below meth c D α H locs ls cells slots Q cx _ _ hR vl vs hl kk => lv_iload cx.1 cx.2.1 d (hl.2.2 j _ hL) (kk vl (vS_i vs) ls hl)) k
theorem k_aloadn {i : Fin 4} {j t : Nat} {x : Option Nat} (d : decode cc pc = .ok (.aload_n i, 1)) (hi : (i : Nat) = j) (hL : L[j]? = some (some (.inr (t, x)))) (k : K_ own cc nL ret dep loc ini E (pc + 1) L (.inr (t, x) :: st) g o) : K_ own cc nL ret dep loc ini E pc L st g o :=
  k_lift (fun p l e R s m args below meth c D α H locs ls cells slots Q cx _ _ hR vl vs hl kk => by
    have h1 := kk vl (vS_c (vl j _ hL) vs) ls hl
    have h2 := hl.2.2 j _ hL
    cases x with
    | none => exact lv_aload_nN cx.1 cx.2.1 d hi h2 h1
    | some a => exact lv_aload_n cx.1 cx.2.1 d hi h2 h1) k
theorem k_aload {j t : Nat} {x : Option Nat} (d : decode cc pc = .ok (.aload j, 2)) (hL : L[j]? = some (some (.inr (t, x)))) (k : K_ own cc nL ret dep loc ini E (pc + 2) L (.inr (t, x) :: st) g o) : K_ own cc nL ret dep loc ini E pc L st g o :=
  k_lift (fun p l e R s m args below meth c D α H locs ls cells slots Q cx _ _ hR vl vs hl kk => by
    have h1 := kk vl (vS_c (vl j _ hL) vs) ls hl
    have h2 := hl.2.2 j _ hL
    cases x with
    | none => exact lv_aloadN cx.1 cx.2.1 d h2 h1
    | some a => exact lv_aload cx.1 cx.2.1 d h2 h1) k
-- stores into locals
def lvl_ (α : Nat → Nat → Nat) (L : List (Option AV_)) : List (Nat × Value) := L.zipIdx.filterMap (fun q => q.1.map (fun v => (q.2, cv_ α v)))
theorem lvl_mem {α : Nat → Nat → Nat} {i : Nat} {v : AV_} (h : L[i]? = some (some v)) : (i, cv_ α v) ∈ lvl_ α L :=
  List.mem_filterMap.mpr ⟨(some v, i), List.mem_zipIdx_iff_getElem?.mpr h, rfl⟩
theorem lvl_has {α : Nat → Nat → Nat} {ls : Array Slot} (h : lvr_ α ls nL L) : lv_has ls nL (lvl_ α L) := by
  refine ⟨h.1, h.2.1, fun q hq => ?_⟩
  obtain ⟨⟨x, i⟩, hm, he⟩ := List.mem_filterMap.mp hq
  have hm := List.mem_zipIdx_iff_getElem?.mp hm
  cases x with
  | none => cases he
  | some v =>
    cases he
    exact h.2.2 i v hm
theorem cv_cat {α : Nat → Nat → Nat} {v : AV_} : (cv_ α v).category = 1 := by
  cases v with
  | inl x => rfl
  | inr q =>
    obtain ⟨t, x⟩ := q
    cases x <;> rfl
theorem lvr_store {α : Nat → Nat → Nat} {ls : Array Slot} {i : Nat} {v : AV_} (h : lv_has ls nL ((i, cv_ α v) :: (lvl_ α L).filter (fun q => !(q.1 == i) && !(q.1 + 1 == i && q.2.category == 2)))) : lvr_ α ls nL (L.set i (some v)) := by
  refine ⟨h.1, h.2.1, fun j w hj => ?_⟩
  by_cases e : i = j
  · subst e
    rw [List.getElem?_set] at hj
    simp only [if_true] at hj
    by_cases e2 : i < L.length
    · rw [if_pos e2] at hj
      cases hj
      exact h.2.2 (i, cv_ α v) List.mem_cons_self
    · rw [if_neg e2] at hj
      cases hj
  · rw [List.getElem?_set_ne e] at hj
    refine h.2.2 (j, cv_ α w) (List.mem_cons_of_mem _ (List.mem_filter.mpr ⟨lvl_mem hj, ?_⟩))
    simp [cv_cat, Ne.symm e]
theorem vL_set {i : Nat} {v : AV_} (h : vL_ g L) (hv : ok_ g v) : vL_ g (L.set i (some v)) := by
  intro j w hj
  by_cases e : i = j
  · subst e
    rw [List.getElem?_set] at hj
    simp only [if_true] at hj
    by_cases e2 : i < L.length
    · rw [if_pos e2] at hj
      cases hj
      exact hv
    · rw [if_neg e2] at hj
      cases hj
  · rw [List.getElem?_set_ne e] at hj
    exact h j w hj
theorem k_istn {i : Fin 4} {j : Nat} {x : Int32} (d : decode cc pc = .ok (.istore_n i, 1)) (hi : (i : Nat) = j) (hn : j < nL) (hL : L.set j (some (.inl x)) = L') (k : K_ own cc nL ret dep loc ini E (pc + 1) L' st g o) : K_ own cc nL ret dep loc ini E pc L (.inl x :: st) g o := by
  subst hL
  exact k_lift (fun p l e R s m args below meth c D α H locs ls cells slots Q cx _ _ hR vl vs hl kk => lv_istore_n cx.1 cx.2.1 d hi (lvl_has hl) hn rfl (fun ls' hl' => kk (vL_set (v := .inl x) vl trivial) (vS_t vs) ls' (lvr_store (v := .inl x) hl'))) k
theorem k_ist {j : Nat} {x : Int32} (d : decode cc pc = .ok (.istore j, 2)) (hn : j < nL) (hL : L.set j (some (.inl x)) = L') (k : K_ own cc nL ret dep loc ini E (pc + 2) L' st g o) : K_ own cc nL ret dep loc ini E pc L (.inl x :: st) g o := by
  subst hL
  exact k_lift (fun p l e R s m args below meth c D α H locs ls cells slots Q cx _ _ hR vl vs hl kk => lv_istore cx.1 cx.2.1 d (lvl_has hl) hn rfl (fun ls' hl' => kk (vL_set (v := .inl x) vl trivial) (vS_t vs) ls' (lvr_store (v := .inl x) hl'))) k
theorem k_iinc {j : Nat} {n : Int} {x v : Int32} (d : decode cc pc = .ok (.iinc j n, 3)) (hx : L[j]? = some (some (.inl x))) (hv : x + Int32.ofInt n = v) (hn : j < nL) (hL : L.set j (some (.inl v)) = L') (k : K_ own cc nL ret dep loc ini E (pc + 3) L' st g o) : K_ own cc nL ret dep loc ini E pc L st g o := by
  subst hL
  refine k_lift (fun p l e R s m args below meth c D α H locs ls cells slots Q cx _ _ hR vl vs hl kk => ?_) k
  obtain ⟨q, hq⟩ := List.getElem?_of_mem (lvl_mem (α := α) hx)
  exact lv_iinc cx.1 cx.2.1 d (lvl_has hl) hq hv hn rfl (fun ls' hl' => kk (vL_set vl trivial) vs ls' (lvr_store (v := .inl v) hl'))
theorem k_astn {i : Fin 4} {j t : Nat} {x : Option Nat} (d : decode cc pc = .ok (.astore_n i, 1)) (hi : (i : Nat) = j) (hn : j < nL) (hL : L.set j (some (.inr (t, x))) = L') (k : K_ own cc nL ret dep loc ini E (pc + 1) L' st g o) : K_ own cc nL ret dep loc ini E pc L (.inr (t, x) :: st) g o := by
  subst hL
  refine k_lift (fun p l e R s m args below meth c D α H locs ls cells slots Q cx _ _ hR vl vs hl kk => ?_) k
  cases x with
  | none => exact lv_astore_nN cx.1 cx.2.1 d hi (lvl_has hl) hn rfl (fun ls' hl' => kk (vL_set vl (vS_h vs)) (vS_t vs) ls' (lvr_store (v := .inr (t, none)) hl'))
  | some a => exact lv_astore_n cx.1 cx.2.1 d hi (lvl_has hl) hn rfl (fun ls' hl' => kk (vL_set vl (vS_h vs)) (vS_t vs) ls' (lvr_store (v := .inr (t, some a)) hl'))
theorem k_ast {j t : Nat} {x : Option Nat} (d : decode cc pc = .ok (.astore j, 2)) (hn : j < nL) (hL : L.set j (some (.inr (t, x))) = L') (k : K_ own cc nL ret dep loc ini E (pc + 2) L' st g o) : K_ own cc nL ret dep loc ini E pc L (.inr (t, x) :: st) g o := by
  subst hL
  refine k_lift (fun p l e R s m args below meth c D α H locs ls cells slots Q cx _ _ hR vl vs hl kk => ?_) k
  cases x with
  | none => exact lv_astoreN cx.1 cx.2.1 d (lvl_has hl) hn rfl (fun ls' hl' => kk (vL_set vl (vS_h vs)) (vS_t vs) ls' (lvr_store (v := .inr (t, none)) hl'))
  | some a => exact lv_astore cx.1 cx.2.1 d (lvl_has hl) hn rfl (fun ls' hl' => kk (vL_set vl (vS_h vs)) (vS_t vs) ls' (lvr_store (v := .inr (t, some a)) hl'))
theorem k_istnl {i : Fin 4} {j : Nat} {x : Int32} {L2 : Int32 → List (Option AV_)} {oo : Int32 → Option (ρ × GS_)} (d : decode cc pc = .ok (.istore_n i, 1)) (hi : (i : Nat) = j) (hn : j < nL) (hL : ∀ z, L.set j (some (.inl z)) = L2 z) (k : ∀ z, K_ own cc nL ret dep loc ini E (pc + 1) (L2 z) st g (oo z)) : K_ own cc nL ret dep loc ini E pc L (.inl x :: st) g (lr_ x oo) := k_istn d hi hn (hL x) (k x)
theorem k_istl {j : Nat} {x : Int32} {L2 : Int32 → List (Option AV_)} {oo : Int32 → Option (ρ × GS_)} (d : decode cc pc = .ok (.istore j, 2)) (hn : j < nL) (hL : ∀ z, L.set j (some (.inl z)) = L2 z) (k : ∀ z, K_ own cc nL ret dep loc ini E (pc + 2) (L2 z) st g (oo z)) : K_ own cc nL ret dep loc ini E pc L (.inl x :: st) g (lr_ x oo) := k_ist d hn (hL x) (k x)
-- arithmetic
theorem k_iadd {x y : Int32} (d : decode cc pc = .ok (.iadd, 1)) (k : K_ own cc nL ret dep loc ini E (pc + 1) L (.inl (x + y) :: st) g o) : K_ own cc nL ret dep loc ini E pc L (.inl y :: .inl x :: st) g o :=
  k_step (fun p l e R s m args below meth c α H locs ls cells slots Q hx hb kk => lv_iadd hx hb d kk) (fun h => vS_i (vS_t (vS_t h))) k
theorem k_isub {x y : Int32} (d : decode cc pc = .ok (.isub, 1)) (k : K_ own cc nL ret dep loc ini E (pc + 1) L (.inl (x - y) :: st) g o) : K_ own cc nL ret dep loc ini E pc L (.inl y :: .inl x :: st) g o :=
  k_step (fun p l e R s m args below meth c α H locs ls cells slots Q hx hb kk => lv_isub hx hb d kk) (fun h => vS_i (vS_t (vS_t h))) k
theorem k_imul {x y : Int32} (d : decode cc pc = .ok (.imul, 1)) (k : K_ own cc nL ret dep loc ini E (pc + 1) L (.inl (x * y) :: st) g o) : K_ own cc nL ret dep loc ini E pc L (.inl y :: .inl x :: st) g o :=
  k_step (fun p l e R s m args below meth c α H locs ls cells slots Q hx hb kk => lv_imul hx hb d kk) (fun h => vS_i (vS_t (vS_t h))) k
theorem k_iand {x y : Int32} (d : decode cc pc = .ok (.iand, 1)) (k : K_ own cc nL ret dep loc ini E (pc + 1) L (.inl (x &&& y) :: st) g o) : K_ own cc nL ret dep loc ini E pc L (.inl y :: .inl x :: st) g o :=
  k_step (fun p l e R s m args below meth c α H locs ls cells slots Q hx hb kk => lv_iand hx hb d kk) (fun h => vS_i (vS_t (vS_t h))) k
def jrem (x y : Int32) : Int32 := x - x / y * y
theorem k_idiv {x y : Int32} (d : decode cc pc = .ok (.idiv, 1)) (k : ¬ y = 0 → K_ own cc nL ret dep loc ini E (pc + 1) L (.inl (x / y) :: st) g o) : K_ own cc nL ret dep loc ini E pc L (.inl y :: .inl x :: st) g (if y = 0 then none else o) := by
  by_cases h : y = 0
  · rw [if_pos h]; exact k_fail
  · rw [if_neg h]
    exact k_step (fun p l e R s m args below meth c α H locs ls cells slots Q hx hb kk => lv_idiv hx hb d h kk) (fun h => vS_i (vS_t (vS_t h))) (k h)
theorem k_irem {x y : Int32} (d : decode cc pc = .ok (.irem, 1)) (k : ¬ y = 0 → K_ own cc nL ret dep loc ini E (pc + 1) L (.inl (jrem x y) :: st) g o) : K_ own cc nL ret dep loc ini E pc L (.inl y :: .inl x :: st) g (if y = 0 then none else o) := by
  by_cases h : y = 0
  · rw [if_pos h]; exact k_fail
  · rw [if_neg h]
    exact k_step (fun p l e R s m args below meth c α H locs ls cells slots Q hx hb kk => lv_irem hx hb d h kk) (fun h => vS_i (vS_t (vS_t h))) (k h)
theorem k_idivc {x y : Int32} (hy : ¬ y = 0) (d : decode cc pc = .ok (.idiv, 1)) (k : K_ own cc nL ret dep loc ini E (pc + 1) L (.inl (x / y) :: st) g o) : K_ own cc nL ret dep loc ini E pc L (.inl y :: .inl x :: st) g o :=
  k_step (fun p l e R s m args below meth c α H locs ls cells slots Q hx hb kk => lv_idiv hx hb d hy kk) (fun h => vS_i (vS_t (vS_t h))) k
theorem k_iremc {x y : Int32} (hy : ¬ y = 0) (d : decode cc pc = .ok (.irem, 1)) (k : K_ own cc nL ret dep loc ini E (pc + 1) L (.inl (jrem x y) :: st) g o) : K_ own cc nL ret dep loc ini E pc L (.inl y :: .inl x :: st) g o :=
  k_step (fun p l e R s m args below meth c α H locs ls cells slots Q hx hb kk => lv_irem hx hb d hy kk) (fun h => vS_i (vS_t (vS_t h))) k
-- the stack
theorem k_dup {v : AV_} (d : decode cc pc = .ok (.dup, 1)) (k : K_ own cc nL ret dep loc ini E (pc + 1) L (v :: v :: st) g o) : K_ own cc nL ret dep loc ini E pc L (v :: st) g o :=
  k_step (fun p l e R s m args below meth c α H locs ls cells slots Q hx hb kk => lv_dup hx hb d cv_cat kk) (fun h => vS_c (vS_h h) h) k
theorem k_dup2 {v w : AV_} (d : decode cc pc = .ok (.dup2, 1)) (k : K_ own cc nL ret dep loc ini E (pc + 1) L (v :: w :: v :: w :: st) g o) : K_ own cc nL ret dep loc ini E pc L (v :: w :: st) g o :=
  k_step (fun p l e R s m args below meth c α H locs ls cells slots Q hx hb kk => lv_dup2_11 hx hb d cv_cat cv_cat kk) (fun h => vS_c (vS_h h) (vS_c (vS_h (vS_t h)) h)) k
theorem k_pop {v : AV_} (d : decode cc pc = .ok (.pop, 1)) (k : K_ own cc nL ret dep loc ini E (pc + 1) L st g o) : K_ own cc nL ret dep loc ini E pc L (v :: st) g o :=
  k_step (fun p l e R s m args below meth c α H locs ls cells slots Q hx hb kk => lv_pop hx hb d cv_cat kk) vS_t k
theorem k_goto {off : Int} {tgt : Nat} (d : decode cc pc = .ok (.goto off, 3)) (ht : (pc : Int) + off = (tgt : Int)) (k : K_ own cc nL ret dep loc ini E tgt L st g o) : K_ own cc nL ret dep loc ini E pc L st g o :=
  k_step (fun p l e R s m args below meth c α H locs ls cells slots Q hx hb kk => lv_goto hx hb d ht kk) id k
-- branches
theorem k_two {C : Prop} [Decidable C] {tgt nxt : Nat} {o1 o2 : Option (ρ × GS_)}
    (h : ∀ (p : Program) (l : Launch) (e : Env) (R : Room) (s : State) (m : MethodId) (args : Array Value) (below : List Frame) (meth : Method) (c : Code) (α : Nat → Nat → Nat) (H : Heap) (locs : List Loc) (ls : Array Slot) (cells slots : Nat) (Q : State → Prop), p.tables.exec = Jvm.exec → c.code = cc →
      (C → W p l e R s m args below meth c H locs cells slots Q (F0 m tgt ls (st'.map (cv_ α)))) → (¬ C → W p l e R s m args below meth c H locs cells slots Q (F0 m nxt ls (st'.map (cv_ α)))) → W p l e R s m args below meth c H locs cells slots Q (F0 m pc ls (st.map (cv_ α))))
    (hst : vS_ g st → vS_ g st') (k1 : C → K_ own cc nL ret dep loc ini E tgt L st' g o1) (k2 : ¬ C → K_ own cc nL ret dep loc ini E nxt L st' g o2) : K_ own cc nL ret dep loc ini E pc L st g (if C then o1 else o2) := by
  by_cases hC : C
  · rw [if_pos hC]
    exact k_step (fun p l e R s m args below meth c α H locs ls cells slots Q hx hb kk => h p l e R s m args below meth c α H locs ls cells slots Q hx hb (fun _ => kk) (fun q => absurd hC q)) hst (k1 hC)
  · rw [if_neg hC]
    exact k_step (fun p l e R s m args below meth c α H locs ls cells slots Q hx hb kk => h p l e R s m args below meth c α H locs ls cells slots Q hx hb (fun q => absurd q hC) (fun _ => kk)) hst (k2 hC)
variable {x y : Int32} {off : Int} {tgt : Nat} {o1 o2 : Option (ρ × GS_)}
theorem k_ifeq (d : decode cc pc = .ok (.ifCond .eq off, 3)) (ht : (pc : Int) + off = (tgt : Int)) (k1 : x = 0 → K_ own cc nL ret dep loc ini E tgt L st g o1) (k2 : ¬ x = 0 → K_ own cc nL ret dep loc ini E (pc + 3) L st g o2) : K_ own cc nL ret dep loc ini E pc L (.inl x :: st) g (if x = 0 then o1 else o2) :=
  k_two (fun p l e R s m args below meth c α H locs ls cells slots Q hx hb kt kf => lv_if_eq hx hb d ht kt kf) vS_t k1 k2
theorem k_ifne (d : decode cc pc = .ok (.ifCond .ne off, 3)) (ht : (pc : Int) + off = (tgt : Int)) (k1 : x = 0 → K_ own cc nL ret dep loc ini E (pc + 3) L st g o1) (k2 : ¬ x = 0 → K_ own cc nL ret dep loc ini E tgt L st g o2) : K_ own cc nL ret dep loc ini E pc L (.inl x :: st) g (if x = 0 then o1 else o2) :=
  k_two (fun p l e R s m args below meth c α H locs ls cells slots Q hx hb kt kf => lv_if_ne hx hb d ht kf kt) vS_t k1 k2
theorem k_iflt (d : decode cc pc = .ok (.ifCond .lt off, 3)) (ht : (pc : Int) + off = (tgt : Int)) (k1 : x < 0 → K_ own cc nL ret dep loc ini E tgt L st g o1) (k2 : ¬ x < 0 → K_ own cc nL ret dep loc ini E (pc + 3) L st g o2) : K_ own cc nL ret dep loc ini E pc L (.inl x :: st) g (if x < 0 then o1 else o2) :=
  k_two (fun p l e R s m args below meth c α H locs ls cells slots Q hx hb kt kf => lv_if_lt hx hb d ht kt kf) vS_t k1 k2
theorem k_ifge (d : decode cc pc = .ok (.ifCond .ge off, 3)) (ht : (pc : Int) + off = (tgt : Int)) (k1 : 0 ≤ x → K_ own cc nL ret dep loc ini E tgt L st g o1) (k2 : ¬ 0 ≤ x → K_ own cc nL ret dep loc ini E (pc + 3) L st g o2) : K_ own cc nL ret dep loc ini E pc L (.inl x :: st) g (if 0 ≤ x then o1 else o2) :=
  k_two (fun p l e R s m args below meth c α H locs ls cells slots Q hx hb kt kf => lv_if_ge hx hb d ht kt kf) vS_t k1 k2
theorem k_ifgt (d : decode cc pc = .ok (.ifCond .gt off, 3)) (ht : (pc : Int) + off = (tgt : Int)) (k1 : 0 < x → K_ own cc nL ret dep loc ini E tgt L st g o1) (k2 : ¬ 0 < x → K_ own cc nL ret dep loc ini E (pc + 3) L st g o2) : K_ own cc nL ret dep loc ini E pc L (.inl x :: st) g (if 0 < x then o1 else o2) :=
  k_two (fun p l e R s m args below meth c α H locs ls cells slots Q hx hb kt kf => lv_if_gt hx hb d ht kt kf) vS_t k1 k2
theorem k_ifle (d : decode cc pc = .ok (.ifCond .le off, 3)) (ht : (pc : Int) + off = (tgt : Int)) (k1 : x ≤ 0 → K_ own cc nL ret dep loc ini E tgt L st g o1) (k2 : ¬ x ≤ 0 → K_ own cc nL ret dep loc ini E (pc + 3) L st g o2) : K_ own cc nL ret dep loc ini E pc L (.inl x :: st) g (if x ≤ 0 then o1 else o2) :=
  k_two (fun p l e R s m args below meth c α H locs ls cells slots Q hx hb kt kf => lv_if_le hx hb d ht kt kf) vS_t k1 k2
theorem k_icmpeq (d : decode cc pc = .ok (.if_icmp .eq off, 3)) (ht : (pc : Int) + off = (tgt : Int)) (k1 : x = y → K_ own cc nL ret dep loc ini E tgt L st g o1) (k2 : ¬ x = y → K_ own cc nL ret dep loc ini E (pc + 3) L st g o2) : K_ own cc nL ret dep loc ini E pc L (.inl y :: .inl x :: st) g (if x = y then o1 else o2) :=
  k_two (fun p l e R s m args below meth c α H locs ls cells slots Q hx hb kt kf => lv_icmp_eq hx hb d ht kt kf) (fun h => vS_t (vS_t h)) k1 k2
theorem k_icmpne (d : decode cc pc = .ok (.if_icmp .ne off, 3)) (ht : (pc : Int) + off = (tgt : Int)) (k1 : x = y → K_ own cc nL ret dep loc ini E (pc + 3) L st g o1) (k2 : ¬ x = y → K_ own cc nL ret dep loc ini E tgt L st g o2) : K_ own cc nL ret dep loc ini E pc L (.inl y :: .inl x :: st) g (if x = y then o1 else o2) :=
  k_two (fun p l e R s m args below meth c α H locs ls cells slots Q hx hb kt kf => lv_icmp_ne hx hb d ht kf kt) (fun h => vS_t (vS_t h)) k1 k2
theorem k_icmplt (d : decode cc pc = .ok (.if_icmp .lt off, 3)) (ht : (pc : Int) + off = (tgt : Int)) (k1 : x < y → K_ own cc nL ret dep loc ini E tgt L st g o1) (k2 : ¬ x < y → K_ own cc nL ret dep loc ini E (pc + 3) L st g o2) : K_ own cc nL ret dep loc ini E pc L (.inl y :: .inl x :: st) g (if x < y then o1 else o2) :=
  k_two (fun p l e R s m args below meth c α H locs ls cells slots Q hx hb kt kf => lv_icmp_lt hx hb d ht kt kf) (fun h => vS_t (vS_t h)) k1 k2
theorem k_icmpge (d : decode cc pc = .ok (.if_icmp .ge off, 3)) (ht : (pc : Int) + off = (tgt : Int)) (k1 : y ≤ x → K_ own cc nL ret dep loc ini E tgt L st g o1) (k2 : ¬ y ≤ x → K_ own cc nL ret dep loc ini E (pc + 3) L st g o2) : K_ own cc nL ret dep loc ini E pc L (.inl y :: .inl x :: st) g (if y ≤ x then o1 else o2) :=
  k_two (fun p l e R s m args below meth c α H locs ls cells slots Q hx hb kt kf => lv_icmp_ge hx hb d ht kt kf) (fun h => vS_t (vS_t h)) k1 k2
theorem k_icmpgt (d : decode cc pc = .ok (.if_icmp .gt off, 3)) (ht : (pc : Int) + off = (tgt : Int)) (k1 : y < x → K_ own cc nL ret dep loc ini E tgt L st g o1) (k2 : ¬ y < x → K_ own cc nL ret dep loc ini E (pc + 3) L st g o2) : K_ own cc nL ret dep loc ini E pc L (.inl y :: .inl x :: st) g (if y < x then o1 else o2) :=
  k_two (fun p l e R s m args below meth c α H locs ls cells slots Q hx hb kt kf => lv_icmp_gt hx hb d ht kt kf) (fun h => vS_t (vS_t h)) k1 k2
theorem k_icmple (d : decode cc pc = .ok (.if_icmp .le off, 3)) (ht : (pc : Int) + off = (tgt : Int)) (k1 : x ≤ y → K_ own cc nL ret dep loc ini E tgt L st g o1) (k2 : ¬ x ≤ y → K_ own cc nL ret dep loc ini E (pc + 3) L st g o2) : K_ own cc nL ret dep loc ini E pc L (.inl y :: .inl x :: st) g (if x ≤ y then o1 else o2) :=
  k_two (fun p l e R s m args below meth c α H locs ls cells slots Q hx hb kt kf => lv_icmp_le hx hb d ht kt kf) (fun h => vS_t (vS_t h)) k1 k2
theorem k_ifnulln {t : Nat} {B : Nat → Option (ρ × GS_)} (d : decode cc pc = .ok (.ifnull off, 3)) (ht : (pc : Int) + off = (tgt : Int)) (k : K_ own cc nL ret dep loc ini E tgt L st g o) : K_ own cc nL ret dep loc ini E pc L (.inr (t, none) :: st) g (oc_ none o B) :=
  k_step (fun p l e R s m args below meth c α H locs ls cells slots Q hx hb kk => lv_ifnullN hx hb d ht kk) vS_t k
theorem k_ifnulls {t a : Nat} {B : Nat → Option (ρ × GS_)} (d : decode cc pc = .ok (.ifnull off, 3)) (k : K_ own cc nL ret dep loc ini E (pc + 3) L st g (B a)) : K_ own cc nL ret dep loc ini E pc L (.inr (t, some a) :: st) g (oc_ (some a) o B) :=
  k_step (fun p l e R s m args below meth c α H locs ls cells slots Q hx hb kk => lv_ifnull hx hb d kk) vS_t k
theorem k_ifnonnulln {t : Nat} {B : Nat → Option (ρ × GS_)} (d : decode cc pc = .ok (.ifnonnull off, 3)) (k : K_ own cc nL ret dep loc ini E (pc + 3) L st g o) : K_ own cc nL ret dep loc ini E pc L (.inr (t, none) :: st) g (oc_ none o B) :=
  k_step (fun p l e R s m args below meth c α H locs ls cells slots Q hx hb kk => lv_ifnonnullN hx hb d kk) vS_t k
theorem k_ifnonnulls {t a : Nat} {B : Nat → Option (ρ × GS_)} (d : decode cc pc = .ok (.ifnonnull off, 3)) (ht : (pc : Int) + off = (tgt : Int)) (k : K_ own cc nL ret dep loc ini E tgt L st g (B a)) : K_ own cc nL ret dep loc ini E pc L (.inr (t, some a) :: st) g (oc_ (some a) o B) :=
  k_step (fun p l e R s m args below meth c α H locs ls cells slots Q hx hb kk => lv_ifnonnull hx hb d ht kk) vS_t k
/-- the same, of a thing known not to be null -/
theorem k_ifnullk {t a : Nat} (d : decode cc pc = .ok (.ifnull off, 3)) (k : K_ own cc nL ret dep loc ini E (pc + 3) L st g o) : K_ own cc nL ret dep loc ini E pc L (.inr (t, some a) :: st) g o :=
  k_step (fun p l e R s m args below meth c α H locs ls cells slots Q hx hb kk => lv_ifnull hx hb d kk) vS_t k
theorem k_ifnonnullk {t a : Nat} (d : decode cc pc = .ok (.ifnonnull off, 3)) (ht : (pc : Int) + off = (tgt : Int)) (k : K_ own cc nL ret dep loc ini E tgt L st g o) : K_ own cc nL ret dep loc ini E pc L (.inr (t, some a) :: st) g o :=
  k_step (fun p l e R s m args below meth c α H locs ls cells slots Q hx hb kk => lv_ifnonnull hx hb d ht kk) vS_t k
/-- a case without a step, for the switches -/
theorem k_case {C : Prop} [Decidable C] (k1 : C → K_ own cc nL ret dep loc ini E pc L st g o1) (k2 : ¬ C → K_ own cc nL ret dep loc ini E pc L st g o2) : K_ own cc nL ret dep loc ini E pc L st g (if C then o1 else o2) := by
  by_cases hC : C
  · rw [if_pos hC]; exact k1 hC
  · rw [if_neg hC]; exact k2 hC
theorem k_tin {dflt lo hi : Int} {offs : Array Int} {len : Nat} {v : Int32} (d : decode cc pc = .ok (.tableswitch dflt lo hi offs, len)) (hx : x = v) (h1 : ¬ v.toInt < lo) (h2 : ¬ hi < v.toInt) (ho : offs[(v.toInt - lo).toNat]? = some off) (ht : (pc : Int) + off = (tgt : Int)) (k : K_ own cc nL ret dep loc ini E tgt L st g o) : K_ own cc nL ret dep loc ini E pc L (.inl x :: st) g o := by
  subst hx
  exact k_step (fun p l e R s m args below meth c α H locs ls cells slots Q hx hb kk => lv_tableIn hx hb d h1 h2 ho ht kk) vS_t k
theorem k_tout {dflt lo hi : Int} {offs : Array Int} {len : Nat} (d : decode cc pc = .ok (.tableswitch dflt lo hi offs, len)) (h : x.toInt < lo ∨ hi < x.toInt) (ht : (pc : Int) + dflt = (tgt : Int)) (k : K_ own cc nL ret dep loc ini E tgt L st g o) : K_ own cc nL ret dep loc ini E pc L (.inl x :: st) g o :=
  k_step (fun p l e R s m args below meth c α H locs ls cells slots Q hx hb kk => lv_tableOut hx hb d h ht kk) vS_t k
end KR
