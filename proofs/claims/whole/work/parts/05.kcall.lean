/-! the walk over numbers: a method's end, a method's contract, calls -/
def EI_ (v : Int32) : Option AV_ := some (.inl v)
def EV_ (_ : Unit) : Option AV_ := none
def ER_ (t : Nat) (x : Option Nat) : Option AV_ := some (.inr (t, x))
def PC_ (D : va_G) (A : Nat → Prop) (α : Nat → Nat → Nat) (g : GS_) (As : List AV_) : Array Value → State → Prop :=
  va_Pc (As.map (cv_ α)) (fun U => Rep_ D α g U.heap ∧ Amb_ D U ∧ (∀ t i, i < gcn g t → A (α t i)) ∧ (∀ q : Nat, U.heap.size ≤ q → A q) ∧ vS_ g As)
def Cn_ (y : MethodName) (b : ByteArray) (maxL : Nat) (ret : Option FieldType) (dep loc : Nat) {ρ : Type} (E : ρ → Option AV_) (As : List AV_) (g : GS_) (o : Option (ρ × GS_)) : Prop :=
  ∀ (r : ρ) (gf : GS_), o = some (r, gf) → (ghs g ≤ ghs gf ∧ gsl g ≤ gsl gf) ∧ ∀ (l : Launch) (D : va_G) (A : Nat → Prop) (α : Nat → Nat → Nat),
    Met l y (Cond.code y b maxL ret :: TW_) ({ frames := dep, cells := ghs gf - ghs g, slots := gsl gf - gsl g, locals := loc } : Room) (PC_ D A α g As) (fun _ => QC_ D A α g gf (E r)) (ghs gf - ghs g) (gsl gf - gsl g) A
theorem PC_blind {D : va_G} {A : Nat → Prop} {α : Nat → Nat → Nat} {g : GS_} {As : List AV_} : FrameBlind (PC_ D A α g As) := by
  intro a U gg mk h
  obtain ⟨h1, h2, h3, h4, h5, h6⟩ := h
  exact ⟨h1, h2, h3.calling gg mk a, h4, h5, h6⟩
section KE
variable {own : String} {cc : ByteArray} {nL : Nat} {ret : Option FieldType} {dep loc : Nat} {ini : Bool} {pc : Nat} {L : List (Option AV_)} {st : List AV_} {g : GS_}
theorem k_ireturn {v : Int32} (hret : ret = some .int) (d : decode cc pc = .ok (.ireturn, 1)) : K_ own cc nL ret dep loc ini EI_ pc L [.inl v] g (some (v, g)) := by
  intro r gf ho
  cases ho
  refine ⟨⟨Nat.le_refl _, Nat.le_refl _⟩, ?_⟩
  intro p l e R s m args below meth c D A α0 α g0 H locs ls cx sx hc hs vl vs hl
  exact W.iret (v := v) cx.1 cx.2.1 (cx.2.2.1.trans hret) (fun t ht hW => ⟨α, rfl, by rw [ht]; exact sx.1, cx.2.2.2.2.2.2.2.2.2.2.warm hW, sx.2.2.2.2.1, sx.2.2.2.2.2.1, sx.2.1, fun w hw => by cases hw; trivial, sx.2.2.2.1.F ht⟩) sx.2.2.2.1.2.2 d cx.2.2.2.2.2.2.1
theorem k_zreturn {v : Int32} (hret : ret = some .boolean) (hv : v = 0 ∨ v = 1) (d : decode cc pc = .ok (.ireturn, 1)) : K_ own cc nL ret dep loc ini EI_ pc L [.inl v] g (some (v, g)) := by
  intro r gf ho
  cases ho
  refine ⟨⟨Nat.le_refl _, Nat.le_refl _⟩, ?_⟩
  intro p l e R s m args below meth c D A α0 α g0 H locs ls cx sx hc hs vl vs hl
  exact W.zret (v := v) (ty := .boolean) cx.1 cx.2.1 (cx.2.2.1.trans hret) (by rcases hv with rfl | rfl <;> rfl) (fun t ht hW => ⟨α, rfl, by rw [ht]; exact sx.1, cx.2.2.2.2.2.2.2.2.2.2.warm hW, sx.2.2.2.2.1, sx.2.2.2.2.2.1, sx.2.1, fun w hw => by cases hw; trivial, sx.2.2.2.1.F ht⟩) sx.2.2.2.1.2.2 d cx.2.2.2.2.2.2.1
theorem k_zreturnc {v : Int32} (hret : ret = some .boolean) (d : decode cc pc = .ok (.ireturn, 1)) : K_ own cc nL ret dep loc ini EI_ pc L [.inl v] g (if v = 0 ∨ v = 1 then some (v, g) else none) :=
  k_case (fun h => k_zreturn hret h d) (fun _ => k_fail)
theorem k_return (hret : ret = none) (d : decode cc pc = .ok (.return_, 1)) : K_ own cc nL ret dep loc ini EV_ pc L [] g (some ((), g)) := by
  intro r gf ho
  cases ho
  refine ⟨⟨Nat.le_refl _, Nat.le_refl _⟩, ?_⟩
  intro p l e R s m args below meth c D A α0 α g0 H locs ls cx sx hc hs vl vs hl
  exact W.vret cx.1 cx.2.1 (cx.2.2.1.trans hret) (fun t ht hW => ⟨α, rfl, by rw [ht]; exact sx.1, cx.2.2.2.2.2.2.2.2.2.2.warm hW, sx.2.2.2.2.1, sx.2.2.2.2.2.1, sx.2.1, (fun w hw => by cases hw), sx.2.2.2.1.F ht⟩) sx.2.2.2.1.2.2 d cx.2.2.2.2.2.2.1
theorem k_areturn {t : Nat} {x : Option Nat} {rt : FieldType} (hret : ret = some rt) (hrt : (∃ n, rt = .object n) ∨ ∃ t, rt = .array t) (d : decode cc pc = .ok (.areturn, 1)) : K_ own cc nL ret dep loc ini (ER_ t) pc L [.inr (t, x)] g (some (x, g)) := by
  intro r gf ho
  cases ho
  refine ⟨⟨Nat.le_refl _, Nat.le_refl _⟩, ?_⟩
  intro p l e R s m args below meth c D A α0 α g0 H locs ls cx sx hc hs vl vs hl
  exact W.aret (v := cv_ α (.inr (t, x))) cx.1 cx.2.1 (cx.2.2.1.trans hret) hrt (by
    cases x with
    | none => exact Or.inl rfl
    | some a => exact Or.inr ⟨_, rfl⟩) (fun t ht hW => ⟨α, rfl, by rw [ht]; exact sx.1, cx.2.2.2.2.2.2.2.2.2.2.warm hW, sx.2.2.2.2.1, sx.2.2.2.2.2.1, sx.2.1, fun w hw => by cases hw; exact vS_h vs, sx.2.2.2.1.F ht⟩) sx.2.2.2.1.2.2 d cx.2.2.2.2.2.2.1
theorem lg_cv (α : Nat → Nat → Nat) : ∀ As : List AV_, lg_sl (As.map (cv_ α)) = As.map (fun v => Slot.val (cv_ α v))
  | [] => rfl
  | v :: As => by
    have h := lg_cv α As
    unfold lg_sl at h ⊢
    rw [List.map_cons, List.flatMap_cons, h, if_neg (by rw [cv_cat]; decide)]
    rfl
theorem lv_args_cv (α : Nat → Nat → Nat) : ∀ (As : List AV_) (b i : Nat) (v : AV_), As[i]? = some v → (b + i, cv_ α v) ∈ lv_args b (As.map (cv_ α))
  | [], b, i, v, h => by simp at h
  | w :: As, b, 0, v, h => by
    cases h
    exact List.mem_cons_self
  | w :: As, b, i + 1, v, h => by
    have h1 := lv_args_cv α As (b + 1) i v (by simpa using h)
    show _ ∈ (b, cv_ α w) :: lv_args (if (cv_ α w).category = 2 then b + 2 else b + 1) (As.map (cv_ α))
    rw [if_neg (by rw [cv_cat]; decide)]
    refine List.mem_cons_of_mem _ ?_
    rw [show b + (i + 1) = b + 1 + i by omega]
    exact h1
def L0_ (maxL : Nat) (As : List AV_) : List (Option AV_) := As.map some ++ List.replicate (maxL - As.length) none
theorem L0_at {maxL : Nat} {As : List AV_} {i : Nat} {v : AV_} (h : (L0_ maxL As)[i]? = some (some v)) : As[i]? = some v := by
  unfold L0_ at h
  by_cases hl : i < As.length
  · rw [List.getElem?_append_left (by simpa using hl), List.getElem?_map] at h
    cases hx : As[i]? with
    | none => rw [hx] at h; cases h
    | some w => rw [hx] at h; cases h; rfl
  · rw [List.getElem?_append_right (by simpa using Nat.le_of_not_lt hl)] at h
    have := List.mem_of_getElem? h
    have := List.eq_of_mem_replicate this
    cases this
theorem k_method {y : MethodName} {b : ByteArray} {maxL : Nat} {ρ : Type} {E : ρ → Option AV_} {As : List AV_} {o : Option (ρ × GS_)} {L1 : List (Option AV_)} (hy : plainName y.cls = true) (hown : y.cls = own) (hi : ini = true → y.name = "<init>") (hlen : As.length ≤ maxL) (hL : L0_ maxL As = L1) (k : K_ own b maxL ret dep loc ini E 0 L1 [] g o) : Cn_ y b maxL ret dep loc E As g o := by
  subst hL
  intro r gf ho
  obtain ⟨hm, hk⟩ := k r gf ho
  refine ⟨hm, fun l D A α => ?_⟩
  refine Met.ofW (cc := b) (maxL := maxL) (ret := ret) hy rfl ?_
  intro p e s m args below meth c s₁ B hml hv
  obtain ⟨rfl, hR, hAm, hc, hA2, hvs⟩ := hv
  have hts : ∀ w ∈ TW_, w.before ((As.map (cv_ α)).toArray) s = true := fun w hw => atoms_spec (ws := Cond.code y b maxL ret :: TW_) B.pre w (List.mem_cons_of_mem _ hw)
  have hl := lv_entry (As.map (cv_ α)) (n := maxL) (by rw [lg_cv, List.length_map]; exact hlen)
  rw [lg_entry_eq]
  generalize (lg_sl (As.map (cv_ α)) ++ List.replicate (maxL - (lg_sl (As.map (cv_ α))).length) Slot.unset).toArray = ls at hl ⊢
  have hz := hk p l e (headSpec (Cond.code y b maxL ret :: TW_) ({ frames := dep, cells := ghs gf - ghs g, slots := gsl gf - gsl g, locals := loc } : Room)).room s m (As.map (cv_ α)).toArray below meth c D A α α g s.heap [] ls
    ⟨B.exec, B.bytes, B.returns, hml, hown ▸ findClass_of_methodNamed B.named, hts, B.notSynchronized, Nat.le_refl _, Nat.le_refl _, fun h => (name_of_methodNamed B.named B.method).1.trans (hi h), hAm⟩
    ⟨hR, hc, hA2, va_S.rf, fun _ _ _ => rfl, fun _ => Nat.le_refl _, Nat.le_refl _, Nat.le_refl _⟩ (Nat.le_refl _) (Nat.le_refl _)
    (fun i v h => hvs v (List.mem_of_getElem? (L0_at h))) (fun v h => by cases h)
    ⟨hl.1, hl.2.1, fun i v h => by
      have h1 := lv_args_cv α As 0 i v (L0_at h)
      rw [Nat.zero_add] at h1
      exact hl.2.2 _ h1⟩
  rw [Nat.sub_self, Nat.sub_self] at hz
  exact hz
end KE
/-- what the tables say of a method that is called -/
def VW_ (y : MethodName) (b : ByteArray) (maxL : Nat) (ret : Option FieldType) (t n : Nat) : Prop := Cond.code y b maxL ret ∈ TW_ ∧ Cond.instanceMethod y ∈ TW_ ∧ Cond.selects y.cls y y ∈ TW_ ∧ Cond.initialized y.cls ∈ TW_ ∧ (∃ (T : u_T) (N : Nat), vwCl[t]? = some (y.cls, T, N)) ∧ y.cls ≠ "java/lang/invoke/MethodHandle" ∧ y.cls ≠ "java/lang/invoke/VarHandle" ∧ (parseMethodDescriptor y.desc).map (fun d => d.parameters.length) = some n
def SW_ (y : MethodName) (b : ByteArray) (maxL : Nat) (ret : Option FieldType) (n : Nat) : Prop := Cond.code y b maxL ret ∈ TW_ ∧ Cond.static y ∈ TW_ ∧ Cond.initialized y.cls ∈ TW_ ∧ y.cls ≠ "java/lang/invoke/MethodHandle" ∧ y.cls ≠ "java/lang/invoke/VarHandle" ∧ (parseMethodDescriptor y.desc).map (fun d => d.parameters.length) = some n
def IW_ (y : MethodName) (b : ByteArray) (maxL : Nat) (n : Nat) : Prop := Cond.code y b maxL none ∈ TW_ ∧ Cond.instanceMethod y ∈ TW_ ∧ Cond.initialized y.cls ∈ TW_ ∧ y.name = "<init>" ∧ y.cls ≠ "java/lang/invoke/MethodHandle" ∧ y.cls ≠ "java/lang/invoke/VarHandle" ∧ (parseMethodDescriptor y.desc).map (fun d => d.parameters.length) = some n
section WC
variable {p : Program} {l : Launch} {e : Env} {R : Room} {s : State} {m : MethodId} {args : Array Value} {below : List Frame} {meth : Method} {c : Code} {H : Heap} {locs : List Loc} {cells slots : Nat} {Q : State → Prop}
variable {own : String} {cc : ByteArray} {nL pc : Nat} {ls : Array Slot} {rest st0 : List Value} {D : va_G} {α : Nat → Nat → Nat} {g g1 : GS_} {A A0 : Nat → Prop} {H0 : Heap} {Ts : List Cond}
theorem w_run {v : Option AV_} {mc ms : Nat} (hr : va_Run p l e R s m args below meth c H locs cells slots mc ms (F0 m pc ls st0) rest (QC_ D A α g g1 v) A) (hS : va_S A0 H0 H locs) (hA : ∀ q, A q → A0 q)
    (kk : ∀ (α' : Nat → Nat → Nat) (H1 : Heap) (locs1 : List Loc), Rep_ D α' g1 H1 → (∀ t i, i < gcn g t → α' t i = α t i) → (∀ t, gcn g t ≤ gcn g1 t) → (∀ t i, i < gcn g1 t → A (α' t i)) → (∀ w, v = some w → ok_ g1 w) → H.size ≤ H1.size → (∀ q : Nat, q < H.size → ¬ A q → H1[q]? = H[q]?) → va_S A0 H0 H1 locs1 → W p l e R s m args below meth c H1 locs1 (cells + mc) (slots + ms) Q (F0 m (pc + 3) ls ((v.map (cv_ α')).toList ++ rest))) :
    W p l e R s m args below meth c H locs cells slots Q (F0 m pc ls st0) := by
  intro T hT X
  obtain ⟨v', st₀, t, T', L, h0, X', hL, e1, e2, ⟨α', hv, q1, q2, q3, q4, q5, q6, q7⟩, st⟩ := hr T hT X
  cases hv
  obtain ⟨hz, hk⟩ := q7
  rw [h0] at hz hk
  obtain ⟨t2, a1, b1⟩ := kk α' T'.heap (locs ++ L) (by rw [e1]; exact q1) q3 q4 q5 q6 (by rw [e1]; exact hz) (fun q h1 h2 => by rw [e1]; exact hk q h1 h2)
    ⟨Nat.le_trans hS.1 (by rw [e1]; exact hz), fun q h1 h2 => by rw [e1, hk q (Nat.lt_of_lt_of_le h1 hS.1) (fun z => h2 (hA q z))]; exact hS.2.1 q h1 h2, fun q hq => by
      rcases List.mem_append.mp hq with h | h
      · exact hS.2.2 q h
      · exact hA _ (hL q h)⟩ T' rfl X'
  exact ⟨t2, st t2 a1, b1⟩
theorem map_rev (α : Nat → Nat → Nat) (As : List AV_) (r : List Value) : (As.map (cv_ α)).reverse ++ r = As.reverse.map (cv_ α) ++ r := by rw [List.map_reverse]
theorem pre_of {As : List AV_} (hAm : Amb_ D s) (hR : Rep_ D α g H) (hc : ∀ t i, i < gcn g t → A (α t i)) (hA2 : ∀ q : Nat, H.size ≤ q → A q) (hvs : vS_ g As) : ∀ U : State, U.heap = H → s.WarmedH U.vm → PC_ D A α g As ((As.map (cv_ α)).toArray) U :=
  fun U hU hW => ⟨rfl, by rw [hU]; exact hR, hAm.warm hW, hc, by rw [hU]; exact hA2, hvs⟩
/-- a call of a method of an object -/
theorem w_callV {ρ' : Type} {E' : ρ' → Option AV_} {y : MethodName} {b : ByteArray} {maxL index t a n dep' loc' : Nat} {ret' : Option FieldType} {As : List AV_} {r : ρ'} (hM : Cn_ y b maxL ret' dep' loc' E' (.inr (t, some a) :: As) g (some (r, g1))) (hw : VW_ y b maxL ret' t n)
    (S : CallFix p m c cc nL s args Ts own) (hT : ∀ w ∈ TW_, w ∈ Ts) (hl : Cond.methodLink own index y ∈ Ts ∨ ∃ host, Cond.methodLinkNest own index y host ∈ tables_1) (hAm : Amb_ D s) (hlen : As.length = n) (hls : ls.size = nL) (hfr : dep' + 1 ≤ R.frames) (hlo : 8 + (maxL + 11) + loc' ≤ R.locals)
    (hR : Rep_ D α g H) (hc : ∀ t i, i < gcn g t → A (α t i)) (hA2 : ∀ q : Nat, H.size ≤ q → A q) (hvs : vS_ g (.inr (t, some a) :: As)) (hW : (rest.map fun v => v.category).sum ≤ 8) (hce : cells + (ghs g1 - ghs g) ≤ R.cells) (hsl : slots + (gsl g1 - gsl g) ≤ R.slots) (d : decode cc pc = .ok (.invokevirtual index, 3)) (hgl : Cond.methodLink own index y ∈ Ts → goodWord (Cond.methodLink own index y) = true) :
    va_Run p l e R s m args below meth c H locs cells slots (ghs g1 - ghs g) (gsl g1 - gsl g) (F0 m pc ls ((As.map (cv_ α)).reverse ++ .ref (α t a) :: rest)) rest (QC_ D A α g g1 (E' r)) A := by
  obtain ⟨h1, h2, h3, h4, ⟨T, N, hvw⟩, h5, h6, h7⟩ := hw
  have hMet := (hM r g1 rfl).2 l D A α
  obtain ⟨hx, hb, hml, ho, hts⟩ := S
  have hrecv : ∃ cellB : Cell, H[α t a]? = some cellB ∧ cellB.vm.isStatics = false ∧ s.vm.findClass y.cls = some cellB.cls := by
    obtain ⟨cell, g1, g2, g3, -⟩ := hR.2.2.2.2.1 t _ _ _ a hvw (ok_s (vS_h hvs))
    exact ⟨cell, g1, by rw [g3]; rfl, by rw [g2]; exact (hAm.1.1 t _ hvw).2.1⟩
  have hpre : PreV s H y.cls (α t a) (PC_ D A α g (.inr (t, some a) :: As)) (As.map (cv_ α)) := ⟨PC_blind, hrecv, pre_of hAm hR hc hA2 hvs⟩
  have hin := hts _ (hT _ h2)
  have hgd : GoodIn Ts (Cond.code y b maxL ret' :: TW_) := fun w hw' => by
    have : w ∈ TW_ := by
      rcases List.mem_cons.mp hw' with rfl | h
      · exact h1
      · exact h
    exact ⟨hT _ this, good_of_word (List.mem_filter.mp this).2⟩
  rcases hl with hl | ⟨host, hl⟩
  · exact va_runV ⟨hx, hb, hml, ho, hts⟩ hMet ⟨callB_of n hts hgd rfl rfl rfl (hts _ (hT _ h4)) (hts _ hl) ⟨h5, h6, h7⟩ ⟨hfr, hlo⟩, hin, hts _ (hT _ h3)⟩ hpre rfl (by rw [List.length_map]; exact hlen) hls rfl (by show 2 * 0 + _ ≤ 8; omega) d ⟨hce, hsl⟩
  · exact va_runVN ⟨hx, hb, hml, ho, hts⟩ hMet ⟨va_cnB n hts hgd rfl rfl rfl (hAm.2.1.2 _ _ _ _ hl) (hts _ (hT _ h4)) ⟨h5, h6, h7⟩ ⟨hfr, hlo⟩, hin, hts _ (hT _ h3)⟩ hpre rfl (by rw [List.length_map]; exact hlen) hls rfl (by show 2 * 0 + _ ≤ 8; omega) d ⟨hce, hsl⟩
theorem w_callS {ρ' : Type} {E' : ρ' → Option AV_} {y : MethodName} {b : ByteArray} {maxL index n dep' loc' : Nat} {ret' : Option FieldType} {As : List AV_} {r : ρ'} (hM : Cn_ y b maxL ret' dep' loc' E' As g (some (r, g1))) (hw : SW_ y b maxL ret' n)
    (S : CallFix p m c cc nL s args Ts own) (hT : ∀ w ∈ TW_, w ∈ Ts) (hl : Cond.methodLink own index y ∈ Ts) (hAm : Amb_ D s) (hlen : As.length = n) (hls : ls.size = nL) (hfr : dep' + 1 ≤ R.frames) (hlo : 8 + (maxL + 11) + loc' ≤ R.locals)
    (hR : Rep_ D α g H) (hc : ∀ t i, i < gcn g t → A (α t i)) (hA2 : ∀ q : Nat, H.size ≤ q → A q) (hvs : vS_ g As) (hW : (rest.map fun v => v.category).sum ≤ 8) (hce : cells + (ghs g1 - ghs g) ≤ R.cells) (hsl : slots + (gsl g1 - gsl g) ≤ R.slots) (d : decode cc pc = .ok (.invokestatic index, 3)) :
    va_Run p l e R s m args below meth c H locs cells slots (ghs g1 - ghs g) (gsl g1 - gsl g) (F0 m pc ls ((As.map (cv_ α)).reverse ++ rest)) rest (QC_ D A α g g1 (E' r)) A := by
  obtain ⟨h1, h2, h4, h5, h6, h7⟩ := hw
  have hMet := (hM r g1 rfl).2 l D A α
  obtain ⟨hx, hb, hml, ho, hts⟩ := S
  have hgd : GoodIn Ts (Cond.code y b maxL ret' :: TW_) := fun w hw' => by
    have : w ∈ TW_ := by
      rcases List.mem_cons.mp hw' with rfl | h
      · exact h1
      · exact h
    exact ⟨hT _ this, good_of_word (List.mem_filter.mp this).2⟩
  exact va_runS ⟨hx, hb, hml, ho, hts⟩ hMet ⟨callB_of n hts hgd rfl rfl rfl (hts _ (hT _ h4)) (hts _ hl) ⟨h5, h6, h7⟩ ⟨hfr, hlo⟩, hts _ (hT _ h2)⟩ ⟨PC_blind, pre_of hAm hR hc hA2 hvs⟩ rfl (by rw [List.length_map]; exact hlen) hls rfl (by show 2 * 0 + _ ≤ 8; omega) d ⟨hce, hsl⟩
theorem w_callI {ρ' : Type} {E' : ρ' → Option AV_} {y : MethodName} {b : ByteArray} {maxL index t a n dep' loc' : Nat} {As : List AV_} {r : ρ'} (hM : Cn_ y b maxL none dep' loc' E' (.inr (t, some a) :: As) g (some (r, g1))) (hw : IW_ y b maxL n)
    (S : CallFix p m c cc nL s args Ts own) (hT : ∀ w ∈ TW_, w ∈ Ts) (hl : Cond.methodLink own index y ∈ Ts ∨ ∃ host, Cond.methodLinkNest own index y host ∈ tables_1) (hAm : Amb_ D s) (hlen : As.length = n) (hls : ls.size = nL) (hfr : dep' + 1 ≤ R.frames) (hlo : 8 + (maxL + 11) + loc' ≤ R.locals)
    (hR : Rep_ D α g H) (hc : ∀ t i, i < gcn g t → A (α t i)) (hA2 : ∀ q : Nat, H.size ≤ q → A q) (hvs : vS_ g (.inr (t, some a) :: As)) (hW : (rest.map fun v => v.category).sum ≤ 8) (hce : cells + (ghs g1 - ghs g) ≤ R.cells) (hsl : slots + (gsl g1 - gsl g) ≤ R.slots) (d : decode cc pc = .ok (.invokespecial index, 3)) :
    va_Run p l e R s m args below meth c H locs cells slots (ghs g1 - ghs g) (gsl g1 - gsl g) (F0 m pc ls ((As.map (cv_ α)).reverse ++ .ref (α t a) :: rest)) rest (QC_ D A α g g1 (E' r)) A := by
  obtain ⟨h1, h2, h4, h3, h5, h6, h7⟩ := hw
  have hMet := (hM r g1 rfl).2 l D A α
  obtain ⟨hx, hb, hml, ho, hts⟩ := S
  have hin := hts _ (hT _ h2)
  have hgd : GoodIn Ts (Cond.code y b maxL none :: TW_) := fun w hw' => by
    have : w ∈ TW_ := by
      rcases List.mem_cons.mp hw' with rfl | h
      · exact h1
      · exact h
    exact ⟨hT _ this, good_of_word (List.mem_filter.mp this).2⟩
  have hpre : PreS s H (PC_ D A α g (.inr (t, some a) :: As)) (.ref (α t a) :: As.map (cv_ α)) := ⟨PC_blind, pre_of hAm hR hc hA2 hvs⟩
  rcases hl with hl | ⟨host, hl⟩
  · exact va_runI ⟨hx, hb, hml, ho, hts⟩ hMet ⟨callB_of n hts hgd rfl rfl rfl (hts _ (hT _ h4)) (hts _ hl) ⟨h5, h6, h7⟩ ⟨hfr, hlo⟩, h3, hin⟩ hpre rfl (by rw [List.length_map]; exact hlen) hls rfl (by show 2 * 0 + _ ≤ 8; omega) d ⟨hce, hsl⟩
  · exact va_runIN ⟨hx, hb, hml, ho, hts⟩ hMet ⟨va_cnB n hts hgd rfl rfl rfl (hAm.2.1.2 _ _ _ _ hl) (hts _ (hT _ h4)) ⟨h5, h6, h7⟩ ⟨hfr, hlo⟩, h3, hin⟩ hpre rfl (by rw [List.length_map]; exact hlen) hls rfl (by show 2 * 0 + _ ≤ 8; omega) d ⟨hce, hsl⟩
end WC
section KC
variable {own : String} {cc : ByteArray} {nL : Nat} {ret : Option FieldType} {dep loc : Nat} {ini : Bool} {ρ ρ' : Type} {E : ρ → Option AV_} {E' : ρ' → Option AV_} {pc : Nat} {L : List (Option AV_)} {st st0 : List AV_} {g : GS_} {f : Option (ρ' × GS_)} {oo : ρ' → GS_ → Option (ρ × GS_)}
theorem k_call
    (hf : ∀ r g1, f = some (r, g1) → (ghs g ≤ ghs g1 ∧ gsl g ≤ gsl g1) ∧ ∀ (p : Program) (l : Launch) (e : Env) (R : Room) (s : State) (m : MethodId) (args : Array Value) (below : List Frame) (meth : Method) (c : Code) (D : va_G) (A : Nat → Prop) (α : Nat → Nat → Nat) (H : Heap) (locs : List Loc) (ls : Array Slot) (cells slots : Nat), CX_ own cc nL ret dep loc ini D p R s m args meth c → Rep_ D α g H → (∀ t i, i < gcn g t → A (α t i)) → (∀ q : Nat, H.size ≤ q → A q) → vS_ g st0 → lvr_ α ls nL L → cells + (ghs g1 - ghs g) ≤ R.cells → slots + (gsl g1 - gsl g) ≤ R.slots →
      va_Run p l e R s m args below meth c H locs cells slots (ghs g1 - ghs g) (gsl g1 - gsl g) (F0 m pc ls (st0.map (cv_ α))) (st.map (cv_ α)) (QC_ D A α g g1 (E' r)) A)
    (hst : vS_ g st0 → vS_ g st) (kk : ∀ v g1, K_ own cc nL ret dep loc ini E (pc + 3) L ((E' v).toList ++ st) g1 (oo v g1)) : K_ own cc nL ret dep loc ini E pc L st0 g (bd_ f oo) := by
  intro r gf ho
  cases hfe : f with
  | none => rw [hfe] at ho; cases ho
  | some q =>
    obtain ⟨v, g1⟩ := q
    rw [hfe] at ho
    obtain ⟨hm1, hrun⟩ := hf v g1 hfe
    obtain ⟨hm, hk⟩ := kk v g1 r gf ho
    refine ⟨⟨Nat.le_trans hm1.1 hm.1, Nat.le_trans hm1.2 hm.2⟩, ?_⟩
    intro p l e R s m args below meth c D A α0 α g0 H locs ls cx sx hc hs vl vs hl
    obtain ⟨s1, s2, s3, s4, s5, s6, s7, s8⟩ := sx
    refine w_run (hrun p l e R s m args below meth c D A α H locs ls _ _ cx s1 s2 (fun q hq => s3 q (Nat.le_trans s4.1 hq)) vs hl (by omega) (by omega)) s4 (fun _ h => h) (fun α' H1 locs1 q1 q3 q4 q5 q6 q7 q8 hS => ?_)
    have hz := hk p l e R s m args below meth c D A α0 α' g0 H1 locs1 ls cx ⟨q1, q5, s3, hS, fun t i hi => (q3 t i (Nat.lt_of_lt_of_le hi (s6 t))).trans (s5 t i hi), fun t => Nat.le_trans (s6 t) (q4 t), by omega, by omega⟩ hc hs (vL_mono q4 vl) (by
      have h1 := vS_mono q4 (hst vs)
      cases hv : E' v with
      | none => exact h1
      | some w => exact vS_c (q6 w hv) h1) (lvr_ext q3 vl hl)
    have e1 : ghs g1 - ghs g0 = ghs g - ghs g0 + (ghs g1 - ghs g) := by omega
    have e2 : gsl g1 - gsl g0 = gsl g - gsl g0 + (gsl g1 - gsl g) := by omega
    rw [e1, e2, List.map_append, map_ext q3 (hst vs)] at hz
    have e3 : (E' v).toList.map (cv_ α') = ((E' v).map (cv_ α')).toList := by cases E' v <;> rfl
    rw [e3] at hz
    exact hz
theorem k_callV {y : MethodName} {b : ByteArray} {maxL index t a n dep' loc' : Nat} {ret' : Option FieldType} (As : List AV_) (hM : Cn_ y b maxL ret' dep' loc' E' (.inr (t, some a) :: As) g f) (hw : VW_ y b maxL ret' t n) (hl : Cond.methodLink own index y ∈ TW_ ∨ ∃ host, Cond.methodLinkNest own index y host ∈ tables_1) (hs : As.reverse ++ .inr (t, some a) :: st = st0) (hlen : As.length = n) (hfr : dep' + 1 ≤ dep) (hlo : 8 + (maxL + 11) + loc' ≤ loc) (hW : st.length ≤ 8) (d : decode cc pc = .ok (.invokevirtual index, 3))
    (kk : ∀ v g1, K_ own cc nL ret dep loc ini E (pc + 3) L ((E' v).toList ++ st) g1 (oo v g1)) : K_ own cc nL ret dep loc ini E pc L st0 g (bd_ f oo) := by
  subst hs
  refine k_call (fun r g1 hfe => ⟨(hM r g1 hfe).1, fun p l e R s m args below meth c D A α H locs ls cells slots cx hR hc hA2 vs hl' hce hsl => ?_⟩) (fun h => vS_t (vS_a h).2) kk
  rw [hfe] at hM
  have hvs : vS_ g (.inr (t, some a) :: As) := vS_c (vS_h (vS_a vs).2) (fun v hv => (vS_a vs).1 v (List.mem_reverse.mpr hv))
  have h9 := w_callV (rest := st.map (cv_ α)) (locs := locs) (below := below) (meth := meth) (e := e) (l := l) (pc := pc) hM hw ⟨cx.1, cx.2.1, cx.2.2.2.1, cx.2.2.2.2.1, cx.2.2.2.2.2.1⟩ (fun _ h => h) hl cx.2.2.2.2.2.2.2.2.2.2 hlen hl'.1 (Nat.le_trans hfr cx.2.2.2.2.2.2.2.1) (Nat.le_trans hlo cx.2.2.2.2.2.2.2.2.1) hR hc hA2 hvs (by rw [cat_sum]; exact hW) hce hsl d (fun h => (List.mem_filter.mp h).2)
  rw [map_rev] at h9
  rw [List.map_append]
  exact h9
theorem k_callS {y : MethodName} {b : ByteArray} {maxL index n dep' loc' : Nat} {ret' : Option FieldType} (As : List AV_) (hM : Cn_ y b maxL ret' dep' loc' E' As g f) (hw : SW_ y b maxL ret' n) (hl : Cond.methodLink own index y ∈ TW_) (hs : As.reverse ++ st = st0) (hlen : As.length = n) (hfr : dep' + 1 ≤ dep) (hlo : 8 + (maxL + 11) + loc' ≤ loc) (hW : st.length ≤ 8) (d : decode cc pc = .ok (.invokestatic index, 3))
    (kk : ∀ v g1, K_ own cc nL ret dep loc ini E (pc + 3) L ((E' v).toList ++ st) g1 (oo v g1)) : K_ own cc nL ret dep loc ini E pc L st0 g (bd_ f oo) := by
  subst hs
  refine k_call (fun r g1 hfe => ⟨(hM r g1 hfe).1, fun p l e R s m args below meth c D A α H locs ls cells slots cx hR hc hA2 vs hl' hce hsl => ?_⟩) (fun h => (vS_a h).2) kk
  rw [hfe] at hM
  have hvs : vS_ g As := fun v hv => (vS_a vs).1 v (List.mem_reverse.mpr hv)
  have h9 := w_callS (rest := st.map (cv_ α)) (locs := locs) (below := below) (meth := meth) (e := e) (l := l) (pc := pc) hM hw ⟨cx.1, cx.2.1, cx.2.2.2.1, cx.2.2.2.2.1, cx.2.2.2.2.2.1⟩ (fun _ h => h) hl cx.2.2.2.2.2.2.2.2.2.2 hlen hl'.1 (Nat.le_trans hfr cx.2.2.2.2.2.2.2.1) (Nat.le_trans hlo cx.2.2.2.2.2.2.2.2.1) hR hc hA2 hvs (by rw [cat_sum]; exact hW) hce hsl d
  rw [map_rev] at h9
  rw [List.map_append]
  exact h9
theorem k_callI {y : MethodName} {b : ByteArray} {maxL index t a n dep' loc' : Nat} (As : List AV_) (hM : Cn_ y b maxL none dep' loc' E' (.inr (t, some a) :: As) g f) (hw : IW_ y b maxL n) (hl : Cond.methodLink own index y ∈ TW_ ∨ ∃ host, Cond.methodLinkNest own index y host ∈ tables_1) (hs : As.reverse ++ .inr (t, some a) :: st = st0) (hlen : As.length = n) (hfr : dep' + 1 ≤ dep) (hlo : 8 + (maxL + 11) + loc' ≤ loc) (hW : st.length ≤ 8) (d : decode cc pc = .ok (.invokespecial index, 3))
    (kk : ∀ v g1, K_ own cc nL ret dep loc ini E (pc + 3) L ((E' v).toList ++ st) g1 (oo v g1)) : K_ own cc nL ret dep loc ini E pc L st0 g (bd_ f oo) := by
  subst hs
  refine k_call (fun r g1 hfe => ⟨(hM r g1 hfe).1, fun p l e R s m args below meth c D A α H locs ls cells slots cx hR hc hA2 vs hl' hce hsl => ?_⟩) (fun h => vS_t (vS_a h).2) kk
  rw [hfe] at hM
  have hvs : vS_ g (.inr (t, some a) :: As) := vS_c (vS_h (vS_a vs).2) (fun v hv => (vS_a vs).1 v (List.mem_reverse.mpr hv))
  have h9 := w_callI (rest := st.map (cv_ α)) (locs := locs) (below := below) (meth := meth) (e := e) (l := l) (pc := pc) hM hw ⟨cx.1, cx.2.1, cx.2.2.2.1, cx.2.2.2.2.1, cx.2.2.2.2.2.1⟩ (fun _ h => h) hl cx.2.2.2.2.2.2.2.2.2.2 hlen hl'.1 (Nat.le_trans hfr cx.2.2.2.2.2.2.2.1) (Nat.le_trans hlo cx.2.2.2.2.2.2.2.2.1) hR hc hA2 hvs (by rw [cat_sum]; exact hW) hce hsl d
  rw [map_rev] at h9
  rw [List.map_append]
  exact h9
end KC
