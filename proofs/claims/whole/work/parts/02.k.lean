/-! THE HEAP AS NUMBERS. Each class, and each kind of array, has its own places 0, 1, ..: an object is (its kind, its place). Kinds 0..10: the classes of vwCl; 20 int[], 21 boolean[], 22 Document[], 23 Job[], 24 Printer[], 25 Spool[]. A field of kind t, slot k, has the number 32 t + k. -/
abbrev AV_ : Type := Int32 ⊕ (Nat × Option Nat)
abbrev GS_ : Type := (Nat → Nat → Int32) × (Nat → Nat → Option Nat) × (Nat → Nat → Nat → Int32) × (Nat → Nat → Nat → Option Nat) × (Nat → Nat → Nat) × (Nat → Nat) × Nat × Nat
def gfi (g : GS_) : Nat → Nat → Int32 := g.1
def gfr (g : GS_) : Nat → Nat → Option Nat := g.2.1
def gai (g : GS_) : Nat → Nat → Nat → Int32 := g.2.2.1
def gar (g : GS_) : Nat → Nat → Nat → Option Nat := g.2.2.2.1
def gln (g : GS_) : Nat → Nat → Nat := g.2.2.2.2.1
def gcn (g : GS_) : Nat → Nat := g.2.2.2.2.2.1
def ghs (g : GS_) : Nat := g.2.2.2.2.2.2.1
def gsl (g : GS_) : Nat := g.2.2.2.2.2.2.2
def sfi (g : GS_) (f i : Nat) (v : Int32) : GS_ := (fun f' i' => if f' = f ∧ i' = i then v else gfi g f' i', gfr g, gai g, gar g, gln g, gcn g, ghs g, gsl g)
def sfr (g : GS_) (f i : Nat) (v : Option Nat) : GS_ := (gfi g, fun f' i' => if f' = f ∧ i' = i then v else gfr g f' i', gai g, gar g, gln g, gcn g, ghs g, gsl g)
def sai (g : GS_) (t i j : Nat) (v : Int32) : GS_ := (gfi g, gfr g, fun t' i' j' => if t' = t ∧ i' = i ∧ j' = j then v else gai g t' i' j', gar g, gln g, gcn g, ghs g, gsl g)
def sar (g : GS_) (t i j : Nat) (v : Option Nat) : GS_ := (gfi g, gfr g, gai g, fun t' i' j' => if t' = t ∧ i' = i ∧ j' = j then v else gar g t' i' j', gln g, gcn g, ghs g, gsl g)
/-- the contents of an int array as a whole -/
def saw (g : GS_) (t i : Nat) (w : Nat → Int32) : GS_ := (gfi g, gfr g, fun t' i' => if t' = t ∧ i' = i then w else gai g t' i', gar g, gln g, gcn g, ghs g, gsl g)
/-- a new object of kind t with N fields -/
def nwo (g : GS_) (t N : Nat) : GS_ := (fun f i => if f / 32 = t ∧ i = gcn g t then 0 else gfi g f i, fun f i => if f / 32 = t ∧ i = gcn g t then none else gfr g f i, gai g, gar g, gln g, fun x => if x = t then gcn g t + 1 else gcn g x, ghs g + 1, gsl g + N)
/-- a new array of kind t and length n -/
def nwa (g : GS_) (t n : Nat) : GS_ := (gfi g, gfr g, fun t' i => if t' = t ∧ i = gcn g t then (fun _ => 0) else gai g t' i, fun t' i => if t' = t ∧ i = gcn g t then (fun _ => none) else gar g t' i, fun t' i => if t' = t ∧ i = gcn g t then n else gln g t' i, fun x => if x = t then gcn g t + 1 else gcn g x, ghs g + 1, gsl g + n)
/-- the kind of thing that a field of references holds -/
def rs_ (f : Nat) : Option Nat := match f with
  | 33 => some 4
  | 64 => some 20
  | 96 => some 20
  | 128 => some 0
  | 130 => some 20
  | 140 => some 20
  | 163 => some 20
  | 192 => some 20
  | 224 => some 20
  | 225 => some 20
  | 226 => some 20
  | 227 => some 20
  | 256 => some 22
  | 258 => some 23
  | 260 => some 24
  | 262 => some 6
  | 263 => some 20
  | 264 => some 20
  | 265 => some 20
  | 266 => some 2
  | 267 => some 20
  | 288 => some 8
  | 289 => some 8
  | 290 => some 25
  | 291 => some 3
  | 292 => some 7
  | 320 => some 20
  | 321 => some 20
  | 322 => some 20
  | 323 => some 20
  | 324 => some 20
  | 325 => some 21
  | 332 => some 20
  | 334 => some 20
  | 335 => some 20
  | 336 => some 20
  | 340 => some 20
  | _ => none
/-- the kind of thing that an array of references holds -/
def es_ (t : Nat) : Option Nat := match t with
  | 22 => some 0
  | 23 => some 1
  | 24 => some 5
  | 25 => some 8
  | _ => none
def cv_ (α : Nat → Nat → Nat) (v : AV_) : Value := match v with
  | .inl x => .int x
  | .inr q => va_rf (q.2.map (α q.1))
def fv_ (α : Nat → Nat → Nat) (g : GS_) (f i : Nat) : Value := match rs_ f with
  | none => .int (gfi g f i)
  | some t => va_rf ((gfr g f i).map (α t))
def ok_ (g : GS_) (v : AV_) : Prop := match v with
  | .inl _ => True
  | .inr q => ∀ i, q.2 = some i → i < gcn g q.1
def vS_ (g : GS_) (st : List AV_) : Prop := ∀ v ∈ st, ok_ g v
def vL_ (g : GS_) (L : List (Option AV_)) : Prop := ∀ (i : Nat) (v : AV_), L[i]? = some (some v) → ok_ g v
def lvr_ (α : Nat → Nat → Nat) (ls : Array Slot) (nL : Nat) (L : List (Option AV_)) : Prop := ls.size = nL ∧ lv_wf ls ∧ ∀ (i : Nat) (v : AV_), L[i]? = some (some v) → ls[i]? = some (.val (cv_ α v))
theorem fv_i {α : Nat → Nat → Nat} {g : GS_} {f i : Nat} (h : rs_ f = none) : fv_ α g f i = .int (gfi g f i) := by simp [fv_, h]
theorem fv_r {α : Nat → Nat → Nat} {g : GS_} {f i t : Nat} (h : rs_ f = some t) : fv_ α g f i = va_rf ((gfr g f i).map (α t)) := by simp [fv_, h]
theorem vS_i {g : GS_} {st : List AV_} {x : Int32} (h : vS_ g st) : vS_ g (.inl x :: st) := List.forall_mem_cons.mpr ⟨trivial, h⟩
theorem vS_c {g : GS_} {st : List AV_} {v : AV_} (h1 : ok_ g v) (h : vS_ g st) : vS_ g (v :: st) := List.forall_mem_cons.mpr ⟨h1, h⟩
theorem vS_t {g : GS_} {st : List AV_} {v : AV_} (h : vS_ g (v :: st)) : vS_ g st := (List.forall_mem_cons.mp h).2
theorem vS_h {g : GS_} {st : List AV_} {v : AV_} (h : vS_ g (v :: st)) : ok_ g v := (List.forall_mem_cons.mp h).1
theorem vS_a {g : GS_} {a b : List AV_} (h : vS_ g (a ++ b)) : vS_ g a ∧ vS_ g b := List.forall_mem_append.mp h
theorem ok_s {g : GS_} {t a : Nat} (h : ok_ g (.inr (t, some a))) : a < gcn g t := h a rfl
theorem ok_n {g : GS_} {t : Nat} : ok_ g (.inr (t, none)) := fun i h => by cases h
theorem ok_mono {g g' : GS_} (h : ∀ t, gcn g t ≤ gcn g' t) {v : AV_} (hv : ok_ g v) : ok_ g' v := by
  cases v with
  | inl x => trivial
  | inr q => exact fun i hi => Nat.lt_of_lt_of_le (hv i hi) (h q.1)
theorem cv_ext {g : GS_} {α α' : Nat → Nat → Nat} (h : ∀ t i, i < gcn g t → α' t i = α t i) {v : AV_} (hv : ok_ g v) : cv_ α' v = cv_ α v := by
  cases v with
  | inl x => rfl
  | inr q =>
    obtain ⟨t, x⟩ := q
    cases x with
    | none => rfl
    | some i =>
      show Value.ref (α' t i) = Value.ref (α t i)
      rw [h t i (hv i rfl)]
theorem vS_mono {g g' : GS_} (h : ∀ t, gcn g t ≤ gcn g' t) {st : List AV_} (hv : vS_ g st) : vS_ g' st := fun v hm => ok_mono h (hv v hm)
theorem vL_mono {g g' : GS_} (h : ∀ t, gcn g t ≤ gcn g' t) {L : List (Option AV_)} (hv : vL_ g L) : vL_ g' L := fun i v hm => ok_mono h (hv i v hm)
theorem map_ext {g : GS_} {α α' : Nat → Nat → Nat} (h : ∀ t i, i < gcn g t → α' t i = α t i) {st : List AV_} (hv : vS_ g st) : st.map (cv_ α') = st.map (cv_ α) := List.map_congr_left (fun v hm => cv_ext h (hv v hm))
theorem lvr_ext {g : GS_} {α α' : Nat → Nat → Nat} (h : ∀ t i, i < gcn g t → α' t i = α t i) {L : List (Option AV_)} (hv : vL_ g L) {ls : Array Slot} {nL : Nat} (hl : lvr_ α ls nL L) : lvr_ α' ls nL L := ⟨hl.1, hl.2.1, fun i v hm => by rw [cv_ext h (hv i v hm)]; exact hl.2.2 i v hm⟩
/-- the heap holds g, at the addresses α -/
def Rep_ (D : va_G) (α : Nat → Nat → Nat) (g : GS_) (H : Heap) : Prop :=
  (∀ t i, i < gcn g t → α t i < H.size) ∧
  (∀ t i t' i', i < gcn g t → i' < gcn g t' → α t i = α t' i' → t = t' ∧ i = i') ∧
  (∀ f t' i j, rs_ f = some t' → i < gcn g (f / 32) → gfr g f i = some j → j < gcn g t') ∧
  (∀ t t' i j v, es_ t = some t' → i < gcn g t → j < gln g t i → gar g t i j = some v → v < gcn g t') ∧
  (∀ t C T N i, vwCl[t]? = some (C, T, N) → i < gcn g t → t_OB (α t i) (D.1 t) N (D.2 t) H (fun k => fv_ α g (32 * t + k) i)) ∧
  (∀ t i, t = 20 ∨ t = 21 → i < gcn g t → H[α t i]? = some (vp_cell (D.1 t) (gln g t i, .inl (gai g t i)))) ∧
  (∀ t t' i, es_ t = some t' → i < gcn g t → H[α t i]? = some (vp_cell (D.1 t) (gln g t i, .inr (.inr (.inr (.inr (fun j => (gar g t i j).map (α t'))))))))
theorem vw_le {t : Nat} {C : String} {T : u_T} {N : Nat} (h : vwCl[t]? = some (C, T, N)) : N ≤ 32 ∧ t < 11 := by
  have h1 : ∀ q ∈ vwCl, q.2.2 ≤ 32 := by decide
  exact ⟨h1 _ (List.mem_of_getElem? h), (List.getElem?_eq_some_iff.mp h).1⟩
theorem es_ge {t t' : Nat} (h : es_ t = some t') : 22 ≤ t ∧ t ≤ 25 := by
  unfold es_ at h
  split at h
  · omega
  · omega
  · omega
  · omega
  · cases h
theorem f_div {t k : Nat} (h : k < 32) : (32 * t + k) / 32 = t := by omega
theorem fv_congr {α : Nat → Nat → Nat} {g g' : GS_} {f i : Nat} (h1 : gfi g' f i = gfi g f i) (h2 : gfr g' f i = gfr g f i) : fv_ α g' f i = fv_ α g f i := by
  unfold fv_
  rw [h1, h2]
theorem fv_alpha {D : va_G} {α α' : Nat → Nat → Nat} {g : GS_} {H : Heap} (hR : Rep_ D α g H) (he : ∀ t i, i < gcn g t → α' t i = α t i) {f i : Nat} (hi : i < gcn g (f / 32)) : fv_ α' g f i = fv_ α g f i := by
  cases hr : rs_ f with
  | none => rw [fv_i hr, fv_i hr]
  | some t =>
    rw [fv_r hr, fv_r hr]
    cases hx : gfr g f i with
    | none => rfl
    | some j =>
      show va_rf (some (α' t j)) = va_rf (some (α t j))
      rw [he t j (hR.2.2.1 f t i j hr hi hx)]
/-- one object's fields change -/
theorem rep_obj {D : va_G} {α : Nat → Nat → Nat} {g g' : GS_} {H H1 : Heap} {t a : Nat} (h : Rep_ D α g H) (ht : t < 11) (ha : a < gcn g t) (hcn : gcn g' = gcn g) (hln : gln g' = gln g) (hai : gai g' = gai g) (har : gar g' = gar g)
    (hfv : ∀ t' k i, k < 32 → (t' ≠ t ∨ i ≠ a) → fv_ α g' (32 * t' + k) i = fv_ α g (32 * t' + k) i) (hv : ∀ f t' i j, rs_ f = some t' → i < gcn g (f / 32) → gfr g' f i = some j → j < gcn g t')
    (hob : ∀ C T N, vwCl[t]? = some (C, T, N) → t_OB (α t a) (D.1 t) N (D.2 t) H1 (fun k => fv_ α g' (32 * t + k) a)) (z : H1.size = H.size) (oq : ∀ q, q ≠ α t a → H1[q]? = H[q]?) : Rep_ D α g' H1 := by
  obtain ⟨r1, r2, r3, r4, r5, r6, r7⟩ := h
  refine ⟨?_, ?_, ?_, ?_, ?_, ?_, ?_⟩
  · rw [hcn, z]; exact r1
  · rw [hcn]; exact r2
  · rw [hcn]; exact hv
  · rw [hcn, hln, har]; exact r4
  · rw [hcn]
    intro t' C T N i hc hi
    by_cases e : t' = t ∧ i = a
    · obtain ⟨rfl, rfl⟩ := e
      exact hob C T N hc
    · have hne : α t' i ≠ α t a := fun q => e (r2 t' i t a hi ha q)
      refine ((r5 t' C T N i hc hi).kept (oq _ hne)).to (fun k hk => (hfv t' k i (by have := (vw_le hc).1; omega) ?_).symm)
      by_cases e1 : t' = t
      · exact Or.inr (fun q => e ⟨e1, q⟩)
      · exact Or.inl e1
  · rw [hcn, hln, hai]
    intro t' i ht' hi
    rw [oq _ (fun q => by have := (r2 t' i t a hi ha q).1; omega)]
    exact r6 t' i ht' hi
  · rw [hcn, hln, har]
    intro t' t2 i ht' hi
    rw [oq _ (fun q => by have := (r2 t' i t a hi ha q).1; have := es_ge ht'; omega)]
    exact r7 t' t2 i ht' hi
theorem rep_fi {D : va_G} {α : Nat → Nat → Nat} {g : GS_} {H H1 : Heap} {t k a : Nat} {v : Int32} (h : Rep_ D α g H) (ht : t < 11) (ha : a < gcn g t) (hk : k < 32) (hr : rs_ (32 * t + k) = none)
    (hob : ∀ C T N, vwCl[t]? = some (C, T, N) → t_OB (α t a) (D.1 t) N (D.2 t) H1 (updV (fun k => fv_ α g (32 * t + k) a) k (.int v))) (z : H1.size = H.size) (oq : ∀ q, q ≠ α t a → H1[q]? = H[q]?) : Rep_ D α (sfi g (32 * t + k) a v) H1 := by
  refine rep_obj (g' := sfi g (32 * t + k) a v) h ht ha rfl rfl rfl rfl ?_ h.2.2.1 ?_ z oq
  · intro t' k' i hk' hne
    refine fv_congr ?_ rfl
    show (if 32 * t' + k' = 32 * t + k ∧ i = a then v else gfi g (32 * t' + k') i) = _
    rw [if_neg (by omega)]
  · intro C T N hc
    refine (hob C T N hc).to (fun k' hk' => ?_)
    have := (vw_le hc).1
    by_cases e : k' = k
    · subst e
      rw [fv_i hr]
      show updV _ _ _ _ = Value.int (if 32 * t + k' = 32 * t + k' ∧ a = a then v else gfi g (32 * t + k') a)
      simp [updV]
    · simp only [updV, e, if_false]
      refine fv_congr ?_ rfl
      show _ = (if 32 * t + k' = 32 * t + k ∧ a = a then v else gfi g (32 * t + k') a)
      rw [if_neg (by omega)]
theorem rep_fr {D : va_G} {α : Nat → Nat → Nat} {g : GS_} {H H1 : Heap} {t k a t2 : Nat} {v : Option Nat} (h : Rep_ D α g H) (ht : t < 11) (ha : a < gcn g t) (hk : k < 32) (hr : rs_ (32 * t + k) = some t2) (hv : ok_ g (.inr (t2, v)))
    (hob : ∀ C T N, vwCl[t]? = some (C, T, N) → t_OB (α t a) (D.1 t) N (D.2 t) H1 (updV (fun k => fv_ α g (32 * t + k) a) k (va_rf (v.map (α t2))))) (z : H1.size = H.size) (oq : ∀ q, q ≠ α t a → H1[q]? = H[q]?) : Rep_ D α (sfr g (32 * t + k) a v) H1 := by
  refine rep_obj (g' := sfr g (32 * t + k) a v) h ht ha rfl rfl rfl rfl ?_ ?_ ?_ z oq
  · intro t' k' i hk' hne
    refine fv_congr rfl ?_
    show (if 32 * t' + k' = 32 * t + k ∧ i = a then v else gfr g (32 * t' + k') i) = _
    rw [if_neg (by omega)]
  · intro f t' i j hf hi hx
    have hx : (if f = 32 * t + k ∧ i = a then v else gfr g f i) = some j := hx
    by_cases e : f = 32 * t + k ∧ i = a
    · rw [if_pos e] at hx
      rw [e.1, hr] at hf
      cases hf
      exact hv j hx
    · rw [if_neg e] at hx
      exact h.2.2.1 f t' i j hf hi hx
  · intro C T N hc
    refine (hob C T N hc).to (fun k' hk' => ?_)
    have := (vw_le hc).1
    by_cases e : k' = k
    · subst e
      rw [fv_r hr]
      show updV _ _ _ _ = va_rf ((if 32 * t + k' = 32 * t + k' ∧ a = a then v else gfr g (32 * t + k') a).map (α t2))
      simp [updV]
    · simp only [updV, e, if_false]
      refine fv_congr rfl ?_
      show _ = (if 32 * t + k' = 32 * t + k ∧ a = a then v else gfr g (32 * t + k') a)
      rw [if_neg (by omega)]
/-- one array of ints changes -/
theorem rep_ai {D : va_G} {α : Nat → Nat → Nat} {g g' : GS_} {H H1 : Heap} {t a : Nat} (h : Rep_ D α g H) (ht : t = 20 ∨ t = 21) (ha : a < gcn g t) (hcn : gcn g' = gcn g) (hln : gln g' = gln g) (hfi : gfi g' = gfi g) (hfr : gfr g' = gfr g) (har : gar g' = gar g)
    (hai : ∀ t' i, (t' ≠ t ∨ i ≠ a) → gai g' t' i = gai g t' i) (hc : H1[α t a]? = some (vp_cell (D.1 t) (gln g t a, .inl (gai g' t a)))) (z : H1.size = H.size) (oq : ∀ q, q ≠ α t a → H1[q]? = H[q]?) : Rep_ D α g' H1 := by
  obtain ⟨r1, r2, r3, r4, r5, r6, r7⟩ := h
  refine ⟨?_, ?_, ?_, ?_, ?_, ?_, ?_⟩
  · rw [hcn, z]; exact r1
  · rw [hcn]; exact r2
  · rw [hcn, hfr]; exact r3
  · rw [hcn, hln, har]; exact r4
  · rw [hcn]
    intro t' C T N i hq hi
    have := (vw_le hq).2
    refine ((r5 t' C T N i hq hi).kept (oq _ (fun q => by have := (r2 t' i t a hi ha q).1; omega))).to (fun k hk => fv_congr (by rw [hfi]) (by rw [hfr]))
  · rw [hcn, hln]
    intro t' i ht' hi
    by_cases e : t' = t ∧ i = a
    · obtain ⟨rfl, rfl⟩ := e
      exact hc
    · rw [oq _ (fun q => e (r2 t' i t a hi ha q)), hai t' i (by by_cases e1 : t' = t
                                                                · exact Or.inr (fun q => e ⟨e1, q⟩)
                                                                · exact Or.inl e1)]
      exact r6 t' i ht' hi
  · rw [hcn, hln, har]
    intro t' t2 i ht' hi
    rw [oq _ (fun q => by have := (r2 t' i t a hi ha q).1; have := es_ge ht'; omega)]
    exact r7 t' t2 i ht' hi
theorem cell_congr {c : ClassId} {n : Nat} {f f' : Nat → Option Nat} (h : ∀ j, f j = f' j) : some (vp_cell c (n, .inr (.inr (.inr (.inr f))))) = some (vp_cell c (n, .inr (.inr (.inr (.inr f'))))) := by rw [funext h]
/-- one array of references changes -/
theorem rep_ar {D : va_G} {α : Nat → Nat → Nat} {g : GS_} {H H1 : Heap} {t a t2 j : Nat} {v : Option Nat} (h : Rep_ D α g H) (ht : es_ t = some t2) (ha : a < gcn g t) (hv : ok_ g (.inr (t2, v)))
    (hc : H1[α t a]? = some (vp_cell (D.1 t) (gln g t a, .inr (.inr (.inr (.inr (va_up (fun j => (gar g t a j).map (α t2)) j (v.map (α t2))))))))) (z : H1.size = H.size) (oq : ∀ q, q ≠ α t a → H1[q]? = H[q]?) : Rep_ D α (sar g t a j v) H1 := by
  have hE := es_ge ht
  obtain ⟨r1, r2, r3, r4, r5, r6, r7⟩ := h
  refine ⟨by rw [z]; exact r1, r2, r3, ?_, ?_, ?_, ?_⟩
  · intro t' t3 i j' w ht' hi hj hw
    have hw : (if t' = t ∧ i = a ∧ j' = j then v else gar g t' i j') = some w := hw
    by_cases e : t' = t ∧ i = a ∧ j' = j
    · rw [if_pos e] at hw
      rw [e.1, ht] at ht'
      cases ht'
      exact hv w hw
    · rw [if_neg e] at hw
      exact r4 t' t3 i j' w ht' hi hj hw
  · intro t' C T N i hq hi
    have := (vw_le hq).2
    exact ((r5 t' C T N i hq hi).kept (oq _ (fun q => by have := (r2 t' i t a hi ha q).1; omega))).to (fun k hk => fv_congr rfl rfl)
  · intro t' i ht' hi
    rw [oq _ (fun q => by have := (r2 t' i t a hi ha q).1; omega)]
    exact r6 t' i ht' hi
  · intro t' t3 i ht' hi
    by_cases e : t' = t ∧ i = a
    · obtain ⟨rfl, rfl⟩ := e
      rw [ht] at ht'
      cases ht'
      rw [hc]
      refine cell_congr (fun j' => ?_)
      show va_up _ _ _ _ = (if t' = t' ∧ i = i ∧ j' = j then v else gar g t' i j').map (α t2)
      unfold va_up
      by_cases e : j' = j
      · rw [if_pos e, if_pos ⟨rfl, rfl, e⟩]
      · rw [if_neg e, if_neg (fun q => e q.2.2)]
    · rw [oq _ (fun q => e (r2 t' i t a hi ha q))]
      rw [r7 t' t3 i ht' hi]
      refine cell_congr (fun j' => ?_)
      show _ = (if t' = t ∧ i = a ∧ j' = j then v else gar g t' i j').map (α t3)
      rw [if_neg (fun q => e ⟨q.1, q.2.1⟩)]
def aup_ (α : Nat → Nat → Nat) (t i q : Nat) : Nat → Nat → Nat := fun t' i' => if t' = t ∧ i' = i then q else α t' i'
theorem aup_old {α : Nat → Nat → Nat} {g : GS_} {t q : Nat} : ∀ t' i', i' < gcn g t' → aup_ α t (gcn g t) q t' i' = α t' i' := by
  intro t' i' h
  unfold aup_
  rw [if_neg (by rintro ⟨rfl, rfl⟩; omega)]
theorem aup_new {α : Nat → Nat → Nat} {t i q : Nat} : aup_ α t i q t i = q := by simp [aup_]
/-- a new cell -/
theorem rep_new {D : va_G} {α : Nat → Nat → Nat} {g g' : GS_} {H H1 : Heap} {t : Nat} (h : Rep_ D α g H) (hcn : gcn g' = fun x => if x = t then gcn g t + 1 else gcn g x)
    (hf : ∀ f i, (f / 32 ≠ t ∨ i ≠ gcn g t) → gfi g' f i = gfi g f i ∧ gfr g' f i = gfr g f i)
    (ha : ∀ t' i, (t' ≠ t ∨ i ≠ gcn g t) → gai g' t' i = gai g t' i ∧ gar g' t' i = gar g t' i ∧ gln g' t' i = gln g t' i)
    (hn : ∀ f t2, rs_ f = some t2 → f / 32 = t → gfr g' f (gcn g t) = none) (hn2 : ∀ j t2, es_ t = some t2 → gar g' t (gcn g t) j = none) (z : H1.size = H.size + 1) (oq : ∀ q, q < H.size → H1[q]? = H[q]?)
    (ho : ∀ C T N, vwCl[t]? = some (C, T, N) → t_OB H.size (D.1 t) N (D.2 t) H1 (fun k => fv_ (aup_ α t (gcn g t) H.size) g' (32 * t + k) (gcn g t)))
    (hi : t = 20 ∨ t = 21 → H1[H.size]? = some (vp_cell (D.1 t) (gln g' t (gcn g t), .inl (gai g' t (gcn g t)))))
    (hr : ∀ t2, es_ t = some t2 → H1[H.size]? = some (vp_cell (D.1 t) (gln g' t (gcn g t), .inr (.inr (.inr (.inr (fun j => (gar g' t (gcn g t) j).map (aup_ α t (gcn g t) H.size t2)))))))) : Rep_ D (aup_ α t (gcn g t) H.size) g' H1 := by
  have hold := h
  obtain ⟨r1, r2, r3, r4, r5, r6, r7⟩ := h
  have cs : ∀ t' i, i < gcn g' t' → (t' = t ∧ i = gcn g t) ∨ (i < gcn g t' ∧ (t' ≠ t ∨ i ≠ gcn g t)) := by
    intro t' i hq
    rw [hcn] at hq
    by_cases e : t' = t
    · simp only [e, if_true] at hq
      by_cases e2 : i = gcn g t
      · exact Or.inl ⟨e, e2⟩
      · exact Or.inr ⟨by rw [e]; omega, Or.inr e2⟩
    · simp only [e, if_false] at hq
      exact Or.inr ⟨hq, Or.inl e⟩
  have up : ∀ x, gcn g x ≤ gcn g' x := by
    intro x
    rw [hcn]
    by_cases e : x = t
    · simp [e]
    · simp [e]
  have hA : ∀ t' i', i' < gcn g t' → aup_ α t (gcn g t) H.size t' i' = α t' i' := aup_old
  refine ⟨?_, ?_, ?_, ?_, ?_, ?_, ?_⟩
  · intro t' i hq
    rcases cs t' i hq with ⟨rfl, rfl⟩ | ⟨h1, -⟩
    · rw [aup_new]; omega
    · rw [hA t' i h1]
      have := r1 t' i h1
      omega
  · intro t1 i1 t2 i2 h1 h2 he
    rcases cs t1 i1 h1 with ⟨rfl, rfl⟩ | ⟨g1, -⟩ <;> rcases cs t2 i2 h2 with ⟨e1, e2⟩ | ⟨g2, -⟩
    · exact ⟨e1.symm, by rw [e2]⟩
    · rw [aup_new, hA t2 i2 g2] at he
      have := r1 t2 i2 g2
      omega
    · subst e1; subst e2
      rw [aup_new, hA t1 i1 g1] at he
      have := r1 t1 i1 g1
      omega
    · rw [hA t1 i1 g1, hA t2 i2 g2] at he
      exact r2 t1 i1 t2 i2 g1 g2 he
  · intro f t' i j hq hc hx
    rcases cs _ i hc with ⟨e1, e2⟩ | ⟨g1, g2⟩
    · subst e2
      rw [hn f t' hq e1] at hx
      cases hx
    · rw [(hf f i g2).2] at hx
      exact Nat.lt_of_lt_of_le (r3 f t' i j hq g1 hx) (up t')
  · intro t' t2 i j v hq hc hj hx
    rcases cs _ i hc with ⟨e1, e2⟩ | ⟨g1, g2⟩
    · subst e1; subst e2
      rw [hn2 j t2 hq] at hx
      cases hx
    · rw [(ha t' i g2).2.1] at hx
      rw [(ha t' i g2).2.2] at hj
      exact Nat.lt_of_lt_of_le (r4 t' t2 i j v hq g1 hj hx) (up t2)
  · intro t' C T N i hq hc
    rcases cs _ i hc with ⟨e1, e2⟩ | ⟨g1, g2⟩
    · subst e1; subst e2
      rw [aup_new]
      exact ho C T N hq
    · rw [hA t' i g1]
      refine ((r5 t' C T N i hq g1).kept (oq _ (r1 t' i g1))).to (fun k hk => ?_)
      have hk32 : k < 32 := by have := (vw_le hq).1; omega
      have h9 := hf (32 * t' + k) i (by rw [f_div hk32]; exact g2)
      rw [fv_congr h9.1 h9.2]
      exact (fv_alpha hold hA (by rw [f_div hk32]; exact g1)).symm
  · intro t' i hq hc
    rcases cs _ i hc with ⟨e1, e2⟩ | ⟨g1, g2⟩
    · subst e1; subst e2
      rw [aup_new]
      exact hi hq
    · rw [hA t' i g1, oq _ (r1 t' i g1), (ha t' i g2).1, (ha t' i g2).2.2]
      exact r6 t' i hq g1
  · intro t' t2 i hq hc
    rcases cs _ i hc with ⟨e1, e2⟩ | ⟨g1, g2⟩
    · subst e1; subst e2
      rw [aup_new]
      exact hr t2 hq
    · rw [hA t' i g1, oq _ (r1 t' i g1), (ha t' i g2).2.1, (ha t' i g2).2.2, r7 t' t2 i hq g1]
      rw [vp_cell_q, vp_cell_q]
      unfold arrV
      congr 3
      funext j
      show va_rf ((gar g t' i j.val).map (α t2)) = va_rf ((gar g t' i j.val).map (aup_ α t (gcn g t) H.size t2))
      cases hx : gar g t' i j.val with
      | none => rfl
      | some v =>
        show va_rf (some (α t2 v)) = va_rf (some (aup_ α t (gcn g t) H.size t2 v))
        rw [hA t2 v (r4 t' t2 i j.val v hq g1 j.isLt hx)]
