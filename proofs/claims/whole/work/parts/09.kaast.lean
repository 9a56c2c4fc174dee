/-! a reference that may be null goes into an array -/
theorem k_aastq {own : String} {cc : ByteArray} {nL : Nat} {ret : Option FieldType} {dep loc : Nat} {ini : Bool} {ρ : Type} {E : ρ → Option AV_} {pc : Nat} {L : List (Option AV_)} {st : List AV_} {g : GS_} {oo : GS_ → Option (ρ × GS_)} {t t2 a : Nat} {b : Option Nat} {i : Int32} (ht : es_ t = some t2) (d : decode cc pc = .ok (.aastore, 1)) (k1 : ∀ g', K_ own cc nL ret dep loc ini E (pc + 1) L st g' (oo g')) : K_ own cc nL ret dep loc ini E pc L (.inr (t2, b) :: .inl i :: .inr (t, some a) :: st) g (if inb i (gln g t a) then lr_ (sar g t a i.toInt.toNat b) oo else none) := by
  rcases b with _ | b
  · refine k_case (fun hin => ?_) (fun _ => k_fail)
    refine k_liftG (g' := sar g t a i.toInt.toNat none) rfl rfl rfl (fun p l e R s m args below meth c D A α H locs ls cells slots Q cx _ _ hR hA hS vl vs hl kk => ?_) (fun h => vS_t (vS_t (vS_t h))) (k1 _)
    have ha := ok_s (vS_h (vS_t (vS_t vs)))
    have hc := hR.2.2.2.2.2.2 t t2 a ht ha
    have hK := cx.2.2.2.2.2.2.2.2.2.2.1
    obtain ⟨k, C, T, N, hk, hvw⟩ := tys_at (D := D) ht
    have hv := inb_in hin
    refine va_WaastN (C := C) cx.1 cx.2.1 hc ((hK.2 k _ hk).1 (gln g t a) (fun j => va_rf ((gar g t a j).map (α t2)))) (fun q => by cases q) (by show ¬ (i < 0 ∨ (arrV _ _ _).slots.size ≤ _); rw [arrV_size]; exact hv) rfl rfl d fun H1 e z oq => ?_
    refine kk H1 _ (rep_ar hR ht ha (vS_h vs) ?_ z oq) (hS.put z oq (hA _ _ ha))
    rw [e]
    rw [vp_cell_q, vp_cell_q, arrV_store]
    congr 2
    funext q
    by_cases e : q = i.toInt.toNat
    · subst e
      have e3 : i.toNatClampNeg = i.toInt.toNat := rfl
      rw [e3]
      simp [updV, va_up, va_rf]
    · have e2 : ¬ q = i.toNatClampNeg := e
      simp [updV, va_up, e, e2]
  · exact k_aast ht d k1
