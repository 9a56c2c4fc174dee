/-! the start: both programs' objects, made out of nothing -/
def gZ : GS_ := (fun _ _ => 0, fun _ _ => none, fun _ _ _ => 0, fun _ _ _ => none, fun _ _ => 0, fun _ => 0, 0, 0)
def gX0 : GS_ := nwo gZ 9 5
def gX1 : GS_ := match f9_init 0 gX0 with
  | some (_, g) => g
  | none => gZ
def gM0 : GS_ := nwo gZ 10 22
def gM1 : GS_ := match f10_init 0 gM0 with
  | some (_, g) => g
  | none => gZ
theorem i_x : f9_init 0 gX0 = some ((), gX1) := by
  have h : (f9_init 0 gX0).isSome = true := by decide +kernel
  unfold gX1
  cases hh : f9_init 0 gX0 with
  | none => rw [hh] at h; cases h
  | some q => rfl
theorem i_m : f10_init 0 gM0 = some ((), gM1) := by
  have h : (f10_init 0 gM0).isSome = true := by decide +kernel
  unfold gM1
  cases hh : f10_init 0 gM0 with
  | none => rw [hh] at h; cases h
  | some q => rfl
theorem i_x1 : gfr gX1 288 0 = some 0 ∧ gfr gX1 289 0 = some 1 ∧ gfr gX1 290 0 = some 0 ∧ gar gX1 25 0 0 = some 2 ∧ gar gX1 25 0 1 = some 3 ∧ gln gX1 25 0 = 2 ∧ gfr gX1 291 0 = some 0 ∧ gfr gX1 96 0 = some 18 ∧ gln gX1 20 18 = 400 ∧ gfr gX1 292 0 = some 0 ∧ gfr gX1 224 0 = some 19 ∧ gfr gX1 225 0 = some 20 ∧ gfr gX1 226 0 = some 21 ∧ gfr gX1 227 0 = some 22 ∧ gln gX1 20 19 = 401 ∧ gln gX1 20 20 = 401 ∧ gln gX1 20 21 = 401 ∧ gln gX1 20 22 = 1600 ∧ 41 ≤ gcn gX1 20 ∧ gcn gX1 22 = 4 ∧ gcn gX1 23 = 4 := by decide +kernel
theorem i_xs0 : XSp gX1 0 := by refine ⟨?_, ?_, ?_, ?_, ?_, ?_, ?_, ?_, ?_, ?_, ?_, ?_, ?_, ?_, ?_, ?_, ?_, ?_, ?_, ?_, ?_⟩ <;> decide +kernel
theorem i_xs1 : XSp gX1 1 := by refine ⟨?_, ?_, ?_, ?_, ?_, ?_, ?_, ?_, ?_, ?_, ?_, ?_, ?_, ?_, ?_, ?_, ?_, ?_, ?_, ?_, ?_⟩ <;> decide +kernel
theorem i_xs2 : XSp gX1 2 := by refine ⟨?_, ?_, ?_, ?_, ?_, ?_, ?_, ?_, ?_, ?_, ?_, ?_, ?_, ?_, ?_, ?_, ?_, ?_, ?_, ?_, ?_⟩ <;> decide +kernel
theorem i_xs3 : XSp gX1 3 := by refine ⟨?_, ?_, ?_, ?_, ?_, ?_, ?_, ?_, ?_, ?_, ?_, ?_, ?_, ?_, ?_, ?_, ?_, ?_, ?_, ?_, ?_⟩ <;> decide +kernel
theorem i_xj : ∀ S, S < 4 → ∀ j, j < 24 → gar gX1 23 S j = none := by decide +kernel
theorem i_xn : ghs gX1 ≤ 200 ∧ gsl gX1 ≤ 50000 ∧ ghs gM1 ≤ 200 ∧ gsl gM1 ≤ 50000 := by decide +kernel
theorem i_XS : XS gX1 := by
  refine ⟨i_x1, fun S hS => ?_, fun S j J hS hj hJ => ?_⟩
  · rcases (show S = 0 ∨ S = 1 ∨ S = 2 ∨ S = 3 by omega) with rfl | rfl | rfl | rfl
    · exact i_xs0
    · exact i_xs1
    · exact i_xs2
    · exact i_xs3
  · rw [i_xj S hS j hj] at hJ
    cases hJ
theorem i_MI : MI gM1 := by refine ⟨?_, ?_, ?_, ?_, ?_, ?_, ?_, ?_, ?_, ?_, ?_, ?_, ?_, ?_, ?_, ?_, ?_, ?_, ?_, ?_, ?_, ?_⟩ <;> decide +kernel
theorem i_a : gai gM1 20 0 0 = 0 ∧ gai gM1 20 0 1 = 20 ∧ gai gM1 20 0 2 = 1000 ∧ gai gM1 20 0 3 = 0 ∧ gai gM1 20 0 4 = 0 ∧ gai gM1 20 0 5 = 0 ∧ gai gM1 20 0 6 = 0 ∧ gai gM1 20 0 7 = 0 ∧ gai gM1 20 0 8 = 1 ∧ gai gM1 20 0 9 = 1 ∧ gai gM1 20 0 10 = 0 ∧ gai gM1 20 0 11 = 1 ∧ gai gM1 20 0 12 = 5 ∧ gai gM1 20 0 13 = 0 := by decide +kernel
theorem i_f : gfi gX1 257 0 = 0 ∧ gfi gX1 259 0 = 0 ∧ gfi gX1 261 0 = 0 ∧ gfi gX1 269 0 = 20 ∧ gfi gX1 270 0 = 1000 ∧ gfi gX1 193 0 = 0 ∧ gfi gX1 65 0 = 0 ∧ gfi gX1 271 0 = 0 ∧ gfi gX1 268 0 = 0 ∧ gfi gX1 272 2 = 0 ∧ gfi gX1 272 3 = 0 ∧ gai gM1 21 0 0 = 0 ∧ gai gM1 21 0 1 = 0 ∧ gfi gM1 341 0 = 0 := by decide +kernel
theorem i_c : ∀ k, k < 40 → gai gX1 20 (bb 0) k = gai gM1 20 0 (418 + k) := by decide +kernel
theorem i_s : ∀ u, u < 6 → gai gX1 20 (bb 0 + 1) u = gai gM1 20 0 (8 + u) ∧ gai gX1 20 (bb 0 + 2) u = gai gM1 20 0 (14 + u) := by decide +kernel
theorem i_r : ∀ k, k < 400 → gai gX1 20 (bb 0 + 4) k = gai gM1 20 0 (458 + k) := by decide +kernel
theorem i_p : ∀ u, u < 6 → gai gX1 20 (bb 0 + 3) u = gai gM1 20 0 (20 + u) := by decide +kernel
theorem i_Iv0 : Iv0 (gai gM1 20 0) (gai gM1 20 2) := by
  obtain ⟨a0, a1, a2, a3, a4, a5, -⟩ := i_a
  unfold Iv0
  rw [a1, a3, a4, a5]
  exact ⟨by decide, by decide, by decide, by decide, fun d hd => absurd hd (Nat.not_lt_zero _), fun d hd => absurd hd (Nat.not_lt_zero _), fun d hd => absurd hd (Nat.not_lt_zero _)⟩
theorem PI_0 {a l : Nat → Int32} (h : Iv0 a l) (a4 : a 4 = 0) (a5 : a 5 = 0) (a6 : a 6 = 0) : PI l (a, []) 0 := by
  have n4 : ∀ x, ¬ x < tn (a 4) := fun x => by rw [a4]; exact Nat.not_lt_zero _
  have n5 : ∀ x, ¬ x < tn (a 5) := fun x => by rw [a5]; exact Nat.not_lt_zero _
  exact ⟨h, ⟨fun j hj => absurd hj (n4 j), fun p hp => absurd hp (n5 p), fun p q hp => absurd hp (n5 p)⟩, ⟨List.nodup_nil, fun x => ⟨fun h => absurd h List.not_mem_nil, fun h => absurd h.1 (n4 x)⟩⟩, 0, a6, Nat.le_refl _⟩
theorem i_PI : PI (gai gM1 20 2) (gai gM1 20 0, []) 0 := PI_0 i_Iv0 i_a.2.2.2.2.1 i_a.2.2.2.2.2.1 i_a.2.2.2.2.2.2.1
theorem i_SpO : SpO gX1 0 (gai gM1 20 0) (gai gM1 20 2) [] := by
  obtain ⟨a0, a1, a2, a3, a4, a5, a6, a7, -⟩ := i_a
  obtain ⟨f1, f2, f3, f4, f5, f6, f7, f8, f9, -⟩ := i_f
  refine ⟨⟨by omega, XJ_XS i_XS (by omega)⟩, i_xs0, i_Iv0, ⟨⟨f1.trans a3.symm, f2.trans a4.symm, f3.trans a5.symm, f4.trans a1.symm, f5.trans a2.symm, f6.trans a7.symm⟩, i_c, i_s, fun d hd => ?_, fun j hj => ?_, fun p hp => ?_⟩, ⟨fun j J hj => ?_, fun p hp => ?_, ⟨f7.trans a6.symm, i_r⟩, i_p, f8.trans a0.symm, f9, fun i x hx => by simp at hx⟩⟩
  · rw [a3] at hd
    exact absurd hd (Nat.not_lt_zero _)
  · rw [a4] at hj
    exact absurd hj (Nat.not_lt_zero _)
  · rw [a5] at hp
    exact absurd hp (Nat.not_lt_zero _)
  · rw [a4] at hj
    exact absurd hj (Nat.not_lt_zero _)
  · rw [a5] at hp
    exact absurd hp (Nat.not_lt_zero _)
theorem i_Rel : Rel gX1 gM1 0 := by
  obtain ⟨a0, a1, a2, a3, a4, a5, a6, a7, a8, a9, a10, a11, a12, a13⟩ := i_a
  obtain ⟨-, -, -, -, -, -, -, -, -, f10, f11, f12, f13, f14⟩ := i_f
  refine ⟨i_XS, i_MI, ⟨[], i_SpO, i_PI, ?_⟩, fun s hs => ?_, 0, f14, by omega⟩
  · unfold IvE
    rw [a7, a8, a9, a10, a11, a12, a13]
    decide
  · rcases (show s = 0 ∨ s = 1 by omega) with rfl | rfl
    · exact ⟨f10.trans f12.symm, Or.inl f12⟩
    · exact ⟨f11.trans f13.symm, Or.inl f13⟩
