/-! the shortest text, as numbers -/
def dgs (v : Nat) : Nat := if v < 10 then 1 else if v < 100 then 2 else 3
theorem dgs_pos (v : Nat) : 1 ≤ dgs v ∧ dgs v ≤ 3 := by unfold dgs; split <;> (try split) <;> omega
def stp (x : Nat → Nat) (i : Nat) : Int := (x (i + 1) : Int) - (x i : Int)
def oks (s : Int) : Prop := s = 1 ∨ s = -1 ∨ s = 2 ∨ s = -2
/-- t pages from i on may be one item -/
def Va (x : Nat → Nat) (m i t : Nat) : Prop := 1 ≤ t ∧ i + t ≤ m ∧ (2 ≤ t → oks (stp x i)) ∧ ∀ k, k + 1 < t → stp x (i + k) = stp x i
def IsR (x : Nat → Nat) (m i R : Nat) : Prop := Va x m i R ∧ ¬ Va x m i (R + 1)
theorem Va_down {x : Nat → Nat} {m i t u : Nat} (h : Va x m i t) (hu : 1 ≤ u) (hut : u ≤ t) : Va x m i u := by
  obtain ⟨h1, h2, h3, h4⟩ := h
  exact ⟨hu, by omega, fun q => h3 (by omega), fun k hk => h4 k (by omega)⟩
theorem Va_le {x : Nat → Nat} {m i R t : Nat} (h : IsR x m i R) (ht : Va x m i t) : t ≤ R := by
  rcases Nat.lt_or_ge R t with q | q
  · exact absurd (Va_down ht (by omega) (by omega)) h.2
  · exact q
def spd (s : Int) : Nat := if s = 2 ∨ s = -2 then 1 else 0
def lnI (x : Nat → Nat) (i t : Nat) : Nat := if t = 1 then dgs (x i) else dgs (x i) + 1 + dgs (x (i + t - 1)) + spd (stp x i)
def cst (x C : Nat → Nat) (m i t : Nat) : Nat := lnI x i t + (if i + t = m then 0 else 1 + C (i + t))
def itm (T : Nat → Nat) (m i t : Nat) : Nat := 1 + (if i + t = m then 0 else T (i + t))
abbrev lxl (c o c' o' : Nat) : Prop := c < c' ∨ (c = c' ∧ o ≤ o')
/-- the last of the best ones of some -/
def LM (x C T : Nat → Nat) (m i : Nat) (P : Nat → Prop) (c o k : Nat) : Prop :=
  P k ∧ c = cst x C m i k ∧ o = itm T m i k ∧ ∀ u, P u → (u ≤ k → lxl c o (cst x C m i u) (itm T m i u)) ∧ (k < u → ¬ lxl (cst x C m i u) (itm T m i u) c o)
theorem LM_uq {x C T : Nat → Nat} {m i : Nat} {P : Nat → Prop} {c o k c' o' k' : Nat} (h : LM x C T m i P c o k) (h' : LM x C T m i P c' o' k') : c = c' ∧ o = o' ∧ k = k' := by
  obtain ⟨h1, h2, h3, h4⟩ := h
  obtain ⟨h1', h2', h3', h4'⟩ := h'
  have hk : k = k' := by
    rcases Nat.lt_trichotomy k k' with q | q | q
    · have := (h4 k' h1').2 q
      have w := (h4' k h1).1 (by omega)
      rw [← h2', ← h3'] at this
      rw [← h2, ← h3] at w
      exact absurd w this
    · exact q
    · have := (h4' k h1).2 q
      have w := (h4 k' h1').1 (by omega)
      rw [← h2, ← h3] at this
      rw [← h2', ← h3'] at w
      exact absurd w this
  subst hk
  exact ⟨h2.trans h2'.symm, h3.trans h3'.symm, rfl⟩
/-- another one is tried, a longer one -/
theorem LM_step {x C T : Nat → Nat} {m i : Nat} {P : Nat → Prop} {c o k t : Nat} (h : LM x C T m i P c o k) (ht : ∀ u, P u → u < t) :
    (lxl (cst x C m i t) (itm T m i t) c o → LM x C T m i (fun u => P u ∨ u = t) (cst x C m i t) (itm T m i t) t) ∧ (¬ lxl (cst x C m i t) (itm T m i t) c o → LM x C T m i (fun u => P u ∨ u = t) c o k) := by
  obtain ⟨h1, h2, h3, h4⟩ := h
  refine ⟨fun hl => ⟨Or.inr rfl, rfl, rfl, ?_⟩, fun hl => ⟨Or.inl h1, h2, h3, ?_⟩⟩
  · rintro u (hu | rfl)
    · have hut := ht u hu
      refine ⟨fun _ => ?_, fun q => by omega⟩
      obtain ⟨w1, w2⟩ := h4 u hu
      unfold lxl at *
      rcases Nat.lt_or_ge k u with q | q
      · have := w2 q
        omega
      · have := w1 q
        omega
    · exact ⟨fun _ => Or.inr ⟨rfl, Nat.le_refl _⟩, fun q => by omega⟩
  · rintro u (hu | rfl)
    · exact h4 u hu
    · have := ht k h1
      exact ⟨fun q => by omega, fun _ => hl⟩
theorem LM_one {x C T : Nat → Nat} {m i : Nat} : LM x C T m i (fun u => u = 1) (cst x C m i 1) (itm T m i 1) 1 := by
  refine ⟨rfl, rfl, rfl, ?_⟩
  rintro u rfl
  exact ⟨fun _ => Or.inr ⟨rfl, Nat.le_refl _⟩, fun q => by omega⟩
theorem LM_iff {x C T : Nat → Nat} {m i : Nat} {P Q : Nat → Prop} {c o k : Nat} (hPQ : ∀ u, P u ↔ Q u) (h : LM x C T m i P c o k) : LM x C T m i Q c o k :=
  ⟨(hPQ k).mp h.1, h.2.1, h.2.2.1, fun u hu => h.2.2.2 u ((hPQ u).mpr hu)⟩
/-- what is best from j on -/
def Bst (x C T K : Nat → Nat) (m j : Nat) : Prop := LM x C T m j (Va x m j) (C j) (T j) (K j)
/-- an item that stops two pages early, or earlier, is not the shortest -/
theorem merge {x C T K : Nat → Nat} {m i R u : Nat} (hR : IsR x m i R) (hu : 2 ≤ u) (huR : u + 2 ≤ R) (hB : Bst x C T K m (i + u)) : ∃ w, u < w ∧ w ≤ R ∧ cst x C m i w < cst x C m i u := by
  obtain ⟨⟨v1, v2, v3, v4⟩, b2, -, -⟩ := hB
  obtain ⟨r1, r2, r3, r4⟩ := hR.1
  have hs : stp x (i + u) = stp x i := r4 u (by omega)
  have hV : Va x m i (u + K (i + u)) := by
    refine ⟨by omega, by omega, fun _ => r3 (by omega), fun k hk => ?_⟩
    rcases Nat.lt_or_ge k u with q | q
    · exact r4 k (by omega)
    · have := v4 (k - u) (by omega)
      rw [show i + u + (k - u) = i + k by omega] at this
      rw [this, hs]
  have hle := Va_le hR hV
  refine ⟨u + K (i + u), by omega, hle, ?_⟩
  unfold cst at *
  rw [if_neg (show ¬ i + u = m by omega), b2, ← Nat.add_assoc i u]
  generalize (if i + u + K (i + u) = m then 0 else 1 + C (i + u + K (i + u))) = rest
  have d1 := dgs_pos (x (i + u - 1))
  unfold lnI
  rw [if_neg (show ¬ u + K (i + u) = 1 by omega), if_neg (show ¬ u = 1 by omega), show i + (u + K (i + u)) - 1 = i + u + K (i + u) - 1 by omega]
  by_cases c : K (i + u) = 1
  · rw [if_pos c, c, show i + u + 1 - 1 = i + u by omega]
    omega
  · rw [if_neg c]
    omega
theorem merge2 {x C T K : Nat → Nat} {m i R : Nat} (hR : IsR x m i R) (hB : ∀ j, i < j → j < m → Bst x C T K m j) : ∀ (n u : Nat), R - u ≤ n → 2 ≤ u → u + 2 ≤ R → ∃ w, u < w ∧ (w = R ∨ w + 1 = R) ∧ cst x C m i w < cst x C m i u
  | 0, u, h, _, _ => by omega
  | n + 1, u, h, h2, h3 => by
    have hm := hR.1.2.1
    obtain ⟨w, w1, w2, w3⟩ := merge hR h2 h3 (hB (i + u) (by omega) (by omega))
    by_cases c : w + 2 ≤ R
    · obtain ⟨z, z1, z2, z3⟩ := merge2 hR hB n w (by omega) (by omega) c
      exact ⟨z, by omega, z2, by omega⟩
    · exact ⟨w, w1, by omega, w3⟩
/-- three are enough -/
theorem three {x C T K : Nat → Nat} {m i R c o k : Nat} (hR : IsR x m i R) (hB : ∀ j, i < j → j < m → Bst x C T K m j) (h : LM x C T m i (fun u => u = 1 ∨ (2 ≤ u ∧ (u = R ∨ u + 1 = R))) c o k) : LM x C T m i (Va x m i) c o k := by
  obtain ⟨h1, h2, h3, h4⟩ := h
  have r1 := hR.1.1
  have inV : ∀ u, 1 ≤ u → u ≤ R → Va x m i u := fun u q1 q2 => Va_down hR.1 q1 q2
  refine ⟨inV k ?_ ?_, h2, h3, fun u hu => ?_⟩
  · rcases h1 with q | q <;> omega
  · rcases h1 with q | q <;> omega
  · have hle := Va_le hR hu
    have hu1 := hu.1
    by_cases c3 : u = 1 ∨ (2 ≤ u ∧ (u = R ∨ u + 1 = R))
    · exact h4 u c3
    · obtain ⟨w, w1, w2, w3⟩ := merge2 hR hB (R - u) u (Nat.le_refl _) (by omega) (by omega)
      obtain ⟨z1, z2⟩ := h4 w (Or.inr ⟨by omega, w2⟩)
      unfold lxl at *
      rcases Nat.lt_or_ge k w with q | q
      · have := z2 q
        exact ⟨fun _ => by omega, fun _ => by omega⟩
      · have := z1 q
        exact ⟨fun _ => by omega, fun _ => by omega⟩
theorem Bst_len {x C T K : Nat → Nat} {m i : Nat} (hi : i < m) (h : Bst x C T K m i) : C i ≤ 3 + (if i + 1 = m then 0 else 1 + C (i + 1)) := by
  obtain ⟨h1, h2, h3, h4⟩ := h
  have hV : Va x m i 1 := ⟨Nat.le_refl _, by omega, fun q => by omega, fun k q => by omega⟩
  obtain ⟨z1, z2⟩ := h4 1 hV
  have hk := h1.1
  have := z1 hk
  have d := dgs_pos (x i)
  unfold lxl cst lnI at this
  rw [if_pos rfl] at this
  omega
/-- the signs of a number -/
def sgN (v : Nat) : List Nat := if v < 10 then [48 + v] else if v < 100 then [48 + v / 10, 48 + v % 10] else [48 + v / 100, 48 + v / 10 % 10, 48 + v % 10]
theorem sgN_len {v : Nat} : (sgN v).length = dgs v := by
  unfold sgN dgs
  split
  · rfl
  · split
    · rfl
    · rfl
/-- the signs of an item -/
def sgI (x : Nat → Nat) (i t : Nat) : List Nat := if t = 1 then sgN (x i) else sgN (x i) ++ (45 :: (sgN (x (i + t - 1)) ++ (if spd (stp x i) = 1 then [if x i % 2 = 1 then 111 else 101] else [])))
theorem sgI_len {x : Nat → Nat} {i t : Nat} : (sgI x i t).length = lnI x i t := by
  unfold sgI lnI
  by_cases c : t = 1
  · rw [if_pos c, if_pos c, sgN_len]
  · rw [if_neg c, if_neg c, List.length_append, List.length_cons, List.length_append, sgN_len, sgN_len]
    unfold spd
    split
    · rw [if_pos rfl]
      show dgs (x i) + (dgs (x (i + t - 1)) + 1 + 1) = _
      omega
    · rw [if_neg (by omega)]
      show dgs (x i) + (dgs (x (i + t - 1)) + 0 + 1) = _
      omega
/-- the text from i on -/
def txt (x K : Nat → Nat) (m : Nat) : Nat → Nat → List Nat
  | 0, _ => []
  | n + 1, i => if m ≤ i then [] else sgI x i (K i) ++ (if i + K i = m then [] else 44 :: txt x K m n (i + K i))
theorem txt_len {x C T K : Nat → Nat} {m : Nat} (hB : ∀ j, j < m → Bst x C T K m j) : ∀ n i, i < m → m - i ≤ n → (txt x K m n i).length = C i
  | 0, i, h1, h2 => by omega
  | n + 1, i, h1, h2 => by
    obtain ⟨v, b, -, -⟩ := hB i h1
    have hv := v.1
    have hv2 := v.2.1
    rw [txt, if_neg (by omega), List.length_append, sgI_len, b]
    unfold cst
    by_cases c : i + K i = m
    · rw [if_pos c, if_pos c]
      rfl
    · rw [if_neg c, if_neg c, List.length_cons, txt_len hB n (i + K i) (by omega) (by omega)]
      omega
