/-! A state of the switch is a function f of 153 cells, in the reference's order. A SwitchState object with its 31 other cells, at the addresses L 0 .. L 31, holds f: L 0 the object, L 1, L 2, L 3 its rows, L 4.. the paths, L 8.. the entries, L 16.. the flows. Its 'turn' is the remainder of cell 8. -/
def jr (x y : Int32) : Int32 := x - x / y * y
def tnOf (f : Nat → Int32) : Int32 := jr (f 8) (f 1)
def stFs (L : Nat → Nat) (f : Nat → Int32) : List Value := [.int (f 1), .int (f 2), .int (f 0), .int (f 5), .int (f 4), .int (f 3), .int (f 6), .int (f 7), .int (tnOf f), .ref (L 1), .ref (L 2), .ref (L 3)]
def paFs (f : Nat → Int32) (i : Nat) : List Value := [.int (f (9 + i)), .int (f (13 + i)), .int (f (17 + i)), .int (f (21 + i)), .int (f (25 + i)), .int (f (29 + i)), .int (f (33 + i)), .int (f (37 + i))]
def enFs (f : Nat → Int32) (i : Nat) : List Value := [.int (f (41 + i)), .int (f (49 + i)), .int (f (57 + i)), .int (f (65 + i))]
def flFs (f : Nat → Int32) (i : Nat) : List Value := [.int (f (73 + i)), .int (f (89 + i)), .int (f (121 + i)), .int (f (105 + i)), .int (f (137 + i))]
def Inj (L : Nat → Nat) (n : Nat) : Prop := ∀ i j, i < n → j < n → L i = L j → i = j
def aQ (cA : ClassId) (n : Nat) (g : Nat → Option Nat) : va_E := .inl (cA, n, .inr (.inr (.inr (.inr g))))
def aI (cA : ClassId) (n : Nat) (g : Nat → Int32) : va_E := .inl (cA, n, .inl g)
def IsSt (G : gG) (M : HM) (L : Nat → Nat) (f : Nat → Int32) : Prop :=
  M (L 0) = some (.inr (4, stFs L f)) ∧
  (∃ g, M (L 1) = some (.inl (G.2 4, 4, .inr (.inr (.inr (.inr g))))) ∧ ∀ i, i < 4 → g i = some (L (4 + i))) ∧
  (∃ g, M (L 2) = some (.inl (G.2 2, 8, .inr (.inr (.inr (.inr g))))) ∧ ∀ i, i < 8 → g i = some (L (8 + i))) ∧
  (∃ g, M (L 3) = some (.inl (G.2 3, 16, .inr (.inr (.inr (.inr g))))) ∧ ∀ i, i < 16 → g i = some (L (16 + i))) ∧
  (∀ i, i < 4 → M (L (4 + i)) = some (.inr (2, paFs f i))) ∧
  (∀ i, i < 8 → M (L (8 + i)) = some (.inr (0, enFs f i))) ∧
  (∀ i, i < 16 → M (L (16 + i)) = some (.inr (1, flFs f i))) ∧
  Inj L 32 ∧ ∀ i, i < 8 → f (41 + i) = 0 ∨ f (41 + i) = 1
/-- nothing but this state's cells has changed since M0 -/
def Off (M0 M : HM) (L : Nat → Nat) : Prop := ∀ q, (∀ i, i < 32 → q ≠ L i) → M q = M0 q
def St (G : gG) (M0 M : HM) (L : Nat → Nat) (f : Nat → Int32) : Prop := IsSt G M L f ∧ Off M0 M L
theorem Off.rf (M : HM) (L : Nat → Nat) : Off M M L := fun _ _ => rfl
theorem Off.trans {M0 M1 M2 : HM} {L : Nat → Nat} (h1 : Off M0 M1 L) (h2 : Off M1 M2 L) : Off M0 M2 L := fun q h => (h2 q h).trans (h1 q h)
theorem Off.mu {M0 M : HM} {L : Nat → Nat} (h : Off M0 M L) (i : Nat) (hi : i < 32) (e : va_E) : Off M0 (mu M (L i) e) L := fun q hq => (mu_ne _ _ (hq i hi)).trans (h q hq)
theorem IsSt.st {G : gG} {M : HM} {L : Nat → Nat} {f : Nat → Int32} (h : IsSt G M L f) : St G M M L f := ⟨h, Off.rf M L⟩
theorem St.trans {G : gG} {M0 M1 M2 : HM} {L : Nat → Nat} {f g : Nat → Int32} (h1 : St G M0 M1 L f) (h2 : St G M1 M2 L g) : St G M0 M2 L g := ⟨h2.1, h1.2.trans h2.2⟩
/-- a cell that isn't the one written stays -/
theorem mu_L {M : HM} {L : Nat → Nat} {n i j : Nat} (hL : Inj L n) (hi : i < n) (hj : j < n) (hij : i ≠ j) (e : va_E) : mu M (L j) e (L i) = M (L i) := mu_ne _ _ (fun q => hij (hL i j hi hj q))
theorem IsSt.ext {G : gG} {M : HM} {L : Nat → Nat} {f g : Nat → Int32} (h : IsSt G M L f) (e : ∀ k, k < 153 → f k = g k) : IsSt G M L g := by
  obtain ⟨h0, h1, h2, h3, h4, h5, h6, hL, hv⟩ := h
  refine ⟨?_, h1, h2, h3, fun i hi => ?_, fun i hi => ?_, fun i hi => ?_, hL, fun i hi => ?_⟩
  · rw [h0]
    simp only [stFs, tnOf, e 0 (by omega), e 1 (by omega), e 2 (by omega), e 3 (by omega), e 4 (by omega), e 5 (by omega), e 6 (by omega), e 7 (by omega), e 8 (by omega)]
  · rw [h4 i hi]
    simp only [paFs, e (9 + i) (by omega), e (13 + i) (by omega), e (17 + i) (by omega), e (21 + i) (by omega), e (25 + i) (by omega), e (29 + i) (by omega), e (33 + i) (by omega), e (37 + i) (by omega)]
  · rw [h5 i hi]
    simp only [enFs, e (41 + i) (by omega), e (49 + i) (by omega), e (57 + i) (by omega), e (65 + i) (by omega)]
  · rw [h6 i hi]
    simp only [flFs, e (73 + i) (by omega), e (89 + i) (by omega), e (121 + i) (by omega), e (105 + i) (by omega), e (137 + i) (by omega)]
  · rw [← e (41 + i) (by omega)]
    exact hv i hi
theorem St.ext {G : gG} {M0 M : HM} {L : Nat → Nat} {f g : Nat → Int32} (h : St G M0 M L f) (e : ∀ k, k < 153 → f k = g k) : St G M0 M L g := ⟨h.1.ext e, h.2⟩
/-- another map that holds the same at this state's cells -/
theorem IsSt.kept {G : gG} {M M' : HM} {L : Nat → Nat} {f : Nat → Int32} (h : IsSt G M L f) (e : ∀ i, i < 32 → M' (L i) = M (L i)) : IsSt G M' L f := by
  obtain ⟨h0, h1, h2, h3, h4, h5, h6, hL, hv⟩ := h
  refine ⟨(e 0 (by omega)).trans h0, ?_, ?_, ?_, fun i hi => (e _ (by omega)).trans (h4 i hi), fun i hi => (e _ (by omega)).trans (h5 i hi), fun i hi => (e _ (by omega)).trans (h6 i hi), hL, hv⟩
  · obtain ⟨g, a, b⟩ := h1
    exact ⟨g, (e 1 (by omega)).trans a, b⟩
  · obtain ⟨g, a, b⟩ := h2
    exact ⟨g, (e 2 (by omega)).trans a, b⟩
  · obtain ⟨g, a, b⟩ := h3
    exact ⟨g, (e 3 (by omega)).trans a, b⟩
/-- the object's own fields are written -/
theorem St.sc {G : gG} {M0 M : HM} {L : Nat → Nat} {f f' : Nat → Int32} (h : St G M0 M L f) (e : ∀ k, 9 ≤ k → k < 153 → f' k = f k) : St G M0 (mu M (L 0) (.inr (4, stFs L f'))) L f' := by
  obtain ⟨⟨h0, h1, h2, h3, h4, h5, h6, hL, hv⟩, hO⟩ := h
  refine ⟨⟨mu_at _ _ _, ?_, ?_, ?_, fun i hi => ?_, fun i hi => ?_, fun i hi => ?_, hL, fun i hi => ?_⟩, hO.mu 0 (by omega) _⟩
  · obtain ⟨g, a, b⟩ := h1
    exact ⟨g, (mu_L hL (by omega) (by omega) (by omega) _).trans a, b⟩
  · obtain ⟨g, a, b⟩ := h2
    exact ⟨g, (mu_L hL (by omega) (by omega) (by omega) _).trans a, b⟩
  · obtain ⟨g, a, b⟩ := h3
    exact ⟨g, (mu_L hL (by omega) (by omega) (by omega) _).trans a, b⟩
  · rw [mu_L hL (by omega) (by omega) (by omega), h4 i hi]
    simp only [paFs, e (9 + i) (by omega) (by omega), e (13 + i) (by omega) (by omega), e (17 + i) (by omega) (by omega), e (21 + i) (by omega) (by omega), e (25 + i) (by omega) (by omega), e (29 + i) (by omega) (by omega), e (33 + i) (by omega) (by omega), e (37 + i) (by omega) (by omega)]
  · rw [mu_L hL (by omega) (by omega) (by omega), h5 i hi]
    simp only [enFs, e (41 + i) (by omega) (by omega), e (49 + i) (by omega) (by omega), e (57 + i) (by omega) (by omega), e (65 + i) (by omega) (by omega)]
  · rw [mu_L hL (by omega) (by omega) (by omega), h6 i hi]
    simp only [flFs, e (73 + i) (by omega) (by omega), e (89 + i) (by omega) (by omega), e (121 + i) (by omega) (by omega), e (105 + i) (by omega) (by omega), e (137 + i) (by omega) (by omega)]
  · rw [e (41 + i) (by omega) (by omega)]
    exact hv i hi
/-- cells of a path, an entry, a flow -/
def isPa (j k : Nat) : Prop := k = 9 + j ∨ k = 13 + j ∨ k = 17 + j ∨ k = 21 + j ∨ k = 25 + j ∨ k = 29 + j ∨ k = 33 + j ∨ k = 37 + j
def isEn (j k : Nat) : Prop := k = 41 + j ∨ k = 49 + j ∨ k = 57 + j ∨ k = 65 + j
def isFl (j k : Nat) : Prop := k = 73 + j ∨ k = 89 + j ∨ k = 121 + j ∨ k = 105 + j ∨ k = 137 + j
theorem stFs_ext {L : Nat → Nat} {f f' : Nat → Int32} (e : ∀ k, k < 9 → f' k = f k) : stFs L f' = stFs L f := by
  simp only [stFs, tnOf, e 0 (by omega), e 1 (by omega), e 2 (by omega), e 3 (by omega), e 4 (by omega), e 5 (by omega), e 6 (by omega), e 7 (by omega), e 8 (by omega)]
theorem paFs_ext {f f' : Nat → Int32} {i : Nat} (e : ∀ k, isPa i k → f' k = f k) : paFs f' i = paFs f i := by
  simp only [paFs, e (9 + i) (by simp [isPa]), e (13 + i) (by simp [isPa]), e (17 + i) (by simp [isPa]), e (21 + i) (by simp [isPa]), e (25 + i) (by simp [isPa]), e (29 + i) (by simp [isPa]), e (33 + i) (by simp [isPa]), e (37 + i) (by simp [isPa])]
theorem enFs_ext {f f' : Nat → Int32} {i : Nat} (e : ∀ k, isEn i k → f' k = f k) : enFs f' i = enFs f i := by
  simp only [enFs, e (41 + i) (by simp [isEn]), e (49 + i) (by simp [isEn]), e (57 + i) (by simp [isEn]), e (65 + i) (by simp [isEn])]
theorem flFs_ext {f f' : Nat → Int32} {i : Nat} (e : ∀ k, isFl i k → f' k = f k) : flFs f' i = flFs f i := by
  simp only [flFs, e (73 + i) (by simp [isFl]), e (89 + i) (by simp [isFl]), e (121 + i) (by simp [isFl]), e (105 + i) (by simp [isFl]), e (137 + i) (by simp [isFl])]
theorem St.pa {G : gG} {M0 M : HM} {L : Nat → Nat} {f f' : Nat → Int32} {fs : List Value} (h : St G M0 M L f) (j : Nat) (hj : j < 4) (hfs : fs = paFs f' j) (e : ∀ k, k < 153 → ¬ isPa j k → f' k = f k) : St G M0 (mu M (L (4 + j)) (.inr (2, fs))) L f' := by
  subst hfs
  obtain ⟨⟨h0, h1, h2, h3, h4, h5, h6, hL, hv⟩, hO⟩ := h
  refine ⟨⟨?_, ?_, ?_, ?_, fun i hi => ?_, fun i hi => ?_, fun i hi => ?_, hL, fun i hi => ?_⟩, hO.mu _ (by omega) _⟩
  · rw [mu_L hL (by omega) (by omega) (by omega), h0, stFs_ext (f' := f') (fun k hk => e k (by omega) (by unfold isPa; omega))]
  · obtain ⟨g, a, b⟩ := h1
    exact ⟨g, (mu_L hL (by omega) (by omega) (by omega) _).trans a, b⟩
  · obtain ⟨g, a, b⟩ := h2
    exact ⟨g, (mu_L hL (by omega) (by omega) (by omega) _).trans a, b⟩
  · obtain ⟨g, a, b⟩ := h3
    exact ⟨g, (mu_L hL (by omega) (by omega) (by omega) _).trans a, b⟩
  · by_cases hij : i = j
    · subst hij
      exact mu_at _ _ _
    · rw [mu_L hL (by omega) (by omega) (by omega), h4 i hi, paFs_ext (f' := f') (fun k hk => e k (by unfold isPa at hk; omega) (by unfold isPa at *; omega))]
  · rw [mu_L hL (by omega) (by omega) (by omega), h5 i hi, enFs_ext (f' := f') (fun k hk => e k (by unfold isEn at hk; omega) (by unfold isPa isEn at *; omega))]
  · rw [mu_L hL (by omega) (by omega) (by omega), h6 i hi, flFs_ext (f' := f') (fun k hk => e k (by unfold isFl at hk; omega) (by unfold isPa isFl at *; omega))]
  · rw [e (41 + i) (by omega) (by unfold isPa; omega)]
    exact hv i hi
theorem St.en {G : gG} {M0 M : HM} {L : Nat → Nat} {f f' : Nat → Int32} {fs : List Value} (h : St G M0 M L f) (j : Nat) (hj : j < 8) (hfs : fs = enFs f' j) (hz : f' (41 + j) = 0 ∨ f' (41 + j) = 1) (e : ∀ k, k < 153 → ¬ isEn j k → f' k = f k) : St G M0 (mu M (L (8 + j)) (.inr (0, fs))) L f' := by
  subst hfs
  obtain ⟨⟨h0, h1, h2, h3, h4, h5, h6, hL, hv⟩, hO⟩ := h
  refine ⟨⟨?_, ?_, ?_, ?_, fun i hi => ?_, fun i hi => ?_, fun i hi => ?_, hL, fun i hi => ?_⟩, hO.mu _ (by omega) _⟩
  · rw [mu_L hL (by omega) (by omega) (by omega), h0, stFs_ext (f' := f') (fun k hk => e k (by omega) (by unfold isEn; omega))]
  · obtain ⟨g, a, b⟩ := h1
    exact ⟨g, (mu_L hL (by omega) (by omega) (by omega) _).trans a, b⟩
  · obtain ⟨g, a, b⟩ := h2
    exact ⟨g, (mu_L hL (by omega) (by omega) (by omega) _).trans a, b⟩
  · obtain ⟨g, a, b⟩ := h3
    exact ⟨g, (mu_L hL (by omega) (by omega) (by omega) _).trans a, b⟩
  · rw [mu_L hL (by omega) (by omega) (by omega), h4 i hi, paFs_ext (f' := f') (fun k hk => e k (by unfold isPa at hk; omega) (by unfold isPa isEn at *; omega))]
  · by_cases hij : i = j
    · subst hij
      exact mu_at _ _ _
    · rw [mu_L hL (by omega) (by omega) (by omega), h5 i hi, enFs_ext (f' := f') (fun k hk => e k (by unfold isEn at hk; omega) (by unfold isEn at *; omega))]
  · rw [mu_L hL (by omega) (by omega) (by omega), h6 i hi, flFs_ext (f' := f') (fun k hk => e k (by unfold isFl at hk; omega) (by unfold isEn isFl at *; omega))]
  · by_cases hij : i = j
    · subst hij
      exact hz
    · rw [e (41 + i) (by omega) (by unfold isEn; omega)]
      exact hv i hi
theorem St.fl {G : gG} {M0 M : HM} {L : Nat → Nat} {f f' : Nat → Int32} {fs : List Value} (h : St G M0 M L f) (j : Nat) (hj : j < 16) (hfs : fs = flFs f' j) (e : ∀ k, k < 153 → ¬ isFl j k → f' k = f k) : St G M0 (mu M (L (16 + j)) (.inr (1, fs))) L f' := by
  subst hfs
  obtain ⟨⟨h0, h1, h2, h3, h4, h5, h6, hL, hv⟩, hO⟩ := h
  refine ⟨⟨?_, ?_, ?_, ?_, fun i hi => ?_, fun i hi => ?_, fun i hi => ?_, hL, fun i hi => ?_⟩, hO.mu _ (by omega) _⟩
  · rw [mu_L hL (by omega) (by omega) (by omega), h0, stFs_ext (f' := f') (fun k hk => e k (by omega) (by unfold isFl; omega))]
  · obtain ⟨g, a, b⟩ := h1
    exact ⟨g, (mu_L hL (by omega) (by omega) (by omega) _).trans a, b⟩
  · obtain ⟨g, a, b⟩ := h2
    exact ⟨g, (mu_L hL (by omega) (by omega) (by omega) _).trans a, b⟩
  · obtain ⟨g, a, b⟩ := h3
    exact ⟨g, (mu_L hL (by omega) (by omega) (by omega) _).trans a, b⟩
  · rw [mu_L hL (by omega) (by omega) (by omega), h4 i hi, paFs_ext (f' := f') (fun k hk => e k (by unfold isPa at hk; omega) (by unfold isPa isFl at *; omega))]
  · rw [mu_L hL (by omega) (by omega) (by omega), h5 i hi, enFs_ext (f' := f') (fun k hk => e k (by unfold isEn at hk; omega) (by unfold isEn isFl at *; omega))]
  · by_cases hij : i = j
    · subst hij
      exact mu_at _ _ _
    · rw [mu_L hL (by omega) (by omega) (by omega), h6 i hi, flFs_ext (f' := f') (fun k hk => e k (by unfold isFl at hk; omega) (by unfold isFl at *; omega))]
  · rw [e (41 + i) (by omega) (by unfold isFl; omega)]
    exact hv i hi
