/-! Making the objects: what is built, and that nothing else is touched. -/
def Kp (M M' : HM) (a : Nat) : Prop := ∀ q e, q ≠ a → M q = some e → M' q = some e
theorem ne_some {M : HM} {q a : Nat} {e : va_E} (hq : M q = none) (ha : M a = some e) : a ≠ q := by
  intro z
  rw [z, hq] at ha
  cases ha
theorem Kp.rf (M : HM) (a : Nat) : Kp M M a := fun _ _ _ h => h
theorem Kp.fr {M M' : HM} {a q : Nat} {e : va_E} (h : Kp M M' a) (ha : M' a = some e) (hq : M' q = none) : M q = none := by
  cases hm : M q with
  | none => rfl
  | some x =>
    by_cases e1 : q = a
    · rw [e1, ha] at hq
      cases hq
    · rw [h q x e1 hm] at hq
      cases hq
theorem at_new {M M1 : HM} {q : Nat} {e : va_E} (h : M1 = mu M q e) : M1 q = some e := by rw [h]; exact mu_at _ _ _
theorem at_old {M M1 : HM} {q x : Nat} {e e' : va_E} (h : M1 = mu M q e) (hn : x ≠ q) (hx : M x = some e') : M1 x = some e' := by rw [h]; exact (mu_ne _ _ hn).trans hx
theorem at_none {M M1 : HM} {q x : Nat} {e : va_E} (h : M1 = mu M q e) (hx : M1 x = none) : M x = none ∧ x ≠ q := by
  have hn : x ≠ q := fun z => by
    rw [z, at_new h] at hx
    cases hx
  rw [h, mu_ne _ _ hn] at hx
  exact ⟨hx, hn⟩
theorem Kp.nw {M M1 M2 : HM} {a q : Nat} {e : va_E} (h : Kp M M1 a) (hq : M1 q = none) (e2 : M2 = mu M1 q e) : Kp M M2 a := fun z x hz hx => at_old e2 (ne_some hq (h z x hz hx)) (h z x hz hx)
theorem Kp.pt {M M1 M2 : HM} {a : Nat} {e : va_E} (h : Kp M M1 a) (e2 : M2 = mu M1 a e) : Kp M M2 a := fun z x hz hx => at_old e2 hz (h z x hz hx)
/-- a cell that wasn't there at first is written -/
theorem Kp.ar {M M1 M2 : HM} {a q : Nat} {e : va_E} (h : Kp M M1 a) (hq : M q = none) (e2 : M2 = mu M1 q e) : Kp M M2 a := fun z x hz hx => at_old e2 (ne_some hq hx) (h z x hz hx)
/-- a constructor has run on a cell q that wasn't there at first -/
theorem Kp.ct {M M1 M2 M3 : HM} {a q : Nat} {e : va_E} (h : Kp M M1 a) (hq : M1 q = none) (e2 : M2 = mu M1 q e) (h3 : Kp M2 M3 q) : Kp M M3 a := fun z x hz hx => h3 z x (ne_some hq (h z x hz hx)) (at_old e2 (ne_some hq (h z x hz hx)) (h z x hz hx))
def Lx (L : Nat → Nat) (n q : Nat) : Nat → Nat := fun j => if j = n then q else L j
theorem Lx_at (L : Nat → Nat) (n q : Nat) : Lx L n q n = q := if_pos rfl
theorem Lx_ne (L : Nat → Nat) {n j : Nat} (q : Nat) (h : j ≠ n) : Lx L n q j = L j := if_neg h
theorem Inj.push {L : Nat → Nat} {n q : Nat} (h : Inj L n) (hq : ∀ j, j < n → L j ≠ q) : Inj (Lx L n q) (n + 1) := by
  intro i j hi hj e
  unfold Lx at e
  by_cases a : i = n
  · by_cases b : j = n
    · rw [a, b]
    · rw [if_pos a, if_neg b] at e
      exact absurd e.symm (hq j (by omega))
  · by_cases b : j = n
    · rw [if_neg a, if_pos b] at e
      exact absurd e (hq i (by omega))
    · rw [if_neg a, if_neg b] at e
      exact h i j (by omega) (by omega) e
/-- a SwitchState whose first n cells stand -/
def Bld (G : gG) (M M1 : HM) (L : Nat → Nat) (n : Nat) : Prop :=
  Inj L n ∧ (∀ j, 1 ≤ j → j < n → M (L j) = none) ∧ Kp M M1 (L 0) ∧
  M1 (L 0) = some (.inr (4, [.int 0, .int 0, .int 0, .int 0, .int 0, .int 0, .int 0, .int 0, .int 0, .ref (L 1), .ref (L 2), .ref (L 3)])) ∧
  (∃ g, M1 (L 1) = some (.inl (G.2 4, 4, .inr (.inr (.inr (.inr g))))) ∧ ∀ i, i < 4 → 4 + i < n → g i = some (L (4 + i))) ∧
  (∃ g, M1 (L 2) = some (.inl (G.2 2, 8, .inr (.inr (.inr (.inr g))))) ∧ ∀ i, i < 8 → 8 + i < n → g i = some (L (8 + i))) ∧
  (∃ g, M1 (L 3) = some (.inl (G.2 3, 16, .inr (.inr (.inr (.inr g))))) ∧ ∀ i, i < 16 → 16 + i < n → g i = some (L (16 + i))) ∧
  (∀ i, i < 4 → 4 + i < n → M1 (L (4 + i)) = some (.inr (2, paFs (fun _ => 0) i))) ∧
  (∀ i, i < 8 → 8 + i < n → M1 (L (8 + i)) = some (.inr (0, enFs (fun _ => 0) i))) ∧
  (∀ i, i < 16 → 16 + i < n → M1 (L (16 + i)) = some (.inr (1, flFs (fun _ => 0) i)))
theorem Bld.all {G : gG} {M M1 : HM} {L : Nat → Nat} {n : Nat} (h : Bld G M M1 L n) (hn : n ≤ 32) : ∀ j, j < n → ∃ e, M1 (L j) = some e := by
  obtain ⟨hI, hf, hk, h0, ⟨g1, h1, -⟩, ⟨g2, h2, -⟩, ⟨g3, h3, -⟩, h4, h5, h6⟩ := h
  intro j hj
  by_cases c0 : j = 0
  · rw [c0]
    exact ⟨_, h0⟩
  by_cases c1 : j = 1
  · rw [c1]
    exact ⟨_, h1⟩
  by_cases c2 : j = 2
  · rw [c2]
    exact ⟨_, h2⟩
  by_cases c3 : j = 3
  · rw [c3]
    exact ⟨_, h3⟩
  by_cases c4 : j < 8
  · have := h4 (j - 4) (by omega) (by omega)
    rw [show 4 + (j - 4) = j by omega] at this
    exact ⟨_, this⟩
  by_cases c5 : j < 16
  · have := h5 (j - 8) (by omega) (by omega)
    rw [show 8 + (j - 8) = j by omega] at this
    exact ⟨_, this⟩
  · have := h6 (j - 16) (by omega) (by omega)
    rw [show 16 + (j - 16) = j by omega] at this
    exact ⟨_, this⟩
theorem Bld.pa {G : gG} {M M1 M2 M3 : HM} {L : Nat → Nat} {q i : Nat} {g : Nat → Option Nat} (h : Bld G M M1 L (4 + i)) (hi : i < 4) (hq : M1 q = none) (hg : ∀ j, j < 4 → 4 + j < 4 + i → g j = some (L (4 + j))) (e2 : M2 = mu M1 q (.inr (2, paFs (fun _ => 0) i))) (e3 : M3 = mu M2 (L 1) (.inl (G.2 4, 4, .inr (.inr (.inr (.inr (va_up g i (some q)))))))) : Bld G M M3 (Lx L (4 + i) q) (4 + (i + 1)) := by
  have hal := h.all (by omega)
  obtain ⟨hI, hf, hk, h0, h1, h2, h3, h4, h5, h6⟩ := h
  have hne : ∀ j, j < 4 + i → L j ≠ q := fun j hj => by
    obtain ⟨e, he⟩ := hal j hj
    exact ne_some hq he
  have k : ∀ j, j < 4 + i → j ≠ 1 → M3 (L j) = M1 (L j) := fun j hj hj1 => by
    rw [e3, mu_ne _ _ (fun z => hj1 (hI j 1 hj (by omega) z)), e2, mu_ne _ _ (hne j hj)]
  have kq : M3 q = some (.inr (2, paFs (fun _ => 0) i)) := at_old e3 (fun z => hne 1 (by omega) z.symm) (at_new e2)
  have x : ∀ j, j ≠ 4 + i → Lx L (4 + i) q j = L j := fun j hj => if_neg hj
  refine ⟨hI.push hne, fun j a b => ?_, ?_, ?_, ?_, ?_, ?_, fun j a b => ?_, fun j a b => ?_, fun j a b => ?_⟩
  · by_cases c : j = 4 + i
    · rw [c, Lx_at]
      exact hk.fr h0 hq
    · rw [x j c]
      exact hf j a (by omega)
  · rw [x 0 (by omega)]
    exact (hk.nw hq e2).ar (hf 1 (by omega) (by omega)) e3
  · rw [x 0 (by omega), x 1 (by omega), x 2 (by omega), x 3 (by omega)]
    exact (k 0 (by omega) (by omega)).trans h0
  · refine ⟨va_up g i (some q), ?_, fun j a b => ?_⟩
    · rw [x 1 (by omega)]
      exact at_new e3
    · by_cases c : j = i
      · rw [c, Lx_at, va_up_self]
      · rw [x (4 + j) (by omega), va_up_ne _ _ c]
        exact hg j a (by omega)
  · obtain ⟨g', a', b'⟩ := h2
    exact ⟨g', by rw [x 2 (by omega)]; exact (k 2 (by omega) (by omega)).trans a', fun j a b => by rw [x (8 + j) (by omega)]; exact b' j a (by omega)⟩
  · obtain ⟨g', a', b'⟩ := h3
    exact ⟨g', by rw [x 3 (by omega)]; exact (k 3 (by omega) (by omega)).trans a', fun j a b => by rw [x (16 + j) (by omega)]; exact b' j a (by omega)⟩
  · by_cases c : j = i
    · rw [c, Lx_at]
      exact kq
    · rw [x (4 + j) (by omega), k (4 + j) (by omega) (by omega)]
      exact h4 j a (by omega)
  · rw [x (8 + j) (by omega), k (8 + j) (by omega) (by omega)]
    exact h5 j a (by omega)
  · rw [x (16 + j) (by omega), k (16 + j) (by omega) (by omega)]
    exact h6 j a (by omega)
theorem Bld.en {G : gG} {M M1 M2 M3 : HM} {L : Nat → Nat} {q i : Nat} {g : Nat → Option Nat} (h : Bld G M M1 L (8 + i)) (hi : i < 8) (hq : M1 q = none) (hg : ∀ j, j < 8 → 8 + j < 8 + i → g j = some (L (8 + j))) (e2 : M2 = mu M1 q (.inr (0, enFs (fun _ => 0) i))) (e3 : M3 = mu M2 (L 2) (.inl (G.2 2, 8, .inr (.inr (.inr (.inr (va_up g i (some q)))))))) : Bld G M M3 (Lx L (8 + i) q) (8 + (i + 1)) := by
  have hal := h.all (by omega)
  obtain ⟨hI, hf, hk, h0, h1, h2, h3, h4, h5, h6⟩ := h
  have hne : ∀ j, j < 8 + i → L j ≠ q := fun j hj => by
    obtain ⟨e, he⟩ := hal j hj
    exact ne_some hq he
  have k : ∀ j, j < 8 + i → j ≠ 2 → M3 (L j) = M1 (L j) := fun j hj hj1 => by
    rw [e3, mu_ne _ _ (fun z => hj1 (hI j 2 hj (by omega) z)), e2, mu_ne _ _ (hne j hj)]
  have kq : M3 q = some (.inr (0, enFs (fun _ => 0) i)) := at_old e3 (fun z => hne 2 (by omega) z.symm) (at_new e2)
  have x : ∀ j, j ≠ 8 + i → Lx L (8 + i) q j = L j := fun j hj => if_neg hj
  refine ⟨hI.push hne, fun j a b => ?_, ?_, ?_, ?_, ?_, ?_, fun j a b => ?_, fun j a b => ?_, fun j a b => ?_⟩
  · by_cases c : j = 8 + i
    · rw [c, Lx_at]
      exact hk.fr h0 hq
    · rw [x j c]
      exact hf j a (by omega)
  · rw [x 0 (by omega)]
    exact (hk.nw hq e2).ar (hf 2 (by omega) (by omega)) e3
  · rw [x 0 (by omega), x 1 (by omega), x 2 (by omega), x 3 (by omega)]
    exact (k 0 (by omega) (by omega)).trans h0
  · obtain ⟨g', a', b'⟩ := h1
    exact ⟨g', by rw [x 1 (by omega)]; exact (k 1 (by omega) (by omega)).trans a', fun j a b => by rw [x (4 + j) (by omega)]; exact b' j a (by omega)⟩
  · refine ⟨va_up g i (some q), ?_, fun j a b => ?_⟩
    · rw [x 2 (by omega)]
      exact at_new e3
    · by_cases c : j = i
      · rw [c, Lx_at, va_up_self]
      · rw [x (8 + j) (by omega), va_up_ne _ _ c]
        exact hg j a (by omega)
  · obtain ⟨g', a', b'⟩ := h3
    exact ⟨g', by rw [x 3 (by omega)]; exact (k 3 (by omega) (by omega)).trans a', fun j a b => by rw [x (16 + j) (by omega)]; exact b' j a (by omega)⟩
  · rw [x (4 + j) (by omega), k (4 + j) (by omega) (by omega)]
    exact h4 j a (by omega)
  · by_cases c : j = i
    · rw [c, Lx_at]
      exact kq
    · rw [x (8 + j) (by omega), k (8 + j) (by omega) (by omega)]
      exact h5 j a (by omega)
  · rw [x (16 + j) (by omega), k (16 + j) (by omega) (by omega)]
    exact h6 j a (by omega)
theorem Bld.fl {G : gG} {M M1 M2 M3 : HM} {L : Nat → Nat} {q i : Nat} {g : Nat → Option Nat} (h : Bld G M M1 L (16 + i)) (hi : i < 16) (hq : M1 q = none) (hg : ∀ j, j < 16 → 16 + j < 16 + i → g j = some (L (16 + j))) (e2 : M2 = mu M1 q (.inr (1, flFs (fun _ => 0) i))) (e3 : M3 = mu M2 (L 3) (.inl (G.2 3, 16, .inr (.inr (.inr (.inr (va_up g i (some q)))))))) : Bld G M M3 (Lx L (16 + i) q) (16 + (i + 1)) := by
  have hal := h.all (by omega)
  obtain ⟨hI, hf, hk, h0, h1, h2, h3, h4, h5, h6⟩ := h
  have hne : ∀ j, j < 16 + i → L j ≠ q := fun j hj => by
    obtain ⟨e, he⟩ := hal j hj
    exact ne_some hq he
  have k : ∀ j, j < 16 + i → j ≠ 3 → M3 (L j) = M1 (L j) := fun j hj hj1 => by
    rw [e3, mu_ne _ _ (fun z => hj1 (hI j 3 hj (by omega) z)), e2, mu_ne _ _ (hne j hj)]
  have kq : M3 q = some (.inr (1, flFs (fun _ => 0) i)) := at_old e3 (fun z => hne 3 (by omega) z.symm) (at_new e2)
  have x : ∀ j, j ≠ 16 + i → Lx L (16 + i) q j = L j := fun j hj => if_neg hj
  refine ⟨hI.push hne, fun j a b => ?_, ?_, ?_, ?_, ?_, ?_, fun j a b => ?_, fun j a b => ?_, fun j a b => ?_⟩
  · by_cases c : j = 16 + i
    · rw [c, Lx_at]
      exact hk.fr h0 hq
    · rw [x j c]
      exact hf j a (by omega)
  · rw [x 0 (by omega)]
    exact (hk.nw hq e2).ar (hf 3 (by omega) (by omega)) e3
  · rw [x 0 (by omega), x 1 (by omega), x 2 (by omega), x 3 (by omega)]
    exact (k 0 (by omega) (by omega)).trans h0
  · obtain ⟨g', a', b'⟩ := h1
    exact ⟨g', by rw [x 1 (by omega)]; exact (k 1 (by omega) (by omega)).trans a', fun j a b => by rw [x (4 + j) (by omega)]; exact b' j a (by omega)⟩
  · obtain ⟨g', a', b'⟩ := h2
    exact ⟨g', by rw [x 2 (by omega)]; exact (k 2 (by omega) (by omega)).trans a', fun j a b => by rw [x (8 + j) (by omega)]; exact b' j a (by omega)⟩
  · refine ⟨va_up g i (some q), ?_, fun j a b => ?_⟩
    · rw [x 3 (by omega)]
      exact at_new e3
    · by_cases c : j = i
      · rw [c, Lx_at, va_up_self]
      · rw [x (16 + j) (by omega), va_up_ne _ _ c]
        exact hg j a (by omega)
  · rw [x (4 + j) (by omega), k (4 + j) (by omega) (by omega)]
    exact h4 j a (by omega)
  · rw [x (8 + j) (by omega), k (8 + j) (by omega) (by omega)]
    exact h5 j a (by omega)
  · by_cases c : j = i
    · rw [c, Lx_at]
      exact kq
    · rw [x (16 + j) (by omega), k (16 + j) (by omega) (by omega)]
      exact h6 j a (by omega)
theorem Bld.s0 {G : gG} {M M1 : HM} {L : Nat → Nat} (h : Bld G M M1 L 32) : IsS0 G M1 L (fun _ => 0) := by
  obtain ⟨hI, hf, hk, h0, ⟨g1, a1, b1⟩, ⟨g2, a2, b2⟩, ⟨g3, a3, b3⟩, h4, h5, h6⟩ := h
  exact ⟨⟨g1, a1, fun i hi => b1 i hi (by omega)⟩, ⟨g2, a2, fun i hi => b2 i hi (by omega)⟩, ⟨g3, a3, fun i hi => b3 i hi (by omega)⟩, fun i hi => h4 i hi (by omega), fun i hi => h5 i hi (by omega), fun i hi => h6 i hi (by omega), hI, fun _ _ => Or.inl rfl⟩
/-- what SwitchState's constructor leaves: a new state at L, its object at L 0, the other cells new -/
def NewSt (G : gG) (M M' : HM) (L : Nat → Nat) : Prop := IsSt G M' L (iniF 4 8) ∧ (∀ j, 1 ≤ j → j < 32 → M (L j) = none) ∧ Kp M M' (L 0)
theorem Bld.end {G : gG} {M M1 M2 : HM} {L : Nat → Nat} (h : Bld G M M1 L 32) (hs : St G M1 M2 L (iniF 4 8)) : NewSt G M M2 L := by
  obtain ⟨hI, hf, hk, -⟩ := h
  refine ⟨hs.1, hf, fun q e hq he => ?_⟩
  rw [hs.2 q (fun i hi z => ?_)]
  · exact hk q e hq he
  · by_cases c : i = 0
    · rw [c] at z
      exact hq z
    · rw [z, hf i (by omega) hi] at he
      cases he
theorem IsSt.all {G : gG} {M : HM} {L : Nat → Nat} {f : Nat → Int32} (h : IsSt G M L f) : ∀ j, j < 32 → ∃ e, M (L j) = some e := by
  obtain ⟨h0, ⟨g1, h1, -⟩, ⟨g2, h2, -⟩, ⟨g3, h3, -⟩, h4, h5, h6, -⟩ := h
  intro j hj
  by_cases c0 : j = 0
  · rw [c0]
    exact ⟨_, h0⟩
  by_cases c1 : j = 1
  · rw [c1]
    exact ⟨_, h1⟩
  by_cases c2 : j = 2
  · rw [c2]
    exact ⟨_, h2⟩
  by_cases c3 : j = 3
  · rw [c3]
    exact ⟨_, h3⟩
  by_cases c4 : j < 8
  · have := h4 (j - 4) (by omega)
    rw [show 4 + (j - 4) = j by omega] at this
    exact ⟨_, this⟩
  by_cases c5 : j < 16
  · have := h5 (j - 8) (by omega)
    rw [show 8 + (j - 8) = j by omega] at this
    exact ⟨_, this⟩
  · have := h6 (j - 16) (by omega)
    rw [show 16 + (j - 16) = j by omega] at this
    exact ⟨_, this⟩
theorem IsSt.reL {G : gG} {M : HM} {L L' : Nat → Nat} {f : Nat → Int32} (h : IsSt G M L f) (e : ∀ j, j < 32 → L' j = L j) : IsSt G M L' f := by
  obtain ⟨h0, ⟨g1, a1, b1⟩, ⟨g2, a2, b2⟩, ⟨g3, a3, b3⟩, h4, h5, h6, hI, hv⟩ := h
  refine ⟨?_, ⟨g1, ?_, fun i hi => ?_⟩, ⟨g2, ?_, fun i hi => ?_⟩, ⟨g3, ?_, fun i hi => ?_⟩, fun i hi => ?_, fun i hi => ?_, fun i hi => ?_, fun i j hi hj q => ?_, hv⟩
  · unfold stFs
    rw [e 0 (by omega), e 1 (by omega), e 2 (by omega), e 3 (by omega)]
    exact h0
  · rw [e 1 (by omega)]
    exact a1
  · rw [e (4 + i) (by omega)]
    exact b1 i hi
  · rw [e 2 (by omega)]
    exact a2
  · rw [e (8 + i) (by omega)]
    exact b2 i hi
  · rw [e 3 (by omega)]
    exact a3
  · rw [e (16 + i) (by omega)]
    exact b3 i hi
  · rw [e (4 + i) (by omega)]
    exact h4 i hi
  · rw [e (8 + i) (by omega)]
    exact h5 i hi
  · rw [e (16 + i) (by omega)]
    exact h6 i hi
  · rw [e i hi, e j hj] at q
    exact hI i j hi hj q
/-- n states in a row at r: the row's first n places name them; they are new since M -/
def Sts (G : gG) (M M1 : HM) (r N n : Nat) (LL : Nat → Nat → Nat) : Prop :=
  (∃ g, M1 r = some (.inl (G.2 5, N, .inr (.inr (.inr (.inr g))))) ∧ ∀ i, i < n → g i = some (LL i 0)) ∧
  (∀ i, i < n → IsSt G M1 (LL i) (iniF 4 8)) ∧ (∀ i k, i < n → k < 32 → M (LL i k) = none ∧ LL i k ≠ r) ∧
  (∀ i j k k', i < n → j < n → k < 32 → k' < 32 → LL i k = LL j k' → i = j)
def LLx (LL : Nat → Nat → Nat) (n : Nat) (L : Nat → Nat) : Nat → Nat → Nat := fun i => if i = n then L else LL i
/-- another state has been made, and put into the row -/
theorem Sts.push {G : gG} {M M1 M2 M3 M4 : HM} {a r N i q : Nat} {LL : Nat → Nat → Nat} {L : Nat → Nat} {ea er : va_E} {g : Nat → Option Nat} (h : Sts G M M1 r N i LL) (hk : Kp M M1 a) (ha : M1 a = some ea) (hM1r : M1 r = some er) (hr : M r = none) (hq : M1 q = none) {e : va_E} (e2 : M2 = mu M1 q e) (h3 : NewSt G M2 M3 L) (hL : L 0 = q) (hg : ∀ j, j < i → g j = some (LL j 0)) (e4 : M4 = mu M3 r (.inl (G.2 5, N, .inr (.inr (.inr (.inr (va_up g i (some q)))))))) : Sts G M M4 r N (i + 1) (LLx LL i L) ∧ Kp M M4 a := by
  obtain ⟨-, hs, hf, hj⟩ := h
  obtain ⟨n1, n2, n3⟩ := h3
  rw [hL] at n3
  -- what was there at M1 is there at M3
  have up : ∀ z x, M1 z = some x → M3 z = some x := fun z x hx => n3 z x (ne_some hq hx) (at_old e2 (ne_some hq hx) hx)
  -- the new state's cells weren't there at M1
  have nw : ∀ k, k < 32 → M1 (L k) = none := fun k hk' => by
    by_cases c : k = 0
    · rw [c, hL]
      exact hq
    · exact (at_none e2 (n2 k (by omega) hk')).1
  have nr : ∀ k, k < 32 → L k ≠ r := fun k hk' => (ne_some (nw k hk') hM1r).symm
  have kp3 : Kp M M3 a := fun z x hz hx => up z x (hk z x hz hx)
  have st4 : IsSt G M4 L (iniF 4 8) := n1.kept (fun k hk' => by rw [e4]; exact mu_ne _ _ (nr k hk'))
  refine ⟨⟨⟨va_up g i (some q), at_new e4, fun j hj' => ?_⟩, fun j hj' => ?_, fun j k hj' hk' => ?_, fun j j' k k' h1 h2 h3' h4' z => ?_⟩, kp3.ar hr e4⟩
  · unfold LLx
    by_cases c : j = i
    · rw [c, if_pos rfl, va_up_self, hL]
    · rw [if_neg c, va_up_ne _ _ c]
      exact hg j (by omega)
  · unfold LLx
    by_cases c : j = i
    · rw [if_pos c]
      exact st4
    · rw [if_neg c]
      refine (hs j (by omega)).kept (fun k hk' => ?_)
      obtain ⟨x, hx⟩ := (hs j (by omega)).all k hk'
      rw [hx]
      exact at_old e4 (hf j k (by omega) hk').2 (up _ _ hx)
  · unfold LLx
    by_cases c : j = i
    · rw [if_pos c]
      exact ⟨hk.fr ha (nw k hk'), nr k hk'⟩
    · rw [if_neg c]
      exact hf j k (by omega) hk'
  · unfold LLx at z
    by_cases c : j = i
    · by_cases c' : j' = i
      · rw [c, c']
      · rw [if_pos c, if_neg c'] at z
        obtain ⟨x, hx⟩ := (hs j' (by omega)).all k' h4'
        exact absurd z.symm (ne_some (nw k h3') hx)
    · by_cases c' : j' = i
      · rw [if_neg c, if_pos c'] at z
        obtain ⟨x, hx⟩ := (hs j (by omega)).all k h3'
        exact absurd z (ne_some (nw k' h4') hx)
      · rw [if_neg c, if_neg c'] at z
        exact hj j j' k k' (by omega) (by omega) h3' h4' z
theorem Sts.zero {G : gG} {M M1 : HM} {r N : Nat} {g : Nat → Option Nat} (LL : Nat → Nat → Nat) (h : M1 r = some (.inl (G.2 5, N, .inr (.inr (.inr (.inr g)))))) : Sts G M M1 r N 0 LL := ⟨⟨g, h, fun i hi => absurd hi (by omega)⟩, fun i hi => absurd hi (by omega), fun i k hi => absurd hi (by omega), fun i j k k' hi => absurd hi (by omega)⟩
/-- the states stay where other cells change -/
theorem Sts.kept {G : gG} {M M1 M2 : HM} {r N n : Nat} {LL : Nat → Nat → Nat} (h : Sts G M M1 r N n LL) (e : ∀ q x, (q = r ∨ ∃ i k, i < n ∧ k < 32 ∧ q = LL i k) → M1 q = some x → M2 q = some x) : Sts G M M2 r N n LL := by
  obtain ⟨⟨g, h1, h1'⟩, h2, h3, h4⟩ := h
  refine ⟨⟨g, e r _ (Or.inl rfl) h1, h1'⟩, fun i hi => (h2 i hi).kept (fun k hk => ?_), h3, h4⟩
  obtain ⟨x, hx⟩ := (h2 i hi).all k hk
  rw [hx]
  exact e _ _ (Or.inr ⟨i, k, hi, hk, rfl⟩) hx
theorem Sts.all {G : gG} {M M1 : HM} {r N n : Nat} {LL : Nat → Nat → Nat} (h : Sts G M M1 r N n LL) {i k : Nat} (hi : i < n) (hk : k < 32) : ∃ e, M1 (LL i k) = some e := (h.2.1 i hi).all k hk
