/-! The class: its 359 cells at ad 0 .. ad 358. State j (0: the present one, 1..8: the ring, 9, 10: the snapshots) lies at Lst ad j. -/
def Lst (ad : Nat → Nat) (j : Nat) : Nat → Nat := fun i => ad (7 + 32 * j + i)
def uF (F : Nat → Nat → Int32) (j : Nat) (f : Nat → Int32) : Nat → Nat → Int32 := fun i => if i = j then f else F i
theorem uF_at (F : Nat → Nat → Int32) (j : Nat) (f : Nat → Int32) : uF F j f j = f := if_pos rfl
theorem uF_ne (F : Nat → Nat → Int32) {i j : Nat} (f : Nat → Int32) (h : i ≠ j) : uF F j f i = F i := if_neg h
def IsCl (G : gG) (M : HM) (ad : Nat → Nat) (F : Nat → Nat → Int32) (nx ct : Nat) (fl T : Nat → Int32) (len : Nat) (tr : Nat → Int32) : Prop :=
  M (ad 0) = some (.inr (6, [.ref (Lst ad 0 0), .ref (ad 1), .ref (ad 3), .ref (ad 4), .ref (ad 5)])) ∧
  M (ad 1) = some (.inr (3, [.ref (ad 2), .int (nI nx), .int (nI ct)])) ∧
  (∃ g, M (ad 2) = some (.inl (G.2 5, 8, .inr (.inr (.inr (.inr g))))) ∧ ∀ i, i < 8 → g i = some (Lst ad (i + 1) 0)) ∧
  (∃ g, M (ad 3) = some (.inl (G.2 5, 2, .inr (.inr (.inr (.inr g))))) ∧ ∀ i, i < 2 → g i = some (Lst ad (i + 9) 0)) ∧
  M (ad 4) = some (.inl (G.2 1, 2, .inl fl)) ∧
  M (ad 5) = some (.inr (5, [.ref (ad 6), .int (nI len), .int (tr 0), .int (tr 1), .int (tr 2), .int (tr 3)])) ∧
  M (ad 6) = some (.inl (G.2 0, 120, .inl T)) ∧
  (∀ j, j < 11 → IsSt G M (Lst ad j) (F j)) ∧ Inj ad 359 ∧ nx < 8 ∧ ct ≤ 8 ∧ len ≤ 120 ∧ (∀ i, i < 2 → fl i = 0 ∨ fl i = 1) ∧ (tr 1 = 0 ∨ tr 1 = 1)
def OffC (M0 M : HM) (ad : Nat → Nat) (n : Nat) : Prop := ∀ q, (∀ i, i < n → q ≠ ad i) → M q = M0 q
theorem OffC.rf (M : HM) (ad : Nat → Nat) (n : Nat) : OffC M M ad n := fun _ _ => rfl
theorem OffC.trans {M0 M1 M2 : HM} {ad : Nat → Nat} {n : Nat} (h1 : OffC M0 M1 ad n) (h2 : OffC M1 M2 ad n) : OffC M0 M2 ad n := fun q h => (h2 q h).trans (h1 q h)
theorem OffC.mu {M0 M : HM} {ad : Nat → Nat} {n : Nat} (h : OffC M0 M ad n) (i : Nat) (hi : i < n) (e : va_E) : OffC M0 (mu M (ad i) e) ad n := fun q hq => (mu_ne _ _ (hq i hi)).trans (h q hq)
def Cl (G : gG) (M0 M : HM) (ad : Nat → Nat) (F : Nat → Nat → Int32) (nx ct : Nat) (fl T : Nat → Int32) (len : Nat) (tr : Nat → Int32) : Prop := IsCl G M ad F nx ct fl T len tr ∧ OffC M0 M ad 359
section CLS
variable {G : gG} {M0 M M' : HM} {ad : Nat → Nat} {F : Nat → Nat → Int32} {nx ct : Nat} {fl T : Nat → Int32} {len : Nat} {tr : Nat → Int32}
theorem Cl.trans {M2 : HM} {F' : Nat → Nat → Int32} {nx' ct' : Nat} {fl' T' : Nat → Int32} {len' : Nat} {tr' : Nat → Int32} (h : Cl G M0 M ad F nx ct fl T len tr) (h2 : Cl G M M2 ad F' nx' ct' fl' T' len' tr') : Cl G M0 M2 ad F' nx' ct' fl' T' len' tr' := ⟨h2.1, h.2.trans h2.2⟩
theorem IsCl.inj (h : IsCl G M ad F nx ct fl T len tr) : Inj ad 359 := h.2.2.2.2.2.2.2.2.1
theorem IsCl.sts (h : IsCl G M ad F nx ct fl T len tr) (j : Nat) (hj : j < 11) : IsSt G M (Lst ad j) (F j) := h.2.2.2.2.2.2.2.1 j hj
/-- states lie apart -/
theorem IsCl.apart (h : IsCl G M ad F nx ct fl T len tr) {a b : Nat} (ha : a < 11) (hb : b < 11) (hab : a ≠ b) : ∀ i j, i < 32 → j < 32 → Lst ad a i ≠ Lst ad b j := by
  intro i j hi hj q
  have := h.inj _ _ (by omega) (by omega) q
  omega
/-- state j has moved to f' -/
theorem Cl.st {f' : Nat → Int32} (h : Cl G M0 M ad F nx ct fl T len tr) (j : Nat) (hj : j < 11) (hs : St G M M' (Lst ad j) f') : Cl G M0 M' ad (uF F j f') nx ct fl T len tr := by
  obtain ⟨⟨h0, h1, ⟨g2, a2, b2⟩, ⟨g3, a3, b3⟩, h4, h5, h6, h7, hI, hr⟩, hO⟩ := h
  have k : ∀ i, i < 7 → M' (ad i) = M (ad i) := fun i hi => hs.2 _ (fun q hq z => by
    have := hI i (7 + 32 * j + q) (by omega) (by omega) z
    omega)
  refine ⟨⟨(k 0 (by omega)).trans h0, (k 1 (by omega)).trans h1, ⟨g2, (k 2 (by omega)).trans a2, b2⟩, ⟨g3, (k 3 (by omega)).trans a3, b3⟩, (k 4 (by omega)).trans h4, (k 5 (by omega)).trans h5, (k 6 (by omega)).trans h6, fun i hi => ?_, hI, hr⟩, fun q hq => ?_⟩
  · by_cases hij : i = j
    · subst hij
      rw [uF_at]
      exact hs.1
    · rw [uF_ne F f' hij]
      refine (h7 i hi).kept (fun a ha => hs.2 _ (fun b hb z => ?_))
      have := hI (7 + 32 * i + a) (7 + 32 * j + b) (by omega) (by omega) z
      omega
  · rw [hs.2 q (fun i hi => hq (7 + 32 * j + i) (by omega))]
    exact hO q hq
/-- one of the first seven cells has been written -/
theorem IsCl.keep7 (h : IsCl G M ad F nx ct fl T len tr) (i : Nat) (hi : i < 7) (e : va_E) : (∀ j, j < 7 → j ≠ i → mu M (ad i) e (ad j) = M (ad j)) ∧ ∀ j, j < 11 → IsSt G (mu M (ad i) e) (Lst ad j) (F j) := by
  have hI := h.inj
  refine ⟨fun j hj hij => mu_L hI (by omega) (by omega) hij e, fun j hj => (h.sts j hj).kept (fun a ha => mu_ne _ _ (fun z => ?_))⟩
  have := hI (7 + 32 * j + a) i (by omega) (by omega) z
  omega
theorem Cl.sv (h : Cl G M0 M ad F nx ct fl T len tr) {nx' ct' : Nat} (hn : nx' < 8) (hc : ct' ≤ 8) : Cl G M0 (mu M (ad 1) (.inr (3, [.ref (ad 2), .int (nI nx'), .int (nI ct')]))) ad F nx' ct' fl T len tr := by
  obtain ⟨hh, hO⟩ := h
  obtain ⟨k, ks⟩ := hh.keep7 1 (by omega) (.inr (3, [.ref (ad 2), .int (nI nx'), .int (nI ct')]))
  obtain ⟨h0, h1, ⟨g2, a2, b2⟩, ⟨g3, a3, b3⟩, h4, h5, h6, h7, hI, hr⟩ := hh
  exact ⟨⟨(k 0 (by omega) (by omega)).trans h0, mu_at _ _ _, ⟨g2, (k 2 (by omega) (by omega)).trans a2, b2⟩, ⟨g3, (k 3 (by omega) (by omega)).trans a3, b3⟩, (k 4 (by omega) (by omega)).trans h4, (k 5 (by omega) (by omega)).trans h5, (k 6 (by omega) (by omega)).trans h6, ks, hI, hn, hc, hr.2.2⟩, hO.mu 1 (by omega) _⟩
theorem Cl.flg (h : Cl G M0 M ad F nx ct fl T len tr) {fl' : Nat → Int32} (hf : ∀ i, i < 2 → fl' i = 0 ∨ fl' i = 1) : Cl G M0 (mu M (ad 4) (.inl (G.2 1, 2, .inl fl'))) ad F nx ct fl' T len tr := by
  obtain ⟨hh, hO⟩ := h
  obtain ⟨k, ks⟩ := hh.keep7 4 (by omega) (.inl (G.2 1, 2, .inl fl'))
  obtain ⟨h0, h1, ⟨g2, a2, b2⟩, ⟨g3, a3, b3⟩, h4, h5, h6, h7, hI, hr⟩ := hh
  exact ⟨⟨(k 0 (by omega) (by omega)).trans h0, (k 1 (by omega) (by omega)).trans h1, ⟨g2, (k 2 (by omega) (by omega)).trans a2, b2⟩, ⟨g3, (k 3 (by omega) (by omega)).trans a3, b3⟩, mu_at _ _ _, (k 5 (by omega) (by omega)).trans h5, (k 6 (by omega) (by omega)).trans h6, ks, hI, hr.1, hr.2.1, hr.2.2.1, hf, hr.2.2.2.2⟩, hO.mu 4 (by omega) _⟩
theorem Cl.trc (h : Cl G M0 M ad F nx ct fl T len tr) {len' : Nat} {x0 x1 x2 x3 : Int32} (hl : len' ≤ 120) (hx : x1 = 0 ∨ x1 = 1) : Cl G M0 (mu M (ad 5) (.inr (5, [.ref (ad 6), .int (nI len'), .int x0, .int x1, .int x2, .int x3]))) ad F nx ct fl T len' (fun k => match k with | 0 => x0 | 1 => x1 | 2 => x2 | _ => x3) := by
  obtain ⟨hh, hO⟩ := h
  obtain ⟨k, ks⟩ := hh.keep7 5 (by omega) (.inr (5, [.ref (ad 6), .int (nI len'), .int x0, .int x1, .int x2, .int x3]))
  obtain ⟨h0, h1, ⟨g2, a2, b2⟩, ⟨g3, a3, b3⟩, h4, h5, h6, h7, hI, hr⟩ := hh
  exact ⟨⟨(k 0 (by omega) (by omega)).trans h0, (k 1 (by omega) (by omega)).trans h1, ⟨g2, (k 2 (by omega) (by omega)).trans a2, b2⟩, ⟨g3, (k 3 (by omega) (by omega)).trans a3, b3⟩, (k 4 (by omega) (by omega)).trans h4, mu_at _ _ _, (k 6 (by omega) (by omega)).trans h6, ks, hI, hr.1, hr.2.1, hl, hr.2.2.2.1, hx⟩, hO.mu 5 (by omega) _⟩
theorem Cl.cod (h : Cl G M0 M ad F nx ct fl T len tr) {T' : Nat → Int32} : Cl G M0 (mu M (ad 6) (.inl (G.2 0, 120, .inl T'))) ad F nx ct fl T' len tr := by
  obtain ⟨hh, hO⟩ := h
  obtain ⟨k, ks⟩ := hh.keep7 6 (by omega) (.inl (G.2 0, 120, .inl T'))
  obtain ⟨h0, h1, ⟨g2, a2, b2⟩, ⟨g3, a3, b3⟩, h4, h5, h6, h7, hI, hr⟩ := hh
  exact ⟨⟨(k 0 (by omega) (by omega)).trans h0, (k 1 (by omega) (by omega)).trans h1, ⟨g2, (k 2 (by omega) (by omega)).trans a2, b2⟩, ⟨g3, (k 3 (by omega) (by omega)).trans a3, b3⟩, (k 4 (by omega) (by omega)).trans h4, (k 5 (by omega) (by omega)).trans h5, mu_at _ _ _, ks, hI, hr⟩, hO.mu 6 (by omega) _⟩
end CLS
/-! the abstract state of a run: the states, the ring's place and count, the slots' flags, the text and its length -/
abbrev Sg : Type := (Nat → Nat → Int32) × Nat × Nat × (Nat → Int32) × (Nat → Int32) × Nat
def CL (G : gG) (M0 M : HM) (ad : Nat → Nat) (z : Sg) : Prop := ∃ tr, Cl G M0 M ad z.1 z.2.1 z.2.2.1 z.2.2.2.1 z.2.2.2.2.1 z.2.2.2.2.2 tr
/-- the present state is saved, and becomes f -/
def psh (z : Sg) (f : Nat → Int32) : Sg := (uF (uF z.1 (z.2.1 + 1) (z.1 0)) 0 f, (z.2.1 + 1) % 8, min (z.2.2.1 + 1) 8, z.2.2.2)
theorem psh_0 (F : Nat → Nat → Int32) (nx : Nat) : uF F (nx + 1) (F 0) 0 = F 0 := uF_ne _ _ (by omega)
