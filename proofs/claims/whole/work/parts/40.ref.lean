/-! The reference: its object at b 0, its seven rows at b 1 .. b 7. -/
def rfO (b : Nat → Nat) (ct len at_ it : Int32) : List Value := [.ref (b 1), .ref (b 2), .int ct, .ref (b 3), .ref (b 4), .ref (b 5), .int len, .int at_, .int it, .ref (b 6), .ref (b 7)]
def IsRf (G : gG) (M : HM) (b : Nat → Nat) (f sv sl fl T iF iN : Nat → Int32) (ct len at_ it : Int32) : Prop :=
  M (b 0) = some (.inr (7, rfO b ct len at_ it)) ∧
  M (b 1) = some (.inl (G.2 0, 153, .inl f)) ∧
  M (b 2) = some (.inl (G.2 0, 1224, .inl sv)) ∧
  M (b 3) = some (.inl (G.2 0, 306, .inl sl)) ∧
  M (b 4) = some (.inl (G.2 1, 2, .inl fl)) ∧
  M (b 5) = some (.inl (G.2 0, 120, .inl T)) ∧
  M (b 6) = some (.inl (G.2 0, 60, .inl iF)) ∧
  M (b 7) = some (.inl (G.2 0, 60, .inl iN)) ∧
  Inj b 8
def Rf (G : gG) (M0 M : HM) (b : Nat → Nat) (f sv sl fl T iF iN : Nat → Int32) (ct len at_ it : Int32) : Prop := IsRf G M b f sv sl fl T iF iN ct len at_ it ∧ OffC M0 M b 8
section RFS
variable {G : gG} {M0 M M2 : HM} {b : Nat → Nat} {f sv sl fl T iF iN : Nat → Int32} {ct len at_ it : Int32}
theorem IsRf.rf (h : IsRf G M b f sv sl fl T iF iN ct len at_ it) : Rf G M M b f sv sl fl T iF iN ct len at_ it := ⟨h, OffC.rf M b 8⟩
theorem Rf.trans {f' sv' sl' fl' T' iF' iN' : Nat → Int32} {ct' len' at_' it' : Int32} (h : Rf G M0 M b f sv sl fl T iF iN ct len at_ it) (h2 : Rf G M M2 b f' sv' sl' fl' T' iF' iN' ct' len' at_' it') : Rf G M0 M2 b f' sv' sl' fl' T' iF' iN' ct' len' at_' it' := ⟨h2.1, h.2.trans h2.2⟩
theorem Rf.ob {ct' len' at_' it' : Int32} (h : Rf G M0 M b f sv sl fl T iF iN ct len at_ it) : Rf G M0 (mu M (b 0) (.inr (7, rfO b ct' len' at_' it'))) b f sv sl fl T iF iN ct' len' at_' it' := by
  obtain ⟨⟨h0, h1, h2, h3, h4, h5, h6, h7, hI⟩, hO⟩ := h
  exact ⟨⟨mu_at _ _ _, (mu_L hI (by omega) (by omega) (by omega) _).trans h1, (mu_L hI (by omega) (by omega) (by omega) _).trans h2, (mu_L hI (by omega) (by omega) (by omega) _).trans h3, (mu_L hI (by omega) (by omega) (by omega) _).trans h4, (mu_L hI (by omega) (by omega) (by omega) _).trans h5, (mu_L hI (by omega) (by omega) (by omega) _).trans h6, (mu_L hI (by omega) (by omega) (by omega) _).trans h7, hI⟩, hO.mu 0 (by omega) _⟩
theorem Rf.a1 {x : Nat → Int32} (h : Rf G M0 M b f sv sl fl T iF iN ct len at_ it) : Rf G M0 (mu M (b 1) (.inl (G.2 0, 153, .inl x))) b x sv sl fl T iF iN ct len at_ it := by
  obtain ⟨⟨h0, h1, h2, h3, h4, h5, h6, h7, hI⟩, hO⟩ := h
  exact ⟨⟨(mu_L hI (by omega) (by omega) (by omega) _).trans h0, mu_at _ _ _, (mu_L hI (by omega) (by omega) (by omega) _).trans h2, (mu_L hI (by omega) (by omega) (by omega) _).trans h3, (mu_L hI (by omega) (by omega) (by omega) _).trans h4, (mu_L hI (by omega) (by omega) (by omega) _).trans h5, (mu_L hI (by omega) (by omega) (by omega) _).trans h6, (mu_L hI (by omega) (by omega) (by omega) _).trans h7, hI⟩, hO.mu 1 (by omega) _⟩
theorem Rf.a2 {x : Nat → Int32} (h : Rf G M0 M b f sv sl fl T iF iN ct len at_ it) : Rf G M0 (mu M (b 2) (.inl (G.2 0, 1224, .inl x))) b f x sl fl T iF iN ct len at_ it := by
  obtain ⟨⟨h0, h1, h2, h3, h4, h5, h6, h7, hI⟩, hO⟩ := h
  exact ⟨⟨(mu_L hI (by omega) (by omega) (by omega) _).trans h0, (mu_L hI (by omega) (by omega) (by omega) _).trans h1, mu_at _ _ _, (mu_L hI (by omega) (by omega) (by omega) _).trans h3, (mu_L hI (by omega) (by omega) (by omega) _).trans h4, (mu_L hI (by omega) (by omega) (by omega) _).trans h5, (mu_L hI (by omega) (by omega) (by omega) _).trans h6, (mu_L hI (by omega) (by omega) (by omega) _).trans h7, hI⟩, hO.mu 2 (by omega) _⟩
theorem Rf.a3 {x : Nat → Int32} (h : Rf G M0 M b f sv sl fl T iF iN ct len at_ it) : Rf G M0 (mu M (b 3) (.inl (G.2 0, 306, .inl x))) b f sv x fl T iF iN ct len at_ it := by
  obtain ⟨⟨h0, h1, h2, h3, h4, h5, h6, h7, hI⟩, hO⟩ := h
  exact ⟨⟨(mu_L hI (by omega) (by omega) (by omega) _).trans h0, (mu_L hI (by omega) (by omega) (by omega) _).trans h1, (mu_L hI (by omega) (by omega) (by omega) _).trans h2, mu_at _ _ _, (mu_L hI (by omega) (by omega) (by omega) _).trans h4, (mu_L hI (by omega) (by omega) (by omega) _).trans h5, (mu_L hI (by omega) (by omega) (by omega) _).trans h6, (mu_L hI (by omega) (by omega) (by omega) _).trans h7, hI⟩, hO.mu 3 (by omega) _⟩
theorem Rf.a4 {x : Nat → Int32} (h : Rf G M0 M b f sv sl fl T iF iN ct len at_ it) : Rf G M0 (mu M (b 4) (.inl (G.2 1, 2, .inl x))) b f sv sl x T iF iN ct len at_ it := by
  obtain ⟨⟨h0, h1, h2, h3, h4, h5, h6, h7, hI⟩, hO⟩ := h
  exact ⟨⟨(mu_L hI (by omega) (by omega) (by omega) _).trans h0, (mu_L hI (by omega) (by omega) (by omega) _).trans h1, (mu_L hI (by omega) (by omega) (by omega) _).trans h2, (mu_L hI (by omega) (by omega) (by omega) _).trans h3, mu_at _ _ _, (mu_L hI (by omega) (by omega) (by omega) _).trans h5, (mu_L hI (by omega) (by omega) (by omega) _).trans h6, (mu_L hI (by omega) (by omega) (by omega) _).trans h7, hI⟩, hO.mu 4 (by omega) _⟩
theorem Rf.a5 {x : Nat → Int32} (h : Rf G M0 M b f sv sl fl T iF iN ct len at_ it) : Rf G M0 (mu M (b 5) (.inl (G.2 0, 120, .inl x))) b f sv sl fl x iF iN ct len at_ it := by
  obtain ⟨⟨h0, h1, h2, h3, h4, h5, h6, h7, hI⟩, hO⟩ := h
  exact ⟨⟨(mu_L hI (by omega) (by omega) (by omega) _).trans h0, (mu_L hI (by omega) (by omega) (by omega) _).trans h1, (mu_L hI (by omega) (by omega) (by omega) _).trans h2, (mu_L hI (by omega) (by omega) (by omega) _).trans h3, (mu_L hI (by omega) (by omega) (by omega) _).trans h4, mu_at _ _ _, (mu_L hI (by omega) (by omega) (by omega) _).trans h6, (mu_L hI (by omega) (by omega) (by omega) _).trans h7, hI⟩, hO.mu 5 (by omega) _⟩
theorem Rf.a6 {x : Nat → Int32} (h : Rf G M0 M b f sv sl fl T iF iN ct len at_ it) : Rf G M0 (mu M (b 6) (.inl (G.2 0, 60, .inl x))) b f sv sl fl T x iN ct len at_ it := by
  obtain ⟨⟨h0, h1, h2, h3, h4, h5, h6, h7, hI⟩, hO⟩ := h
  exact ⟨⟨(mu_L hI (by omega) (by omega) (by omega) _).trans h0, (mu_L hI (by omega) (by omega) (by omega) _).trans h1, (mu_L hI (by omega) (by omega) (by omega) _).trans h2, (mu_L hI (by omega) (by omega) (by omega) _).trans h3, (mu_L hI (by omega) (by omega) (by omega) _).trans h4, (mu_L hI (by omega) (by omega) (by omega) _).trans h5, mu_at _ _ _, (mu_L hI (by omega) (by omega) (by omega) _).trans h7, hI⟩, hO.mu 6 (by omega) _⟩
theorem Rf.a7 {x : Nat → Int32} (h : Rf G M0 M b f sv sl fl T iF iN ct len at_ it) : Rf G M0 (mu M (b 7) (.inl (G.2 0, 60, .inl x))) b f sv sl fl T iF x ct len at_ it := by
  obtain ⟨⟨h0, h1, h2, h3, h4, h5, h6, h7, hI⟩, hO⟩ := h
  exact ⟨⟨(mu_L hI (by omega) (by omega) (by omega) _).trans h0, (mu_L hI (by omega) (by omega) (by omega) _).trans h1, (mu_L hI (by omega) (by omega) (by omega) _).trans h2, (mu_L hI (by omega) (by omega) (by omega) _).trans h3, (mu_L hI (by omega) (by omega) (by omega) _).trans h4, (mu_L hI (by omega) (by omega) (by omega) _).trans h5, (mu_L hI (by omega) (by omega) (by omega) _).trans h6, mu_at _ _ _, hI⟩, hO.mu 7 (by omega) _⟩
end RFS
/-- a row may be written by another function that agrees with it below its length -/
theorem Wd.arr {G : gG} {A : Nat → Prop} {M : HM} {H H0 : Heap} {locs : List Loc} {a n : Nat} {cA : ClassId} {f g : Nat → Int32} (h : Wd G A H0 M H locs) (hM : M a = some (.inl (cA, n, .inl f))) (e : ∀ i, i < n → f i = g i) : Wd G A H0 (mu M a (.inl (cA, n, .inl g))) H locs := by
  obtain ⟨⟨ws, hP, hD, hL⟩, hS, hA⟩ := h
  obtain ⟨q0, hq⟩ := (hL a _).mp hM
  refine ⟨⟨ws.set q0 (a, .inl (cA, n, .inl g)), hP.set hD hq ?_ (fun _ _ => rfl), hD.set hq, hL.set hD hq⟩, hS, hA⟩
  have h1 := hP q0 _ hq
  show H[a]? = some (vp_cell cA (n, .inl g))
  have h2 : H[a]? = some (vp_cell cA (n, .inl f)) := h1
  rw [h2, vp_cell_i, vp_cell_i, arrV_ext (g := fun j => .int (g j)) (fun i hi => by rw [e i hi])]
theorem Rf.re {G : gG} {M0 M : HM} {b : Nat → Nat} {f g sv sl fl T iF iN : Nat → Int32} {ct len at_ it : Int32} (h : Rf G M0 M b f sv sl fl T iF iN ct len at_ it) (e : f = g) : Rf G M0 M b g sv sl fl T iF iN ct len at_ it := e ▸ h
theorem cg_r (l r : Int32) : (if r < l then l else r) = (if l < r then r else l) := by
  by_cases h : r < l
  · rw [if_pos h, if_neg (Int32.not_lt.mpr (Int32.le_of_lt h))]
  · rw [if_neg h]
    by_cases h2 : l < r
    · rw [if_pos h2]
    · rw [if_neg h2]
      exact Int32.le_antisymm (Int32.not_lt.mp h2) (Int32.not_lt.mp h)
