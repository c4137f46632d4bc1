theorem nI_ne9 {j : Nat} (h : j < 2 ^ 31) : nI j ≠ -9 := by
  intro q
  have h1 : (nI j).toInt = (-9 : Int32).toInt := by rw [q]
  rw [nI_toInt h, show (-9 : Int32).toInt = -9 from by decide] at h1
  omega
theorem wt_bg {b t : Nat} (hb : b < 2 ^ 30) (ht : t < 2 ^ 30) : nI t + wt (nI b) (nI t) = bg (nI b) (nI t) := by
  unfold wt bg
  rcases Nat.lt_or_ge b t with h | h
  · rw [if_pos (pk_sneg ht h), if_neg (nI_nlt (by omega) (by omega))]
    exact Int32.add_zero _
  · rw [pk_sub h, if_neg (nI_pos (by omega)), nI_add, show t + (b - t) = b by omega]
    split
    · rfl
    · rename_i q
      have : ¬ t < b := fun z => q (nI_lt z (by omega))
      rw [show b = t by omega]
theorem wt_200 {b t : Nat} (hb : b < 2 ^ 30) (ht : t < 2 ^ 30) : 200 < wt (nI b) (nI t) ↔ 200 < nI b - nI t := by
  unfold wt
  split
  · rename_i q
    constructor
    · intro h
      exact absurd h (by decide)
    · intro h
      exact absurd (Int32.lt_trans h q) (by decide)
  · exact Iff.rfl
theorem tb1_o (f : Nat → Int32) (k q : Nat) (h7 : q ≠ 7) (hk : q ≠ 73 + k) : tb1 f k q = f q := by
  unfold tb1
  split
  · rfl
  split
  · rw [pk_un h7, pk_un hk]
  · rw [pk_un hk]
theorem tabF_o (f : Nat → Int32) (k q : Nat) (c : Int32) (h7 : q ≠ 7) (hk : q ≠ 73 + k) (he : ¬ isEn (eN f k) q) : tabF f k c q = f q := by
  unfold isEn at he
  unfold tabF
  rw [pk_un (by omega), pk_un (by omega), pk_un (by omega), pk_un (by omega), tb1_o f k q h7 hk]
theorem Inv.tab {B : Nat} {f : Nat → Int32} (h : Inv B f) (k : Nat) (hk : k < 16) {j : Nat} (hj : j < nP f) : Inv B (tabF f k (nI j)) := by
  obtain ⟨p1, p2, p3⟩ := h.P
  have he8 := (eN_lt h k).2
  have o : ∀ q, q ≠ 7 → q ≠ 73 + k → ¬ isEn (eN f k) q → tabF f k (nI j) q = f q := fun q a b c => tabF_o f k q _ a b c
  have o1 : tabF f k (nI j) 1 = f 1 := o 1 (by omega) (by omega) (by unfold isEn; omega)
  obtain ⟨h0, h1, h2, h3, h7, h8, hr, hb, he⟩ := h
  refine ⟨?_, ?_, ?_, ?_, ?_, ?_, fun i hi => ?_, fun i hi => ?_, fun i hi => ?_⟩
  · rw [o 0 (by omega) (by omega) (by unfold isEn; omega)]; exact h0
  · rw [o1]; exact h1
  · rw [o 2 (by omega) (by omega) (by unfold isEn; omega)]; exact h2
  · rw [o 3 (by omega) (by omega) (by unfold isEn; omega)]; exact h3
  · have e : tabF f k (nI j) 7 = tb1 f k 7 := by
      unfold tabF
      rw [pk_un (by omega), pk_un (by omega), pk_un (by omega), pk_un (by omega)]
    rw [e]
    unfold tb1
    split
    · exact h7
    split
    · rw [pk_us]
      exact nx_N _
    · rw [pk_un (by omega)]
      exact h7
  · rw [o 8 (by omega) (by omega) (by unfold isEn; omega)]; exact h8
  · rw [o (13 + i) (by omega) (by omega) (by unfold isEn; omega)]; exact hr i hi
  · rw [o (25 + i) (by omega) (by omega) (by unfold isEn; omega)]; exact hb i hi
  · by_cases hie : i = eN f k
    · have a1 : tabF f k (nI j) (41 + i) = 1 := by
        unfold tabF
        rw [pk_un (by omega), pk_un (by omega), pk_un (by omega), hie, pk_us]
      have a2 : tabF f k (nI j) (49 + i) = nI j := by
        unfold tabF
        rw [pk_un (by omega), pk_un (by omega), hie, pk_us]
      have a3 : tabF f k (nI j) (65 + i) = 0 := by
        unfold tabF
        rw [hie, pk_us]
      unfold EntOk
      rw [a1, a2, a3, nP_ext o1]
      exact ⟨Or.inr rfl, fun _ => nI_ne9 (by omega), Or.inr ⟨j, hj, rfl⟩, Or.inl rfl⟩
    · exact (he i hi).ext o1 (o _ (by omega) (by omega) (by unfold isEn; omega)) (o _ (by omega) (by omega) (by unfold isEn; omega)) (o _ (by omega) (by omega) (by unfold isEn; omega))
theorem Inv.chosen {B : Nat} {f : Nat → Int32} (h : Inv B f) (k : Nat) (hk : k < 16) {j : Nat} (hj : j < nP f) : Inv (B + 1) (tkF f k (nI j)) := by
  unfold tkF
  split
  · exact (h.tab k hk hj).mono (by omega)
  split
  · obtain ⟨h0, h1, h2, h3, h7, ⟨t, t1, t2⟩, hr, hb, he⟩ := h
    have o : ∀ q, q ≠ 8 → upd f 8 (f 8 + 1) q = f q := fun q a => pk_un a
    refine ⟨?_, ?_, ?_, ?_, ?_, ⟨t + 1, by omega, by rw [pk_us, t2, nI_1]⟩, fun i hi => ?_, fun i hi => ?_, fun i hi => ?_⟩
    · rw [o 0 (by omega)]; exact h0
    · rw [o 1 (by omega)]; exact h1
    · rw [o 2 (by omega)]; exact h2
    · rw [o 3 (by omega)]; exact h3
    · rw [o 7 (by omega)]; exact h7
    · rw [o (13 + i) (by omega)]; exact hr i hi
    · rw [o (25 + i) (by omega)]; exact hb i hi
    · exact (he i hi).ext (o _ (by omega)) (o _ (by omega)) (o _ (by omega)) (o _ (by omega))
  · exact h.mono (by omega)
theorem dvF_o (f : Nat → Int32) (k q : Nat) (c ar : Int32) (hk : k < 16) (h : q < 89) : dvF f k c ar q = f q := by
  unfold dvF
  rw [pk_un (by omega), pk_un (by omega), pk_un (by omega), pk_un (by omega)]
theorem xm_dv (f : Nat → Int32) (k j : Nat) (c ar size en : Int32) (hj : j < 4) : xmF (dvF f k c ar) j size en = dvF (xmF f j size en) k c ar := by
  funext q
  have d : ∀ q, q < 89 → dvF f k c ar q = f q := fun q h => by
    unfold dvF
    rw [pk_un (by omega), pk_un (by omega), pk_un (by omega), pk_un (by omega)]
  have x : ∀ q, 89 ≤ q → xmF f j size en q = f q := fun q h => by
    unfold xmF
    rw [pk_un (by omega), pk_un (by omega), pk_un (by omega), pk_un (by omega)]
  rcases Nat.lt_or_ge q 89 with h | h
  · have e : dvF (xmF f j size en) k c ar q = xmF f j size en q := by
      unfold dvF
      rw [pk_un (by omega), pk_un (by omega), pk_un (by omega), pk_un (by omega)]
    rw [e]
    unfold xmF
    simp only [upd, d (21 + j) (by omega), d (29 + j) (by omega), d (33 + j) (by omega), d q h]
  · have e : xmF (dvF f k c ar) j size en q = dvF f k c ar q := by
      unfold xmF
      rw [pk_un (by omega), pk_un (by omega), pk_un (by omega), pk_un (by omega)]
    rw [e]
    unfold dvF
    simp only [upd, x (89 + k) (by omega), x (105 + k) (by omega), x (121 + k) (by omega), x (137 + k) (by omega), x q h]
/-- when a packet arrives, as the class counts it and as the reference does -/
theorem Inv.arr {B : Nat} {f : Nat → Int32} (h : Inv B f) (j : Nat) (hj : j < 4) (size : Int32) : f 0 + wt (f (25 + j)) (f 0) + tk size (f (13 + j)) = enF f j size := by
  obtain ⟨T, a1, a2⟩ := h.1
  obtain ⟨b, b1, b2⟩ := h.2.2.2.2.2.2.2.1 j hj
  unfold enF
  rw [a2, b2, wt_bg (by omega) (by omega)]
theorem Inv.arr2 {B : Nat} {f : Nat → Int32} (h : Inv B f) (j : Nat) (hj : j < 4) (size : Int32) : f 0 + laF f size j = enF f j size + f (9 + j) := by
  unfold laF
  rw [← Int32.add_assoc, ← Int32.add_assoc, h.arr j hj size]
theorem Inv.drp {B : Nat} {f : Nat → Int32} (h : Inv B f) (j : Nat) (hj : j < 4) : 200 < wt (f (25 + j)) (f 0) ↔ 200 < f (25 + j) - f 0 := by
  obtain ⟨T, a1, a2⟩ := h.1
  obtain ⟨b, b1, b2⟩ := h.2.2.2.2.2.2.2.1 j hj
  rw [a2, b2]
  exact wt_200 (by omega) (by omega)
theorem stFs_turn {B : Nat} {f : Nat → Int32} (L : Nat → Nat) (h : Inv B f) (hB : B < 2 ^ 30) : (stFs L f).set 8 (.int (jr (tnOf f + 1) (f 1))) = stFs L (upd f 8 (f 8 + 1)) := by
  obtain ⟨p1, p2, p3⟩ := h.P
  obtain ⟨t, t1, t2⟩ := h.2.2.2.2.2.1
  have e : jr (tnOf f + 1) (f 1) = tnOf (upd f 8 (f 8 + 1)) := by
    have e1 : tnOf (upd f 8 (f 8 + 1)) = jr (f 8 + 1) (f 1) := rfl
    rw [e1]
    unfold tnOf
    rw [t2, p3, jr_nI (by omega) (by omega) (by omega), nI_1, nI_1, jr_nI (by have := Nat.mod_lt t (show 0 < nP f by omega); omega) (by omega) (by omega), jr_nI (by omega) (by omega) (by omega)]
    congr 1
    exact Nat.mod_add_mod t (nP f) 1
  show [Value.int (f 1), Value.int (f 2), Value.int (f 0), Value.int (f 5), Value.int (f 4), Value.int (f 3), Value.int (f 6), Value.int (f 7), Value.int (jr (tnOf f + 1) (f 1)), Value.ref (L 1), Value.ref (L 2), Value.ref (L 3)] = _
  rw [e]
  rfl
theorem paFs_ini (P E : Int32) : ∀ i, i < 4 → paFs (iniF P E) i = [.int 10, .int 10, .int 0, .int 0, .int 0, .int 0, .int 0, .int 0] := by
  intro i hi
  rcases (show i = 0 ∨ i = 1 ∨ i = 2 ∨ i = 3 by omega) with rfl | rfl | rfl | rfl <;> rfl
theorem enFs_ini (P E : Int32) : ∀ i, i < 8 → enFs (iniF P E) i = [.int 0, .int (-9), .int 0, .int 0] := by
  intro i hi
  rcases (show i = 0 ∨ i = 1 ∨ i = 2 ∨ i = 3 ∨ i = 4 ∨ i = 5 ∨ i = 6 ∨ i = 7 by omega) with rfl | rfl | rfl | rfl | rfl | rfl | rfl | rfl <;> rfl
theorem flFs_ini (P E : Int32) : ∀ i, i < 16 → flFs (iniF P E) i = [.int 0, .int 0, .int 0, .int (-9), .int (-9)] := by
  intro i hi
  rcases (show i = 0 ∨ i = 1 ∨ i = 2 ∨ i = 3 ∨ i = 4 ∨ i = 5 ∨ i = 6 ∨ i = 7 ∨ i = 8 ∨ i = 9 ∨ i = 10 ∨ i = 11 ∨ i = 12 ∨ i = 13 ∨ i = 14 ∨ i = 15 by omega) with rfl | rfl | rfl | rfl | rfl | rfl | rfl | rfl | rfl | rfl | rfl | rfl | rfl | rfl | rfl | rfl <;> rfl
theorem ini_v (P E : Int32) (i : Nat) (hi : i < 8) : iniF P E (41 + i) = 0 := by
  rcases (show i = 0 ∨ i = 1 ∨ i = 2 ∨ i = 3 ∨ i = 4 ∨ i = 5 ∨ i = 6 ∨ i = 7 by omega) with rfl | rfl | rfl | rfl | rfl | rfl | rfl | rfl <;> rfl
/-- an entry has grown older -/
theorem St.age {G : gG} {M0 M M' : HM} {L : Nat → Nat} {f : Nat → Int32} (h : St G M0 M L f) (i : Nat) (hi : i < 8) (ha : f (65 + i) = 0 ∨ f (65 + i) = 1)
    (hp : M' = (if ¬ f (41 + i) = 0 then (if f (65 + i) = 1 then mu M (L (8 + i)) (.inr (0, [.int 0, .int (f (49 + i)), .int (f (57 + i)), .int (f (65 + i))])) else mu M (L (8 + i)) (.inr (0, [.int (f (41 + i)), .int (f (49 + i)), .int (f (57 + i)), .int 1]))) else M)) :
    St G M0 M' L (if f (41 + i) = 1 then upd (upd f (41 + i) (1 - f (65 + i))) (65 + i) 1 else f) := by
  rcases h.1.2.2.2.2.2.2.2.2 i hi with hv | hv
  · rw [if_neg (by rw [hv]; decide)] at *
    rw [hp]
    exact h
  · rw [if_pos hv]
    rw [if_pos (by rw [hv]; decide)] at hp
    have e : ∀ k, k < 153 → ¬ isEn i k → upd (upd f (41 + i) (1 - f (65 + i))) (65 + i) 1 k = f k := fun k h1 h2 => by
      unfold isEn at h2
      rw [pk_un (by omega), pk_un (by omega)]
    have ev : upd (upd f (41 + i) (1 - f (65 + i))) (65 + i) 1 (41 + i) = 1 - f (65 + i) := by rw [pk_un (by omega), pk_us]
    rcases ha with ha | ha
    · rw [if_neg (by rw [ha]; decide)] at hp
      rw [hp]
      refine h.en i hi ?_ (by rw [ev, ha]; decide) e
      simp [enFs, upd, hv, ha]
    · rw [if_pos ha] at hp
      rw [hp]
      refine h.en i hi ?_ (by rw [ev, ha]; decide) e
      simp [enFs, upd, ha]
