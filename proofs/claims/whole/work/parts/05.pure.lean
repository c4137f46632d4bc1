/-! what the functions of 04 keep -/
theorem dcN_o (f : Nat → Int32) (n k : Nat) (h : k < 21 ∨ 21 + n ≤ k) : dcN f n k = f k := by
  induction n with
  | zero => rfl
  | succ n ih =>
    show upd (dcN f n) (21 + n) _ k = f k
    rw [pk_un (by omega)]
    exact ih (by omega)
theorem dcN_e (f : Nat → Int32) (n i : Nat) (hi : i < n) : dcN f n (21 + i) = f (21 + i) - f (21 + i) >>> (f 6 &&& 31) := by
  induction n with
  | zero => omega
  | succ n ih =>
    show upd (dcN f n) (21 + n) _ (21 + i) = _
    by_cases h : i = n
    · subst h
      rw [pk_us, dcN_o f i (21 + i) (by omega)]
    · rw [pk_un (by omega)]
      exact ih (by omega)
theorem agN_o (f : Nat → Int32) (n k : Nat) (h : (k < 41 ∨ 41 + n ≤ k) ∧ (k < 65 ∨ 65 + n ≤ k)) : agN f n k = f k := by
  induction n with
  | zero => rfl
  | succ n ih =>
    show (if agN f n (41 + n) = 1 then upd (upd (agN f n) (41 + n) (1 - agN f n (65 + n))) (65 + n) 1 else agN f n) k = f k
    split
    · rw [pk_un (by omega), pk_un (by omega)]
      exact ih (by omega)
    · exact ih (by omega)
theorem agN_e (f : Nat → Int32) (n i : Nat) (hi : i < n) (hn : n ≤ 8) : agN f n (41 + i) = (if f (41 + i) = 1 then 1 - f (65 + i) else f (41 + i)) ∧ agN f n (65 + i) = (if f (41 + i) = 1 then 1 else f (65 + i)) := by
  induction n with
  | zero => omega
  | succ n ih =>
    by_cases h : i = n
    · subst h
      have e1 := agN_o f i (41 + i) (by omega)
      have e2 := agN_o f i (65 + i) (by omega)
      constructor
      · show (if agN f i (41 + i) = 1 then upd (upd (agN f i) (41 + i) (1 - agN f i (65 + i))) (65 + i) 1 else agN f i) (41 + i) = _
        rw [e1, e2]
        split
        · rw [pk_un (by omega), pk_us]
        · exact e1
      · show (if agN f i (41 + i) = 1 then upd (upd (agN f i) (41 + i) (1 - agN f i (65 + i))) (65 + i) 1 else agN f i) (65 + i) = _
        rw [e1, e2]
        split
        · rw [pk_us]
        · exact e2
    · obtain ⟨a1, a2⟩ := ih (by omega) (by omega)
      constructor
      · show (if agN f n (41 + n) = 1 then upd (upd (agN f n) (41 + n) (1 - agN f n (65 + n))) (65 + n) 1 else agN f n) (41 + i) = _
        rw [← a1]
        split
        · rw [pk_un (by omega), pk_un (by omega)]
        · rfl
      · show (if agN f n (41 + n) = 1 then upd (upd (agN f n) (41 + n) (1 - agN f n (65 + n))) (65 + n) 1 else agN f n) (65 + i) = _
        rw [← a2]
        split
        · rw [pk_un (by omega), pk_un (by omega)]
        · rfl
theorem nP_ext {f g : Nat → Int32} (h : g 1 = f 1) : nP g = nP f := by unfold nP; rw [h]
theorem nE_ext {f g : Nat → Int32} (h : g 2 = f 2) : nE g = nE f := by unfold nE; rw [h]
theorem EntOk.ext {f g : Nat → Int32} {i : Nat} (h : EntOk f i) (e1 : g 1 = f 1) (e2 : g (41 + i) = f (41 + i)) (e3 : g (49 + i) = f (49 + i)) (e4 : g (65 + i) = f (65 + i)) : EntOk g i := by
  unfold EntOk at *
  rw [e2, e3, e4, nP_ext e1]
  exact h
theorem Inv.of {B : Nat} {f g : Nat → Int32} (h : Inv B f) (h0 : ∃ T, T ≤ 1000000 ∧ g 0 = nI T) (e : ∀ k, k = 1 ∨ k = 2 ∨ k = 3 ∨ k = 7 ∨ k = 8 ∨ (13 ≤ k ∧ k < 17) ∨ (25 ≤ k ∧ k < 29) ∨ (41 ≤ k ∧ k < 57) ∨ (65 ≤ k ∧ k < 73) → g k = f k) : Inv B g := by
  obtain ⟨-, h1, h2, h3, h7, h8, hr, hb, he⟩ := h
  refine ⟨h0, ?_, ?_, ?_, ?_, ?_, fun i hi => ?_, fun i hi => ?_, fun i hi => ?_⟩
  · rw [e 1 (by omega)]; exact h1
  · rw [e 2 (by omega)]; exact h2
  · rw [e 3 (by omega)]; exact h3
  · rw [e 7 (by omega)]; exact h7
  · rw [e 8 (by omega)]; exact h8
  · rw [e (13 + i) (by omega)]; exact hr i hi
  · rw [e (25 + i) (by omega)]; exact hb i hi
  · exact (he i hi).ext (e 1 (by omega)) (e _ (by omega)) (e _ (by omega)) (e _ (by omega))
theorem Inv.mono {B C : Nat} {f : Nat → Int32} (h : Inv B f) (hBC : B ≤ C) : Inv C f := by
  obtain ⟨h0, h1, h2, h3, h7, ⟨t, a, b⟩, hr, hb, he⟩ := h
  exact ⟨h0, h1, h2, h3, h7, ⟨t, by omega, b⟩, hr, hb, he⟩
theorem Inv.t1 {B T : Nat} {f : Nat → Int32} (h : Inv B f) (hT : f 0 = nI T) (hB : T + 1 ≤ 1000000) : Inv B (t1F f) ∧ t1F f 0 = nI (T + 1) := by
  have e : t1F f 0 = nI (T + 1) := by
    show upd f 0 _ 0 = _
    rw [pk_us, hT, nI_1]
  exact ⟨h.of ⟨T + 1, hB, e⟩ (fun k hk => pk_un (by omega)), e⟩
theorem t2F_o (f : Nat → Int32) (k : Nat) (h : k < 21 ∨ 25 ≤ k) (hP : nP f ≤ 4) : t2F f k = f k := by
  unfold t2F
  split
  · exact dcN_o f _ k (by omega)
  · rfl
theorem Inv.t2 {B : Nat} {f : Nat → Int32} (h : Inv B f) : Inv B (t2F f) ∧ t2F f 0 = f 0 := by
  have hP := h.P.2.1
  exact ⟨h.of (by rw [t2F_o f 0 (by omega) hP]; exact h.1) (fun k hk => t2F_o f k (by omega) hP), t2F_o f 0 (by omega) hP⟩
theorem Inv.ag {B : Nat} {f : Nat → Int32} (h : Inv B f) (n : Nat) (hn : n ≤ 8) : Inv B (agN f n) := by
  obtain ⟨h0, h1, h2, h3, h7, h8, hr, hb, he⟩ := h
  have o : ∀ k, k < 41 → agN f n k = f k := fun k hk => agN_o f n k (by omega)
  refine ⟨?_, ?_, ?_, ?_, ?_, ?_, fun i hi => ?_, fun i hi => ?_, fun i hi => ?_⟩
  · rw [o 0 (by omega)]; exact h0
  · rw [o 1 (by omega)]; exact h1
  · rw [o 2 (by omega)]; exact h2
  · rw [o 3 (by omega)]; exact h3
  · rw [o 7 (by omega)]; exact h7
  · rw [o 8 (by omega)]; exact h8
  · rw [o (13 + i) (by omega)]; exact hr i hi
  · rw [o (25 + i) (by omega)]; exact hb i hi
  · have hP : nP (agN f n) = nP f := nP_ext (o 1 (by omega))
    have e49 : agN f n (49 + i) = f (49 + i) := agN_o f n (49 + i) (by omega)
    by_cases hin : i < n
    · obtain ⟨a1, a2⟩ := agN_e f n i hin hn
      obtain ⟨b1, b2, b3, b4⟩ := he i hi
      unfold EntOk
      rw [a1, a2, e49, hP]
      by_cases hv : f (41 + i) = 1
      · rw [if_pos hv, if_pos hv]
        refine ⟨?_, fun _ => b2 hv, b3, Or.inr rfl⟩
        rcases b4 with q | q <;> rw [q] <;> decide
      · rw [if_neg hv, if_neg hv]
        exact ⟨b1, b2, b3, b4⟩
    · exact (he i hi).ext (o 1 (by omega)) (agN_o f n _ (by omega)) e49 (agN_o f n _ (by omega))
theorem t3F_o (f : Nat → Int32) (k : Nat) (h : k < 41) : t3F f k = f k := by
  unfold t3F
  split
  · exact agN_o f _ k (by omega)
  · rfl
theorem Inv.t3 {B : Nat} {f : Nat → Int32} (h : Inv B f) : Inv B (t3F f) ∧ t3F f 0 = f 0 := by
  refine ⟨?_, t3F_o f 0 (by omega)⟩
  unfold t3F
  split
  · exact h.ag _ h.E.2.1
  · exact h
theorem Inv.ti {B T : Nat} {f : Nat → Int32} (h : Inv B f) (hT : f 0 = nI T) (hB : T + 1 ≤ 1000000) : Inv B (tiF f) ∧ tiF f 0 = nI (T + 1) := by
  obtain ⟨a1, a2⟩ := h.t1 hT hB
  obtain ⟨b1, b2⟩ := a1.t2
  obtain ⟨c1, c2⟩ := b1.t3
  exact ⟨c1, c2.trans (b2.trans a2)⟩
theorem Inv.ps {B T n : Nat} {f : Nat → Int32} (h : Inv B f) (hT : f 0 = nI T) (hB : T + n ≤ 1000000) : ∀ i, i ≤ n → Inv B (psN f i) ∧ psN f i 0 = nI (T + i) := by
  intro i
  induction i with
  | zero => exact fun _ => ⟨h, hT⟩
  | succ i ih =>
    intro hi
    obtain ⟨a1, a2⟩ := ih (by omega)
    exact a1.ti (T := T + i) a2 (by omega)
theorem nx_N (g : Int32) : ∃ n, n < 2 ^ 31 ∧ nx g = nI n := by
  obtain ⟨j, h1, h2⟩ := pk_andE (1103515245 * g + 12345) (m := 2147483647) 31 (by decide)
  exact ⟨j, h1, h2⟩
theorem bs_le (f : Nat → Int32) (n : Nat) : bs f n ≤ n := by
  induction n with
  | zero => exact Nat.le_refl 0
  | succ n ih =>
    unfold bs
    split
    · exact Nat.le_refl _
    · omega
theorem chF_N {B : Nat} {f : Nat → Int32} (h : Inv B f) (hB : B < 2 ^ 30) (k : Nat) (hk : k < 16) : ∃ j, j < nP f ∧ chF f k = nI j := by
  obtain ⟨p1, p2, p3⟩ := h.P
  unfold chF
  split
  · exact ⟨_, Nat.mod_lt _ (by omega), rfl⟩
  split
  · obtain ⟨t, t1, t2⟩ := h.2.2.2.2.2.1
    refine ⟨t % nP f, Nat.mod_lt _ (by omega), ?_⟩
    unfold tnOf
    rw [t2, p3, jr_nI (by omega) (by omega) (by omega)]
  have he := (h.2.2.2.2.2.2.2.2 (eN f k) (eN_lt h k).2)
  split
  · rename_i hl
    simp only [lvE, decide_eq_true_eq] at hl
    rcases he.2.2.1 with q | q
    · exact absurd q (he.2.1 hl.1)
    · exact q
  split
  · unfold llF
    split
    · rename_i hq
      rcases he.2.2.1 with q | q
      · exact absurd q hq.1
      · exact q
    · have := bs_le f (nP f - 1)
      exact ⟨_, by omega, rfl⟩
  · obtain ⟨n, n1, n2⟩ := nx_N (f 7)
    refine ⟨n / 65536 % nP f, Nat.mod_lt _ (by omega), ?_⟩
    rw [n2, p3, show nI n / (65536 : Int32) = nI (n / 65536) from pk_div (d := 65536) n1 (by decide) (by decide), jr_nI (by omega) (by omega) (by omega)]
