/-! Reading a text: T its characters, n its length, p a place. -/
def dgB (T : Nat → Int32) (n p : Nat) : Bool := decide (p < n ∧ 48 ≤ T p ∧ T p ≤ 57)
def cd (T : Nat → Int32) (n p : Nat) : Int32 := if p < n then T p else -1
def cs (T : Nat → Int32) (n p : Nat) : Int32 := if p < n then T p else -9
def skN (T : Nat → Int32) (n : Nat) : Nat → Nat → Nat
  | 0, p => p
  | m + 1, p => if p < n ∧ T p = 32 then skN T n m (p + 1) else p
def sk (T : Nat → Int32) (n p : Nat) : Nat := skN T n (n - p) p
def nmN (T : Nat → Int32) (n : Nat) : Nat → Int32 → Nat → Int32 × Nat
  | 0, v, p => (v, p)
  | m + 1, v, p => if ¬ v = 0 ∧ dgB T n p = true then nmN T n m (10 * v + T p - 48) (p + 1) else (v, p)
def rw1 (T : Nat → Int32) (n p : Nat) : Int32 × Nat := nmN T n 3 (T p - 48) (p + 1)
def num (T : Nat → Int32) (n p : Nat) : Int32 × Nat := if dgB T n p = true then ((rw1 T n p).1, sk T n (rw1 T n p).2) else (-1, p)
def rI2 (T : Nat → Int32) (n p : Nat) (o : Option Int32) : Option (Option Int32 × Int32) × Nat := if (num T n p).1 = -1 then (none, (num T n p).2) else if cd T n (num T n p).2 = 59 then (some (o, (num T n p).1), sk T n ((num T n p).2 + 1)) else (none, (num T n p).2)
def rI (T : Nat → Int32) (n p : Nat) : Option (Option Int32 × Int32) × Nat := if cd T n p = 102 then (if (num T n (sk T n (p + 1))).1 = -1 then (none, (num T n (sk T n (p + 1))).2) else if cd T n (num T n (sk T n (p + 1))).2 = 44 then rI2 T n (sk T n ((num T n (sk T n (p + 1))).2 + 1)) (some (num T n (sk T n (p + 1))).1) else (none, (num T n (sk T n (p + 1))).2)) else if cd T n p = 116 then rI2 T n (sk T n (p + 1)) none else (none, p)
/-- the place behind k items -/
def ps (T : Nat → Int32) (n : Nat) : Nat → Nat
  | 0 => sk T n 0
  | k + 1 => (rI T n (ps T n k)).2
def fnd (T : Nat → Int32) (n : Nat) : Nat → Nat → Nat × Bool
  | 0, k => (k, true)
  | m + 1, k => if (rI T n (ps T n k)).1 = none then (k, false) else if n ≤ ps T n (k + 1) then (k + 1, true) else fnd T n m (k + 1)
def exI (f : Nat → Int32) (o : Option (Option Int32 × Int32)) : Int32 × (Nat → Int32) := match o with
  | none => (0, f)
  | some (some k, s) => if (0 ≤ k ∧ k ≤ 15) ∧ (1 ≤ s ∧ s ≤ 1000) then (1, (sdF f k.toNatClampNeg s).2) else (0, f)
  | some (none, t) => if (1 ≤ t ∧ t ≤ 1000) ∧ t ≤ tmx - f 0 then (1, psN f t.toNatClampNeg) else (0, f)
def exS (T : Nat → Int32) (n : Nat) (f : Nat → Int32) : Nat → Int32 × (Nat → Int32)
  | 0 => (0, f)
  | k + 1 => ((exS T n f k).1 + (exI (exS T n f k).2 (rI T n (ps T n k)).1).1, (exI (exS T n f k).2 (rI T n (ps T n k)).1).2)
def cl0 (z : Sg) : Sg := (z.1, z.2.1, z.2.2.1, z.2.2.2.1, z.2.2.2.2.1, 0)
def s_runTrace (z : Sg) : Int32 × Sg := if (fnd z.2.2.2.2.1 z.2.2.2.2.2 120 0).2 = true then ((exS z.2.2.2.2.1 z.2.2.2.2.2 (z.1 0) (fnd z.2.2.2.2.1 z.2.2.2.2.2 120 0).1).1, cl0 (psh z (exS z.2.2.2.2.1 z.2.2.2.2.2 (z.1 0) (fnd z.2.2.2.2.1 z.2.2.2.2.2 120 0).1).2)) else (-10 - nI (rI z.2.2.2.2.1 z.2.2.2.2.2 (ps z.2.2.2.2.1 z.2.2.2.2.2 (fnd z.2.2.2.2.1 z.2.2.2.2.2 120 0).1)).2, z)
section TXT
variable {T : Nat → Int32} {n : Nat}
theorem sk_ge {p : Nat} (h : n ≤ p) : sk T n p = p := by
  unfold sk
  rw [show n - p = 0 by omega]
  rfl
theorem sk_step {p : Nat} (h : p < n) : sk T n p = if T p = 32 then sk T n (p + 1) else p := by
  unfold sk
  rw [show n - p = (n - (p + 1)) + 1 by omega]
  show (if p < n ∧ T p = 32 then skN T n (n - (p + 1)) (p + 1) else p) = _
  by_cases q : T p = 32
  · rw [if_pos ⟨h, q⟩, if_pos q]
  · rw [if_neg (fun z => q z.2), if_neg q]
theorem sk_facts : ∀ (m p : Nat), n - p = m → p ≤ sk T n p ∧ (p ≤ n → sk T n p ≤ n) ∧ (sk T n p < n → ¬ T (sk T n p) = 32) := by
  intro m
  induction m with
  | zero =>
    intro p h
    rw [sk_ge (by omega)]
    exact ⟨Nat.le_refl _, fun h => h, fun h => absurd h (by omega)⟩
  | succ m ih =>
    intro p h
    rw [sk_step (by omega)]
    split
    · obtain ⟨a, b, c⟩ := ih (p + 1) (by omega)
      exact ⟨by omega, fun _ => b (by omega), c⟩
    · rename_i q
      exact ⟨Nat.le_refl _, fun h => h, fun _ => q⟩
theorem sk_le (p : Nat) : p ≤ sk T n p := (sk_facts _ p rfl).1
theorem sk_n {p : Nat} (h : p ≤ n) : sk T n p ≤ n := (sk_facts _ p rfl).2.1 h
theorem sk_sk (p : Nat) : sk T n (sk T n p) = sk T n p := by
  rcases Nat.lt_or_ge (sk T n p) n with h | h
  · rw [sk_step h, if_neg ((sk_facts _ p rfl).2.2 h)]
  · exact sk_ge h
theorem dg_lt {p : Nat} (h : dgB T n p = true) : p < n ∧ 48 ≤ T p ∧ T p ≤ 57 := by
  simpa only [dgB, decide_eq_true_eq] using h
theorem sk_dg {p : Nat} (h : dgB T n p = true) : sk T n p = p := by
  obtain ⟨h1, h2, -⟩ := dg_lt h
  rw [sk_step h1, if_neg]
  intro q
  rw [q] at h2
  exact absurd h2 (by decide)
theorem dg_val {p : Nat} (h : dgB T n p = true) : ∃ w, w < 10 ∧ T p = nI (w + 48) := by
  obtain ⟨h1, h2, h3⟩ := dg_lt h
  have h0 : ¬ T p < 0 := fun q => absurd (Int32.lt_of_le_of_lt h2 q) (by decide)
  obtain ⟨j, a, b⟩ := nI_of h0
  rw [b, show (48 : Int32) = nI 48 from rfl, nI_leI (by decide) a] at h2
  rw [b, show (57 : Int32) = nI 57 from rfl, nI_leI a (by decide)] at h3
  exact ⟨j - 48, by omega, by rw [b]; congr 1; omega⟩
theorem dg_sub {p : Nat} (h : dgB T n p = true) : ∃ w, w < 10 ∧ T p - 48 = nI w := by
  obtain ⟨w, a, b⟩ := dg_val h
  refine ⟨w, a, ?_⟩
  rw [b, show (48 : Int32) = nI 48 from rfl, pk_sub (by omega)]
  congr 1
theorem dg_next {p w : Nat} (h : dgB T n p = true) : ∃ d, d < 10 ∧ 10 * nI w + T p - 48 = nI (10 * w + d) := by
  obtain ⟨d, a, b⟩ := dg_val h
  refine ⟨d, a, ?_⟩
  rw [b, show (10 : Int32) * nI w = nI (10 * w) from pk_mul 10 w, nI_add, show (48 : Int32) = nI 48 from rfl, pk_sub (by omega)]
  congr 1
theorem nmN_facts : ∀ (m w p : Nat), p ≤ n → w < 10 → (∀ k, k ≤ m → True) → ∃ w', (nmN T n m (nI w) p).1 = nI w' ∧ w' < (w + 1) * 10 ^ m ∧ p ≤ (nmN T n m (nI w) p).2 ∧ (nmN T n m (nI w) p).2 ≤ n := by
  have key : ∀ (m w p : Nat), p ≤ n → ∃ w', (nmN T n m (nI w) p).1 = nI w' ∧ w' < (w + 1) * 10 ^ m ∧ p ≤ (nmN T n m (nI w) p).2 ∧ (nmN T n m (nI w) p).2 ≤ n := by
    intro m
    induction m with
    | zero =>
      intro w p hp
      exact ⟨w, rfl, by omega, Nat.le_refl _, hp⟩
    | succ m ih =>
      intro w p hp
      unfold nmN
      split
      · rename_i q
        obtain ⟨d, d1, d2⟩ := dg_next (w := w) q.2
        rw [d2]
        obtain ⟨w', a1, a2, a3, a4⟩ := ih (10 * w + d) (p + 1) (by have := (dg_lt q.2).1; omega)
        refine ⟨w', a1, Nat.lt_of_lt_of_le a2 ?_, by omega, a4⟩
        rw [Nat.pow_succ, Nat.mul_comm (10 ^ m) 10, ← Nat.mul_assoc]
        exact Nat.mul_le_mul_right _ (by omega)
      · refine ⟨w, rfl, ?_, Nat.le_refl _, hp⟩
        have : 1 ≤ 10 ^ (m + 1) := Nat.one_le_pow _ _ (by decide)
        calc w < (w + 1) * 1 := by omega
          _ ≤ (w + 1) * 10 ^ (m + 1) := Nat.mul_le_mul_left _ this
  exact fun m w p hp _ _ => key m w p hp
theorem rw1_facts {p : Nat} (h : dgB T n p = true) : ∃ w, (rw1 T n p).1 = nI w ∧ w < 10000 ∧ p + 1 ≤ (rw1 T n p).2 ∧ (rw1 T n p).2 ≤ n := by
  obtain ⟨v, v1, v2⟩ := dg_sub h
  unfold rw1
  rw [v2]
  obtain ⟨w, a1, a2, a3, a4⟩ := nmN_facts (T := T) (n := n) 3 v (p + 1) (by have := (dg_lt h).1; omega) v1 (fun _ _ => trivial)
  exact ⟨w, a1, by omega, a3, a4⟩
theorem num_ok {p : Nat} (h : dgB T n p = true) : ∃ w, (num T n p).1 = nI w ∧ w < 10000 ∧ p + 1 ≤ (num T n p).2 ∧ (num T n p).2 ≤ n ∧ sk T n (num T n p).2 = (num T n p).2 := by
  unfold num
  rw [if_pos h]
  obtain ⟨w, a1, a2, a3, a4⟩ := rw1_facts h
  have := sk_le (T := T) (n := n) (rw1 T n p).2
  exact ⟨w, a1, a2, by omega, sk_n a4, sk_sk _⟩
theorem num_no {p : Nat} (h : ¬ dgB T n p = true) : num T n p = (-1, p) := by
  unfold num
  rw [if_neg h]
theorem nI_nem1 {w : Nat} (h : w < 2 ^ 31) : ¬ nI w = -1 := by
  intro q
  have h1 : (nI w).toInt = (-1 : Int32).toInt := by rw [q]
  rw [nI_toInt h, show (-1 : Int32).toInt = -1 from by decide] at h1
  omega
theorem num_m1 {p : Nat} (h : ¬ (num T n p).1 = -1) : dgB T n p = true := by
  by_cases q : dgB T n p = true
  · exact q
  · rw [num_no q] at h
    exact absurd rfl h
theorem num_n1 {p : Nat} (h : dgB T n p = true) : ¬ (num T n p).1 = -1 := by
  obtain ⟨w, a, b, -⟩ := num_ok h
  rw [a]
  exact nI_nem1 (by omega)
theorem cd_lt {p : Nat} {e : Int32} (he : ¬ e = -1) (h : cd T n p = e) : p < n := by
  unfold cd at h
  split at h
  · assumption
  · exact absurd h.symm he
theorem rI2_ok {p : Nat} {o : Option Int32} {x : Option Int32 × Int32} (h : (rI2 T n p o).1 = some x) : x = (o, (num T n p).1) ∧ dgB T n p = true ∧ p + 2 ≤ (rI2 T n p o).2 ∧ (rI2 T n p o).2 ≤ n ∧ sk T n (rI2 T n p o).2 = (rI2 T n p o).2 := by
  unfold rI2 at h ⊢
  split at h
  · cases h
  · rename_i q
    rw [if_neg q]
    split at h
    · rename_i q2
      rw [if_pos q2]
      cases h
      have hd := num_m1 q
      obtain ⟨w, a1, a2, a3, a4, a5⟩ := num_ok hd
      have hl := cd_lt (by decide) q2
      have := sk_le (T := T) (n := n) ((num T n p).2 + 1)
      exact ⟨rfl, hd, by show p + 2 ≤ sk T n _; omega, sk_n (by omega), sk_sk _⟩
    · cases h
theorem rI_ok {p : Nat} {x : Option Int32 × Int32} (h : (rI T n p).1 = some x) : p < n ∧ p + 3 ≤ (rI T n p).2 ∧ (rI T n p).2 ≤ n ∧ sk T n (rI T n p).2 = (rI T n p).2 := by
  unfold rI at h ⊢
  split at h
  · rename_i c1
    rw [if_pos c1]
    have hl := cd_lt (by decide) c1
    split at h
    · cases h
    · rename_i c2
      rw [if_neg c2]
      split at h
      · rename_i c3
        rw [if_pos c3]
        obtain ⟨-, -, b1, b2, b3⟩ := rI2_ok h
        obtain ⟨w, a1, a2, a3, a4, a5⟩ := num_ok (num_m1 c2)
        have s1 := sk_le (T := T) (n := n) (p + 1)
        have s2 := sk_le (T := T) (n := n) ((num T n (sk T n (p + 1))).2 + 1)
        exact ⟨hl, by omega, b2, b3⟩
      · cases h
  · rename_i c1
    rw [if_neg c1]
    split at h
    · rename_i c2
      rw [if_pos c2]
      have hl := cd_lt (by decide) c2
      obtain ⟨-, -, b1, b2, b3⟩ := rI2_ok h
      have s1 := sk_le (T := T) (n := n) (p + 1)
      exact ⟨hl, by omega, b2, b3⟩
    · cases h
theorem rI_end {p : Nat} (h : n ≤ p) : rI T n p = (none, p) := by
  have : cd T n p = -1 := if_neg (by omega)
  unfold rI
  rw [this, if_neg (by decide), if_neg (by decide)]
theorem ps_sk (k : Nat) (h : ∀ j, j < k → (rI T n (ps T n j)).1 ≠ none) : 3 * k ≤ ps T n k ∧ ps T n k ≤ n ∧ sk T n (ps T n k) = ps T n k := by
  induction k with
  | zero => exact ⟨by omega, sk_n (by omega), sk_sk 0⟩
  | succ k ih =>
    obtain ⟨a, b, c⟩ := ih (fun j hj => h j (by omega))
    cases hx : (rI T n (ps T n k)).1 with
    | none => exact absurd hx (h k (by omega))
    | some x =>
      obtain ⟨h1, h2, h3, h4⟩ := rI_ok hx
      exact ⟨by show _ ≤ (rI T n (ps T n k)).2; omega, h3, h4⟩
theorem fnd_ok (hn : n ≤ 120) : ∀ (m k : Nat), 120 ≤ m + k → (∀ j, j < k → (rI T n (ps T n j)).1 ≠ none) → (k = 0 ∨ ps T n k < n) → (fnd T n m k).2 = true → (∀ j, j < (fnd T n m k).1 → (rI T n (ps T n j)).1 ≠ none) ∧ n ≤ ps T n (fnd T n m k).1 ∧ k < (fnd T n m k).1 := by
  intro m
  induction m with
  | zero =>
    intro k hk hg hp _
    obtain ⟨a, b, c⟩ := ps_sk k hg
    omega
  | succ m ih =>
    intro k hk hg hp h
    unfold fnd at h ⊢
    by_cases c1 : (rI T n (ps T n k)).1 = none
    · rw [if_pos c1] at h
      cases h
    · rw [if_neg c1] at h ⊢
      have hg' : ∀ j, j < k + 1 → (rI T n (ps T n j)).1 ≠ none := fun j hj => by
        by_cases e : j = k
        · subst e
          exact c1
        · exact hg j (by omega)
      by_cases c2 : n ≤ ps T n (k + 1)
      · rw [if_pos c2]
        exact ⟨hg', c2, Nat.lt_succ_self k⟩
      · rw [if_neg c2] at h ⊢
        obtain ⟨x, y, z⟩ := ih (k + 1) (by omega) hg' (Or.inr (by omega)) h
        exact ⟨x, y, by omega⟩
end TXT
