/-! The reference's reading: a place before its spaces. -/
def nmr (T : Nat → Int32) (n q : Nat) : Int32 × Nat := if dgB T n (sk T n q) = true then (if dgB T n (rw1 T n (sk T n q)).2 = true then (-9, (rw1 T n (sk T n q)).2) else rw1 T n (sk T n q)) else (-9, sk T n q)
def rJ2 (T : Nat → Int32) (n q : Nat) (o : Option Int32) : Option (Option Int32 × Int32) × Nat := if (nmr T n q).1 = -9 then (none, (nmr T n q).2) else if cd T n (sk T n (nmr T n q).2) = 59 then (some (o, (nmr T n q).1), sk T n (nmr T n q).2 + 1) else (none, sk T n (nmr T n q).2)
def rJ (T : Nat → Int32) (n q : Nat) : Option (Option Int32 × Int32) × Nat := if cd T n (sk T n q) = 102 then (if (nmr T n (sk T n q + 1)).1 = -9 then (none, (nmr T n (sk T n q + 1)).2) else if cd T n (sk T n (nmr T n (sk T n q + 1)).2) = 44 then rJ2 T n (sk T n (nmr T n (sk T n q + 1)).2 + 1) (some (nmr T n (sk T n q + 1)).1) else (none, sk T n (nmr T n (sk T n q + 1)).2)) else if cd T n (sk T n q) = 116 then rJ2 T n (sk T n q + 1) none else (none, sk T n q)
section TXR
variable {T : Nat → Int32} {n : Nat}
theorem cs_cd {p : Nat} {e : Int32} (h1 : ¬ e = -1) (h9 : ¬ e = -9) : cs T n p = e ↔ cd T n p = e := by
  unfold cs cd
  split
  · exact Iff.rfl
  · exact ⟨fun h => absurd h.symm h9, fun h => absurd h.symm h1⟩
theorem nI_nem9 {w : Nat} (h : w < 2 ^ 31) : ¬ nI w = -9 := nI_ne9 h
/-- the two numbers: the same value and place, or the reference has none and the class stands before a digit -/
theorem nmr_num (q : Nat) : ((nmr T n q).1 = -9 ∧ (num T n (sk T n q)).1 = -1 ∧ (nmr T n q).2 = (num T n (sk T n q)).2) ∨ ((nmr T n q).1 = -9 ∧ ¬ (num T n (sk T n q)).1 = -1 ∧ (nmr T n q).2 = (num T n (sk T n q)).2 ∧ dgB T n (num T n (sk T n q)).2 = true) ∨ (¬ (nmr T n q).1 = -9 ∧ ¬ (num T n (sk T n q)).1 = -1 ∧ (nmr T n q).1 = (num T n (sk T n q)).1 ∧ sk T n (nmr T n q).2 = (num T n (sk T n q)).2) := by
  by_cases h : dgB T n (sk T n q) = true
  · obtain ⟨w, w1, w2, -⟩ := rw1_facts h
    have hn : num T n (sk T n q) = ((rw1 T n (sk T n q)).1, sk T n (rw1 T n (sk T n q)).2) := by
      unfold num
      rw [if_pos h]
    by_cases h2 : dgB T n (rw1 T n (sk T n q)).2 = true
    · have hm : nmr T n q = (-9, (rw1 T n (sk T n q)).2) := by
        unfold nmr
        rw [if_pos h, if_pos h2]
      have e := sk_dg h2
      refine Or.inr (Or.inl ⟨by rw [hm], by rw [hn, w1]; exact nI_nem1 (by omega), by rw [hm, hn, e], ?_⟩)
      rw [hn]
      show dgB T n (sk T n _) = true
      rw [e]
      exact h2
    · have hm : nmr T n q = rw1 T n (sk T n q) := by
        unfold nmr
        rw [if_pos h, if_neg h2]
      refine Or.inr (Or.inr ⟨by rw [hm, w1]; exact nI_nem9 (by omega), by rw [hn, w1]; exact nI_nem1 (by omega), by rw [hm, hn], by rw [hm, hn]⟩)
  · have hm : nmr T n q = (-9, sk T n q) := by
      unfold nmr
      rw [if_neg h]
    rw [num_no h, hm]
    exact Or.inl ⟨rfl, rfl, rfl⟩
theorem cd_dg {p : Nat} {e : Int32} (h : dgB T n p = true) (he : ¬ (48 ≤ e ∧ e ≤ 57)) : ¬ cd T n p = e := by
  intro q
  obtain ⟨a, b⟩ := dg_lt h
  unfold cd at q
  rw [if_pos a] at q
  rw [q] at b
  exact he b
def Same (T : Nat → Int32) (n : Nat) (j i : Option (Option Int32 × Int32) × Nat) : Prop := j.1 = i.1 ∧ (j.1 = none → j.2 = i.2) ∧ sk T n j.2 = sk T n i.2
theorem rJ2_rI2 (q : Nat) (o : Option Int32) : Same T n (rJ2 T n q o) (rI2 T n (sk T n q) o) := by
  unfold rJ2 rI2
  rcases nmr_num (T := T) (n := n) q with ⟨a, b, c⟩ | ⟨a, b, c, d⟩ | ⟨a, b, c, d⟩
  · rw [if_pos a, if_pos b, c]
    exact ⟨rfl, fun _ => rfl, rfl⟩
  · rw [if_pos a, if_neg b, if_neg (cd_dg d (by decide)), c]
    exact ⟨rfl, fun _ => rfl, rfl⟩
  · rw [if_neg a, if_neg b, d]
    by_cases h : cd T n (num T n (sk T n q)).2 = 59
    · rw [if_pos h, if_pos h, c]
      exact ⟨rfl, fun z => (by cases z), (sk_sk _).symm⟩
    · rw [if_neg h, if_neg h]
      exact ⟨rfl, fun _ => rfl, rfl⟩
theorem rJ_rI (q : Nat) : Same T n (rJ T n q) (rI T n (sk T n q)) := by
  unfold rJ rI
  by_cases h : cd T n (sk T n q) = 102
  · rw [if_pos h, if_pos h]
    rcases nmr_num (T := T) (n := n) (sk T n q + 1) with ⟨a, b, c⟩ | ⟨a, b, c, d⟩ | ⟨a, b, c, d⟩
    · rw [if_pos a, if_pos b, c]
      exact ⟨rfl, fun _ => rfl, rfl⟩
    · rw [if_pos a, if_neg b, if_neg (cd_dg d (by decide)), c]
      exact ⟨rfl, fun _ => rfl, rfl⟩
    · rw [if_neg a, if_neg b, d]
      by_cases h2 : cd T n (num T n (sk T n (sk T n q + 1))).2 = 44
      · rw [if_pos h2, if_pos h2, c]
        exact rJ2_rI2 _ _
      · rw [if_neg h2, if_neg h2]
        exact ⟨rfl, fun _ => rfl, rfl⟩
  · rw [if_neg h, if_neg h]
    by_cases h2 : cd T n (sk T n q) = 116
    · rw [if_pos h2, if_pos h2]
      exact rJ2_rI2 _ _
    · rw [if_neg h2, if_neg h2]
      exact ⟨rfl, fun _ => rfl, rfl⟩
theorem nmr_n {q : Nat} (h : q ≤ n) : (nmr T n q).2 ≤ n := by
  unfold nmr
  split
  · rename_i d
    obtain ⟨w, -, -, -, a⟩ := rw1_facts d
    split
    · exact a
    · exact a
  · exact sk_n h
theorem rJ2_n {q : Nat} {o : Option Int32} (h : q ≤ n) : (rJ2 T n q o).2 ≤ n := by
  unfold rJ2
  split
  · exact nmr_n h
  · split
    · rename_i c
      exact cd_lt (by decide) c
    · exact sk_n (nmr_n h)
theorem rJ_n {q : Nat} (h : q ≤ n) : (rJ T n q).2 ≤ n := by
  unfold rJ
  split
  · rename_i c
    have h1 : sk T n q + 1 ≤ n := cd_lt (by decide) c
    split
    · exact nmr_n h1
    · split
      · rename_i c2
        exact rJ2_n (cd_lt (by decide) c2)
      · exact sk_n (nmr_n h1)
  · split
    · rename_i c
      exact rJ2_n (cd_lt (by decide) c)
    · exact sk_n h
theorem rI_flow {p : Nat} {v s : Int32} (h : (rI T n p).1 = some (some v, s)) : ¬ v = -9 := by
  unfold rI at h
  split at h
  · split at h
    · cases h
    · rename_i c2
      split at h
      · obtain ⟨a, -⟩ := rI2_ok h
        obtain ⟨w, w1, w2, -⟩ := num_ok (num_m1 c2)
        have : some v = some (num T n (sk T n (p + 1))).1 := congrArg (fun x => x.1) a
        cases this
        rw [w1]
        exact nI_nem9 (by omega)
      · cases h
  · split at h
    · obtain ⟨a, -⟩ := rI2_ok h
      cases a
    · cases h
/-- the digits' loop of the reference -/
def NP (T : Nat → Int32) (n p c : Nat) (x : Int32) (w : Nat) : Prop := (c = 0 ∧ x = 0 ∧ w = p) ∨ (1 ≤ c ∧ nmN T n (4 - c) x w = rw1 T n p ∧ ∃ v, x = nI v ∧ v < 10 ^ c ∧ (2 ≤ c → 1 ≤ v))
theorem NP.step {p c w : Nat} {x : Int32} (h : NP T n p c x w) (hc : c < 4) (hd : dgB T n w = true) (h1 : ¬ (c = 1 ∧ x = 0)) : NP T n p (c + 1) (10 * x + T w - 48) (w + 1) := by
  rcases h with ⟨rfl, rfl, rfl⟩ | ⟨c1, h2, v, rfl, v2, v3⟩
  · obtain ⟨d, d1, d2⟩ := dg_sub hd
    have e : (10 : Int32) * 0 + T w - 48 = T w - 48 := by
      rw [show (10 : Int32) * 0 = 0 from rfl, Int32.zero_add]
    rw [e]
    exact Or.inr ⟨by omega, rfl, d, d2, by omega, fun z => absurd z (by omega)⟩
  · have hv : 1 ≤ v := by
      rcases Nat.lt_or_ge c 2 with q | q
      · rcases Nat.eq_zero_or_pos v with z | z
        · exact absurd ⟨by omega, by rw [z]; rfl⟩ h1
        · exact z
      · exact v3 q
    have hp : 10 ^ c ≤ 10 ^ 4 := Nat.pow_le_pow_right (by decide) (by omega)
    have hx : ¬ nI v = 0 := nI_ne0 hv (by omega)
    obtain ⟨d, d1, d2⟩ := dg_next (w := v) hd
    refine Or.inr ⟨by omega, ?_, 10 * v + d, d2, by rw [Nat.pow_succ]; omega, fun _ => by omega⟩
    rw [← h2, show 4 - c = (4 - (c + 1)) + 1 by omega]
    show _ = (if _ then _ else _)
    rw [if_pos ⟨hx, hd⟩]
theorem NP.stop {p c w : Nat} {x : Int32} (h : NP T n p c x w) (hp : dgB T n p = true) (hd : ¬ dgB T n w = true) : rw1 T n p = (x, w) := by
  rcases h with ⟨-, -, rfl⟩ | ⟨-, h2, -⟩
  · exact absurd hp hd
  · rw [← h2]
    exact nm_stop (fun z => hd z.2)
theorem NP.bad {p c w : Nat} {x : Int32} (h : NP T n p c x w) (h1 : c = 4 ∨ (c = 1 ∧ x = 0)) : rw1 T n p = (x, w) := by
  rcases h with ⟨rfl, -, -⟩ | ⟨-, h2, -⟩
  · omega
  · rw [← h2]
    rcases h1 with rfl | ⟨-, rfl⟩
    · rfl
    · exact nm_stop (fun z => z.1 rfl)
end TXR
