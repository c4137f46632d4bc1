/-! what each call answers, and the run's state behind it -/
def q_entryOf (x : Int32) (f : Nat → Int32) : Int32 := if 0 ≤ x ∧ x ≤ 15 then jr (7 * x + 3) (f 2) else -1
def q_pth (b : Nat) (x : Int32) (f : Nat → Int32) : Int32 := if 0 ≤ x ∧ x ≤ f 1 - 1 then f (b + x.toNatClampNeg) else -1
def q_flw (b : Nat) (x : Int32) (f : Nat → Int32) : Int32 := if 0 ≤ x ∧ x ≤ 15 then f (b + x.toNatClampNeg) else -1
def q_isActive (x : Int32) (f : Nat → Int32) : Int32 := if 0 ≤ x ∧ x ≤ f 2 - 1 then (if lvE f x.toNatClampNeg = true then 1 else 0) else -1
def q_entryPath (x : Int32) (f : Nat → Int32) : Int32 := if 0 ≤ x ∧ x ≤ f 2 - 1 then f (49 + x.toNatClampNeg) else -1
def q_ageBit (x : Int32) (f : Nat → Int32) : Int32 := if 0 ≤ x ∧ x ≤ f 2 - 1 then (if f (41 + x.toNatClampNeg) = 1 then f (65 + x.toNatClampNeg) else -9) else -1
def q_idle (x : Int32) (f : Nat → Int32) : Int32 := if 0 ≤ x ∧ x ≤ f 2 - 1 then (if f (49 + x.toNatClampNeg) = -9 then -9 else f 0 - f (57 + x.toNatClampNeg)) else -1
def q_metric (x : Int32) (f : Nat → Int32) : Int32 := if 0 ≤ x ∧ x ≤ f 1 - 1 then mt f x.toNatClampNeg else -1
def q_busy (x : Int32) (f : Nat → Int32) : Int32 := if 0 ≤ x ∧ x ≤ f 1 - 1 then wt (f (25 + x.toNatClampNeg)) (f 0) else -1
def q_latency (x y : Int32) (f : Nat → Int32) : Int32 := if (0 ≤ x ∧ x ≤ f 1 - 1) ∧ (1 ≤ y ∧ y ≤ 1000) then laF f y x.toNatClampNeg else -1
def q_safeGap (x : Int32) (f : Nat → Int32) : Int32 := if 1 ≤ x ∧ x ≤ 1000 then mxN (laF f x) (nP f - 1) - mnN (laF f x) (nP f - 1) else -1
def q_imbalance (f : Nat → Int32) : Int32 := mxN (fun j => f (33 + j)) (nP f - 1) - mnN (fun j => f (33 + j)) (nP f - 1)
def q_nextPath (x : Int32) (f : Nat → Int32) : Int32 := if 0 ≤ x ∧ x ≤ 15 then chF f x.toNatClampNeg else -1
def q_wouldReorder (x y : Int32) (f : Nat → Int32) : Int32 := if (0 ≤ x ∧ x ≤ 15) ∧ (1 ≤ y ∧ y ≤ 1000) then woF f x.toNatClampNeg y else -1
def s_configure (x y : Int32) (z : Sg) : Int32 × Sg := if (2 ≤ x ∧ x ≤ 4) ∧ (1 ≤ y ∧ y ≤ 8) then (cnF (iniF x y) 0 16, psh z (iniF x y)) else (-1, z)
def s_setP (b : Nat) (lo hi x y : Int32) (z : Sg) : Int32 × Sg := if (0 ≤ x ∧ x ≤ z.1 0 1 - 1) ∧ (lo ≤ y ∧ y ≤ hi) then (z.1 0 (b + x.toNatClampNeg), psh z (upd (z.1 0) (b + x.toNatClampNeg) y)) else (-1, z)
def s_setS (b : Nat) (lo hi x : Int32) (z : Sg) : Int32 × Sg := if lo ≤ x ∧ x ≤ hi then (z.1 0 b, psh z (upd (z.1 0) b x)) else (-1, z)
def s_setGenerator (x : Int32) (z : Sg) : Int32 × Sg := if 0 ≤ x then (z.1 0 7, psh z (upd (z.1 0) 7 x)) else (-1, z)
def s_advance (x : Int32) (z : Sg) : Int32 × Sg := if 1 ≤ x ∧ x ≤ 1000 then (if x ≤ tmx - z.1 0 0 then (psN (z.1 0) x.toNatClampNeg 0, psh z (psN (z.1 0) x.toNatClampNeg)) else (-2, z)) else (-1, z)
def s_send (x y : Int32) (z : Sg) : Int32 × Sg := if (0 ≤ x ∧ x ≤ 15) ∧ (1 ≤ y ∧ y ≤ 1000) then ((sdF (z.1 0) x.toNatClampNeg y).1, psh z (sdF (z.1 0) x.toNatClampNeg y).2) else (-1, z)
def s_append (x : Int32) (z : Sg) : Int32 × Sg := if 0 ≤ x ∧ x ≤ 255 then (if z.2.2.2.2.2 = 120 then (-3, z) else (nI (z.2.2.2.2.2 + 1), (z.1, z.2.1, z.2.2.1, z.2.2.2.1, upd z.2.2.2.2.1 z.2.2.2.2.2 x, z.2.2.2.2.2 + 1))) else (-1, z)
def s_clearText (z : Sg) : Int32 × Sg := (nI z.2.2.2.2.2, (z.1, z.2.1, z.2.2.1, z.2.2.2.1, z.2.2.2.2.1, 0))
def s_undo (z : Sg) : Int32 × Sg := if z.2.2.1 = 0 then (-2, z) else (nI (z.2.2.1 - 1), (uF z.1 0 (z.1 ((z.2.1 + 7) % 8 + 1)), (z.2.1 + 7) % 8, z.2.2.1 - 1, z.2.2.2))
def s_save (x : Int32) (z : Sg) : Int32 × Sg := if 0 ≤ x ∧ x ≤ 1 then (z.1 0 0, (uF z.1 (x.toNatClampNeg + 9) (z.1 0), z.2.1, z.2.2.1, upd z.2.2.2.1 x.toNatClampNeg 1, z.2.2.2.2)) else (-1, z)
def s_restore (x : Int32) (z : Sg) : Int32 × Sg := if 0 ≤ x ∧ x ≤ 1 then (if z.2.2.2.1 x.toNatClampNeg = 0 then (-2, z) else (z.1 (x.toNatClampNeg + 9) 0, (uF z.1 0 (z.1 (x.toNatClampNeg + 9)), z.2.1, 0, z.2.2.2))) else (-1, z)
theorem ix_of {x : Int32} {n : Nat} (hn : 1 ≤ n) (h2 : n < 2 ^ 31) (h : 0 ≤ x ∧ x ≤ nI n - 1) : ∃ k, k < n ∧ x = nI k ∧ x.toNatClampNeg = k := by
  obtain ⟨j, h3, h4⟩ := nI_of (Int32.not_lt.mpr h.1)
  have h5 := h.2
  rw [h4, show (1 : Int32) = nI 1 from rfl, pk_sub hn, nI_leI h3 (by omega)] at h5
  exact ⟨j, by omega, h4, by rw [h4]; exact nI_clamp h3⟩
theorem path_ix {B : Nat} {f : Nat → Int32} {x : Int32} (hv : Inv B f) (h : 0 ≤ x ∧ x ≤ f 1 - 1) : ∃ k, k < 4 ∧ k < nP f ∧ x = nI k ∧ x.toNatClampNeg = k := by
  obtain ⟨h1, h2, h3⟩ := hv.P
  rw [h3] at h
  obtain ⟨k, a, b, c⟩ := ix_of (by omega) (by omega) h
  exact ⟨k, by omega, a, b, c⟩
theorem entry_ix {B : Nat} {f : Nat → Int32} {x : Int32} (hv : Inv B f) (h : 0 ≤ x ∧ x ≤ f 2 - 1) : ∃ k, k < 8 ∧ k < nE f ∧ x = nI k ∧ x.toNatClampNeg = k := by
  obtain ⟨h1, h2, h3⟩ := hv.E
  rw [h3] at h
  obtain ⟨k, a, b, c⟩ := ix_of (by omega) (by omega) h
  exact ⟨k, by omega, a, b, c⟩
theorem lit_ix {x : Int32} (n : Nat) (hn : n < 2 ^ 31) (h : 0 ≤ x ∧ x ≤ nI n) : ∃ k, k < n + 1 ∧ x = nI k ∧ x.toNatClampNeg = k := by
  obtain ⟨j, h3, h4⟩ := nI_of (Int32.not_lt.mpr h.1)
  have h5 := h.2
  rw [h4, nI_leI h3 hn] at h5
  exact ⟨j, by omega, h4, by rw [h4]; exact nI_clamp h3⟩
