/-- keep(): the present state is put behind the saved ones, the oldest falls out -/
def KP (sv sv' f : Nat → Int32) (c : Nat) : Prop := (∀ i, i < 153 → sv' (153 * (min c 7) + i) = f i) ∧ ∀ k i, k < min c 7 → i < 153 → sv' (153 * k + i) = sv (153 * (k + (if c = 8 then 1 else 0)) + i)
def SVr (F : Nat → Nat → Int32) (nx ct : Nat) (sv : Nat → Int32) : Prop := ∀ k, k < ct → ∀ i, i < 153 → sv (153 * k + i) = F ((nx + 8 - ct + k) % 8 + 1) i
def SLr (F : Nat → Nat → Int32) (fl sl : Nat → Int32) : Prop := ∀ s, s < 2 → ¬ fl s = 0 → ∀ i, i < 153 → sl (153 * s + i) = F (s + 9) i
theorem kp_psh {F : Nat → Nat → Int32} {nx ct : Nat} {sv sv' f' : Nat → Int32} (hnx : nx < 8) (hct : ct ≤ 8) (h : SVr F nx ct sv) (hk : KP sv sv' (F 0) ct) : SVr (uF (uF F (nx + 1) (F 0)) 0 f') ((nx + 1) % 8) (min (ct + 1) 8) sv' := by
  intro k hk' i hi
  rw [uF_ne _ _ (by omega)]
  by_cases q : k = min ct 7
  · rw [show ((nx + 1) % 8 + 8 - min (ct + 1) 8 + k) % 8 + 1 = nx + 1 by omega, uF_at, q]
    exact hk.1 i hi
  · rw [uF_ne _ _ (by omega), hk.2 k i (by omega) hi]
    by_cases h8 : ct = 8
    · rw [if_pos h8, h (k + 1) (by omega) i hi, show (nx + 8 - ct + (k + 1)) % 8 + 1 = ((nx + 1) % 8 + 8 - min (ct + 1) 8 + k) % 8 + 1 by omega]
    · rw [if_neg h8, h (k + 0) (by omega) i hi, show (nx + 8 - ct + (k + 0)) % 8 + 1 = ((nx + 1) % 8 + 8 - min (ct + 1) 8 + k) % 8 + 1 by omega]
theorem sl_psh {F : Nat → Nat → Int32} {nx : Nat} {fl sl f' : Nat → Int32} (hnx : nx < 8) (h : SLr F fl sl) : SLr (uF (uF F (nx + 1) (F 0)) 0 f') fl sl := by
  intro s hs hf i hi
  rw [uF_ne _ _ (by omega), uF_ne _ _ (by omega)]
  exact h s hs hf i hi
/-- the reference holds the run's state -/
def RZ (G : gG) (M0 M : HM) (b : Nat → Nat) (z : Sg) : Prop := ∃ (sv sl iF iN : Nat → Int32) (at_ it : Int32), Rf G M0 M b (z.1 0) sv sl z.2.2.2.1 z.2.2.2.2.1 iF iN (nI z.2.2.1) (nI z.2.2.2.2.2) at_ it ∧ SVr z.1 z.2.1 z.2.2.1 sv ∧ SLr z.1 z.2.2.2.1 sl ∧ z.2.1 < 8 ∧ z.2.2.1 ≤ 8 ∧ z.2.2.2.2.2 ≤ 120
theorem RZ.psh {G : gG} {M0 M : HM} {b : Nat → Nat} {F : Nat → Nat → Int32} {nx cn ln : Nat} {sv sv' sl fl T iF iN f' : Nat → Int32} {at_ it : Int32} (hR : Rf G M0 M b f' sv' sl fl T iF iN (nI (min (cn + 1) 8)) (nI ln) at_ it) (hsv : SVr F nx cn sv) (hsl : SLr F fl sl) (hnx : nx < 8) (hcn : cn ≤ 8) (hln : ln ≤ 120) (hk : KP sv sv' (F 0) cn) : RZ G M0 M b (psh (F, nx, cn, fl, T, ln) f') := by
  refine ⟨sv', sl, iF, iN, at_, it, ?_, kp_psh hnx hcn hsv hk, sl_psh hnx hsl, Nat.mod_lt _ (by decide), Nat.min_le_right _ _, hln⟩
  show Rf G M0 M b (uF (uF F (nx + 1) (F 0)) 0 f' 0) sv' sl fl T iF iN _ _ at_ it
  rw [uF_at]
  exact hR
theorem RZ.same {G : gG} {M : HM} {b : Nat → Nat} {F : Nat → Nat → Int32} {nx cn ln : Nat} {sv sl fl T iF iN : Nat → Int32} {at_ it : Int32} (hR : IsRf G M b (F 0) sv sl fl T iF iN (nI cn) (nI ln) at_ it) (hsv : SVr F nx cn sv) (hsl : SLr F fl sl) (hnx : nx < 8) (hcn : cn ≤ 8) (hln : ln ≤ 120) : RZ G M M b (F, nx, cn, fl, T, ln) := ⟨sv, sl, iF, iN, at_, it, hR.rf, hsv, hsl, hnx, hcn, hln⟩
theorem upd_id {g : Nat → Int32} {j : Nat} {v : Int32} (h : v = g j) : upd g j v = g := by
  funext q
  unfold upd
  split
  · rename_i e
    rw [e, h]
  · rfl
theorem xmF_o (f : Nat → Int32) (j q : Nat) (size en : Int32) (hj : j < 4) (h : 89 ≤ q) : xmF f j size en q = f q := by
  unfold xmF
  rw [pk_un (by omega), pk_un (by omega), pk_un (by omega), pk_un (by omega)]
theorem ini_10 (P E : Int32) (k : Nat) (h : 9 ≤ k ∧ k < 17) : iniF P E k = 10 := by
  unfold iniF
  rw [if_neg (by omega), if_neg (by omega), if_neg (by omega), if_neg (by omega), if_neg (by omega), if_neg (by omega), if_pos (by omega)]
theorem ini_9 (P E : Int32) (k : Nat) (h : (49 ≤ k ∧ k < 57) ∨ (105 ≤ k ∧ k < 121) ∨ (137 ≤ k ∧ k < 153)) : iniF P E k = -9 := by
  unfold iniF
  rw [if_neg (by omega), if_neg (by omega), if_neg (by omega), if_neg (by omega), if_neg (by omega), if_neg (by omega), if_neg (by omega), if_pos (by omega)]
theorem ini_st (P E : Int32) (g : Nat → Int32) (hg : ∀ k, k < 153 → g k = 0) : ∀ k, k < 153 → (k < 9 ∨ (17 ≤ k ∧ k < 49) ∨ (57 ≤ k ∧ k < 105) ∨ (121 ≤ k ∧ k < 137)) → upd (upd (upd (upd (upd (upd g 1 P) 2 E) 3 20) 5 1) 6 2) 7 1 k = iniF P E k := by
  intro k hk hd
  unfold iniF
  by_cases h1 : k = 1
  · subst h1; rfl
  by_cases h2 : k = 2
  · subst h2; rfl
  by_cases h3 : k = 3
  · subst h3; rfl
  by_cases h5 : k = 5
  · subst h5; rfl
  by_cases h6 : k = 6
  · subst h6; rfl
  by_cases h7 : k = 7
  · subst h7; rfl
  rw [pk_un h7, pk_un h6, pk_un h5, pk_un h3, pk_un h2, pk_un h1, hg k hk, if_neg h1, if_neg h2, if_neg h3, if_neg h5, if_neg h6, if_neg h7, if_neg (by omega), if_neg (by omega)]
