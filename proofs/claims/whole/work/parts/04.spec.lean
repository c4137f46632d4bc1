/-! What the switch does, as functions of the 153 cells. Both sides are tied to these. -/
def cg (reg rem : Int32) : Int32 := if (if (7 : Int32) < reg / 64 then 7 else reg / 64) < rem then rem else (if (7 : Int32) < reg / 64 then 7 else reg / 64)
def wt (b t : Int32) : Int32 := if b - t < 0 then 0 else b - t
def tk (size rate : Int32) : Int32 := (size + rate - 1) / rate
def bg (b t : Int32) : Int32 := if t < b then b else t
def nP (f : Nat → Int32) : Nat := (f 1).toNatClampNeg
def nE (f : Nat → Int32) : Nat := (f 2).toNatClampNeg
def lvE (f : Nat → Int32) (i : Nat) : Bool := decide (f (41 + i) = 1 ∧ (f 4 = 1 ∨ f 0 - f (57 + i) ≤ f 3))
def mt (f : Nat → Int32) (i : Nat) : Int32 := cg (f (21 + i)) (f (17 + i))
def bs (f : Nat → Int32) : Nat → Nat
  | 0 => 0
  | n + 1 => if mt f (n + 1) < mt f (bs f n) then n + 1 else bs f n
def nx (g : Int32) : Int32 := (1103515245 * g + 12345) &&& 2147483647
def eN (f : Nat → Int32) (k : Nat) : Nat := (7 * k + 3) % nE f
def llF (f : Nat → Int32) (had : Int32) : Int32 := if had ≠ -9 ∧ mt f had.toNatClampNeg = mt f (bs f (nP f - 1)) then had else nI (bs f (nP f - 1))
def chF (f : Nat → Int32) (k : Nat) : Int32 := if f 5 = 0 then nI (k % nP f) else if f 5 = 2 then tnOf f else if lvE f (eN f k) = true then f (49 + eN f k) else if f 5 = 1 then llF f (f (49 + eN f k)) else jr (nx (f 7) / 65536) (f 1)
def tb1 (f : Nat → Int32) (k : Nat) : Nat → Int32 := if lvE f (eN f k) = true then f else if f 5 = 3 then upd (upd f (73 + k) (f (73 + k) + 1)) 7 (nx (f 7)) else upd f (73 + k) (f (73 + k) + 1)
def tabF (f : Nat → Int32) (k : Nat) (c : Int32) : Nat → Int32 := upd (upd (upd (upd (tb1 f k) (41 + eN f k) 1) (49 + eN f k) c) (57 + eN f k) (f 0)) (65 + eN f k) 0
def tkF (f : Nat → Int32) (k : Nat) (c : Int32) : Nat → Int32 := if f 5 = 1 ∨ f 5 = 3 then tabF f k c else if f 5 = 2 then upd f 8 (f 8 + 1) else f
def dvF (f : Nat → Int32) (k : Nat) (c ar : Int32) : Nat → Int32 := upd (upd (upd (upd f (89 + k) (f (89 + k) + (if ¬ f (105 + k) = -9 ∧ ¬ f (105 + k) = c then 1 else 0))) (105 + k) c) (121 + k) (f (121 + k) + (if ar < f (137 + k) then 1 else 0))) (137 + k) (if f (137 + k) < ar then ar else f (137 + k))
def xmF (f : Nat → Int32) (j : Nat) (size en : Int32) : Nat → Int32 := upd (upd (upd (upd f (25 + j) en) (21 + j) (f (21 + j) + size)) (29 + j) (f (29 + j) + 1)) (33 + j) (f (33 + j) + size)
def enF (f : Nat → Int32) (j : Nat) (size : Int32) : Int32 := bg (f (25 + j)) (f 0) + tk size (f (13 + j))
/-- a packet on path c: what send answers, and the state behind it (f: the state behind the choice) -/
def trF (f : Nat → Int32) (k : Nat) (c size : Int32) : Int32 × (Nat → Int32) := if 200 < f (25 + c.toNatClampNeg) - f 0 then (10 + c, upd f (37 + c.toNatClampNeg) (f (37 + c.toNatClampNeg) + 1)) else (c, dvF (xmF f c.toNatClampNeg size (enF f c.toNatClampNeg size)) k c (enF f c.toNatClampNeg size + f (9 + c.toNatClampNeg)))
def sdF (f : Nat → Int32) (k : Nat) (size : Int32) : Int32 × (Nat → Int32) := trF (tkF f k (chF f k)) k (chF f k) size
def dcN (f : Nat → Int32) : Nat → (Nat → Int32)
  | 0 => f
  | n + 1 => upd (dcN f n) (21 + n) (dcN f n (21 + n) - dcN f n (21 + n) >>> (f 6 &&& 31))
def agN (f : Nat → Int32) : Nat → (Nat → Int32)
  | 0 => f
  | n + 1 => if agN f n (41 + n) = 1 then upd (upd (agN f n) (41 + n) (1 - agN f n (65 + n))) (65 + n) 1 else agN f n
def t1F (f : Nat → Int32) : Nat → Int32 := upd f 0 (f 0 + 1)
def t2F (f : Nat → Int32) : Nat → Int32 := if jr (f 0) 10 = 0 then dcN f (nP f) else f
def t3F (f : Nat → Int32) : Nat → Int32 := if f 4 = 1 ∧ jr (f 0) (f 3) = 0 then agN f (nE f) else f
def tiF (f : Nat → Int32) : Nat → Int32 := t3F (t2F (t1F f))
def psN (f : Nat → Int32) : Nat → (Nat → Int32)
  | 0 => f
  | n + 1 => tiF (psN f n)
def cnF (f : Nat → Int32) (e : Int32) : Nat → Int32
  | 0 => 0
  | n + 1 => if jr (7 * nI n + 3) (f 2) = e then cnF f e n + 1 else cnF f e n
def acN (f : Nat → Int32) : Nat → Int32
  | 0 => 0
  | n + 1 => if lvE f n = true then acN f n + 1 else acN f n
def mnN (g : Nat → Int32) : Nat → Int32
  | 0 => g 0
  | n + 1 => if g (n + 1) < mnN g n then g (n + 1) else mnN g n
def mxN (g : Nat → Int32) : Nat → Int32
  | 0 => g 0
  | n + 1 => if mxN g n < g (n + 1) then g (n + 1) else mxN g n
def laF (f : Nat → Int32) (size : Int32) (j : Nat) : Int32 := wt (f (25 + j)) (f 0) + tk size (f (13 + j)) + f (9 + j)
def iniF (P E : Int32) : Nat → Int32 := fun k => if k = 1 then P else if k = 2 then E else if k = 3 then 20 else if k = 5 then 1 else if k = 6 then 2 else if k = 7 then 1 else if 9 ≤ k ∧ k < 17 then 10 else if (49 ≤ k ∧ k < 57) ∨ (105 ≤ k ∧ k < 121) ∨ (137 ≤ k ∧ k < 153) then -9 else 0
/-- the bounds that every state of a run keeps; B bounds the count of packets sent in mode 2 -/
def EntOk (f : Nat → Int32) (i : Nat) : Prop := (f (41 + i) = 0 ∨ f (41 + i) = 1) ∧ (f (41 + i) = 1 → f (49 + i) ≠ -9) ∧ (f (49 + i) = -9 ∨ ∃ k, k < nP f ∧ f (49 + i) = nI k) ∧ (f (65 + i) = 0 ∨ f (65 + i) = 1)
def Inv (B : Nat) (f : Nat → Int32) : Prop := (∃ T, T ≤ 1000000 ∧ f 0 = nI T) ∧ (∃ P, 2 ≤ P ∧ P ≤ 4 ∧ f 1 = nI P) ∧ (∃ E, 1 ≤ E ∧ E ≤ 8 ∧ f 2 = nI E) ∧ (∃ g, 1 ≤ g ∧ g ≤ 200 ∧ f 3 = nI g) ∧ (∃ g, g < 2 ^ 31 ∧ f 7 = nI g) ∧ (∃ t, t ≤ B ∧ f 8 = nI t) ∧ (∀ i, i < 4 → ∃ r, 1 ≤ r ∧ r ≤ 100 ∧ f (13 + i) = nI r) ∧ (∀ i, i < 4 → ∃ b, b ≤ 1001200 ∧ f (25 + i) = nI b) ∧ ∀ i, i < 8 → EntOk f i
theorem ix_lt {a b : Nat} (ha : a < 2 ^ 31) (h : ¬ nI b ≤ nI a) : a < b := by
  rcases Nat.lt_or_ge a b with q | q
  · exact q
  · exact absurd (nI_le q ha) h
theorem ix_ge {a b : Nat} (ha : a < 2 ^ 31) (hb : b < 2 ^ 31) (h : nI b ≤ nI a) : b ≤ a := (nI_leI hb ha).mp h
theorem Inv.P {B : Nat} {f : Nat → Int32} (h : Inv B f) : 2 ≤ nP f ∧ nP f ≤ 4 ∧ f 1 = nI (nP f) := by
  obtain ⟨P, h1, h2, h3⟩ := h.2.1
  have : nP f = P := by unfold nP; rw [h3]; exact nI_clamp (by omega)
  rw [this]
  exact ⟨h1, h2, h3⟩
theorem Inv.E {B : Nat} {f : Nat → Int32} (h : Inv B f) : 1 ≤ nE f ∧ nE f ≤ 8 ∧ f 2 = nI (nE f) := by
  obtain ⟨P, h1, h2, h3⟩ := h.2.2.1
  have : nE f = P := by unfold nE; rw [h3]; exact nI_clamp (by omega)
  rw [this]
  exact ⟨h1, h2, h3⟩
theorem Inv.nz1 {B : Nat} {f : Nat → Int32} (h : Inv B f) : ¬ f 1 = 0 := by
  obtain ⟨h1, h2, h3⟩ := h.P
  rw [h3]
  exact nI_ne0 (by omega) (by omega)
theorem Inv.nz2 {B : Nat} {f : Nat → Int32} (h : Inv B f) : ¬ f 2 = 0 := by
  obtain ⟨h1, h2, h3⟩ := h.E
  rw [h3]
  exact nI_ne0 (by omega) (by omega)
theorem Inv.nz3 {B : Nat} {f : Nat → Int32} (h : Inv B f) : ¬ f 3 = 0 := by
  obtain ⟨g, h1, h2, h3⟩ := h.2.2.2.1
  rw [h3]
  exact nI_ne0 (by omega) (by omega)
theorem Inv.nzr {B : Nat} {f : Nat → Int32} (h : Inv B f) (i : Nat) (hi : i < 4) : ¬ f (13 + i) = 0 := by
  obtain ⟨g, h1, h2, h3⟩ := h.2.2.2.2.2.2.1 i hi
  rw [h3]
  exact nI_ne0 (by omega) (by omega)
theorem jr_nI {a d : Nat} (ha : a < 2 ^ 31) (h0 : 0 < d) (hd : d < 2 ^ 31) : jr (nI a) (nI d) = nI (a % d) := pk_rem ha h0 hd
theorem eN_lt {B : Nat} {f : Nat → Int32} (h : Inv B f) (k : Nat) : eN f k < nE f ∧ eN f k < 8 := by
  obtain ⟨h1, h2, h3⟩ := h.E
  have := Nat.mod_lt (7 * k + 3) (show 0 < nE f by omega)
  unfold eN
  omega
theorem eN_eq {B : Nat} {f : Nat → Int32} (h : Inv B f) (k : Nat) (hk : k < 16) : jr (7 * nI k + 3) (f 2) = nI (eN f k) := by
  obtain ⟨h1, h2, h3⟩ := h.E
  rw [h3, show (7 : Int32) * nI k = nI (7 * k) from pk_mul 7 k, show nI (7 * k) + (3 : Int32) = nI (7 * k + 3) from nI_add (7 * k) 3, jr_nI (by omega) (by omega) (by omega)]
  rfl
theorem jr_0 (y : Int32) : jr 0 y = 0 := by simp [jr]
/-- g's cells at one path, entry, flow; f's elsewhere -/
def mxP (g f : Nat → Int32) (j : Nat) : Nat → Int32 := fun k => if 9 ≤ k ∧ k < 41 ∧ (k - 9) % 4 = j then g k else f k
def mxE (g f : Nat → Int32) (j : Nat) : Nat → Int32 := fun k => if 41 ≤ k ∧ k < 73 ∧ (k - 41) % 8 = j then g k else f k
def mxF (g f : Nat → Int32) (j : Nat) : Nat → Int32 := fun k => if 73 ≤ k ∧ k < 153 ∧ (k - 73) % 16 = j then g k else f k
def mxS (g f : Nat → Int32) : Nat → Int32 := fun k => if k < 9 then g k else f k
theorem St.mP {G : gG} {M0 M : HM} {L : Nat → Nat} {f : Nat → Int32} (h : St G M0 M L f) (g : Nat → Int32) (j : Nat) (hj : j < 4) : St G M0 (mu M (L (4 + j)) (.inr (2, paFs g j))) L (mxP g f j) := by
  refine h.pa j hj ?_ (fun k hk hn => ?_)
  · unfold paFs mxP
    rw [if_pos (by omega), if_pos (by omega), if_pos (by omega), if_pos (by omega), if_pos (by omega), if_pos (by omega), if_pos (by omega), if_pos (by omega)]
  · unfold mxP
    rw [if_neg]
    intro q
    apply hn
    unfold isPa
    omega
theorem St.mE {G : gG} {M0 M : HM} {L : Nat → Nat} {f : Nat → Int32} (h : St G M0 M L f) (g : Nat → Int32) (j : Nat) (hj : j < 8) (hz : g (41 + j) = 0 ∨ g (41 + j) = 1) : St G M0 (mu M (L (8 + j)) (.inr (0, enFs g j))) L (mxE g f j) := by
  have e : mxE g f j (41 + j) = g (41 + j) := by
    unfold mxE
    rw [if_pos (by omega)]
  refine h.en j hj ?_ (by rw [e]; exact hz) (fun k hk hn => ?_)
  · unfold enFs mxE
    rw [if_pos (by omega), if_pos (by omega), if_pos (by omega), if_pos (by omega)]
  · unfold mxE
    rw [if_neg]
    intro q
    apply hn
    unfold isEn
    omega
theorem St.mF {G : gG} {M0 M : HM} {L : Nat → Nat} {f : Nat → Int32} (h : St G M0 M L f) (g : Nat → Int32) (j : Nat) (hj : j < 16) : St G M0 (mu M (L (16 + j)) (.inr (1, flFs g j))) L (mxF g f j) := by
  refine h.fl j hj ?_ (fun k hk hn => ?_)
  · unfold flFs mxF
    rw [if_pos (by omega), if_pos (by omega), if_pos (by omega), if_pos (by omega), if_pos (by omega)]
  · unfold mxF
    rw [if_neg]
    intro q
    apply hn
    unfold isFl
    omega
/-- all of a state but the object's own numbers -/
def IsS0 (G : gG) (M : HM) (L : Nat → Nat) (f : Nat → Int32) : Prop :=
  (∃ g, M (L 1) = some (.inl (G.2 4, 4, .inr (.inr (.inr (.inr g))))) ∧ ∀ i, i < 4 → g i = some (L (4 + i))) ∧
  (∃ g, M (L 2) = some (.inl (G.2 2, 8, .inr (.inr (.inr (.inr g))))) ∧ ∀ i, i < 8 → g i = some (L (8 + i))) ∧
  (∃ g, M (L 3) = some (.inl (G.2 3, 16, .inr (.inr (.inr (.inr g))))) ∧ ∀ i, i < 16 → g i = some (L (16 + i))) ∧
  (∀ i, i < 4 → M (L (4 + i)) = some (.inr (2, paFs f i))) ∧
  (∀ i, i < 8 → M (L (8 + i)) = some (.inr (0, enFs f i))) ∧
  (∀ i, i < 16 → M (L (16 + i)) = some (.inr (1, flFs f i))) ∧
  Inj L 32 ∧ ∀ i, i < 8 → f (41 + i) = 0 ∨ f (41 + i) = 1
theorem IsS0.st {G : gG} {M0 M : HM} {L : Nat → Nat} {f g : Nat → Int32} {fs : List Value} (h : IsS0 G M L f) (hO : Off M0 M L) (hfs : fs = stFs L (mxS g f)) : St G M0 (mu M (L 0) (.inr (4, fs))) L (mxS g f) := by
  subst hfs
  have hL := h.2.2.2.2.2.2.1
  have h0 : St G M0 (mu M (L 0) (.inr (4, stFs L f))) L f := by
    obtain ⟨h1, h2, h3, h4, h5, h6, hL, hv⟩ := h
    refine ⟨⟨mu_at _ _ _, ?_, ?_, ?_, fun i hi => (mu_L hL (by omega) (by omega) (by omega) _).trans (h4 i hi), fun i hi => (mu_L hL (by omega) (by omega) (by omega) _).trans (h5 i hi), fun i hi => (mu_L hL (by omega) (by omega) (by omega) _).trans (h6 i hi), hL, hv⟩, hO.mu 0 (by omega) _⟩
    · obtain ⟨g, a, b⟩ := h1
      exact ⟨g, (mu_L hL (by omega) (by omega) (by omega) _).trans a, b⟩
    · obtain ⟨g, a, b⟩ := h2
      exact ⟨g, (mu_L hL (by omega) (by omega) (by omega) _).trans a, b⟩
    · obtain ⟨g, a, b⟩ := h3
      exact ⟨g, (mu_L hL (by omega) (by omega) (by omega) _).trans a, b⟩
  have h1 := h0.sc (f' := mxS g f) (fun k hk _ => by unfold mxS; rw [if_neg (by omega)])
  rw [mu_mu] at h1
  exact h1
theorem IsSt.s0 {G : gG} {M : HM} {L : Nat → Nat} {f : Nat → Int32} (h : IsSt G M L f) : IsS0 G M L f := h.2
def tmx : Int32 := 1000000
