/-! What holds of a run between two calls. -/
def ZI (B : Nat) (z : Sg) : Prop := (∀ j, j < 11 → Inv B (z.1 j)) ∧ ∀ i, i < z.2.2.2.2.2 → ∃ u, u < 256 ∧ z.2.2.2.2.1 i = nI u
def Apt (ad b : Nat → Nat) : Prop := ∀ i j, i < 359 → j < 8 → ad i ≠ b j
def LI (G : gG) (M : HM) (ad b : Nat → Nat) (z : Sg) : Prop := CL G M M ad z ∧ RZ G M M b z
theorem ZI.mono {B C : Nat} {z : Sg} (h : ZI B z) (hBC : B ≤ C) : ZI C z := ⟨fun j hj => (h.1 j hj).mono hBC, h.2⟩
theorem IsCl.kept {G : gG} {M M' : HM} {ad : Nat → Nat} {F : Nat → Nat → Int32} {nx ct : Nat} {fl T : Nat → Int32} {len : Nat} {tr : Nat → Int32} (h : IsCl G M ad F nx ct fl T len tr) (e : ∀ i, i < 359 → M' (ad i) = M (ad i)) : IsCl G M' ad F nx ct fl T len tr := by
  obtain ⟨h0, h1, ⟨g2, a2, b2⟩, ⟨g3, a3, b3⟩, h4, h5, h6, h7, hr⟩ := h
  exact ⟨(e 0 (by omega)).trans h0, (e 1 (by omega)).trans h1, ⟨g2, (e 2 (by omega)).trans a2, b2⟩, ⟨g3, (e 3 (by omega)).trans a3, b3⟩, (e 4 (by omega)).trans h4, (e 5 (by omega)).trans h5, (e 6 (by omega)).trans h6, fun j hj => (h7 j hj).kept (fun k hk => e (7 + 32 * j + k) (by omega)), hr⟩
theorem IsRf.kept {G : gG} {M M' : HM} {b : Nat → Nat} {f sv sl fl T iF iN : Nat → Int32} {ct len at_ it : Int32} (h : IsRf G M b f sv sl fl T iF iN ct len at_ it) (e : ∀ i, i < 8 → M' (b i) = M (b i)) : IsRf G M' b f sv sl fl T iF iN ct len at_ it := by
  obtain ⟨h0, h1, h2, h3, h4, h5, h6, h7, hr⟩ := h
  exact ⟨(e 0 (by omega)).trans h0, (e 1 (by omega)).trans h1, (e 2 (by omega)).trans h2, (e 3 (by omega)).trans h3, (e 4 (by omega)).trans h4, (e 5 (by omega)).trans h5, (e 6 (by omega)).trans h6, (e 7 (by omega)).trans h7, hr⟩
theorem IsCl.all {G : gG} {M : HM} {ad : Nat → Nat} {F : Nat → Nat → Int32} {nx ct : Nat} {fl T : Nat → Int32} {len : Nat} {tr : Nat → Int32} (h : IsCl G M ad F nx ct fl T len tr) : ∀ i, i < 359 → ∃ e, M (ad i) = some e := by
  obtain ⟨h0, h1, ⟨g2, a2, b2⟩, ⟨g3, a3, b3⟩, h4, h5, h6, h7, hr⟩ := h
  intro i hi
  by_cases c : i < 7
  · rcases (show i = 0 ∨ i = 1 ∨ i = 2 ∨ i = 3 ∨ i = 4 ∨ i = 5 ∨ i = 6 by omega) with rfl | rfl | rfl | rfl | rfl | rfl | rfl
    · exact ⟨_, h0⟩
    · exact ⟨_, h1⟩
    · exact ⟨_, a2⟩
    · exact ⟨_, a3⟩
    · exact ⟨_, h4⟩
    · exact ⟨_, h5⟩
    · exact ⟨_, h6⟩
  · have := (h7 ((i - 7) / 32) (by omega)).all ((i - 7) % 32) (Nat.mod_lt _ (by decide))
    have e : Lst ad ((i - 7) / 32) ((i - 7) % 32) = ad i := by
      show ad (7 + 32 * ((i - 7) / 32) + (i - 7) % 32) = ad i
      rw [show 7 + 32 * ((i - 7) / 32) + (i - 7) % 32 = i by omega]
    rw [e] at this
    exact this
theorem CL.offc {G : gG} {M M' : HM} {ad : Nat → Nat} {z : Sg} (h : CL G M M' ad z) : OffC M M' ad 359 := h.choose_spec.2
theorem CL.self {G : gG} {M M' : HM} {ad : Nat → Nat} {z : Sg} (h : CL G M M' ad z) : CL G M' M' ad z := by
  obtain ⟨tr, h1, -⟩ := h
  exact ⟨tr, h1, OffC.rf _ _ _⟩
theorem RZ.self {G : gG} {M M' : HM} {b : Nat → Nat} {z : Sg} (h : RZ G M M' b z) : RZ G M' M' b z := by
  obtain ⟨sv, sl, iF, iN, at_, it, h1, h2⟩ := h
  exact ⟨sv, sl, iF, iN, at_, it, h1.1.rf, h2⟩
theorem RZ.offc {G : gG} {M M' : HM} {b : Nat → Nat} {z : Sg} (h : RZ G M M' b z) : OffC M M' b 8 := by
  obtain ⟨sv, sl, iF, iN, at_, it, h1, -⟩ := h
  exact h1.2
theorem RZ.off {G : gG} {M M' : HM} {ad b : Nat → Nat} {z : Sg} (h : RZ G M M b z) (ho : OffC M M' ad 359) (hap : Apt ad b) : RZ G M' M' b z := by
  obtain ⟨sv, sl, iF, iN, at_, it, h1, h2⟩ := h
  exact ⟨sv, sl, iF, iN, at_, it, (h1.1.kept (fun i hi => ho _ (fun j hj => (hap j i hj hi).symm))).rf, h2⟩
theorem CL.off {G : gG} {M M' : HM} {ad b : Nat → Nat} {z : Sg} (h : CL G M M ad z) (ho : OffC M M' b 8) (hap : Apt ad b) : CL G M' M' ad z := by
  obtain ⟨tr, h1, -⟩ := h
  exact ⟨tr, h1.kept (fun i hi => ho _ (fun j hj => hap i j hi hj)), OffC.rf _ _ _⟩
section ZIS
variable {B : Nat} {F : Nat → Nat → Int32} {nx ct : Nat} {fl T : Nat → Int32} {len : Nat}
theorem ZI.psh {C : Nat} {f : Nat → Int32} (h : ZI B (F, nx, ct, fl, T, len)) (hnx : nx < 8) (hBC : B ≤ C) (hf : Inv C f) : ZI C (psh (F, nx, ct, fl, T, len) f) := by
  refine ⟨fun j hj => ?_, h.2⟩
  show Inv C (uF (uF F (nx + 1) (F 0)) 0 f j)
  by_cases c : j = 0
  · rw [c, uF_at]
    exact hf
  · rw [uF_ne _ _ c]
    by_cases d : j = nx + 1
    · rw [d, uF_at]
      exact (h.1 0 (by decide)).mono hBC
    · rw [uF_ne _ _ d]
      exact (h.1 j hj).mono hBC
theorem zi_configure (h : ZI B (F, nx, ct, fl, T, len)) (hnx : nx < 8) (x y : Int32) : ZI (B + 120) (s_configure x y (F, nx, ct, fl, T, len)).2 := by
  unfold s_configure
  split
  · rename_i q
    obtain ⟨p, p1, p2, rfl, -⟩ := lit_in 2 4 (by decide) (by decide) q.1
    obtain ⟨e, e1, e2, rfl, -⟩ := lit_in 1 8 (by decide) (by decide) q.2
    exact h.psh hnx (by omega) (Inv.ini p1 p2 e1 e2 _)
  · exact h.mono (by omega)
theorem zi_setDelay (h : ZI B (F, nx, ct, fl, T, len)) (hnx : nx < 8) (x y : Int32) : ZI (B + 120) (s_setP 9 0 50 x y (F, nx, ct, fl, T, len)).2 := by
  unfold s_setP
  split
  · rename_i q
    obtain ⟨k, k1, k2, k3, k4⟩ := path_ix (h.1 0 (by decide)) q.1
    rw [k4]
    exact h.psh hnx (by omega) (((h.1 0 (by decide)).mono (by omega)).ch (fun w hw => pk_un (by omega)))
  · exact h.mono (by omega)
theorem zi_setRate (h : ZI B (F, nx, ct, fl, T, len)) (hnx : nx < 8) (x y : Int32) : ZI (B + 120) (s_setP 13 1 100 x y (F, nx, ct, fl, T, len)).2 := by
  unfold s_setP
  split
  · rename_i q
    obtain ⟨k, k1, k2, k3, k4⟩ := path_ix (h.1 0 (by decide)) q.1
    obtain ⟨e, e1, e2, rfl, -⟩ := lit_in 1 100 (by decide) (by decide) q.2
    rw [k4]
    exact h.psh hnx (by omega) (((h.1 0 (by decide)).mono (by omega)).rat k1 e1 e2)
  · exact h.mono (by omega)
theorem zi_setRemoteLevel (h : ZI B (F, nx, ct, fl, T, len)) (hnx : nx < 8) (x y : Int32) : ZI (B + 120) (s_setP 17 0 7 x y (F, nx, ct, fl, T, len)).2 := by
  unfold s_setP
  split
  · rename_i q
    obtain ⟨k, k1, k2, k3, k4⟩ := path_ix (h.1 0 (by decide)) q.1
    rw [k4]
    exact h.psh hnx (by omega) (((h.1 0 (by decide)).mono (by omega)).ch (fun w hw => pk_un (by omega)))
  · exact h.mono (by omega)
theorem zi_setMode (h : ZI B (F, nx, ct, fl, T, len)) (hnx : nx < 8) (x : Int32) : ZI (B + 120) (s_setS 5 0 3 x (F, nx, ct, fl, T, len)).2 := by
  unfold s_setS
  split
  · exact h.psh hnx (by omega) (((h.1 0 (by decide)).mono (by omega)).ch (fun w hw => pk_un (by omega)))
  · exact h.mono (by omega)
theorem zi_setDetection (h : ZI B (F, nx, ct, fl, T, len)) (hnx : nx < 8) (x : Int32) : ZI (B + 120) (s_setS 4 0 1 x (F, nx, ct, fl, T, len)).2 := by
  unfold s_setS
  split
  · exact h.psh hnx (by omega) (((h.1 0 (by decide)).mono (by omega)).ch (fun w hw => pk_un (by omega)))
  · exact h.mono (by omega)
theorem zi_setGap (h : ZI B (F, nx, ct, fl, T, len)) (hnx : nx < 8) (x : Int32) : ZI (B + 120) (s_setS 3 1 200 x (F, nx, ct, fl, T, len)).2 := by
  unfold s_setS
  split
  · rename_i q
    obtain ⟨e, e1, e2, rfl, -⟩ := lit_in 1 200 (by decide) (by decide) q
    exact h.psh hnx (by omega) (((h.1 0 (by decide)).mono (by omega)).gap e1 e2)
  · exact h.mono (by omega)
theorem zi_setShift (h : ZI B (F, nx, ct, fl, T, len)) (hnx : nx < 8) (x : Int32) : ZI (B + 120) (s_setS 6 1 4 x (F, nx, ct, fl, T, len)).2 := by
  unfold s_setS
  split
  · exact h.psh hnx (by omega) (((h.1 0 (by decide)).mono (by omega)).ch (fun w hw => pk_un (by omega)))
  · exact h.mono (by omega)
theorem zi_setGenerator (h : ZI B (F, nx, ct, fl, T, len)) (hnx : nx < 8) (x : Int32) : ZI (B + 120) (s_setGenerator x (F, nx, ct, fl, T, len)).2 := by
  unfold s_setGenerator
  split
  · rename_i q
    obtain ⟨j, j1, rfl⟩ := nI_of (Int32.not_lt.mpr q)
    exact h.psh hnx (by omega) (((h.1 0 (by decide)).mono (by omega)).gen j1)
  · exact h.mono (by omega)
theorem zi_advance (h : ZI B (F, nx, ct, fl, T, len)) (hnx : nx < 8) (x : Int32) : ZI (B + 120) (s_advance x (F, nx, ct, fl, T, len)).2 := by
  unfold s_advance
  split
  · rename_i q
    split
    · rename_i q2
      obtain ⟨t, t1, t2⟩ := (h.1 0 (by decide)).1
      obtain ⟨k, k1, rfl, k2, k3⟩ := adv_ix t1 t2 q q2
      rw [k2]
      exact h.psh hnx (by omega) (((h.1 0 (by decide)).mono (by omega)).ps t2 k3 k (Nat.le_refl _)).1
    · exact h.mono (by omega)
  · exact h.mono (by omega)
theorem zi_send (h : ZI B (F, nx, ct, fl, T, len)) (hnx : nx < 8) (hB : B + 120 < 2 ^ 30) (x y : Int32) : ZI (B + 120) (s_send x y (F, nx, ct, fl, T, len)).2 := by
  unfold s_send
  split
  · rename_i q
    obtain ⟨k, -, k1, rfl, k2⟩ := lit_in 0 15 (by decide) (by decide) q.1
    obtain ⟨s, s1, s2, rfl, -⟩ := lit_in 1 1000 (by decide) (by decide) q.2
    rw [k2]
    exact h.psh hnx (by omega) (((h.1 0 (by decide)).sd (by omega) (by omega) s1 s2).mono (by omega))
  · exact h.mono (by omega)
theorem zi_append (h : ZI B (F, nx, ct, fl, T, len)) (x : Int32) : ZI (B + 120) (s_append x (F, nx, ct, fl, T, len)).2 := by
  unfold s_append
  split
  · rename_i q
    split
    · exact h.mono (by omega)
    · obtain ⟨u, -, u1, rfl, -⟩ := lit_in 0 255 (by decide) (by decide) q
      refine ⟨(h.mono (by omega)).1, fun i hi => ?_⟩
      show ∃ w, w < 256 ∧ upd T len (nI u) i = nI w
      have hi : i < len + 1 := hi
      by_cases c : i = len
      · rw [c, pk_us]
        exact ⟨u, by omega, rfl⟩
      · rw [pk_un c]
        exact h.2 i (by show i < len; omega)
  · exact h.mono (by omega)
theorem zi_clearText (h : ZI B (F, nx, ct, fl, T, len)) : ZI (B + 120) (s_clearText (F, nx, ct, fl, T, len)).2 := ⟨(h.mono (by omega)).1, fun i hi => absurd hi (Nat.not_lt_zero i)⟩
theorem zi_uF {z : Sg} {C j k : Nat} (h : ZI B z) (hBC : B ≤ C) (hk : k < 11) : ∀ i, i < 11 → Inv C (uF z.1 j (z.1 k) i) := by
  intro i hi
  by_cases c : i = j
  · rw [c, uF_at]
    exact (h.1 k hk).mono hBC
  · rw [uF_ne _ _ c]
    exact (h.1 i hi).mono hBC
theorem zi_undo (h : ZI B (F, nx, ct, fl, T, len)) : ZI (B + 120) (s_undo (F, nx, ct, fl, T, len)).2 := by
  unfold s_undo
  split
  · exact h.mono (by omega)
  · exact ⟨zi_uF (z := (F, nx, ct, fl, T, len)) h (by omega) (by show (nx + 7) % 8 + 1 < 11; omega), h.2⟩
theorem zi_save (h : ZI B (F, nx, ct, fl, T, len)) (x : Int32) : ZI (B + 120) (s_save x (F, nx, ct, fl, T, len)).2 := by
  unfold s_save
  split
  · exact ⟨zi_uF (z := (F, nx, ct, fl, T, len)) h (by omega) (by decide), h.2⟩
  · exact h.mono (by omega)
theorem zi_restore (h : ZI B (F, nx, ct, fl, T, len)) (x : Int32) : ZI (B + 120) (s_restore x (F, nx, ct, fl, T, len)).2 := by
  unfold s_restore
  split
  · rename_i q
    split
    · exact h.mono (by omega)
    · obtain ⟨u, -, u1, -, u2⟩ := lit_in 0 1 (by decide) (by decide) q
      exact ⟨zi_uF (z := (F, nx, ct, fl, T, len)) h (by omega) (by rw [u2]; omega), h.2⟩
  · exact h.mono (by omega)
theorem zi_runTrace (h : ZI B (F, nx, ct, fl, T, len)) (hnx : nx < 8) (hln : len ≤ 120) (hB : B + 120 < 2 ^ 30) : ZI (B + 120) (s_runTrace (F, nx, ct, fl, T, len)).2 := by
  unfold s_runTrace
  split
  · have hk := ps_sk _ (fnd_all (T := T) (n := len) 120 0 (fun j hj => absurd hj (by omega)))
    have h1 := h.psh hnx (C := B + 120) (by omega) (((h.1 0 (by decide)).xS (T := T) (n := len) (fnd T len 120 0).1 (by omega)).mono (by omega))
    exact ⟨h1.1, fun i hi => absurd hi (Nat.not_lt_zero i)⟩
  · exact h.mono (by omega)
end ZIS
theorem ZI.ini : ZI 0 (fun _ => iniF 4 8, 0, 0, fun _ => 0, fun _ => 0, 0) := ⟨fun j _ => Inv.ini (p := 4) (e := 8) (by decide) (by decide) (by decide) (by decide) 0, fun i hi => absurd hi (Nat.not_lt_zero i)⟩
