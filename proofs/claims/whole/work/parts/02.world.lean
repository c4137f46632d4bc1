/-! The world as a map from addresses to cells (M), over the kit's lists of cells. Every contract is said of any map M that holds what the method needs: so no frame is cut and no part is joined. -/
abbrev gG : Type := va_G × (Nat → ClassId)
abbrev HM : Type := Nat → Option va_E
def tyL (c : Nat → ClassId) : List (ClassId × FieldType) := [(c 0, .int), (c 1, .boolean), (c 2, .object RX0), (c 3, .object RX1), (c 4, .object RX2), (c 5, .object RX4)]
def mu (M : HM) (a : Nat) (e : va_E) : HM := fun q => if q = a then some e else M q
theorem mu_at (M : HM) (a : Nat) (e : va_E) : mu M a e a = some e := by simp [mu]
theorem mu_ne (M : HM) (e : va_E) {a q : Nat} (h : q ≠ a) : mu M a e q = M q := by simp [mu, h]
theorem mu_mu (M : HM) (a : Nat) (e e' : va_E) : mu (mu M a e) a e' = mu M a e' := by
  funext q
  by_cases h : q = a <;> simp [mu, h]
theorem mu_self {M : HM} {a : Nat} {e : va_E} (h : M a = some e) : mu M a e = M := by
  funext q
  by_cases hq : q = a
  · subst hq
    simp [mu, h]
  · simp [mu, hq]
def Lw (M : HM) (ws : va_W) : Prop := ∀ (a : Nat) (e : va_E), M a = some e ↔ ∃ k : Nat, ws[k]? = some (a, e)
def Wh (G : gG) (A : Nat → Prop) (M : HM) (H : Heap) : Prop := ∃ ws : va_W, va_P G.1 vwCl ws H ∧ va_D A ws ∧ Lw M ws
def Wd (G : gG) (A : Nat → Prop) (H0 : Heap) (M : HM) (H : Heap) (locs : List Loc) : Prop := Wh G A M H ∧ va_S A H0 H locs ∧ ∀ q, H0.size ≤ q → A q
theorem Lw.set {M : HM} {ws : va_W} {A : Nat → Prop} {a k : Nat} {e e' : va_E} (h : Lw M ws) (hD : va_D A ws) (hk : ws[k]? = some (a, e)) : Lw (mu M a e') (ws.set k (a, e')) := by
  have hl := (List.getElem?_eq_some_iff.mp hk).1
  intro b x
  by_cases hb : b = a
  · subst hb
    rw [mu_at]
    constructor
    · intro q
      cases q
      exact ⟨k, List.getElem?_set_self hl⟩
    · rintro ⟨j, hj⟩
      by_cases hjk : j = k
      · subst hjk
        rw [List.getElem?_set_self hl] at hj
        cases hj
        rfl
      · rw [List.getElem?_set_ne (Ne.symm hjk)] at hj
        exact absurd (hD.1 j k _ _ hj hk rfl) hjk
  · rw [mu_ne _ _ hb, h b x]
    constructor
    · rintro ⟨j, hj⟩
      refine ⟨j, ?_⟩
      have hjk : j ≠ k := by
        intro q
        subst q
        rw [hk] at hj
        cases hj
        exact hb rfl
      rw [List.getElem?_set_ne (Ne.symm hjk)]
      exact hj
    · rintro ⟨j, hj⟩
      refine ⟨j, ?_⟩
      have hjk : j ≠ k := by
        intro q
        subst q
        rw [List.getElem?_set_self hl] at hj
        cases hj
        exact hb rfl
      rw [List.getElem?_set_ne (Ne.symm hjk)] at hj
      exact hj
theorem Lw.push {M : HM} {ws : va_W} {A : Nat → Prop} {a : Nat} {e : va_E} (h : Lw M ws) (hD : va_D A (ws ++ [(a, e)])) : M a = none ∧ Lw (mu M a e) (ws ++ [(a, e)]) := by
  have hlast : (ws ++ [(a, e)])[ws.length]? = some (a, e) := by simp
  have hno : ∀ (j : Nat) (x : va_E), ws[j]? = some (a, x) → False := by
    intro j x hj
    have hl := (List.getElem?_eq_some_iff.mp hj).1
    have h1 : (ws ++ [(a, e)])[j]? = some (a, x) := by rw [List.getElem?_append_left hl]; exact hj
    have := hD.1 j ws.length _ _ h1 hlast rfl
    omega
  have hnone : M a = none := by
    cases hm : M a with
    | none => rfl
    | some x =>
      obtain ⟨j, hj⟩ := (h a x).mp hm
      exact (hno j x hj).elim
  refine ⟨hnone, fun b x => ?_⟩
  by_cases hb : b = a
  · subst hb
    rw [mu_at]
    constructor
    · intro q
      cases q
      exact ⟨ws.length, hlast⟩
    · rintro ⟨j, hj⟩
      have := hD.1 j ws.length _ _ hj hlast rfl
      subst this
      rw [hlast] at hj
      cases hj
      rfl
  · rw [mu_ne _ _ hb, h b x]
    constructor
    · rintro ⟨j, hj⟩
      have hl := (List.getElem?_eq_some_iff.mp hj).1
      exact ⟨j, by rw [List.getElem?_append_left hl]; exact hj⟩
    · rintro ⟨j, hj⟩
      by_cases hl : j < ws.length
      · rw [List.getElem?_append_left hl] at hj
        exact ⟨j, hj⟩
      · rw [List.getElem?_append_right (by omega)] at hj
        have hz : j - ws.length < 1 := (List.getElem?_eq_some_iff.mp hj).1
        rw [show j - ws.length = 0 by omega] at hj
        cases hj
        exact absurd rfl hb
/-- an array's contents count up to its length alone -/
theorem arrV_ext {cA : ClassId} {n : Nat} {f g : Nat → Value} (h : ∀ i, i < n → f i = g i) : arrV cA n f = arrV cA n g := by
  unfold arrV
  congr 1
  first
    | (apply Array.ext_getElem?; intro i; by_cases hi : i < n <;> simp [hi, h i]; done)
    | (congr 1; apply List.map_congr_left; intro i hi; exact h i (List.mem_range.mp hi))
    | (simp; intro i hi; exact h i hi)
/-- what holds of the tables at every state: the classes, the array classes, the words -/
def Kx (G : gG) (U : State) : Prop := va_K G.1 vwCl (tyL G.2) U ∧ (∀ w ∈ tbk, w.before #[] U = true) ∧ (va_AO RX0 U ∧ va_AO RX1 U ∧ va_AO RX2 U ∧ va_AO RX4 U) ∧ (Cond.arrayClass .int).before #[] U = true ∧ (Cond.arrayClass .boolean).before #[] U = true
theorem Kx.warm {G : gG} {s U : State} (hW : s.WarmedH U.vm) (h : Kx G s) : Kx G U := by
  obtain ⟨h1, h2, ⟨h3, h4, h5, h6⟩, h7, h8⟩ := h
  refine ⟨va_K.moved hW.alike h1, fun w hw => ?_, ⟨h3.moved hW.alike, h4.moved hW.alike, h5.moved hW.alike, h6.moved hW.alike⟩, word_at hW (Or.inr ⟨_, rfl⟩) h7, word_at hW (Or.inr ⟨_, rfl⟩) h8⟩
  obtain ⟨-, a1, a2⟩ := tb_in hw
  have h9 := Cond.onTables_warmH (T := U) (args' := #[]) hW a1 a2 (h2 w hw)
  rwa [State.setVm_self] at h9
theorem Kx.ts {G : gG} {s : State} (h : Kx G s) {args : Array Value} : ∀ w ∈ tbk, w.before args s = true := fun w hw => va_tabs (tb_in hw).2.1 rfl (h.2.1 w hw)
theorem Kx.same {G : gG} {s U : State} (hv : s.vm = U.vm) (h : Kx G s) : Kx G U := by
  obtain ⟨h1, h2, ⟨h3, h4, h5, h6⟩, h7, h8⟩ := h
  have hA : s.vm.Alike U.vm := hv ▸ Vm.Alike.refl s.vm
  have hc : ∀ ty : FieldType, (Cond.arrayClass ty).before #[] s = true → (Cond.arrayClass ty).before #[] U = true := fun ty h => by
    simp only [Cond.before, Cond.holds, Cond.value] at h ⊢
    rw [← hv]
    exact h
  exact ⟨va_K.moved hA h1, fun w hw => va_tabs (tb_in hw).2.1 hv (h2 w hw), ⟨h3.moved hA, h4.moved hA, h5.moved hA, h6.moved hA⟩, hc _ h7, hc _ h8⟩
/-- what stays through a method's body -/
def cx (p : Program) (s : State) (m : MethodId) (c : Code) (cc : ByteArray) (nL : Nat) (own : String) (G : gG) : Prop := p.tables.exec = Jvm.exec ∧ c.code = cc ∧ c.maxLocals = nL ∧ s.vm.findClass own = some m.cls ∧ Kx G s
def rd (d k n : Nat) : Room := { frames := d, cells := k, slots := n, locals := 27 * d }
theorem gV {own : String} {index maxL n : Nat} {y : MethodName} {cc : ByteArray} {ret : Option FieldType} (hl : Cond.methodLink own index y ∈ tbk) (mw : MWv y cc maxL ret n) : GoodIn tbk (wsV own index y.cls y [Cond.code y cc maxL ret]) := by
  obtain ⟨h1, h2, h3, h4, -⟩ := mw
  intro w hw
  simp only [wsV, List.cons_append, List.nil_append, List.mem_cons, List.not_mem_nil, or_false] at hw
  rcases hw with rfl | rfl | rfl | rfl | rfl
  · exact ⟨hl, Or.inl rfl⟩
  · exact ⟨h1, Or.inl rfl⟩
  · exact ⟨h2, Or.inl rfl⟩
  · exact ⟨h3, Or.inl rfl⟩
  · exact ⟨h4, Or.inl rfl⟩
theorem gC {maxL : Nat} {y : MethodName} {cc : ByteArray} {ret : Option FieldType} (h : Cond.code y cc maxL ret ∈ tbk) : GoodIn tbk [Cond.code y cc maxL ret] := by
  intro w hw
  rw [List.mem_singleton] at hw
  subst hw
  exact ⟨h, Or.inl rfl⟩
section RW
variable {p : Program} {l : Launch} {e : Env} {R : Room} {s : State} {m : MethodId} {args : Array Value} {below : List Frame} {meth : Method} {c : Code} {H : Heap} {locs : List Loc} {cells slots : Nat} {Q : State → Prop}
variable {cc : ByteArray} {pc nL : Nat} {ls : Array Slot} {rest : List Value} {G : gG} {A : Nat → Prop} {a : Nat} {M : HM} {H0 : Heap} {own : String}
theorem r_get (cX : cx p s m c cc nL own G) {C : String} {T : u_T} {N ci index : Nat} (hin : ∀ w ∈ u_ws C T N, w ∈ tbk) (hw : Wd G A H0 M H locs) {fs : List Value} (hM : M a = some (.inr (ci, fs))) (hc : vwCl[ci]? = some (C, T, N)) (k : Nat) (hk : k < N) (hlink : Cond.fieldLink own index (T k).1 (T k).2.1 (T k).2.2.1 ∈ tbk) {v : Value} (hv : fs[k]? = some v) (hdg : decode cc pc = .ok (.getfield index, 3))
    (kk : W p l e R s m args below meth c H locs cells slots Q (F0 m (pc + 3) ls (v :: rest))) : W p l e R s m args below meth c H locs cells slots Q (F0 m pc ls (.ref a :: rest)) := by
  obtain ⟨⟨ws, hP, hD, hL⟩, hS, hA⟩ := hw
  obtain ⟨hexec, hb, -, hown, hKx⟩ := cX
  have hK := hKx.1
  have hts : ∀ w ∈ tbk, w.before args s = true := hKx.ts
  obtain ⟨q0, hq⟩ := (hL a _).mp hM
  exact va_get hexec hb hts hin hown hK hP q0 hq hc k hk (hts _ hlink) (fun _ h => h) hv hdg kk
theorem r_put (cX : cx p s m c cc nL own G) {C : String} {T : u_T} {N ci index : Nat} (hin : ∀ w ∈ u_ws C T N, w ∈ tbk) (ty0 : Nat → FieldType) (hty : ∀ k, k < N → parseFieldDescriptor (T k).2.2.1 = some (ty0 k)) (hnm : ∀ a, a < N → ∀ b, b < N → a ≠ b → (T a).2.1 ≠ (T b).2.1) (hw : Wd G A H0 M H locs) {fs : List Value} (hM : M a = some (.inr (ci, fs))) (hc : vwCl[ci]? = some (C, T, N)) (k : Nat) (hk : k < N) (hlink : Cond.fieldLink own index (T k).1 (T k).2.1 (T k).2.2.1 ∈ tbk) (hfin : (T k).2.2.2 = false) {v : Value} (hn : narrow (ty0 k) v = v) (hfit : fits (ty0 k) v = true) {fs' : List Value} (hfs : fs.set k v = fs') (hl : k < fs.length) (hdg : decode cc pc = .ok (.putfield index, 3))
    (kk : ∀ (H1 : Heap) (locs1 : List Loc), Wd G A H0 (mu M a (.inr (ci, fs'))) H1 locs1 → W p l e R s m args below meth c H1 locs1 cells slots Q (F0 m (pc + 3) ls rest)) : W p l e R s m args below meth c H locs cells slots Q (F0 m pc ls (v :: .ref a :: rest)) := by
  obtain ⟨⟨ws, hP, hD, hL⟩, hS, hA⟩ := hw
  obtain ⟨hexec, hb, -, hown, hKx⟩ := cX
  have hK := hKx.1
  have hts : ∀ w ∈ tbk, w.before args s = true := hKx.ts
  obtain ⟨q0, hq⟩ := (hL a _).mp hM
  subst hfs
  exact va_put hexec hb hts hin ty0 hty hnm hown hK hP hD hS q0 hq hc k hk (hts _ hlink) (fun _ h => h) hfin (hty k hk) hn hfit hl hdg (fun H1 locs1 hP1 hD1 hS1 => kk H1 locs1 ⟨⟨_, hP1, hD1, hL.set hD hq⟩, hS1, hA⟩)
theorem r_putF (cX : cx p s m c cc nL own G) {C : String} {T : u_T} {N ci index : Nat} (hin : ∀ w ∈ u_ws C T N, w ∈ tbk) (ty0 : Nat → FieldType) (hty : ∀ k, k < N → parseFieldDescriptor (T k).2.2.1 = some (ty0 k)) (hnm : ∀ a, a < N → ∀ b, b < N → a ≠ b → (T a).2.1 ≠ (T b).2.1) (hw : Wd G A H0 M H locs) {fs : List Value} (hM : M a = some (.inr (ci, fs))) (hc : vwCl[ci]? = some (C, T, N)) (k : Nat) (hk : k < N) (hlink : Cond.fieldLink own index (T k).1 (T k).2.1 (T k).2.2.1 ∈ tbk) (hfin : (T k).2.2.2 = true) (hin2 : meth.name = "<init>") (hdecl : (T k).1 = own) {v : Value} (hn : narrow (ty0 k) v = v) (hfit : fits (ty0 k) v = true) {fs' : List Value} (hfs : fs.set k v = fs') (hl : k < fs.length) (hdg : decode cc pc = .ok (.putfield index, 3))
    (kk : ∀ (H1 : Heap) (locs1 : List Loc), Wd G A H0 (mu M a (.inr (ci, fs'))) H1 locs1 → W p l e R s m args below meth c H1 locs1 cells slots Q (F0 m (pc + 3) ls rest)) : W p l e R s m args below meth c H locs cells slots Q (F0 m pc ls (v :: .ref a :: rest)) := by
  obtain ⟨⟨ws, hP, hD, hL⟩, hS, hA⟩ := hw
  obtain ⟨hexec, hb, -, hown, hKx⟩ := cX
  have hK := hKx.1
  have hts : ∀ w ∈ tbk, w.before args s = true := hKx.ts
  obtain ⟨q0, hq⟩ := (hL a _).mp hM
  subst hfs
  exact va_putF hexec hb hts hin ty0 hty hnm hown hK hP hD hS q0 hq hc k hk (hts _ hlink) (fun _ h => h) hfin hin2 hdecl (hty k hk) hn hfit hl hdg (fun H1 locs1 hP1 hD1 hS1 => kk H1 locs1 ⟨⟨_, hP1, hD1, hL.set hD hq⟩, hS1, hA⟩)
/-- an int array, by a place that is a natural number -/
theorem r_iald (cX : cx p s m c cc nL own G) (hw : Wd G A H0 M H locs) {n : Nat} {f : Nat → Int32} (hM : M a = some (.inl (G.2 0, n, .inl f))) {i : Int32} (k : Nat) (hi : i = nI k) (hk : k < n) (hn : n < 2 ^ 31) {v : Int32} (hv : f k = v) (hdg : decode cc pc = .ok (.iaload, 1))
    (kk : W p l e R s m args below meth c H locs cells slots Q (F0 m (pc + 1) ls (.int v :: rest))) : W p l e R s m args below meth c H locs cells slots Q (F0 m pc ls (.int i :: .ref a :: rest)) := by
  obtain ⟨⟨ws, hP, hD, hL⟩, hS, hA⟩ := hw
  obtain ⟨hexec, hb, -, hown, hKx⟩ := cX
  have hK := hKx.1
  have hts : ∀ w ∈ tbk, w.before args s = true := hKx.ts
  obtain ⟨q0, hq⟩ := (hL a _).mp hM
  subst hi
  subst hv
  refine va_iald hexec hb hK hP q0 0 hq rfl (vp_in_nI hk hn) hdg ?_
  rw [nI_clamp (Nat.lt_trans hk hn)]
  exact kk
theorem r_zald (cX : cx p s m c cc nL own G) (hw : Wd G A H0 M H locs) {n : Nat} {f : Nat → Int32} (hM : M a = some (.inl (G.2 1, n, .inl f))) {i : Int32} (k : Nat) (hi : i = nI k) (hk : k < n) (hn : n < 2 ^ 31) {v : Int32} (hv : f k = v) (hdg : decode cc pc = .ok (.baload, 1))
    (kk : W p l e R s m args below meth c H locs cells slots Q (F0 m (pc + 1) ls (.int v :: rest))) : W p l e R s m args below meth c H locs cells slots Q (F0 m pc ls (.int i :: .ref a :: rest)) := by
  obtain ⟨⟨ws, hP, hD, hL⟩, hS, hA⟩ := hw
  obtain ⟨hexec, hb, -, hown, hKx⟩ := cX
  have hK := hKx.1
  have hts : ∀ w ∈ tbk, w.before args s = true := hKx.ts
  obtain ⟨q0, hq⟩ := (hL a _).mp hM
  subst hi
  subst hv
  refine va_zald hexec hb hK hP q0 1 hq rfl (vp_in_nI hk hn) hdg ?_
  rw [nI_clamp (Nat.lt_trans hk hn)]
  exact kk
theorem r_aald (cX : cx p s m c cc nL own G) (hw : Wd G A H0 M H locs) (t0 : Nat) {C : String} (ht : (tyL G.2)[t0]? = some (G.2 t0, .object C)) {n : Nat} {f : Nat → Option Nat} (hM : M a = some (.inl (G.2 t0, n, .inr (.inr (.inr (.inr f)))))) {i : Int32} (k : Nat) (hi : i = nI k) (hk : k < n) (hn : n < 2 ^ 31) {v : Nat} (hv : f k = some v) (hdg : decode cc pc = .ok (.aaload, 1))
    (kk : W p l e R s m args below meth c H locs cells slots Q (F0 m (pc + 1) ls (.ref v :: rest))) : W p l e R s m args below meth c H locs cells slots Q (F0 m pc ls (.int i :: .ref a :: rest)) := by
  obtain ⟨⟨ws, hP, hD, hL⟩, hS, hA⟩ := hw
  obtain ⟨hexec, hb, -, hown, hKx⟩ := cX
  have hK := hKx.1
  have hts : ∀ w ∈ tbk, w.before args s = true := hKx.ts
  obtain ⟨q0, hq⟩ := (hL a _).mp hM
  subst hi
  refine va_aldq hexec hb hK hP q0 t0 hq ht (vp_in_nI hk hn) hdg ?_
  rw [nI_clamp (Nat.lt_trans hk hn), hv]
  exact kk
theorem r_iast (cX : cx p s m c cc nL own G) (hw : Wd G A H0 M H locs) {n : Nat} {f : Nat → Int32} (hM : M a = some (.inl (G.2 0, n, .inl f))) {i x : Int32} (k : Nat) (hi : i = nI k) (hk : k < n) (hn : n < 2 ^ 31) (hdg : decode cc pc = .ok (.iastore, 1))
    (kk : ∀ (H1 : Heap) (locs1 : List Loc), Wd G A H0 (mu M a (.inl (G.2 0, n, .inl (upd f k x)))) H1 locs1 → W p l e R s m args below meth c H1 locs1 cells slots Q (F0 m (pc + 1) ls rest)) : W p l e R s m args below meth c H locs cells slots Q (F0 m pc ls (.int x :: .int i :: .ref a :: rest)) := by
  obtain ⟨⟨ws, hP, hD, hL⟩, hS, hA⟩ := hw
  obtain ⟨hexec, hb, -, hown, hKx⟩ := cX
  have hK := hKx.1
  have hts : ∀ w ∈ tbk, w.before args s = true := hKx.ts
  obtain ⟨q0, hq⟩ := (hL a _).mp hM
  subst hi
  refine va_iast hexec hb hK hP hD hS q0 0 hq rfl (vp_in_nI hk hn) hdg (fun H1 locs1 hP1 hD1 hS1 => ?_)
  rw [nI_clamp (Nat.lt_trans hk hn)] at hP1 hD1
  exact kk H1 locs1 ⟨⟨_, hP1, hD1, hL.set hD hq⟩, hS1, hA⟩
theorem r_zast (cX : cx p s m c cc nL own G) (hw : Wd G A H0 M H locs) {n : Nat} {f : Nat → Int32} (hM : M a = some (.inl (G.2 1, n, .inl f))) {i x : Int32} (k : Nat) (hi : i = nI k) (hk : k < n) (hn : n < 2 ^ 31) (hx : vp_nar .boolean x = x) (hdg : decode cc pc = .ok (.bastore, 1))
    (kk : ∀ (H1 : Heap) (locs1 : List Loc), Wd G A H0 (mu M a (.inl (G.2 1, n, .inl (upd f k x)))) H1 locs1 → W p l e R s m args below meth c H1 locs1 cells slots Q (F0 m (pc + 1) ls rest)) : W p l e R s m args below meth c H locs cells slots Q (F0 m pc ls (.int x :: .int i :: .ref a :: rest)) := by
  obtain ⟨⟨ws, hP, hD, hL⟩, hS, hA⟩ := hw
  obtain ⟨hexec, hb, -, hown, hKx⟩ := cX
  have hK := hKx.1
  have hts : ∀ w ∈ tbk, w.before args s = true := hKx.ts
  obtain ⟨q0, hq⟩ := (hL a _).mp hM
  subst hi
  refine va_zast hexec hb hK hP hD hS q0 1 hq rfl (vp_in_nI hk hn) hdg (fun H1 locs1 hP1 hD1 hS1 => ?_)
  rw [nI_clamp (Nat.lt_trans hk hn), hx] at hP1 hD1
  exact kk H1 locs1 ⟨⟨_, hP1, hD1, hL.set hD hq⟩, hS1, hA⟩
theorem r_aast (cX : cx p s m c cc nL own G) (hw : Wd G A H0 M H locs) (t0 ci : Nat) {r : vw_C} (ht : (tyL G.2)[t0]? = some (G.2 t0, .object r.1)) {n v : Nat} {vs : List Value} {f : Nat → Option Nat} (hM : M a = some (.inl (G.2 t0, n, .inr (.inr (.inr (.inr f)))))) (hv : M v = some (.inr (ci, vs))) (hc : vwCl[ci]? = some r) {i : Int32} (k : Nat) (hi : i = nI k) (hk : k < n) (hn : n < 2 ^ 31) (hdg : decode cc pc = .ok (.aastore, 1))
    (kk : ∀ (H1 : Heap) (locs1 : List Loc), Wd G A H0 (mu M a (.inl (G.2 t0, n, .inr (.inr (.inr (.inr (va_up f k (some v)))))))) H1 locs1 → W p l e R s m args below meth c H1 locs1 cells slots Q (F0 m (pc + 1) ls rest)) : W p l e R s m args below meth c H locs cells slots Q (F0 m pc ls (.ref v :: .int i :: .ref a :: rest)) := by
  obtain ⟨⟨ws, hP, hD, hL⟩, hS, hA⟩ := hw
  obtain ⟨hexec, hb, -, hown, hKx⟩ := cX
  have hK := hKx.1
  have hts : ∀ w ∈ tbk, w.before args s = true := hKx.ts
  obtain ⟨q0, hq⟩ := (hL a _).mp hM
  obtain ⟨q1, hq1⟩ := (hL v _).mp hv
  subst hi
  refine va_astq hexec hb hK hP hD hS q0 t0 q1 ci hq ht hq1 hc (vp_in_nI hk hn) hdg (fun H1 locs1 hP1 hD1 hS1 => ?_)
  rw [nI_clamp (Nat.lt_trans hk hn)] at hP1 hD1
  exact kk H1 locs1 ⟨⟨_, hP1, hD1, hL.set hD hq⟩, hS1, hA⟩
theorem r_new (cX : cx p s m c cc nL own G) {C : String} {T : u_T} {N ci index : Nat} (hin : ∀ w ∈ u_ws C T N, w ∈ tbk) (ty : Nat → FieldType) (hty : ∀ k, k < N → parseFieldDescriptor (T k).2.2.1 = some (ty k)) (hcl : Cond.classLink own index C ∈ tbk) (hinst : Cond.instantiable C N ∈ tbk) (hini : Cond.initialized C ∈ tbk)
    (hw : Wd G A H0 M H locs) (hc : vwCl[ci]? = some (C, T, N)) {fs : List Value} (hfs : ∀ j, j < N → defaultValue (ty j) = vp_V fs j) (hcells : cells + 1 ≤ R.cells) (hslots : slots + N ≤ R.slots) (hdg : decode cc pc = .ok (.new index, 3))
    (kk : ∀ (q : Nat) (H1 : Heap), M q = none → Wd G A H0 (mu M q (.inr (ci, fs))) H1 locs → W p l e R s m args below meth c H1 locs (cells + 1) (slots + N) Q (F0 m (pc + 3) ls (.ref q :: rest))) : W p l e R s m args below meth c H locs cells slots Q (F0 m pc ls rest) := by
  obtain ⟨⟨ws, hP, hD, hL⟩, hS, hA⟩ := hw
  obtain ⟨hexec, hb, -, hown, hKx⟩ := cX
  have hK := hKx.1
  have hts : ∀ w ∈ tbk, w.before args s = true := hKx.ts
  refine va_new (c0 := c) hexec hb hts hin ty hty hown (hts _ hcl) (hts _ hinst) (hts _ hini) hK hP hD hS hA hc hfs hcells hslots hdg (fun q H1 hP1 hD1 hS1 => ?_)
  obtain ⟨h1, h2⟩ := hL.push hD1
  exact kk q H1 h1 ⟨⟨_, hP1, hD1, h2⟩, hS1, hA⟩
theorem r_newa (cX : cx p s m c cc nL own G) {atype : ArrayType} (harr : (Cond.arrayClass (newarray.typeOf atype)).before #[] s = true) {ty : FieldType} (hty : newarray.typeOf atype = ty) (t0 : Nat) (ht : (tyL G.2)[t0]? = some (G.2 t0, ty)) (hno : ∀ C, ty ≠ .object C) (hd : defaultValue ty = .int 0) (hw : Wd G A H0 M H locs) {n : Int32} (N' : Nat) (hn : ¬ n < 0) (hN : n.toNatClampNeg = N') (hbytes : N' * componentBytes ty ≤ 536870912) (hcells : cells + 1 ≤ R.cells) (hslots : slots + N' ≤ R.slots) (hdg : decode cc pc = .ok (.newarray atype, 2))
    (kk : ∀ (q : Nat) (H1 : Heap), M q = none → Wd G A H0 (mu M q (.inl (G.2 t0, N', .inl (fun _ => 0)))) H1 locs → W p l e R s m args below meth c H1 locs (cells + 1) (slots + N') Q (F0 m (pc + 2) ls (.ref q :: rest))) : W p l e R s m args below meth c H locs cells slots Q (F0 m pc ls (.int n :: rest)) := by
  obtain ⟨⟨ws, hP, hD, hL⟩, hS, hA⟩ := hw
  obtain ⟨hexec, hb, -, hown, hKx⟩ := cX
  have hK := hKx.1
  have hts : ∀ w ∈ tbk, w.before args s = true := hKx.ts
  refine va_newa (a0 := (N', .inl (fun _ => 0))) hexec hb (show (Cond.arrayClass (newarray.typeOf atype)).before args s = true from harr) hty hK hP hD hS hA (fun cA => by rw [hd]; rfl) hn hN hbytes hcells hslots hdg (fun q cA H1 hK1 hP1 hD1 hS1 => ?_)
  have e1 := (hK1.2 (tyL G.2).length (cA, ty) (by simp)).2
  have e2 := (hK.2 t0 _ ht).2
  have hcA : cA = G.2 t0 := by
    cases ty with
    | object C => exact absurd rfl (hno C)
    | _ => exact Option.some.inj ((show s.vm.findClass _ = some cA from e1).symm.trans e2)
  subst hcA
  obtain ⟨h1, h2⟩ := hL.push hD1
  exact kk q H1 h1 ⟨⟨_, hP1, hD1, h2⟩, hS1, hA⟩
theorem r_newq (cX : cx p s m c cc nL own G) {C : String} {index : Nat} (hclink : Cond.classLink own index C ∈ tbk) (hover : va_AO C s) (t0 : Nat) (ht : (tyL G.2)[t0]? = some (G.2 t0, .object C)) (hw : Wd G A H0 M H locs) {n : Int32} (N' : Nat) (hn : ¬ n < 0) (hN : n.toNatClampNeg = N') (hbytes : N' * 4 ≤ 536870912) (hcells : cells + 1 ≤ R.cells) (hslots : slots + N' ≤ R.slots) (hdg : decode cc pc = .ok (.anewarray index, 3))
    (kk : ∀ (q : Nat) (H1 : Heap), M q = none → Wd G A H0 (mu M q (.inl (G.2 t0, N', .inr (.inr (.inr (.inr (fun _ => none))))))) H1 locs → W p l e R s m args below meth c H1 locs (cells + 1) (slots + N') Q (F0 m (pc + 3) ls (.ref q :: rest))) : W p l e R s m args below meth c H locs cells slots Q (F0 m pc ls (.int n :: rest)) := by
  obtain ⟨⟨ws, hP, hD, hL⟩, hS, hA⟩ := hw
  obtain ⟨hexec, hb, -, hown, hKx⟩ := cX
  have hK := hKx.1
  have hts : ∀ w ∈ tbk, w.before args s = true := hKx.ts
  refine va_newq hexec hb hown (hts _ hclink) hover hK hP hD hS hA hn hN hbytes hcells hslots hdg (fun q cA H1 hK1 hP1 hD1 hS1 => ?_)
  have e1 := (hK1.2 (tyL G.2).length (cA, .object C) (by simp)).2
  have e2 := (hK.2 t0 _ ht).2
  have hcA : cA = G.2 t0 := by
    obtain ⟨_, _, _, _, _, x1⟩ := e1
    obtain ⟨_, _, _, _, _, x2⟩ := e2
    exact Option.some.inj (x1.symm.trans x2)
  subst hcA
  obtain ⟨h1, h2⟩ := hL.push hD1
  exact kk q H1 h1 ⟨⟨_, hP1, hD1, h2⟩, hS1, hA⟩
end RW
/-! contracts -/
def dm (M : HM) (sz : Nat) : Nat → Prop := fun q => (∃ e, M q = some e) ∨ sz ≤ q
def Pk (G : gG) (av : List Value) (M : HM) (sz : Nat) : Array Value → State → Prop := va_Pc av (fun U => U.heap.size = sz ∧ Wh G (fun _ => True) M U.heap ∧ Kx G U)
def QI (G : gG) (M : HM) (sz : Nat) (post : Int32 → HM → Prop) : Array Value → State → Outcome → State → Prop := va_Qi post (fun M' t => Wh G (dm M sz) M' t.heap) (dm M sz)
def QV (G : gG) (M : HM) (sz : Nat) (post : HM → Prop) : Array Value → State → Outcome → State → Prop := va_Qv post (fun M' t => Wh G (dm M sz) M' t.heap) (dm M sz)
/-- a method that answers an int (or a boolean): from the map M it comes to a map M' with post -/
def Ci (l : Launch) (y : MethodName) (cc : ByteArray) (maxL : Nat) (ty : FieldType) (rm : Room) (G : gG) (av : List Value) (M : HM) (post : Int32 → HM → Prop) : Prop := ∀ sz, Met l y [Cond.code y cc maxL (some ty)] rm (Pk G av M sz) (QI G M sz post) rm.cells rm.slots (dm M sz)
def Cv (l : Launch) (y : MethodName) (cc : ByteArray) (maxL : Nat) (rm : Room) (G : gG) (av : List Value) (M : HM) (post : HM → Prop) : Prop := ∀ sz, Met l y [Cond.code y cc maxL none] rm (Pk G av M sz) (QV G M sz post) rm.cells rm.slots (dm M sz)
theorem Wh.weaken {G : gG} {A B : Nat → Prop} {M : HM} {H : Heap} (h : Wh G A M H) (hAB : ∀ q, A q → B q) : Wh G B M H := by
  obtain ⟨ws, hP, hD, hL⟩ := h
  exact ⟨ws, hP, hD.weaken (fun _ _ _ h => hAB _ h), hL⟩
theorem Wh.self {G : gG} {A : Nat → Prop} {M : HM} {H : Heap} {sz : Nat} (h : Wh G A M H) : Wh G (dm M sz) M H := by
  obtain ⟨ws, hP, hD, hL⟩ := h
  exact ⟨ws, hP, ⟨hD.1, fun k q hk => Or.inl ⟨q.2, (hL q.1 q.2).mpr ⟨k, hk⟩⟩⟩, hL⟩
theorem Wd.dm {G : gG} {A : Nat → Prop} {M : HM} {H H0 : Heap} {locs : List Loc} (h : Wd G A H0 M H locs) : ∀ q, dm M H.size q → A q := by
  obtain ⟨⟨ws, hP, hD, hL⟩, hS, hA⟩ := h
  intro q hq
  rcases hq with ⟨e, he⟩ | hq
  · obtain ⟨k, hk⟩ := (hL q e).mp he
    exact hD.2 k _ hk
  · exact hA q (Nat.le_trans hS.1 hq)
theorem Wd.lt {G : gG} {A : Nat → Prop} {M : HM} {H H0 : Heap} {locs : List Loc} (h : Wd G A H0 M H locs) {q : Nat} {e : va_E} (hq : M q = some e) : q < H.size := by
  obtain ⟨⟨ws, hP, hD, hL⟩, hS, hA⟩ := h
  obtain ⟨k, hk⟩ := (hL q e).mp hq
  exact (hP k _ hk).lt
/-- the world may be written by another map that says the same of every address -/
theorem Wd.to {G : gG} {A : Nat → Prop} {M M' : HM} {H H0 : Heap} {locs : List Loc} (h : Wd G A H0 M H locs) (e : M = M') : Wd G A H0 M' H locs := e ▸ h
section CT
variable {l : Launch} {y : MethodName} {rm : Room} {G : gG} {av : List Value} {M : HM} {cc : ByteArray} {maxL : Nat}
theorem Ci.of {post : Int32 → HM → Prop} {ty : FieldType} (hy : plainName y.cls = true) (hlen : (lg_sl av).length ≤ maxL)
    (body : ∀ (p : Program) (e : Env) (s : State) (m : MethodId) (args : Array Value) (below : List Frame) (meth : Method) (c : Code) (ls : Array Slot), cx p s m c cc maxL y.cls G → Wd G (dm M s.heap.size) s.heap M s.heap [] → meth.locks = false → meth.sig.returnType = some ty → lv_has ls maxL (lv_args 0 av) →
      W p l e rm s m args below meth c s.heap [] 0 0 (MQ below (QI G M s.heap.size post) args s rm.cells rm.slots (dm M s.heap.size)) (F0 m 0 ls [])) : Ci l y cc maxL ty rm G av M post := by
  intro sz
  refine Met.ofW (cc := cc) (maxL := maxL) (ret := some ty) hy rfl ?_
  intro p e s m args below meth c s₁ B hml hv
  obtain ⟨rfl, hsz, hP, hK⟩ := hv
  subst hsz
  have hl := lv_entry av (n := maxL) hlen
  rw [lg_entry_eq]
  exact body p e s m _ below meth c _ ⟨B.exec, B.bytes, hml, findClass_of_methodNamed B.named, hK⟩ ⟨hP.self, va_S.rf, fun q h => Or.inr h⟩ B.notSynchronized B.returns hl
theorem Cv.of {post : HM → Prop} (hy : plainName y.cls = true) (hlen : (lg_sl av).length ≤ maxL)
    (body : ∀ (p : Program) (e : Env) (s : State) (m : MethodId) (args : Array Value) (below : List Frame) (meth : Method) (c : Code) (ls : Array Slot), cx p s m c cc maxL y.cls G → Wd G (dm M s.heap.size) s.heap M s.heap [] → meth.locks = false → meth.sig.returnType = none → meth.name = y.name → lv_has ls maxL (lv_args 0 av) →
      W p l e rm s m args below meth c s.heap [] 0 0 (MQ below (QV G M s.heap.size post) args s rm.cells rm.slots (dm M s.heap.size)) (F0 m 0 ls [])) : Cv l y cc maxL rm G av M post := by
  intro sz
  refine Met.ofW (cc := cc) (maxL := maxL) (ret := none) hy rfl ?_
  intro p e s m args below meth c s₁ B hml hv
  obtain ⟨rfl, hsz, hP, hK⟩ := hv
  subst hsz
  have hl := lv_entry av (n := maxL) hlen
  rw [lg_entry_eq]
  exact body p e s m _ below meth c _ ⟨B.exec, B.bytes, hml, findClass_of_methodNamed B.named, hK⟩ ⟨hP.self, va_S.rf, fun q h => Or.inr h⟩ B.notSynchronized B.returns (name_of_methodNamed B.named B.method).1 hl
end CT
section RC
variable {p : Program} {l : Launch} {e : Env} {R : Room} {s : State} {m : MethodId} {args : Array Value} {below : List Frame} {meth : Method} {c : Code} {H : Heap} {locs : List Loc} {cells slots : Nat} {Q : State → Prop}
variable {cc : ByteArray} {pc nL : Nat} {ls : Array Slot} {rest st0 : List Value} {G : gG} {A : Nat → Prop} {a b : Nat} {M M0 : HM} {H0 : Heap} {own : String}
/-- ends of a method -/
theorem r_iret {post : Int32 → HM → Prop} {v : Int32} (cX : cx p s m c cc nL own G) (hr : meth.sig.returnType = some .int) (hlocks : meth.locks = false) (hw : Wd G (dm M0 s.heap.size) s.heap M H locs) (hp : post v M) (hdg : decode cc pc = .ok (.ireturn, 1)) :
    W p l e R s m args below meth c H locs cells slots (MQ below (QI G M0 s.heap.size post) args s cells slots (dm M0 s.heap.size)) (F0 m pc ls [.int v]) :=
  W.iret cX.1 cX.2.1 hr (fun t ht hW => ⟨⟨v, M, rfl, hp, by show Wh G _ M t.heap; rw [ht]; exact hw.1⟩, hw.2.1.F ht⟩) hw.2.1.2.2 hdg hlocks
theorem r_zret {post : Int32 → HM → Prop} {v : Int32} (cX : cx p s m c cc nL own G) (hr : meth.sig.returnType = some .boolean) (hlocks : meth.locks = false) (hn : narrow .boolean (.int v) = .int v) (hw : Wd G (dm M0 s.heap.size) s.heap M H locs) (hp : post v M) (hdg : decode cc pc = .ok (.ireturn, 1)) :
    W p l e R s m args below meth c H locs cells slots (MQ below (QI G M0 s.heap.size post) args s cells slots (dm M0 s.heap.size)) (F0 m pc ls [.int v]) :=
  W.zret cX.1 cX.2.1 hr hn (fun t ht hW => ⟨⟨v, M, rfl, hp, by show Wh G _ M t.heap; rw [ht]; exact hw.1⟩, hw.2.1.F ht⟩) hw.2.1.2.2 hdg hlocks
theorem r_vret {post : HM → Prop} (cX : cx p s m c cc nL own G) (hr : meth.sig.returnType = none) (hlocks : meth.locks = false) (hw : Wd G (dm M0 s.heap.size) s.heap M H locs) (hp : post M) (hdg : decode cc pc = .ok (.return_, 1)) :
    W p l e R s m args below meth c H locs cells slots (MQ below (QV G M0 s.heap.size post) args s cells slots (dm M0 s.heap.size)) (F0 m pc ls []) :=
  W.vret cX.1 cX.2.1 hr (fun t ht hW => ⟨⟨M, rfl, hp, by show Wh G _ M t.heap; rw [ht]; exact hw.1⟩, hw.2.1.F ht⟩) hw.2.1.2.2 hdg hlocks
theorem Pk_blind (av : List Value) (sz : Nat) : FrameBlind (Pk G av M sz) := fun a U g mk q => ⟨q.1, q.2.1, q.2.2.1, Kx.same (s := U) (U := U.calling g mk a) rfl q.2.2.2⟩
theorem Pk_at {av : List Value} (hK : Kx G s) (hw : Wd G A H0 M H locs) : ∀ U : State, U.heap = H → s.WarmedH U.vm → Pk G av M H.size av.toArray U := fun U hU hW => ⟨rfl, by rw [hU], by rw [hU]; exact hw.1.weaken (fun _ _ => trivial), hK.warm hW⟩
theorem Wd.recv {C : String} {T : u_T} {N ci : Nat} {fs : List Value} (hK : Kx G s) (hw : Wd G A H0 M H locs) (hM : M b = some (.inr (ci, fs))) (hc : vwCl[ci]? = some (C, T, N)) : ∃ cellB : Cell, H[b]? = some cellB ∧ cellB.vm.isStatics = false ∧ s.vm.findClass C = some cellB.cls := by
  obtain ⟨⟨ws, hP, hD, hL⟩, hS, hA⟩ := hw
  obtain ⟨q0, hq⟩ := (hL b _).mp hM
  exact va_recv (q := (C, T, N)) hK.1 hP hc hq
variable {y : MethodName} {bytes : ByteArray} {maxL n index : Nat} {ty : FieldType} {rm : Room} {C host : String} {As : List Value}
theorem r_backI {post : Int32 → HM → Prop} {g' : Array Value} (hw : Wd G A H0 M H locs) (hr : va_Run p l e R s m args below meth c H locs cells slots rm.cells rm.slots (F0 m pc ls st0) rest (QI G M H.size post g') (dm M H.size))
    (kk : ∀ (r : Int32) (M' : HM) (H1 : Heap) (locs1 : List Loc), post r M' → Wd G A H0 M' H1 locs1 → W p l e R s m args below meth c H1 locs1 (cells + rm.cells) (slots + rm.slots) Q (F0 m (pc + 3) ls (.int r :: rest))) : W p l e R s m args below meth c H locs cells slots Q (F0 m pc ls st0) :=
  va_calli hr hw.2.1 (fun q _ h => hw.dm q h) hw.dm (fun r M' t H1 locs1 ht hvm hp hB hz hk hS => kk r M' H1 locs1 hp ⟨by rw [← ht]; exact hB.weaken hw.dm, hS, hw.2.2⟩)
theorem r_backV {post : HM → Prop} {g' : Array Value} (hw : Wd G A H0 M H locs) (hr : va_Run p l e R s m args below meth c H locs cells slots rm.cells rm.slots (F0 m pc ls st0) rest (QV G M H.size post g') (dm M H.size))
    (kk : ∀ (M' : HM) (H1 : Heap) (locs1 : List Loc), post M' → Wd G A H0 M' H1 locs1 → W p l e R s m args below meth c H1 locs1 (cells + rm.cells) (slots + rm.slots) Q (F0 m (pc + 3) ls rest)) : W p l e R s m args below meth c H locs cells slots Q (F0 m pc ls st0) :=
  va_callv hr hw.2.1 (fun q _ h => hw.dm q h) hw.dm (fun M' t H1 locs1 ht hvm hp hB hz hk hS => kk M' H1 locs1 hp ⟨by rw [← ht]; exact hB.weaken hw.dm, hS, hw.2.2⟩)
/-- a virtual call that answers an int -/
theorem r_Vi {post : Int32 → HM → Prop} {ci N : Nat} {T : u_T} {fs : List Value} (cX : cx p s m c cc nL own G) (hw : Wd G A H0 M H locs) (hM : M b = some (.inr (ci, fs))) (hc : vwCl[ci]? = some (y.cls, T, N)) (As : List Value) (hC : Ci l y bytes maxL ty rm G (.ref b :: As) M post) (hl : Cond.methodLink own index y ∈ tbk) (mw : MWv y bytes maxL (some ty) n) (hR : rm.frames + 1 ≤ R.frames ∧ 8 + (maxL + 11) + rm.locals ≤ R.locals) (hst : st0 = As.reverse ++ .ref b :: rest) (hn : As.length = n) (hsz : ls.size = nL) (hrm : (rest.map fun v => v.category).sum ≤ 8) (hdg : decode cc pc = .ok (.invokevirtual index, 3)) (hf : cells + rm.cells ≤ R.cells ∧ slots + rm.slots ≤ R.slots)
    (kk : ∀ (r : Int32) (M' : HM) (H1 : Heap) (locs1 : List Loc), post r M' → Wd G A H0 M' H1 locs1 → W p l e R s m args below meth c H1 locs1 (cells + rm.cells) (slots + rm.slots) Q (F0 m (pc + 3) ls (.int r :: rest))) : W p l e R s m args below meth c H locs cells slots Q (F0 m pc ls st0) :=
  r_backI hw (va_runV (As := As) (rest := rest) (b := b) ⟨cX.1, cX.2.1, cX.2.2.1, cX.2.2.2.1, cX.2.2.2.2.ts⟩ (hC H.size) (cwV n cX.2.2.2.2.ts (gV hl mw) rfl rfl rfl ⟨rfl, mw.2.2.2.2⟩ hR) ⟨Pk_blind _ _, hw.recv cX.2.2.2.2 hM hc, Pk_at cX.2.2.2.2 hw⟩ rfl hn hsz hst (lv_room hrm) hdg hf) kk
theorem r_Vv {post : HM → Prop} {ci N : Nat} {T : u_T} {fs : List Value} (cX : cx p s m c cc nL own G) (hw : Wd G A H0 M H locs) (hM : M b = some (.inr (ci, fs))) (hc : vwCl[ci]? = some (y.cls, T, N)) (As : List Value) (hC : Cv l y bytes maxL rm G (.ref b :: As) M post) (hl : Cond.methodLink own index y ∈ tbk) (mw : MWv y bytes maxL none n) (hR : rm.frames + 1 ≤ R.frames ∧ 8 + (maxL + 11) + rm.locals ≤ R.locals) (hst : st0 = As.reverse ++ .ref b :: rest) (hn : As.length = n) (hsz : ls.size = nL) (hrm : (rest.map fun v => v.category).sum ≤ 8) (hdg : decode cc pc = .ok (.invokevirtual index, 3)) (hf : cells + rm.cells ≤ R.cells ∧ slots + rm.slots ≤ R.slots)
    (kk : ∀ (M' : HM) (H1 : Heap) (locs1 : List Loc), post M' → Wd G A H0 M' H1 locs1 → W p l e R s m args below meth c H1 locs1 (cells + rm.cells) (slots + rm.slots) Q (F0 m (pc + 3) ls rest)) : W p l e R s m args below meth c H locs cells slots Q (F0 m pc ls st0) :=
  r_backV hw (va_runV (As := As) (rest := rest) (b := b) ⟨cX.1, cX.2.1, cX.2.2.1, cX.2.2.2.1, cX.2.2.2.2.ts⟩ (hC H.size) (cwV n cX.2.2.2.2.ts (gV hl mw) rfl rfl rfl ⟨rfl, mw.2.2.2.2⟩ hR) ⟨Pk_blind _ _, hw.recv cX.2.2.2.2 hM hc, Pk_at cX.2.2.2.2 hw⟩ rfl hn hsz hst (lv_room hrm) hdg hf) kk
/-- a static call that answers an int -/
theorem r_Si {post : Int32 → HM → Prop} (cX : cx p s m c cc nL own G) (hw : Wd G A H0 M H locs) (As : List Value) (hC : Ci l y bytes maxL ty rm G As M post) (hl : Cond.methodLink own index y ∈ tbk) (mw : MWs y bytes maxL (some ty) n) (hR : rm.frames + 1 ≤ R.frames ∧ 8 + (maxL + 11) + rm.locals ≤ R.locals) (hst : st0 = As.reverse ++ rest) (hn : As.length = n) (hsz : ls.size = nL) (hrm : (rest.map fun v => v.category).sum ≤ 8) (hdg : decode cc pc = .ok (.invokestatic index, 3)) (hf : cells + rm.cells ≤ R.cells ∧ slots + rm.slots ≤ R.slots)
    (kk : ∀ (r : Int32) (M' : HM) (H1 : Heap) (locs1 : List Loc), post r M' → Wd G A H0 M' H1 locs1 → W p l e R s m args below meth c H1 locs1 (cells + rm.cells) (slots + rm.slots) Q (F0 m (pc + 3) ls (.int r :: rest))) : W p l e R s m args below meth c H locs cells slots Q (F0 m pc ls st0) :=
  r_backI hw (va_runS (As := As) (rest := rest) ⟨cX.1, cX.2.1, cX.2.2.1, cX.2.2.2.1, cX.2.2.2.2.ts⟩ (hC H.size) ⟨callB_of n cX.2.2.2.2.ts (gC mw.2.2.1) rfl rfl rfl (cX.2.2.2.2.ts _ mw.2.1) (cX.2.2.2.2.ts _ hl) mw.2.2.2 hR, cX.2.2.2.2.ts _ mw.1⟩ ⟨Pk_blind _ _, Pk_at cX.2.2.2.2 hw⟩ rfl hn hsz hst (lv_room hrm) hdg hf) kk
theorem r_SNi {post : Int32 → HM → Prop} (cX : cx p s m c cc nL own G) (hw : Wd G A H0 M H locs) (As : List Value) (hC : Ci l y bytes maxL ty rm G As M post) (hl : Cond.methodLinkNest own index y host ∈ tbk) (mw : MWs y bytes maxL (some ty) n) (hR : rm.frames + 1 ≤ R.frames ∧ 8 + (maxL + 11) + rm.locals ≤ R.locals) (hst : st0 = As.reverse ++ rest) (hn : As.length = n) (hsz : ls.size = nL) (hrm : (rest.map fun v => v.category).sum ≤ 8) (hdg : decode cc pc = .ok (.invokestatic index, 3)) (hf : cells + rm.cells ≤ R.cells ∧ slots + rm.slots ≤ R.slots)
    (kk : ∀ (r : Int32) (M' : HM) (H1 : Heap) (locs1 : List Loc), post r M' → Wd G A H0 M' H1 locs1 → W p l e R s m args below meth c H1 locs1 (cells + rm.cells) (slots + rm.slots) Q (F0 m (pc + 3) ls (.int r :: rest))) : W p l e R s m args below meth c H locs cells slots Q (F0 m pc ls st0) :=
  r_backI hw (va_runSN (As := As) (rest := rest) ⟨cX.1, cX.2.1, cX.2.2.1, cX.2.2.2.1, cX.2.2.2.2.ts⟩ (hC H.size) ⟨va_cnB n cX.2.2.2.2.ts (gC mw.2.2.1) rfl rfl rfl (cX.2.2.2.2.2.1 _ hl) (cX.2.2.2.2.ts _ mw.2.1) mw.2.2.2 hR, cX.2.2.2.2.ts _ mw.1, trivial⟩ ⟨Pk_blind _ _, Pk_at cX.2.2.2.2 hw⟩ rfl hn hsz hst (lv_room hrm) hdg hf) kk
/-- a constructor -/
theorem r_Iv {post : HM → Prop} (cX : cx p s m c cc nL own G) (hw : Wd G A H0 M H locs) (As : List Value) (hC : Cv l y bytes maxL rm G (.ref b :: As) M post) (hl : Cond.methodLink own index y ∈ tbk) (mw : MWi y bytes maxL n) (hR : rm.frames + 1 ≤ R.frames ∧ 8 + (maxL + 11) + rm.locals ≤ R.locals) (hst : st0 = As.reverse ++ .ref b :: rest) (hn : As.length = n) (hsz : ls.size = nL) (hrm : (rest.map fun v => v.category).sum ≤ 8) (hdg : decode cc pc = .ok (.invokespecial index, 3)) (hf : cells + rm.cells ≤ R.cells ∧ slots + rm.slots ≤ R.slots)
    (kk : ∀ (M' : HM) (H1 : Heap) (locs1 : List Loc), post M' → Wd G A H0 M' H1 locs1 → W p l e R s m args below meth c H1 locs1 (cells + rm.cells) (slots + rm.slots) Q (F0 m (pc + 3) ls rest)) : W p l e R s m args below meth c H locs cells slots Q (F0 m pc ls st0) :=
  r_backV hw (va_runI (As := As) (rest := rest) (b := b) ⟨cX.1, cX.2.1, cX.2.2.1, cX.2.2.2.1, cX.2.2.2.2.ts⟩ (hC H.size) ⟨callB_of n cX.2.2.2.2.ts (gC mw.2.2.1) rfl rfl rfl (cX.2.2.2.2.ts _ mw.2.1) (cX.2.2.2.2.ts _ hl) mw.2.2.2.2 hR, mw.2.2.2.1, cX.2.2.2.2.ts _ mw.1⟩ ⟨Pk_blind _ _, Pk_at cX.2.2.2.2 hw⟩ rfl hn hsz hst (lv_room hrm) hdg hf) kk
theorem r_INv {post : HM → Prop} (cX : cx p s m c cc nL own G) (hw : Wd G A H0 M H locs) (As : List Value) (hC : Cv l y bytes maxL rm G (.ref b :: As) M post) (hl : Cond.methodLinkNest own index y host ∈ tbk) (mw : MWi y bytes maxL n) (hR : rm.frames + 1 ≤ R.frames ∧ 8 + (maxL + 11) + rm.locals ≤ R.locals) (hst : st0 = As.reverse ++ .ref b :: rest) (hn : As.length = n) (hsz : ls.size = nL) (hrm : (rest.map fun v => v.category).sum ≤ 8) (hdg : decode cc pc = .ok (.invokespecial index, 3)) (hf : cells + rm.cells ≤ R.cells ∧ slots + rm.slots ≤ R.slots)
    (kk : ∀ (M' : HM) (H1 : Heap) (locs1 : List Loc), post M' → Wd G A H0 M' H1 locs1 → W p l e R s m args below meth c H1 locs1 (cells + rm.cells) (slots + rm.slots) Q (F0 m (pc + 3) ls rest)) : W p l e R s m args below meth c H locs cells slots Q (F0 m pc ls st0) :=
  r_backV hw (va_runIN (As := As) (rest := rest) (b := b) ⟨cX.1, cX.2.1, cX.2.2.1, cX.2.2.2.1, cX.2.2.2.2.ts⟩ (hC H.size) ⟨va_cnB n cX.2.2.2.2.ts (gC mw.2.2.1) rfl rfl rfl (cX.2.2.2.2.2.1 _ hl) (cX.2.2.2.2.ts _ mw.2.1) mw.2.2.2.2 hR, mw.2.2.2.1, cX.2.2.2.2.ts _ mw.1⟩ ⟨Pk_blind _ _, Pk_at cX.2.2.2.2 hw⟩ rfl hn hsz hst (lv_room hrm) hdg hf) kk
end RC
