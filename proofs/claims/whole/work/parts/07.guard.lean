/-! A method that answers an object (a row a call, a row an end), and the bounds that the guarded divisions and the guarded place ask for. -/
def QR (G : gG) (M : HM) (sz : Nat) (post : Nat → HM → Prop) : Array Value → State → Outcome → State → Prop := va_Qr (fun _ : HM => True) (fun M' r t => post r M' ∧ Wh G (dm M sz) M' t.heap) (dm M sz)
def Cr (l : Launch) (y : MethodName) (cc : ByteArray) (maxL : Nat) (ty : FieldType) (rm : Room) (G : gG) (av : List Value) (M : HM) (post : Nat → HM → Prop) : Prop := ∀ sz, Met l y [Cond.code y cc maxL (some ty)] rm (Pk G av M sz) (QR G M sz post) rm.cells rm.slots (dm M sz)
section CTR
variable {l : Launch} {y : MethodName} {rm : Room} {G : gG} {av : List Value} {M : HM} {cc : ByteArray} {maxL : Nat}
theorem Cr.of {post : Nat → HM → Prop} {ty : FieldType} (hy : plainName y.cls = true) (hlen : (lg_sl av).length ≤ maxL)
    (body : ∀ (p : Program) (e : Env) (s : State) (m : MethodId) (args : Array Value) (below : List Frame) (meth : Method) (c : Code) (ls : Array Slot), cx p s m c cc maxL y.cls G → Wd G (dm M s.heap.size) s.heap M s.heap [] → meth.locks = false → meth.sig.returnType = some ty → lv_has ls maxL (lv_args 0 av) →
      W p l e rm s m args below meth c s.heap [] 0 0 (MQ below (QR G M s.heap.size post) args s rm.cells rm.slots (dm M s.heap.size)) (F0 m 0 ls [])) : Cr l y cc maxL ty rm G av M post := by
  intro sz
  refine Met.ofW (cc := cc) (maxL := maxL) (ret := some ty) hy rfl ?_
  intro p e s m args below meth c s₁ B hml hv
  obtain ⟨rfl, hsz, hP, hK⟩ := hv
  subst hsz
  have hl := lv_entry av (n := maxL) hlen
  rw [lg_entry_eq]
  exact body p e s m _ below meth c _ ⟨B.exec, B.bytes, hml, findClass_of_methodNamed B.named, hK⟩ ⟨hP.self, va_S.rf, fun q h => Or.inr h⟩ B.notSynchronized B.returns hl
end CTR
section RCR
variable {p : Program} {l : Launch} {e : Env} {R : Room} {s : State} {m : MethodId} {args : Array Value} {below : List Frame} {meth : Method} {c : Code} {H : Heap} {locs : List Loc} {cells slots : Nat} {Q : State → Prop}
variable {cc : ByteArray} {pc nL : Nat} {ls : Array Slot} {rest st0 : List Value} {G : gG} {A : Nat → Prop} {a b : Nat} {M M0 : HM} {H0 : Heap} {own : String}
theorem r_aret {post : Nat → HM → Prop} {v : Nat} {C : String} (cX : cx p s m c cc nL own G) (hr : meth.sig.returnType = some (.object C)) (hlocks : meth.locks = false) (hw : Wd G (dm M0 s.heap.size) s.heap M H locs) (hp : post v M) (hdg : decode cc pc = .ok (.areturn, 1)) :
    W p l e R s m args below meth c H locs cells slots (MQ below (QR G M0 s.heap.size post) args s cells slots (dm M0 s.heap.size)) (F0 m pc ls [.ref v]) :=
  W.aret cX.1 cX.2.1 hr (Or.inl ⟨C, rfl⟩) (Or.inr ⟨v, rfl⟩) (fun t ht hW => ⟨⟨M, v, rfl, trivial, hp, by show Wh G _ M t.heap; rw [ht]; exact hw.1⟩, hw.2.1.F ht⟩) hw.2.1.2.2 hdg hlocks
variable {y : MethodName} {bytes : ByteArray} {maxL n index : Nat} {ty : FieldType} {rm : Room} {As : List Value}
theorem r_backR {post : Nat → HM → Prop} {g' : Array Value} (hw : Wd G A H0 M H locs) (hr : va_Run p l e R s m args below meth c H locs cells slots rm.cells rm.slots (F0 m pc ls st0) rest (QR G M H.size post g') (dm M H.size))
    (kk : ∀ (r : Nat) (M' : HM) (H1 : Heap) (locs1 : List Loc), post r M' → Wd G A H0 M' H1 locs1 → W p l e R s m args below meth c H1 locs1 (cells + rm.cells) (slots + rm.slots) Q (F0 m (pc + 3) ls (.ref r :: rest))) : W p l e R s m args below meth c H locs cells slots Q (F0 m pc ls st0) :=
  va_callr hr hw.2.1 (fun q _ h => hw.dm q h) hw.dm (fun M' r t H1 locs1 ht hvm _ hB hz hk hS => kk r M' H1 locs1 hB.1 ⟨by rw [← ht]; exact hB.2.weaken hw.dm, hS, hw.2.2⟩)
/-- a virtual call that answers an object -/
theorem r_Vr {post : Nat → HM → Prop} {ci N : Nat} {T : u_T} {fs : List Value} (cX : cx p s m c cc nL own G) (hw : Wd G A H0 M H locs) (hM : M b = some (.inr (ci, fs))) (hc : vwCl[ci]? = some (y.cls, T, N)) (As : List Value) (hC : Cr l y bytes maxL ty rm G (.ref b :: As) M post) (hl : Cond.methodLink own index y ∈ tbk) (mw : MWv y bytes maxL (some ty) n) (hR : rm.frames + 1 ≤ R.frames ∧ 8 + (maxL + 11) + rm.locals ≤ R.locals) (hst : st0 = As.reverse ++ .ref b :: rest) (hn : As.length = n) (hsz : ls.size = nL) (hrm : (rest.map fun v => v.category).sum ≤ 8) (hdg : decode cc pc = .ok (.invokevirtual index, 3)) (hf : cells + rm.cells ≤ R.cells ∧ slots + rm.slots ≤ R.slots)
    (kk : ∀ (r : Nat) (M' : HM) (H1 : Heap) (locs1 : List Loc), post r M' → Wd G A H0 M' H1 locs1 → W p l e R s m args below meth c H1 locs1 (cells + rm.cells) (slots + rm.slots) Q (F0 m (pc + 3) ls (.ref r :: rest))) : W p l e R s m args below meth c H locs cells slots Q (F0 m pc ls st0) :=
  r_backR hw (va_runV (As := As) (rest := rest) (b := b) ⟨cX.1, cX.2.1, cX.2.2.1, cX.2.2.2.1, cX.2.2.2.2.ts⟩ (hC H.size) (cwV n cX.2.2.2.2.ts (gV hl mw) rfl rfl rfl ⟨rfl, mw.2.2.2.2⟩ hR) ⟨Pk_blind _ _, hw.recv cX.2.2.2.2 hM hc, Pk_at cX.2.2.2.2 hw⟩ rfl hn hsz hst (lv_room hrm) hdg hf) kk
end RCR
theorem ge1_nz {d : Int32} (h : 1 ≤ d) : ¬ d = 0 := by
  intro q
  rw [q] at h
  exact absurd h (by decide)
theorem ge1_nI {r : Nat} (h1 : 1 ≤ r) (h2 : r < 2 ^ 31) : 1 ≤ nI r := (show nI 1 ≤ nI r from nI_le h1 h2)
theorem Inv.ge1 {B : Nat} {f : Nat → Int32} (h : Inv B f) : 1 ≤ f 1 := by
  obtain ⟨h1, h2, h3⟩ := h.P
  rw [h3]
  exact ge1_nI (by omega) (by omega)
theorem Inv.ge2 {B : Nat} {f : Nat → Int32} (h : Inv B f) : 1 ≤ f 2 := by
  obtain ⟨h1, h2, h3⟩ := h.E
  rw [h3]
  exact ge1_nI (by omega) (by omega)
theorem Inv.ge3 {B : Nat} {f : Nat → Int32} (h : Inv B f) : 1 ≤ f 3 := by
  obtain ⟨g, h1, h2, h3⟩ := h.2.2.2.1
  rw [h3]
  exact ge1_nI (by omega) (by omega)
theorem Inv.ger {B : Nat} {f : Nat → Int32} (h : Inv B f) (i : Nat) (hi : i < 4) : 1 ≤ f (13 + i) := by
  obtain ⟨g, h1, h2, h3⟩ := h.2.2.2.2.2.2.1 i hi
  rw [h3]
  exact ge1_nI (by omega) (by omega)
/-- a choice leaves the number of paths -/
theorem tkF_1 (f : Nat → Int32) (k : Nat) (c : Int32) : tkF f k c 1 = f 1 := by
  unfold tkF
  split
  · exact tabF_o f k 1 c (by omega) (by omega) (by unfold isEn; omega)
  · split
    · exact pk_un (by omega)
    · rfl
