/-! THE CLAIM OUT OF ONE WALK OF THE LAW'S BODY. Your part is whole_start (and what it stands on); all else here is the same for every law, but numbers. -/
def R_law : String := "FlowletSwitchLaw"
def lw_P (b : Addr) (xs : List Int32) (args : Array Value) (s : State) : Prop := args = #[.ref b] ∧ s.IntsAt b xs ∧ xs.length ≤ 1536 ∧ (Jvm.Cond.and given_1 narrow_1).before args s = true
def lw_Q (_ : Array Value) (s : State) (o : Outcome) (t : State) : Prop := o = .returned (some (.int 1)) ∧ Framed s o t [] 600000 7302249
def lw_Z (below : List Frame) (a : Array Value) (s : State) : State → Prop := fun t => ∃ o, t.status = .running ∧ Ended t below o ∧ lw_Q a s o t
/-- the law's own end, with 1 on the stack, nothing written that was there before, its room as the claim has it -/
theorem lw_ret {p : Program} {l : Launch} {e : Env} {s : State} {m : MethodId} {below : List Frame} {meth : Method} {c : Code} {b : Nat} (hx : p.tables.exec = Jvm.exec) (hb : c.code = code) (hr : meth.sig.returnType = ret) (hlocks : meth.locks = false) {pc : Nat} {H : Heap} {ls : Array Slot} (hdg : decode code pc = .ok (.ireturn, 1)) : W p l e room_1 s m #[Value.ref b] below meth c H [] 600000 7302249 (lw_Z below #[Value.ref b] s) (F0 m pc ls [.int 1]) := by
  intro T hT X
  obtain ⟨fs, hret, hrun, hended, hW, hframe⟩ := X.leave (v := some (.int 1)) (hlocks := hlocks) (fun h => by rw [hr] at h; cases h)
  have hmeth' : T.vm.method? m = some meth := X.method'
  refine ⟨T.setFrames fs, ?_, .returned (some (.int 1)), hrun, hended, rfl, ⟨_, rfl⟩, hW, hframe⟩
  jvm_step X.here [X.here.top, hx, hb, hdg, hmeth', hr, ret, narrow_b1]
  (try refine ⟨rfl, ?_⟩); (try refine ⟨rfl, ?_⟩)
  first | (intro acts; rw [hret _ acts rfl rfl rfl]) | rw [hret _ _ rfl rfl rfl]
  exact Steps.refl _
/-- what holds at the law's entry: the machine, the code, the tables' words (any of lw_tbl by 'hts w (by decide +kernel)'), the script of L ints xs at the cell b, what the Statement gives of the start (any of its parts by flat_of_before) -/
def lw_At (p : Program) (s : State) (m : MethodId) (meth : Method) (c : Code) (b L : Nat) (xs : Nat → Int32) : Prop :=
  p.tables.exec = Jvm.exec ∧ c.code = code ∧ meth.sig.returnType = ret ∧ c.maxLocals = 4 ∧ s.vm.findClass R_law = some m.cls ∧ (∀ w ∈ lw_tbl, w.before #[Value.ref b] s = true) ∧ va_X b L xs s s.heap ∧ b < s.heap.size ∧ meth.locks = false ∧ (Jvm.Cond.and given_1 narrow_1).before #[Value.ref b] s = true
theorem lw_cmp {L k : Nat} (hL : L ≤ 1536) (hk : k ≤ 512) (h : L < 3 * k + 3) : nI L - 3 < nI (3 * k) := by
  rw [show (3 : Int32) = nI 3 from rfl]
  rcases Nat.lt_or_ge L 3 with q | q
  · exact Int32.lt_of_lt_of_le (pk_sneg (by omega) q) (nI_pos' (by omega))
  · rw [pk_sub q]
    exact nI_lt (by omega) (by omega)
theorem lw_out {j : Nat} (h : ¬ j < 39) (h2 : j < 2 ^ 6) : 38 < (nI j).toInt := by
  rw [nI_toInt (by omega)]
  omega
set_option maxHeartbeats 4000000 in
set_option maxRecDepth 100000 in
theorem law_loop {p : Program} {l : Launch} {e : Env} {s : State} {m : MethodId} {below : List Frame} {meth : Method} {c : Code} {G : gG} {sb L : Nat} {xs : Nat → Int32} {ad b : Nat → Nat} (C : LC p s m c G sb L xs) (hr : meth.sig.returnType = ret) (hlocks : meth.locks = false) (hL : L ≤ 1536) (hap : Apt ad b) : ∀ (nn k : Nat), k ≤ 512 → 512 < k + nn → ∀ (z : Sg) (M : HM) (H : Heap) (locs : List Loc) (ls : Array Slot), Wd G (LA s) s.heap M H locs → LI G M ad b z → ZI (120 * k) z → lv_has ls 4 [(3, .int (nI (3 * k))), (2, .ref (b 0)), (1, .ref (ad 0)), (0, .ref sb)] → W p l e room_1 s m #[Value.ref sb] below meth c H locs 367 4106 (lw_Z below #[Value.ref sb] s) (F0 m 18 ls []) := by
  intro nn
  induction nn with
  | zero =>
    intro k h1 h2
    exact absurd h2 (by omega)
  | succ nn ih =>
    intro k hk hkn z M H locs ls hw hI hZ hl
    have hC := C
    obtain ⟨cX, hX, hbl⟩ := C
    have hx := cX.1
    have hb := cX.2.1
    have hbA : ¬ LA s sb := Nat.not_le.mpr hbl
    refine lv_iload_n hx hb dL_law_18 rfl (lv_at hl 0 rfl) ?_
    refine lv_aload_n hx hb dL_law_19 rfl (lv_at hl 3 rfl) ?_
    refine va_slen hx hb hX hbl hbA hw.2.1 dL_law_20 ?_
    refine lv_iconst (v := 3) hx hb dL_law_21 (by decide) ?_
    refine lv_isub hx hb dL_law_22 ?_
    refine lv_icmp_gt (tgt := 1117) hx hb dL_law_23 (by decide) (fun c23 => ?_) (fun c23 => ?_)
    · refine lv_iconst (v := 1) hx hb dL_law_1117 (by decide) ?_
      refine va_forget hw.2.1.2.2 ?_
      refine W.widen (k := 600000) (n := 7302249) (Nat.le_of_ble_eq_true rfl) (Nat.le_of_ble_eq_true rfl) ?_
      exact lw_ret hx hb hr hlocks dL_law_1118
    · have h3 : 3 * k + 3 ≤ L := by
        rcases Nat.lt_or_ge L (3 * k + 3) with q | q
        · exact absurd (lw_cmp hL hk q) c23
        · exact q
      have kk : ∀ (z : Sg) (M : HM) (H : Heap) (locs : List Loc), Wd G (LA s) s.heap M H locs → LI G M ad b z → ZI (120 * k + 120) z → W p l e room_1 s m #[Value.ref sb] below meth c H locs 367 4106 (lw_Z below #[Value.ref sb] s) (F0 m 1111 ls []) := by
        intro z M H locs hw hI hZ
        refine lv_iinc (v := (nI (3 * (k + 1)))) (lv' := [(3, .int (nI (3 * (k + 1)))), (2, .ref (b 0)), (1, .ref (ad 0)), (0, .ref sb)]) hx hb dL_law_1111 hl (k := 0) rfl (nI_add (3 * k) 3) (by decide) rfl (fun ls hl => ?_)
        refine lv_goto (tgt := 18) hx hb dL_law_1114 (by decide) ?_
        exact ih (k + 1) (by omega) (by omega) z M H locs ls hw hI hZ hl
      have hB : 120 * k + 120 < 2 ^ 30 := by omega
      refine lv_aload_n hx hb dL_law_26 rfl (lv_at hl 3 rfl) ?_
      refine lv_iload_n hx hb dL_law_27 rfl (lv_at hl 0 rfl) ?_
      refine va_sld hx hb hX hbl hbA hw.2.1 (vp_in_nI (by omega) (by omega)) dL_law_28 ?_
      refine lv_bipush (v := 63) hx hb dL_law_29 (by decide) ?_
      refine lv_iand hx hb dL_law_31 ?_
      obtain ⟨j, hj, hje⟩ := pk_andE (xs (nI (3 * k)).toNatClampNeg) (m := 63) 6 (by decide)
      rw [hje]
      obtain ⟨F, nx, ct, fl, T, len⟩ := z
      by_cases h39 : j < 39
      · rcases (show j = 0 ∨ j = 1 ∨ j = 2 ∨ j = 3 ∨ j = 4 ∨ j = 5 ∨ j = 6 ∨ j = 7 ∨ j = 8 ∨ j = 9 ∨ j = 10 ∨ j = 11 ∨ j = 12 ∨ j = 13 ∨ j = 14 ∨ j = 15 ∨ j = 16 ∨ j = 17 ∨ j = 18 ∨ j = 19 ∨ j = 20 ∨ j = 21 ∨ j = 22 ∨ j = 23 ∨ j = 24 ∨ j = 25 ∨ j = 26 ∨ j = 27 ∨ j = 28 ∨ j = 29 ∨ j = 30 ∨ j = 31 ∨ j = 32 ∨ j = 33 ∨ j = 34 ∨ j = 35 ∨ j = 36 ∨ j = 37 ∨ j = 38 by omega) with rfl | rfl | rfl | rfl | rfl | rfl | rfl | rfl | rfl | rfl | rfl | rfl | rfl | rfl | rfl | rfl | rfl | rfl | rfl | rfl | rfl | rfl | rfl | rfl | rfl | rfl | rfl | rfl | rfl | rfl | rfl | rfl | rfl | rfl | rfl | rfl | rfl | rfl | rfl
        · refine lv_tableIn (off := 172) (tgt := 204) hx hb dL_law_32 (by decide) (by decide) (by decide +kernel) (by decide) ?_
          exact lc_configure hC h3 hL hB hap hw hI hZ hl kk
        · refine lv_tableIn (off := 205) (tgt := 237) hx hb dL_law_32 (by decide) (by decide) (by decide +kernel) (by decide) ?_
          exact lc_setDelay hC h3 hL hB hap hw hI hZ hl kk
        · refine lv_tableIn (off := 238) (tgt := 270) hx hb dL_law_32 (by decide) (by decide) (by decide +kernel) (by decide) ?_
          exact lc_setRate hC h3 hL hB hap hw hI hZ hl kk
        · refine lv_tableIn (off := 271) (tgt := 303) hx hb dL_law_32 (by decide) (by decide) (by decide +kernel) (by decide) ?_
          exact lc_setRemoteLevel hC h3 hL hB hap hw hI hZ hl kk
        · refine lv_tableIn (off := 304) (tgt := 336) hx hb dL_law_32 (by decide) (by decide) (by decide +kernel) (by decide) ?_
          exact lc_setMode hC h3 hL hB hap hw hI hZ hl kk
        · refine lv_tableIn (off := 327) (tgt := 359) hx hb dL_law_32 (by decide) (by decide) (by decide +kernel) (by decide) ?_
          exact lc_setDetection hC h3 hL hB hap hw hI hZ hl kk
        · refine lv_tableIn (off := 350) (tgt := 382) hx hb dL_law_32 (by decide) (by decide) (by decide +kernel) (by decide) ?_
          exact lc_setGap hC h3 hL hB hap hw hI hZ hl kk
        · refine lv_tableIn (off := 373) (tgt := 405) hx hb dL_law_32 (by decide) (by decide) (by decide +kernel) (by decide) ?_
          exact lc_setShift hC h3 hL hB hap hw hI hZ hl kk
        · refine lv_tableIn (off := 396) (tgt := 428) hx hb dL_law_32 (by decide) (by decide) (by decide +kernel) (by decide) ?_
          exact lc_setGenerator hC h3 hL hB hap hw hI hZ hl kk
        · refine lv_tableIn (off := 419) (tgt := 451) hx hb dL_law_32 (by decide) (by decide) (by decide +kernel) (by decide) ?_
          exact lc_advance hC h3 hL hB hap hw hI hZ hl kk
        · refine lv_tableIn (off := 442) (tgt := 474) hx hb dL_law_32 (by decide) (by decide) (by decide +kernel) (by decide) ?_
          exact lc_send hC h3 hL hB hap hw hI hZ hl kk
        · refine lv_tableIn (off := 475) (tgt := 507) hx hb dL_law_32 (by decide) (by decide) (by decide +kernel) (by decide) ?_
          exact lc_now hC h3 hL hB hap hw hI hZ hl kk
        · refine lv_tableIn (off := 488) (tgt := 520) hx hb dL_law_32 (by decide) (by decide) (by decide +kernel) (by decide) ?_
          exact lc_entryOf hC h3 hL hB hap hw hI hZ hl kk
        · refine lv_tableIn (off := 511) (tgt := 543) hx hb dL_law_32 (by decide) (by decide) (by decide +kernel) (by decide) ?_
          exact lc_isActive hC h3 hL hB hap hw hI hZ hl kk
        · refine lv_tableIn (off := 534) (tgt := 566) hx hb dL_law_32 (by decide) (by decide) (by decide +kernel) (by decide) ?_
          exact lc_entryPath hC h3 hL hB hap hw hI hZ hl kk
        · refine lv_tableIn (off := 557) (tgt := 589) hx hb dL_law_32 (by decide) (by decide) (by decide +kernel) (by decide) ?_
          exact lc_ageBit hC h3 hL hB hap hw hI hZ hl kk
        · refine lv_tableIn (off := 580) (tgt := 612) hx hb dL_law_32 (by decide) (by decide) (by decide +kernel) (by decide) ?_
          exact lc_idleTime hC h3 hL hB hap hw hI hZ hl kk
        · refine lv_tableIn (off := 603) (tgt := 635) hx hb dL_law_32 (by decide) (by decide) (by decide +kernel) (by decide) ?_
          exact lc_activeEntries hC h3 hL hB hap hw hI hZ hl kk
        · refine lv_tableIn (off := 616) (tgt := 648) hx hb dL_law_32 (by decide) (by decide) (by decide +kernel) (by decide) ?_
          exact lc_load hC h3 hL hB hap hw hI hZ hl kk
        · refine lv_tableIn (off := 639) (tgt := 671) hx hb dL_law_32 (by decide) (by decide) (by decide +kernel) (by decide) ?_
          exact lc_metric hC h3 hL hB hap hw hI hZ hl kk
        · refine lv_tableIn (off := 662) (tgt := 694) hx hb dL_law_32 (by decide) (by decide) (by decide +kernel) (by decide) ?_
          exact lc_busyTime hC h3 hL hB hap hw hI hZ hl kk
        · refine lv_tableIn (off := 685) (tgt := 717) hx hb dL_law_32 (by decide) (by decide) (by decide +kernel) (by decide) ?_
          exact lc_latency hC h3 hL hB hap hw hI hZ hl kk
        · refine lv_tableIn (off := 718) (tgt := 750) hx hb dL_law_32 (by decide) (by decide) (by decide +kernel) (by decide) ?_
          exact lc_safeGap hC h3 hL hB hap hw hI hZ hl kk
        · refine lv_tableIn (off := 741) (tgt := 773) hx hb dL_law_32 (by decide) (by decide) (by decide +kernel) (by decide) ?_
          exact lc_packets hC h3 hL hB hap hw hI hZ hl kk
        · refine lv_tableIn (off := 764) (tgt := 796) hx hb dL_law_32 (by decide) (by decide) (by decide +kernel) (by decide) ?_
          exact lc_bytes hC h3 hL hB hap hw hI hZ hl kk
        · refine lv_tableIn (off := 787) (tgt := 819) hx hb dL_law_32 (by decide) (by decide) (by decide +kernel) (by decide) ?_
          exact lc_drops hC h3 hL hB hap hw hI hZ hl kk
        · refine lv_tableIn (off := 810) (tgt := 842) hx hb dL_law_32 (by decide) (by decide) (by decide +kernel) (by decide) ?_
          exact lc_imbalance hC h3 hL hB hap hw hI hZ hl kk
        · refine lv_tableIn (off := 823) (tgt := 855) hx hb dL_law_32 (by decide) (by decide) (by decide +kernel) (by decide) ?_
          exact lc_nextPath hC h3 hL hB hap hw hI hZ hl kk
        · refine lv_tableIn (off := 846) (tgt := 878) hx hb dL_law_32 (by decide) (by decide) (by decide +kernel) (by decide) ?_
          exact lc_wouldReorder hC h3 hL hB hap hw hI hZ hl kk
        · refine lv_tableIn (off := 879) (tgt := 911) hx hb dL_law_32 (by decide) (by decide) (by decide +kernel) (by decide) ?_
          exact lc_flowlets hC h3 hL hB hap hw hI hZ hl kk
        · refine lv_tableIn (off := 902) (tgt := 934) hx hb dL_law_32 (by decide) (by decide) (by decide +kernel) (by decide) ?_
          exact lc_pathChanges hC h3 hL hB hap hw hI hZ hl kk
        · refine lv_tableIn (off := 925) (tgt := 957) hx hb dL_law_32 (by decide) (by decide) (by decide +kernel) (by decide) ?_
          exact lc_reordered hC h3 hL hB hap hw hI hZ hl kk
        · refine lv_tableIn (off := 948) (tgt := 980) hx hb dL_law_32 (by decide) (by decide) (by decide +kernel) (by decide) ?_
          exact lc_lastArrival hC h3 hL hB hap hw hI hZ hl kk
        · refine lv_tableIn (off := 971) (tgt := 1003) hx hb dL_law_32 (by decide) (by decide) (by decide +kernel) (by decide) ?_
          exact lc_appendCharacter hC h3 hL hB hap hw hI hZ hl kk
        · refine lv_tableIn (off := 994) (tgt := 1026) hx hb dL_law_32 (by decide) (by decide) (by decide +kernel) (by decide) ?_
          exact lc_clearText hC h3 hL hB hap hw hI hZ hl kk
        · refine lv_tableIn (off := 1007) (tgt := 1039) hx hb dL_law_32 (by decide) (by decide) (by decide +kernel) (by decide) ?_
          exact lc_runTrace hC h3 hL hB hap hw hI hZ hl kk
        · refine lv_tableIn (off := 1020) (tgt := 1052) hx hb dL_law_32 (by decide) (by decide) (by decide +kernel) (by decide) ?_
          exact lc_undo hC h3 hL hB hap hw hI hZ hl kk
        · refine lv_tableIn (off := 1033) (tgt := 1065) hx hb dL_law_32 (by decide) (by decide) (by decide +kernel) (by decide) ?_
          exact lc_save hC h3 hL hB hap hw hI hZ hl kk
        · refine lv_tableIn (off := 1056) (tgt := 1088) hx hb dL_law_32 (by decide) (by decide) (by decide +kernel) (by decide) ?_
          exact lc_restore hC h3 hL hB hap hw hI hZ hl kk
      · refine lv_tableOut (tgt := 1111) hx hb dL_law_32 (Or.inr (lw_out h39 hj)) (by decide) ?_
        exact kk _ _ _ _ hw hI (hZ.mono (by omega))
