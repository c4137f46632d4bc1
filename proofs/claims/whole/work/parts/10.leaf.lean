theorem z01n {z : Int32} (h : z = 0 ∨ z = 1) : narrow .boolean (.int z) = .int z := by rcases h with rfl | rfl <;> rfl
theorem z01f {z : Int32} (h : z = 0 ∨ z = 1) : fits .boolean (.int z) = true := by rcases h with rfl | rfl <;> rfl
theorem z01v {z : Int32} (h : z = 0 ∨ z = 1) : vp_nar .boolean z = z := by rcases h with rfl | rfl <;> rfl
section R4
variable {p : Program} {l : Launch} {e : Env} {R : Room} {s : State} {m : MethodId} {args : Array Value} {below : List Frame} {meth : Method} {c : Code} {H : Heap} {locs : List Loc} {cells slots : Nat} {Q : State → Prop}
variable {cc : ByteArray} {pc nL : Nat} {ls : Array Slot} {rest : List Value} {G : gG} {own : String}
theorem r_irem (hexec : p.tables.exec = Jvm.exec) (hb : c.code = cc) {x y : Int32} (hdg : decode cc pc = .ok (.irem, 1)) (hne : ¬ y = 0)
    (k : W p l e R s m args below meth c H locs cells slots Q (F0 m (pc + 1) ls (.int (jr x y) :: rest))) : W p l e R s m args below meth c H locs cells slots Q (F0 m pc ls (.int y :: .int x :: rest)) := lv_irem hexec hb hdg hne k
theorem r_mmax (cX : cx p s m c cc nL own G) (hs : ls.size = nL) {index : Nat} (hl : Cond.methodLink own index yJ9_max_7cf53 ∈ tbk) (hf : 1 ≤ R.frames) (hlo : (rest.map fun v => v.category).sum + 13 ≤ R.locals) (hc : cells ≤ R.cells) (hsl : slots ≤ R.slots) {x y : Int32} (hdg : decode cc pc = .ok (.invokestatic index, 3))
    (kk : W p l e R s m args below meth c H locs cells slots Q (F0 m (pc + 3) ls (.int (if x < y then y else x) :: rest))) : W p l e R s m args below meth c H locs cells slots Q (F0 m pc ls (.int y :: .int x :: rest)) :=
  va_mmax cX.1 cX.2.1 (cX.2.2.1.trans hs.symm) cX.2.2.2.1 (cX.2.2.2.2.ts _ hl) (cX.2.2.2.2.ts _ wT_J9_max_7cf53) (cX.2.2.2.2.ts _ wN_J9) (cX.2.2.2.2.ts _ wC_J9_max_7cf53) hf hlo hc hsl hdg kk
theorem r_mmin (cX : cx p s m c cc nL own G) (hs : ls.size = nL) {index : Nat} (hl : Cond.methodLink own index yJ9_min_7cf53 ∈ tbk) (hf : 1 ≤ R.frames) (hlo : (rest.map fun v => v.category).sum + 13 ≤ R.locals) (hc : cells ≤ R.cells) (hsl : slots ≤ R.slots) {x y : Int32} (hdg : decode cc pc = .ok (.invokestatic index, 3))
    (kk : W p l e R s m args below meth c H locs cells slots Q (F0 m (pc + 3) ls (.int (if y < x then y else x) :: rest))) : W p l e R s m args below meth c H locs cells slots Q (F0 m pc ls (.int y :: .int x :: rest)) :=
  va_mmin cX.1 cX.2.1 (cX.2.2.1.trans hs.symm) cX.2.2.2.1 (cX.2.2.2.2.ts _ hl) (cX.2.2.2.2.ts _ wT_J9_min_7cf53) (cX.2.2.2.2.ts _ wN_J9) (cX.2.2.2.2.ts _ wC_J9_min_7cf53) hf hlo hc hsl hdg kk
end R4

set_option maxHeartbeats 4000000 in
set_option maxRecDepth 100000 in
theorem c_X2_init (l : Launch) (G : gG) {M : HM} {a : Nat} : Cv l yX2_init cX2_init 1 (rd 1 0 0) G [.ref a] M (fun M' => M' = M) := by
  refine Cv.of (by decide) (Nat.le_of_ble_eq_true rfl) ?_
  intro p e s m args below meth c ls cX hw hlocks hr hnm hl
  have hx := cX.1
  have hb := cX.2.1
  have hl : lv_has ls 1 [(0, .ref a)] := hl
  refine lv_aload_n hx hb dX2_init_0 rfl (lv_at hl 0 rfl) ?_
  refine W.objInit hx hb cX.2.2.2.1 (cX.2.2.2.2.ts _ wM_X2_3) (cX.2.2.2.2.ts _ wI_obj) (cX.2.2.2.2.ts _ wC_obj) rfl (by rw [cX.2.2.1]; exact hl.1) rfl dX2_init_1 (Nat.le_of_ble_eq_true rfl) (Nat.le_of_ble_eq_true rfl) ?_
  refine W.eq (g2 := F0 m 4 ls []) rfl ?_
  exact r_vret cX hr hlocks hw rfl dX2_init_4

set_option maxHeartbeats 4000000 in
set_option maxRecDepth 100000 in
theorem c_X0_init (l : Launch) (G : gG) {M : HM} {a : Nat} : Cv l yX0_init cX0_init 1 (rd 1 0 0) G [.ref a] M (fun M' => M' = M) := by
  refine Cv.of (by decide) (Nat.le_of_ble_eq_true rfl) ?_
  intro p e s m args below meth c ls cX hw hlocks hr hnm hl
  have hx := cX.1
  have hb := cX.2.1
  have hl : lv_has ls 1 [(0, .ref a)] := hl
  refine lv_aload_n hx hb dX0_init_0 rfl (lv_at hl 0 rfl) ?_
  refine W.objInit hx hb cX.2.2.2.1 (cX.2.2.2.2.ts _ wM_X0_3) (cX.2.2.2.2.ts _ wI_obj) (cX.2.2.2.2.ts _ wC_obj) rfl (by rw [cX.2.2.1]; exact hl.1) rfl dX0_init_1 (Nat.le_of_ble_eq_true rfl) (Nat.le_of_ble_eq_true rfl) ?_
  refine W.eq (g2 := F0 m 4 ls []) rfl ?_
  exact r_vret cX hr hlocks hw rfl dX0_init_4

set_option maxHeartbeats 4000000 in
set_option maxRecDepth 100000 in
theorem c_X1_init (l : Launch) (G : gG) {M : HM} {a : Nat} : Cv l yX1_init cX1_init 1 (rd 1 0 0) G [.ref a] M (fun M' => M' = M) := by
  refine Cv.of (by decide) (Nat.le_of_ble_eq_true rfl) ?_
  intro p e s m args below meth c ls cX hw hlocks hr hnm hl
  have hx := cX.1
  have hb := cX.2.1
  have hl : lv_has ls 1 [(0, .ref a)] := hl
  refine lv_aload_n hx hb dX1_init_0 rfl (lv_at hl 0 rfl) ?_
  refine W.objInit hx hb cX.2.2.2.1 (cX.2.2.2.2.ts _ wM_X1_3) (cX.2.2.2.2.ts _ wI_obj) (cX.2.2.2.2.ts _ wC_obj) rfl (by rw [cX.2.2.1]; exact hl.1) rfl dX1_init_1 (Nat.le_of_ble_eq_true rfl) (Nat.le_of_ble_eq_true rfl) ?_
  refine W.eq (g2 := F0 m 4 ls []) rfl ?_
  exact r_vret cX hr hlocks hw rfl dX1_init_4

set_option maxHeartbeats 4000000 in
set_option maxRecDepth 100000 in
theorem c_X2_reset (l : Launch) (G : gG) {M : HM} {a : Nat} {x0 x1 x2 x3 x4 x5 x6 x7 : Int32} (hM : M a = some (.inr (2, [.int x0, .int x1, .int x2, .int x3, .int x4, .int x5, .int x6, .int x7]))) : Cv l yX2_reset cX2_reset 1 (rd 0 0 0) G [.ref a] M (fun M' => M' = mu M a (.inr (2, [.int 10, .int 10, .int 0, .int 0, .int 0, .int 0, .int 0, .int 0]))) := by
  refine Cv.of (by decide) (Nat.le_of_ble_eq_true rfl) ?_
  intro p e s m args below meth c ls cX hw hlocks hr hnm hl
  have hx := cX.1
  have hb := cX.2.1
  have hl : lv_has ls 1 [(0, .ref a)] := hl
  refine lv_aload_n hx hb dX2_reset_0 rfl (lv_at hl 0 rfl) ?_
  refine lv_bipush (v := 10) hx hb dX2_reset_1 (by decide) ?_
  refine r_put (fs' := [.int 10, .int x1, .int x2, .int x3, .int x4, .int x5, .int x6, .int x7]) cX inX2 tyX2 tyX2_ok nmX2 hw hM rfl 0 (by decide) wF_X2_9 rfl rfl rfl rfl (Nat.le_of_ble_eq_true rfl) dX2_reset_3 (fun H locs hw => ?_)
  refine lv_aload_n hx hb dX2_reset_6 rfl (lv_at hl 0 rfl) ?_
  refine lv_bipush (v := 10) hx hb dX2_reset_7 (by decide) ?_
  refine r_put (fs' := [.int 10, .int 10, .int x2, .int x3, .int x4, .int x5, .int x6, .int x7]) cX inX2 tyX2 tyX2_ok nmX2 hw (mu_at _ _ _) rfl 1 (by decide) wF_X2_15 rfl rfl rfl rfl (Nat.le_of_ble_eq_true rfl) dX2_reset_9 (fun H locs hw => ?_)
  rw [mu_mu] at hw
  refine lv_aload_n hx hb dX2_reset_12 rfl (lv_at hl 0 rfl) ?_
  refine lv_iconst (v := 0) hx hb dX2_reset_13 (by decide) ?_
  refine r_put (fs' := [.int 10, .int 10, .int 0, .int x3, .int x4, .int x5, .int x6, .int x7]) cX inX2 tyX2 tyX2_ok nmX2 hw (mu_at _ _ _) rfl 2 (by decide) wF_X2_18 rfl rfl rfl rfl (Nat.le_of_ble_eq_true rfl) dX2_reset_14 (fun H locs hw => ?_)
  rw [mu_mu] at hw
  refine lv_aload_n hx hb dX2_reset_17 rfl (lv_at hl 0 rfl) ?_
  refine lv_iconst (v := 0) hx hb dX2_reset_18 (by decide) ?_
  refine r_put (fs' := [.int 10, .int 10, .int 0, .int 0, .int x4, .int x5, .int x6, .int x7]) cX inX2 tyX2 tyX2_ok nmX2 hw (mu_at _ _ _) rfl 3 (by decide) wF_X2_21 rfl rfl rfl rfl (Nat.le_of_ble_eq_true rfl) dX2_reset_19 (fun H locs hw => ?_)
  rw [mu_mu] at hw
  refine lv_aload_n hx hb dX2_reset_22 rfl (lv_at hl 0 rfl) ?_
  refine lv_iconst (v := 0) hx hb dX2_reset_23 (by decide) ?_
  refine r_put (fs' := [.int 10, .int 10, .int 0, .int 0, .int 0, .int x5, .int x6, .int x7]) cX inX2 tyX2 tyX2_ok nmX2 hw (mu_at _ _ _) rfl 4 (by decide) wF_X2_24 rfl rfl rfl rfl (Nat.le_of_ble_eq_true rfl) dX2_reset_24 (fun H locs hw => ?_)
  rw [mu_mu] at hw
  refine lv_aload_n hx hb dX2_reset_27 rfl (lv_at hl 0 rfl) ?_
  refine lv_iconst (v := 0) hx hb dX2_reset_28 (by decide) ?_
  refine r_put (fs' := [.int 10, .int 10, .int 0, .int 0, .int 0, .int 0, .int x6, .int x7]) cX inX2 tyX2 tyX2_ok nmX2 hw (mu_at _ _ _) rfl 5 (by decide) wF_X2_27 rfl rfl rfl rfl (Nat.le_of_ble_eq_true rfl) dX2_reset_29 (fun H locs hw => ?_)
  rw [mu_mu] at hw
  refine lv_aload_n hx hb dX2_reset_32 rfl (lv_at hl 0 rfl) ?_
  refine lv_iconst (v := 0) hx hb dX2_reset_33 (by decide) ?_
  refine r_put (fs' := [.int 10, .int 10, .int 0, .int 0, .int 0, .int 0, .int 0, .int x7]) cX inX2 tyX2 tyX2_ok nmX2 hw (mu_at _ _ _) rfl 6 (by decide) wF_X2_30 rfl rfl rfl rfl (Nat.le_of_ble_eq_true rfl) dX2_reset_34 (fun H locs hw => ?_)
  rw [mu_mu] at hw
  refine lv_aload_n hx hb dX2_reset_37 rfl (lv_at hl 0 rfl) ?_
  refine lv_iconst (v := 0) hx hb dX2_reset_38 (by decide) ?_
  refine r_put (fs' := [.int 10, .int 10, .int 0, .int 0, .int 0, .int 0, .int 0, .int 0]) cX inX2 tyX2 tyX2_ok nmX2 hw (mu_at _ _ _) rfl 7 (by decide) wF_X2_33 rfl rfl rfl rfl (Nat.le_of_ble_eq_true rfl) dX2_reset_39 (fun H locs hw => ?_)
  rw [mu_mu] at hw
  exact r_vret cX hr hlocks hw rfl dX2_reset_42

set_option maxHeartbeats 4000000 in
set_option maxRecDepth 100000 in
theorem c_X2_copyFrom (l : Launch) (G : gG) {M : HM} {a : Nat} {x0 x1 x2 x3 x4 x5 x6 x7 : Int32} (hM : M a = some (.inr (2, [.int x0, .int x1, .int x2, .int x3, .int x4, .int x5, .int x6, .int x7]))) {b : Nat} {z0 z1 z2 z3 z4 z5 z6 z7 : Int32} (hB : M b = some (.inr (2, [.int z0, .int z1, .int z2, .int z3, .int z4, .int z5, .int z6, .int z7]))) (hba : b ≠ a) : Cv l yX2_copyFrom cX2_copyFrom 2 (rd 0 0 0) G [.ref a, .ref b] M (fun M' => M' = mu M a (.inr (2, [.int z0, .int z1, .int z2, .int z3, .int z4, .int z5, .int z6, .int z7]))) := by
  refine Cv.of (by decide) (Nat.le_of_ble_eq_true rfl) ?_
  intro p e s m args below meth c ls cX hw hlocks hr hnm hl
  have hx := cX.1
  have hb := cX.2.1
  have hl : lv_has ls 2 [(0, .ref a), (1, .ref b)] := hl
  refine lv_aload_n hx hb dX2_copyFrom_0 rfl (lv_at hl 0 rfl) ?_
  refine lv_aload_n hx hb dX2_copyFrom_1 rfl (lv_at hl 1 rfl) ?_
  refine r_get cX inX2 hw hB rfl 0 (by decide) wF_X2_9 rfl dX2_copyFrom_2 ?_
  refine r_put (fs' := [.int z0, .int x1, .int x2, .int x3, .int x4, .int x5, .int x6, .int x7]) cX inX2 tyX2 tyX2_ok nmX2 hw hM rfl 0 (by decide) wF_X2_9 rfl rfl rfl rfl (Nat.le_of_ble_eq_true rfl) dX2_copyFrom_5 (fun H locs hw => ?_)
  refine lv_aload_n hx hb dX2_copyFrom_8 rfl (lv_at hl 0 rfl) ?_
  refine lv_aload_n hx hb dX2_copyFrom_9 rfl (lv_at hl 1 rfl) ?_
  refine r_get cX inX2 hw ((mu_ne _ _ hba).trans hB) rfl 1 (by decide) wF_X2_15 rfl dX2_copyFrom_10 ?_
  refine r_put (fs' := [.int z0, .int z1, .int x2, .int x3, .int x4, .int x5, .int x6, .int x7]) cX inX2 tyX2 tyX2_ok nmX2 hw (mu_at _ _ _) rfl 1 (by decide) wF_X2_15 rfl rfl rfl rfl (Nat.le_of_ble_eq_true rfl) dX2_copyFrom_13 (fun H locs hw => ?_)
  rw [mu_mu] at hw
  refine lv_aload_n hx hb dX2_copyFrom_16 rfl (lv_at hl 0 rfl) ?_
  refine lv_aload_n hx hb dX2_copyFrom_17 rfl (lv_at hl 1 rfl) ?_
  refine r_get cX inX2 hw ((mu_ne _ _ hba).trans hB) rfl 2 (by decide) wF_X2_18 rfl dX2_copyFrom_18 ?_
  refine r_put (fs' := [.int z0, .int z1, .int z2, .int x3, .int x4, .int x5, .int x6, .int x7]) cX inX2 tyX2 tyX2_ok nmX2 hw (mu_at _ _ _) rfl 2 (by decide) wF_X2_18 rfl rfl rfl rfl (Nat.le_of_ble_eq_true rfl) dX2_copyFrom_21 (fun H locs hw => ?_)
  rw [mu_mu] at hw
  refine lv_aload_n hx hb dX2_copyFrom_24 rfl (lv_at hl 0 rfl) ?_
  refine lv_aload_n hx hb dX2_copyFrom_25 rfl (lv_at hl 1 rfl) ?_
  refine r_get cX inX2 hw ((mu_ne _ _ hba).trans hB) rfl 3 (by decide) wF_X2_21 rfl dX2_copyFrom_26 ?_
  refine r_put (fs' := [.int z0, .int z1, .int z2, .int z3, .int x4, .int x5, .int x6, .int x7]) cX inX2 tyX2 tyX2_ok nmX2 hw (mu_at _ _ _) rfl 3 (by decide) wF_X2_21 rfl rfl rfl rfl (Nat.le_of_ble_eq_true rfl) dX2_copyFrom_29 (fun H locs hw => ?_)
  rw [mu_mu] at hw
  refine lv_aload_n hx hb dX2_copyFrom_32 rfl (lv_at hl 0 rfl) ?_
  refine lv_aload_n hx hb dX2_copyFrom_33 rfl (lv_at hl 1 rfl) ?_
  refine r_get cX inX2 hw ((mu_ne _ _ hba).trans hB) rfl 4 (by decide) wF_X2_24 rfl dX2_copyFrom_34 ?_
  refine r_put (fs' := [.int z0, .int z1, .int z2, .int z3, .int z4, .int x5, .int x6, .int x7]) cX inX2 tyX2 tyX2_ok nmX2 hw (mu_at _ _ _) rfl 4 (by decide) wF_X2_24 rfl rfl rfl rfl (Nat.le_of_ble_eq_true rfl) dX2_copyFrom_37 (fun H locs hw => ?_)
  rw [mu_mu] at hw
  refine lv_aload_n hx hb dX2_copyFrom_40 rfl (lv_at hl 0 rfl) ?_
  refine lv_aload_n hx hb dX2_copyFrom_41 rfl (lv_at hl 1 rfl) ?_
  refine r_get cX inX2 hw ((mu_ne _ _ hba).trans hB) rfl 5 (by decide) wF_X2_27 rfl dX2_copyFrom_42 ?_
  refine r_put (fs' := [.int z0, .int z1, .int z2, .int z3, .int z4, .int z5, .int x6, .int x7]) cX inX2 tyX2 tyX2_ok nmX2 hw (mu_at _ _ _) rfl 5 (by decide) wF_X2_27 rfl rfl rfl rfl (Nat.le_of_ble_eq_true rfl) dX2_copyFrom_45 (fun H locs hw => ?_)
  rw [mu_mu] at hw
  refine lv_aload_n hx hb dX2_copyFrom_48 rfl (lv_at hl 0 rfl) ?_
  refine lv_aload_n hx hb dX2_copyFrom_49 rfl (lv_at hl 1 rfl) ?_
  refine r_get cX inX2 hw ((mu_ne _ _ hba).trans hB) rfl 6 (by decide) wF_X2_30 rfl dX2_copyFrom_50 ?_
  refine r_put (fs' := [.int z0, .int z1, .int z2, .int z3, .int z4, .int z5, .int z6, .int x7]) cX inX2 tyX2 tyX2_ok nmX2 hw (mu_at _ _ _) rfl 6 (by decide) wF_X2_30 rfl rfl rfl rfl (Nat.le_of_ble_eq_true rfl) dX2_copyFrom_53 (fun H locs hw => ?_)
  rw [mu_mu] at hw
  refine lv_aload_n hx hb dX2_copyFrom_56 rfl (lv_at hl 0 rfl) ?_
  refine lv_aload_n hx hb dX2_copyFrom_57 rfl (lv_at hl 1 rfl) ?_
  refine r_get cX inX2 hw ((mu_ne _ _ hba).trans hB) rfl 7 (by decide) wF_X2_33 rfl dX2_copyFrom_58 ?_
  refine r_put (fs' := [.int z0, .int z1, .int z2, .int z3, .int z4, .int z5, .int z6, .int z7]) cX inX2 tyX2 tyX2_ok nmX2 hw (mu_at _ _ _) rfl 7 (by decide) wF_X2_33 rfl rfl rfl rfl (Nat.le_of_ble_eq_true rfl) dX2_copyFrom_61 (fun H locs hw => ?_)
  rw [mu_mu] at hw
  exact r_vret cX hr hlocks hw rfl dX2_copyFrom_64

set_option maxHeartbeats 4000000 in
set_option maxRecDepth 100000 in
theorem c_X2_congestion (l : Launch) (G : gG) {M : HM} {a : Nat} {x0 x1 x2 x3 x4 x5 x6 x7 : Int32} (hM : M a = some (.inr (2, [.int x0, .int x1, .int x2, .int x3, .int x4, .int x5, .int x6, .int x7]))) : Ci l yX2_congestion cX2_congestion 2 .int (rd 1 0 0) G [.ref a] M (fun r M' => r = cg x3 x2 ∧ M' = M) := by
  refine Ci.of (by decide) (Nat.le_of_ble_eq_true rfl) ?_
  intro p e s m args below meth c ls cX hw hlocks hr hl
  have hx := cX.1
  have hb := cX.2.1
  have hl : lv_has ls 2 [(0, .ref a)] := hl
  refine lv_aload_n hx hb dX2_congestion_0 rfl (lv_at hl 0 rfl) ?_
  refine r_get cX inX2 hw hM rfl 3 (by decide) wF_X2_21 rfl dX2_congestion_1 ?_
  refine lv_bipush (v := 64) hx hb dX2_congestion_4 (by decide) ?_
  refine lv_idiv hx hb dX2_congestion_6 (by decide) ?_
  refine lv_bipush (v := 7) hx hb dX2_congestion_7 (by decide) ?_
  refine r_mmin (own := RX2) (index := 36) cX hl.1 wM_X2_36 (Nat.le_of_ble_eq_true rfl) (Nat.le_of_ble_eq_true rfl) (Nat.zero_le _) (Nat.zero_le _) dX2_congestion_9 ?_
  refine lv_istore_n (lv' := [(1, .int (if 7 < x3 / 64 then 7 else x3 / 64)), (0, .ref a)]) hx hb dX2_congestion_12 rfl hl (by decide) rfl (fun ls hl => ?_)
  refine lv_iload_n hx hb dX2_congestion_13 rfl (lv_at hl 0 rfl) ?_
  refine lv_aload_n hx hb dX2_congestion_14 rfl (lv_at hl 1 rfl) ?_
  refine r_get cX inX2 hw hM rfl 2 (by decide) wF_X2_18 rfl dX2_congestion_15 ?_
  refine r_mmax (own := RX2) (index := 42) cX hl.1 wM_X2_42 (Nat.le_of_ble_eq_true rfl) (Nat.le_of_ble_eq_true rfl) (Nat.zero_le _) (Nat.zero_le _) dX2_congestion_18 ?_
  exact r_iret cX hr hlocks hw ⟨rfl, rfl⟩ dX2_congestion_21

set_option maxHeartbeats 4000000 in
set_option maxRecDepth 100000 in
theorem c_X2_decay (l : Launch) (G : gG) {M : HM} {a : Nat} {x0 x1 x2 x3 x4 x5 x6 x7 : Int32} (hM : M a = some (.inr (2, [.int x0, .int x1, .int x2, .int x3, .int x4, .int x5, .int x6, .int x7]))) (sh : Int32) : Cv l yX2_decay cX2_decay 2 (rd 0 0 0) G [.ref a, .int sh] M (fun M' => M' = mu M a (.inr (2, [.int x0, .int x1, .int x2, .int (x3 - x3 >>> (sh &&& 31)), .int x4, .int x5, .int x6, .int x7]))) := by
  refine Cv.of (by decide) (Nat.le_of_ble_eq_true rfl) ?_
  intro p e s m args below meth c ls cX hw hlocks hr hnm hl
  have hx := cX.1
  have hb := cX.2.1
  have hl : lv_has ls 2 [(0, .ref a), (1, .int sh)] := hl
  refine lv_aload_n hx hb dX2_decay_0 rfl (lv_at hl 0 rfl) ?_
  refine lv_dup hx hb dX2_decay_1 rfl ?_
  refine r_get cX inX2 hw hM rfl 3 (by decide) wF_X2_21 rfl dX2_decay_2 ?_
  refine lv_aload_n hx hb dX2_decay_5 rfl (lv_at hl 0 rfl) ?_
  refine r_get cX inX2 hw hM rfl 3 (by decide) wF_X2_21 rfl dX2_decay_6 ?_
  refine lv_iload_n hx hb dX2_decay_9 rfl (lv_at hl 1 rfl) ?_
  refine lv_ishr hx hb dX2_decay_10 ?_
  refine lv_isub hx hb dX2_decay_11 ?_
  refine r_put (fs' := [.int x0, .int x1, .int x2, .int (x3 - (x3 >>> (sh &&& 31))), .int x4, .int x5, .int x6, .int x7]) cX inX2 tyX2 tyX2_ok nmX2 hw hM rfl 3 (by decide) wF_X2_21 rfl rfl rfl rfl (Nat.le_of_ble_eq_true rfl) dX2_decay_12 (fun H locs hw => ?_)
  exact r_vret cX hr hlocks hw rfl dX2_decay_15

set_option maxHeartbeats 4000000 in
set_option maxRecDepth 100000 in
theorem c_X2_waitAt (l : Launch) (G : gG) {M : HM} {a : Nat} {x0 x1 x2 x3 x4 x5 x6 x7 : Int32} (hM : M a = some (.inr (2, [.int x0, .int x1, .int x2, .int x3, .int x4, .int x5, .int x6, .int x7]))) (t : Int32) : Ci l yX2_waitAt cX2_waitAt 2 .int (rd 1 0 0) G [.ref a, .int t] M (fun r M' => r = wt x4 t ∧ M' = M) := by
  refine Ci.of (by decide) (Nat.le_of_ble_eq_true rfl) ?_
  intro p e s m args below meth c ls cX hw hlocks hr hl
  have hx := cX.1
  have hb := cX.2.1
  have hl : lv_has ls 2 [(0, .ref a), (1, .int t)] := hl
  refine lv_aload_n hx hb dX2_waitAt_0 rfl (lv_at hl 0 rfl) ?_
  refine r_get cX inX2 hw hM rfl 4 (by decide) wF_X2_24 rfl dX2_waitAt_1 ?_
  refine lv_iload_n hx hb dX2_waitAt_4 rfl (lv_at hl 1 rfl) ?_
  refine lv_isub hx hb dX2_waitAt_5 ?_
  refine lv_iconst (v := 0) hx hb dX2_waitAt_6 (by decide) ?_
  refine r_mmax (own := RX2) (index := 42) cX hl.1 wM_X2_42 (Nat.le_of_ble_eq_true rfl) (Nat.le_of_ble_eq_true rfl) (Nat.zero_le _) (Nat.zero_le _) dX2_waitAt_7 ?_
  exact r_iret cX hr hlocks hw ⟨rfl, rfl⟩ dX2_waitAt_10

set_option maxHeartbeats 4000000 in
set_option maxRecDepth 100000 in
theorem c_X2_dropsAt (l : Launch) (G : gG) {M : HM} {a : Nat} {x0 x1 x2 x3 x4 x5 x6 x7 : Int32} (hM : M a = some (.inr (2, [.int x0, .int x1, .int x2, .int x3, .int x4, .int x5, .int x6, .int x7]))) (t : Int32) : Ci l yX2_dropsAt cX2_dropsAt 2 .boolean (rd 2 0 0) G [.ref a, .int t] M (fun r M' => r = (if 200 < wt x4 t then 1 else 0) ∧ M' = M) := by
  refine Ci.of (by decide) (Nat.le_of_ble_eq_true rfl) ?_
  intro p e s m args below meth c ls cX hw hlocks hr hl
  have hx := cX.1
  have hb := cX.2.1
  have hl : lv_has ls 2 [(0, .ref a), (1, .int t)] := hl
  refine lv_aload_n hx hb dX2_dropsAt_0 rfl (lv_at hl 0 rfl) ?_
  refine lv_iload_n hx hb dX2_dropsAt_1 rfl (lv_at hl 1 rfl) ?_
  refine r_Vi cX hw hM rfl [.int t] (c_X2_waitAt l G hM t) wM_X2_45 mw_X2_waitAt ⟨Nat.le_of_ble_eq_true rfl, Nat.le_of_ble_eq_true rfl⟩ rfl rfl hl.1 (Nat.le_of_ble_eq_true rfl) dX2_dropsAt_2 ⟨Nat.le_of_ble_eq_true rfl, Nat.le_of_ble_eq_true rfl⟩ (fun r M1 H locs hp hw => ?_)
  obtain ⟨rfl, rfl⟩ := hp
  refine lv_sipush (v := 200) hx hb dX2_dropsAt_5 (by decide) ?_
  refine lv_icmp_le (tgt := 15) hx hb dX2_dropsAt_8 (by decide) (fun c8 => ?_) (fun c8 => ?_)
  · refine lv_iconst (v := 0) hx hb dX2_dropsAt_15 (by decide) ?_
    exact r_zret cX hr hlocks rfl hw ⟨by first | exact (if_pos (by first | exact c8 | exact Int32.not_le.mp c8)).symm | exact (if_neg (by first | exact c8 | exact Int32.not_lt.mpr c8)).symm, rfl⟩ dX2_dropsAt_16
  · refine lv_iconst (v := 1) hx hb dX2_dropsAt_11 (by decide) ?_
    refine lv_goto (tgt := 16) hx hb dX2_dropsAt_12 (by decide) ?_
    exact r_zret cX hr hlocks rfl hw ⟨by first | exact (if_pos (by first | exact c8 | exact Int32.not_le.mp c8)).symm | exact (if_neg (by first | exact c8 | exact Int32.not_lt.mpr c8)).symm, rfl⟩ dX2_dropsAt_16

set_option maxHeartbeats 4000000 in
set_option maxRecDepth 100000 in
theorem c_X2_ticksToTransmit (l : Launch) (G : gG) {M : HM} {a : Nat} {x0 x1 x2 x3 x4 x5 x6 x7 : Int32} (hM : M a = some (.inr (2, [.int x0, .int x1, .int x2, .int x3, .int x4, .int x5, .int x6, .int x7]))) (size : Int32) (hx1 : 1 ≤ x1) : Ci l yX2_ticksToTransmit cX2_ticksToTransmit 2 .int (rd 0 0 0) G [.ref a, .int size] M (fun r M' => r = tk size x1 ∧ M' = M) := by
  refine Ci.of (by decide) (Nat.le_of_ble_eq_true rfl) ?_
  intro p e s m args below meth c ls cX hw hlocks hr hl
  have hx := cX.1
  have hb := cX.2.1
  have hl : lv_has ls 2 [(0, .ref a), (1, .int size)] := hl
  refine lv_aload_n hx hb dX2_ticksToTransmit_0 rfl (lv_at hl 0 rfl) ?_
  refine r_get cX inX2 hw hM rfl 1 (by decide) wF_X2_15 rfl dX2_ticksToTransmit_1 ?_
  refine lv_iconst (v := 1) hx hb dX2_ticksToTransmit_4 (by decide) ?_
  refine lv_icmp_ge (tgt := 12) hx hb dX2_ticksToTransmit_5 (by decide) (fun c5 => ?_) (fun c5 => ?_)
  · refine lv_iload_n hx hb dX2_ticksToTransmit_12 rfl (lv_at hl 1 rfl) ?_
    refine lv_aload_n hx hb dX2_ticksToTransmit_13 rfl (lv_at hl 0 rfl) ?_
    refine r_get cX inX2 hw hM rfl 1 (by decide) wF_X2_15 rfl dX2_ticksToTransmit_14 ?_
    refine lv_iadd hx hb dX2_ticksToTransmit_17 ?_
    refine lv_iconst (v := 1) hx hb dX2_ticksToTransmit_18 (by decide) ?_
    refine lv_isub hx hb dX2_ticksToTransmit_19 ?_
    refine lv_aload_n hx hb dX2_ticksToTransmit_20 rfl (lv_at hl 0 rfl) ?_
    refine r_get cX inX2 hw hM rfl 1 (by decide) wF_X2_15 rfl dX2_ticksToTransmit_21 ?_
    refine lv_idiv hx hb dX2_ticksToTransmit_24 (ge1_nz hx1) ?_
    exact r_iret cX hr hlocks hw ⟨rfl, rfl⟩ dX2_ticksToTransmit_25
  · exact absurd hx1 c5

set_option maxHeartbeats 4000000 in
set_option maxRecDepth 100000 in
theorem c_X2_ticksToArrive (l : Launch) (G : gG) {M : HM} {a : Nat} {x0 x1 x2 x3 x4 x5 x6 x7 : Int32} (hM : M a = some (.inr (2, [.int x0, .int x1, .int x2, .int x3, .int x4, .int x5, .int x6, .int x7]))) (t size : Int32) (hx1 : 1 ≤ x1) : Ci l yX2_ticksToArrive cX2_ticksToArrive 3 .int (rd 2 0 0) G [.ref a, .int t, .int size] M (fun r M' => r = wt x4 t + tk size x1 + x0 ∧ M' = M) := by
  refine Ci.of (by decide) (Nat.le_of_ble_eq_true rfl) ?_
  intro p e s m args below meth c ls cX hw hlocks hr hl
  have hx := cX.1
  have hb := cX.2.1
  have hl : lv_has ls 3 [(0, .ref a), (1, .int t), (2, .int size)] := hl
  refine lv_aload_n hx hb dX2_ticksToArrive_0 rfl (lv_at hl 0 rfl) ?_
  refine lv_iload_n hx hb dX2_ticksToArrive_1 rfl (lv_at hl 1 rfl) ?_
  refine r_Vi cX hw hM rfl [.int t] (c_X2_waitAt l G hM t) wM_X2_45 mw_X2_waitAt ⟨Nat.le_of_ble_eq_true rfl, Nat.le_of_ble_eq_true rfl⟩ rfl rfl hl.1 (Nat.le_of_ble_eq_true rfl) dX2_ticksToArrive_2 ⟨Nat.le_of_ble_eq_true rfl, Nat.le_of_ble_eq_true rfl⟩ (fun r M1 H locs hp hw => ?_)
  obtain ⟨rfl, rfl⟩ := hp
  refine lv_aload_n hx hb dX2_ticksToArrive_5 rfl (lv_at hl 0 rfl) ?_
  refine lv_iload_n hx hb dX2_ticksToArrive_6 rfl (lv_at hl 2 rfl) ?_
  refine r_Vi cX hw hM rfl [.int size] (c_X2_ticksToTransmit l G hM size hx1) wM_X2_49 mw_X2_ticksToTransmit ⟨Nat.le_of_ble_eq_true rfl, Nat.le_of_ble_eq_true rfl⟩ rfl rfl hl.1 (Nat.le_of_ble_eq_true rfl) dX2_ticksToArrive_7 ⟨Nat.le_of_ble_eq_true rfl, Nat.le_of_ble_eq_true rfl⟩ (fun r M1 H locs hp hw => ?_)
  obtain ⟨rfl, rfl⟩ := hp
  refine lv_iadd hx hb dX2_ticksToArrive_10 ?_
  refine lv_aload_n hx hb dX2_ticksToArrive_11 rfl (lv_at hl 0 rfl) ?_
  refine r_get cX inX2 hw hM rfl 0 (by decide) wF_X2_9 rfl dX2_ticksToArrive_12 ?_
  refine lv_iadd hx hb dX2_ticksToArrive_15 ?_
  exact r_iret cX hr hlocks hw ⟨rfl, rfl⟩ dX2_ticksToArrive_16

set_option maxHeartbeats 4000000 in
set_option maxRecDepth 100000 in
theorem c_X2_transmit (l : Launch) (G : gG) {M : HM} {a : Nat} {x0 x1 x2 x3 x4 x5 x6 x7 : Int32} (hM : M a = some (.inr (2, [.int x0, .int x1, .int x2, .int x3, .int x4, .int x5, .int x6, .int x7]))) (t size : Int32) (hx1 : 1 ≤ x1) : Cv l yX2_transmit cX2_transmit 3 (rd 2 0 0) G [.ref a, .int t, .int size] M (fun M' => M' = mu M a (.inr (2, [.int x0, .int x1, .int x2, .int (x3 + size), .int (t + wt x4 t + tk size x1), .int (x5 + 1), .int (x6 + size), .int x7]))) := by
  refine Cv.of (by decide) (Nat.le_of_ble_eq_true rfl) ?_
  intro p e s m args below meth c ls cX hw hlocks hr hnm hl
  have hx := cX.1
  have hb := cX.2.1
  have hl : lv_has ls 3 [(0, .ref a), (1, .int t), (2, .int size)] := hl
  refine lv_aload_n hx hb dX2_transmit_0 rfl (lv_at hl 0 rfl) ?_
  refine lv_iload_n hx hb dX2_transmit_1 rfl (lv_at hl 1 rfl) ?_
  refine lv_aload_n hx hb dX2_transmit_2 rfl (lv_at hl 0 rfl) ?_
  refine lv_iload_n hx hb dX2_transmit_3 rfl (lv_at hl 1 rfl) ?_
  refine r_Vi cX hw hM rfl [.int t] (c_X2_waitAt l G hM t) wM_X2_45 mw_X2_waitAt ⟨Nat.le_of_ble_eq_true rfl, Nat.le_of_ble_eq_true rfl⟩ rfl rfl hl.1 (Nat.le_of_ble_eq_true rfl) dX2_transmit_4 ⟨Nat.le_of_ble_eq_true rfl, Nat.le_of_ble_eq_true rfl⟩ (fun r M1 H locs hp hw => ?_)
  obtain ⟨rfl, rfl⟩ := hp
  refine lv_iadd hx hb dX2_transmit_7 ?_
  refine lv_aload_n hx hb dX2_transmit_8 rfl (lv_at hl 0 rfl) ?_
  refine lv_iload_n hx hb dX2_transmit_9 rfl (lv_at hl 2 rfl) ?_
  refine r_Vi cX hw hM rfl [.int size] (c_X2_ticksToTransmit l G hM size hx1) wM_X2_49 mw_X2_ticksToTransmit ⟨Nat.le_of_ble_eq_true rfl, Nat.le_of_ble_eq_true rfl⟩ rfl rfl hl.1 (Nat.le_of_ble_eq_true rfl) dX2_transmit_10 ⟨Nat.le_of_ble_eq_true rfl, Nat.le_of_ble_eq_true rfl⟩ (fun r M1 H locs hp hw => ?_)
  obtain ⟨rfl, rfl⟩ := hp
  refine lv_iadd hx hb dX2_transmit_13 ?_
  refine r_put (fs' := [.int x0, .int x1, .int x2, .int x3, .int ((t + (wt x4 t)) + (tk size x1)), .int x5, .int x6, .int x7]) cX inX2 tyX2 tyX2_ok nmX2 hw hM rfl 4 (by decide) wF_X2_24 rfl rfl rfl rfl (Nat.le_of_ble_eq_true rfl) dX2_transmit_14 (fun H locs hw => ?_)
  refine lv_aload_n hx hb dX2_transmit_17 rfl (lv_at hl 0 rfl) ?_
  refine lv_dup hx hb dX2_transmit_18 rfl ?_
  refine r_get cX inX2 hw (mu_at _ _ _) rfl 3 (by decide) wF_X2_21 rfl dX2_transmit_19 ?_
  refine lv_iload_n hx hb dX2_transmit_22 rfl (lv_at hl 2 rfl) ?_
  refine lv_iadd hx hb dX2_transmit_23 ?_
  refine r_put (fs' := [.int x0, .int x1, .int x2, .int (x3 + size), .int ((t + (wt x4 t)) + (tk size x1)), .int x5, .int x6, .int x7]) cX inX2 tyX2 tyX2_ok nmX2 hw (mu_at _ _ _) rfl 3 (by decide) wF_X2_21 rfl rfl rfl rfl (Nat.le_of_ble_eq_true rfl) dX2_transmit_24 (fun H locs hw => ?_)
  rw [mu_mu] at hw
  refine lv_aload_n hx hb dX2_transmit_27 rfl (lv_at hl 0 rfl) ?_
  refine lv_dup hx hb dX2_transmit_28 rfl ?_
  refine r_get cX inX2 hw (mu_at _ _ _) rfl 5 (by decide) wF_X2_27 rfl dX2_transmit_29 ?_
  refine lv_iconst (v := 1) hx hb dX2_transmit_32 (by decide) ?_
  refine lv_iadd hx hb dX2_transmit_33 ?_
  refine r_put (fs' := [.int x0, .int x1, .int x2, .int (x3 + size), .int ((t + (wt x4 t)) + (tk size x1)), .int (x5 + 1), .int x6, .int x7]) cX inX2 tyX2 tyX2_ok nmX2 hw (mu_at _ _ _) rfl 5 (by decide) wF_X2_27 rfl rfl rfl rfl (Nat.le_of_ble_eq_true rfl) dX2_transmit_34 (fun H locs hw => ?_)
  rw [mu_mu] at hw
  refine lv_aload_n hx hb dX2_transmit_37 rfl (lv_at hl 0 rfl) ?_
  refine lv_dup hx hb dX2_transmit_38 rfl ?_
  refine r_get cX inX2 hw (mu_at _ _ _) rfl 6 (by decide) wF_X2_30 rfl dX2_transmit_39 ?_
  refine lv_iload_n hx hb dX2_transmit_42 rfl (lv_at hl 2 rfl) ?_
  refine lv_iadd hx hb dX2_transmit_43 ?_
  refine r_put (fs' := [.int x0, .int x1, .int x2, .int (x3 + size), .int ((t + (wt x4 t)) + (tk size x1)), .int (x5 + 1), .int (x6 + size), .int x7]) cX inX2 tyX2 tyX2_ok nmX2 hw (mu_at _ _ _) rfl 6 (by decide) wF_X2_30 rfl rfl rfl rfl (Nat.le_of_ble_eq_true rfl) dX2_transmit_44 (fun H locs hw => ?_)
  rw [mu_mu] at hw
  exact r_vret cX hr hlocks hw rfl dX2_transmit_47

set_option maxHeartbeats 4000000 in
set_option maxRecDepth 100000 in
theorem c_X0_reset (l : Launch) (G : gG) {M : HM} {a : Nat} {y0 y1 y2 y3 : Int32} (hM : M a = some (.inr (0, [.int y0, .int y1, .int y2, .int y3]))) : Cv l yX0_reset cX0_reset 1 (rd 0 0 0) G [.ref a] M (fun M' => M' = mu M a (.inr (0, [.int 0, .int (-9), .int 0, .int 0]))) := by
  refine Cv.of (by decide) (Nat.le_of_ble_eq_true rfl) ?_
  intro p e s m args below meth c ls cX hw hlocks hr hnm hl
  have hx := cX.1
  have hb := cX.2.1
  have hl : lv_has ls 1 [(0, .ref a)] := hl
  refine lv_aload_n hx hb dX0_reset_0 rfl (lv_at hl 0 rfl) ?_
  refine lv_iconst (v := 0) hx hb dX0_reset_1 (by decide) ?_
  refine r_put (fs' := [.int 0, .int y1, .int y2, .int y3]) cX inX0 tyX0 tyX0_ok nmX0 hw hM rfl 0 (by decide) wF_X0_9 rfl rfl rfl rfl (Nat.le_of_ble_eq_true rfl) dX0_reset_2 (fun H locs hw => ?_)
  refine lv_aload_n hx hb dX0_reset_5 rfl (lv_at hl 0 rfl) ?_
  refine lv_bipush (v := (-9)) hx hb dX0_reset_6 (by decide) ?_
  refine r_put (fs' := [.int 0, .int (-9), .int y2, .int y3]) cX inX0 tyX0 tyX0_ok nmX0 hw (mu_at _ _ _) rfl 1 (by decide) wF_X0_15 rfl rfl rfl rfl (Nat.le_of_ble_eq_true rfl) dX0_reset_8 (fun H locs hw => ?_)
  rw [mu_mu] at hw
  refine lv_aload_n hx hb dX0_reset_11 rfl (lv_at hl 0 rfl) ?_
  refine lv_iconst (v := 0) hx hb dX0_reset_12 (by decide) ?_
  refine r_put (fs' := [.int 0, .int (-9), .int 0, .int y3]) cX inX0 tyX0 tyX0_ok nmX0 hw (mu_at _ _ _) rfl 2 (by decide) wF_X0_19 rfl rfl rfl rfl (Nat.le_of_ble_eq_true rfl) dX0_reset_13 (fun H locs hw => ?_)
  rw [mu_mu] at hw
  refine lv_aload_n hx hb dX0_reset_16 rfl (lv_at hl 0 rfl) ?_
  refine lv_iconst (v := 0) hx hb dX0_reset_17 (by decide) ?_
  refine r_put (fs' := [.int 0, .int (-9), .int 0, .int 0]) cX inX0 tyX0 tyX0_ok nmX0 hw (mu_at _ _ _) rfl 3 (by decide) wF_X0_22 rfl rfl rfl rfl (Nat.le_of_ble_eq_true rfl) dX0_reset_18 (fun H locs hw => ?_)
  rw [mu_mu] at hw
  exact r_vret cX hr hlocks hw rfl dX0_reset_21

set_option maxHeartbeats 4000000 in
set_option maxRecDepth 100000 in
theorem c_X0_copyFrom (l : Launch) (G : gG) {M : HM} {a : Nat} {y0 y1 y2 y3 : Int32} (hM : M a = some (.inr (0, [.int y0, .int y1, .int y2, .int y3]))) {b : Nat} {z0 z1 z2 z3 : Int32} (hB : M b = some (.inr (0, [.int z0, .int z1, .int z2, .int z3]))) (hba : b ≠ a) (hz : z0 = 0 ∨ z0 = 1) : Cv l yX0_copyFrom cX0_copyFrom 2 (rd 0 0 0) G [.ref a, .ref b] M (fun M' => M' = mu M a (.inr (0, [.int z0, .int z1, .int z2, .int z3]))) := by
  refine Cv.of (by decide) (Nat.le_of_ble_eq_true rfl) ?_
  intro p e s m args below meth c ls cX hw hlocks hr hnm hl
  have hx := cX.1
  have hb := cX.2.1
  have hl : lv_has ls 2 [(0, .ref a), (1, .ref b)] := hl
  refine lv_aload_n hx hb dX0_copyFrom_0 rfl (lv_at hl 0 rfl) ?_
  refine lv_aload_n hx hb dX0_copyFrom_1 rfl (lv_at hl 1 rfl) ?_
  refine r_get cX inX0 hw hB rfl 0 (by decide) wF_X0_9 rfl dX0_copyFrom_2 ?_
  refine r_put (fs' := [.int z0, .int y1, .int y2, .int y3]) cX inX0 tyX0 tyX0_ok nmX0 hw hM rfl 0 (by decide) wF_X0_9 rfl (z01n hz) (z01f hz) rfl (Nat.le_of_ble_eq_true rfl) dX0_copyFrom_5 (fun H locs hw => ?_)
  refine lv_aload_n hx hb dX0_copyFrom_8 rfl (lv_at hl 0 rfl) ?_
  refine lv_aload_n hx hb dX0_copyFrom_9 rfl (lv_at hl 1 rfl) ?_
  refine r_get cX inX0 hw ((mu_ne _ _ hba).trans hB) rfl 1 (by decide) wF_X0_15 rfl dX0_copyFrom_10 ?_
  refine r_put (fs' := [.int z0, .int z1, .int y2, .int y3]) cX inX0 tyX0 tyX0_ok nmX0 hw (mu_at _ _ _) rfl 1 (by decide) wF_X0_15 rfl rfl rfl rfl (Nat.le_of_ble_eq_true rfl) dX0_copyFrom_13 (fun H locs hw => ?_)
  rw [mu_mu] at hw
  refine lv_aload_n hx hb dX0_copyFrom_16 rfl (lv_at hl 0 rfl) ?_
  refine lv_aload_n hx hb dX0_copyFrom_17 rfl (lv_at hl 1 rfl) ?_
  refine r_get cX inX0 hw ((mu_ne _ _ hba).trans hB) rfl 2 (by decide) wF_X0_19 rfl dX0_copyFrom_18 ?_
  refine r_put (fs' := [.int z0, .int z1, .int z2, .int y3]) cX inX0 tyX0 tyX0_ok nmX0 hw (mu_at _ _ _) rfl 2 (by decide) wF_X0_19 rfl rfl rfl rfl (Nat.le_of_ble_eq_true rfl) dX0_copyFrom_21 (fun H locs hw => ?_)
  rw [mu_mu] at hw
  refine lv_aload_n hx hb dX0_copyFrom_24 rfl (lv_at hl 0 rfl) ?_
  refine lv_aload_n hx hb dX0_copyFrom_25 rfl (lv_at hl 1 rfl) ?_
  refine r_get cX inX0 hw ((mu_ne _ _ hba).trans hB) rfl 3 (by decide) wF_X0_22 rfl dX0_copyFrom_26 ?_
  refine r_put (fs' := [.int z0, .int z1, .int z2, .int z3]) cX inX0 tyX0 tyX0_ok nmX0 hw (mu_at _ _ _) rfl 3 (by decide) wF_X0_22 rfl rfl rfl rfl (Nat.le_of_ble_eq_true rfl) dX0_copyFrom_29 (fun H locs hw => ?_)
  rw [mu_mu] at hw
  exact r_vret cX hr hlocks hw rfl dX0_copyFrom_32

set_option maxHeartbeats 4000000 in
set_option maxRecDepth 100000 in
theorem c_X0_isUnused (l : Launch) (G : gG) {M : HM} {a : Nat} {y0 y1 y2 y3 : Int32} (hM : M a = some (.inr (0, [.int y0, .int y1, .int y2, .int y3]))) : Ci l yX0_isUnused cX0_isUnused 1 .boolean (rd 0 0 0) G [.ref a] M (fun r M' => r = (if y1 = -9 then 1 else 0) ∧ M' = M) := by
  refine Ci.of (by decide) (Nat.le_of_ble_eq_true rfl) ?_
  intro p e s m args below meth c ls cX hw hlocks hr hl
  have hx := cX.1
  have hb := cX.2.1
  have hl : lv_has ls 1 [(0, .ref a)] := hl
  refine lv_aload_n hx hb dX0_isUnused_0 rfl (lv_at hl 0 rfl) ?_
  refine r_get cX inX0 hw hM rfl 1 (by decide) wF_X0_15 rfl dX0_isUnused_1 ?_
  refine lv_bipush (v := (-9)) hx hb dX0_isUnused_4 (by decide) ?_
  refine lv_icmp_ne (tgt := 13) hx hb dX0_isUnused_6 (by decide) (fun c6 => ?_) (fun c6 => ?_)
  · refine lv_iconst (v := 0) hx hb dX0_isUnused_13 (by decide) ?_
    exact r_zret cX hr hlocks rfl hw ⟨by simp [c6], rfl⟩ dX0_isUnused_14
  · refine lv_iconst (v := 1) hx hb dX0_isUnused_9 (by decide) ?_
    refine lv_goto (tgt := 14) hx hb dX0_isUnused_10 (by decide) ?_
    exact r_zret cX hr hlocks rfl hw ⟨by simp [c6], rfl⟩ dX0_isUnused_14

set_option maxHeartbeats 4000000 in
set_option maxRecDepth 100000 in
theorem c_X0_take (l : Launch) (G : gG) {M : HM} {a : Nat} {y0 y1 y2 y3 : Int32} (hM : M a = some (.inr (0, [.int y0, .int y1, .int y2, .int y3]))) (np t : Int32) : Cv l yX0_take cX0_take 3 (rd 0 0 0) G [.ref a, .int np, .int t] M (fun M' => M' = mu M a (.inr (0, [.int 1, .int np, .int t, .int 0]))) := by
  refine Cv.of (by decide) (Nat.le_of_ble_eq_true rfl) ?_
  intro p e s m args below meth c ls cX hw hlocks hr hnm hl
  have hx := cX.1
  have hb := cX.2.1
  have hl : lv_has ls 3 [(0, .ref a), (1, .int np), (2, .int t)] := hl
  refine lv_aload_n hx hb dX0_take_0 rfl (lv_at hl 0 rfl) ?_
  refine lv_iconst (v := 1) hx hb dX0_take_1 (by decide) ?_
  refine r_put (fs' := [.int 1, .int y1, .int y2, .int y3]) cX inX0 tyX0 tyX0_ok nmX0 hw hM rfl 0 (by decide) wF_X0_9 rfl rfl rfl rfl (Nat.le_of_ble_eq_true rfl) dX0_take_2 (fun H locs hw => ?_)
  refine lv_aload_n hx hb dX0_take_5 rfl (lv_at hl 0 rfl) ?_
  refine lv_iload_n hx hb dX0_take_6 rfl (lv_at hl 1 rfl) ?_
  refine r_put (fs' := [.int 1, .int np, .int y2, .int y3]) cX inX0 tyX0 tyX0_ok nmX0 hw (mu_at _ _ _) rfl 1 (by decide) wF_X0_15 rfl rfl rfl rfl (Nat.le_of_ble_eq_true rfl) dX0_take_7 (fun H locs hw => ?_)
  rw [mu_mu] at hw
  refine lv_aload_n hx hb dX0_take_10 rfl (lv_at hl 0 rfl) ?_
  refine lv_iload_n hx hb dX0_take_11 rfl (lv_at hl 2 rfl) ?_
  refine r_put (fs' := [.int 1, .int np, .int t, .int y3]) cX inX0 tyX0 tyX0_ok nmX0 hw (mu_at _ _ _) rfl 2 (by decide) wF_X0_19 rfl rfl rfl rfl (Nat.le_of_ble_eq_true rfl) dX0_take_12 (fun H locs hw => ?_)
  rw [mu_mu] at hw
  refine lv_aload_n hx hb dX0_take_15 rfl (lv_at hl 0 rfl) ?_
  refine lv_iconst (v := 0) hx hb dX0_take_16 (by decide) ?_
  refine r_put (fs' := [.int 1, .int np, .int t, .int 0]) cX inX0 tyX0 tyX0_ok nmX0 hw (mu_at _ _ _) rfl 3 (by decide) wF_X0_22 rfl rfl rfl rfl (Nat.le_of_ble_eq_true rfl) dX0_take_17 (fun H locs hw => ?_)
  rw [mu_mu] at hw
  exact r_vret cX hr hlocks hw rfl dX0_take_20

set_option maxHeartbeats 4000000 in
set_option maxRecDepth 100000 in
theorem c_X0_growOlder (l : Launch) (G : gG) {M : HM} {a : Nat} {y0 y1 y2 y3 : Int32} (hM : M a = some (.inr (0, [.int y0, .int y1, .int y2, .int y3]))) : Cv l yX0_growOlder cX0_growOlder 1 (rd 0 0 0) G [.ref a] M (fun M' => M' = (if ¬ y0 = 0 then (if y3 = 1 then mu M a (.inr (0, [.int 0, .int y1, .int y2, .int y3])) else mu M a (.inr (0, [.int y0, .int y1, .int y2, .int 1]))) else M)) := by
  refine Cv.of (by decide) (Nat.le_of_ble_eq_true rfl) ?_
  intro p e s m args below meth c ls cX hw hlocks hr hnm hl
  have hx := cX.1
  have hb := cX.2.1
  have hl : lv_has ls 1 [(0, .ref a)] := hl
  refine lv_aload_n hx hb dX0_growOlder_0 rfl (lv_at hl 0 rfl) ?_
  refine r_get cX inX0 hw hM rfl 0 (by decide) wF_X0_9 rfl dX0_growOlder_1 ?_
  refine lv_if_eq (tgt := 23) hx hb dX0_growOlder_4 (by decide) (fun c4 => ?_) (fun c4 => ?_)
  · refine lv_aload_n hx hb dX0_growOlder_23 rfl (lv_at hl 0 rfl) ?_
    refine r_get cX inX0 hw hM rfl 0 (by decide) wF_X0_9 rfl dX0_growOlder_24 ?_
    refine lv_if_eq (tgt := 35) hx hb dX0_growOlder_27 (by decide) (fun c27 => ?_) (fun c27 => ?_)
    · exact r_vret cX hr hlocks hw (by simp_all) dX0_growOlder_35
    · refine lv_aload_n hx hb dX0_growOlder_30 rfl (lv_at hl 0 rfl) ?_
      refine lv_iconst (v := 1) hx hb dX0_growOlder_31 (by decide) ?_
      refine r_put (fs' := [.int y0, .int y1, .int y2, .int 1]) cX inX0 tyX0 tyX0_ok nmX0 hw hM rfl 3 (by decide) wF_X0_22 rfl rfl rfl rfl (Nat.le_of_ble_eq_true rfl) dX0_growOlder_32 (fun H locs hw => ?_)
      exact r_vret cX hr hlocks hw (by simp_all) dX0_growOlder_35
  · refine lv_aload_n hx hb dX0_growOlder_7 rfl (lv_at hl 0 rfl) ?_
    refine r_get cX inX0 hw hM rfl 3 (by decide) wF_X0_22 rfl dX0_growOlder_8 ?_
    refine lv_iconst (v := 1) hx hb dX0_growOlder_11 (by decide) ?_
    refine lv_icmp_ne (tgt := 23) hx hb dX0_growOlder_12 (by decide) (fun c12 => ?_) (fun c12 => ?_)
    · refine lv_aload_n hx hb dX0_growOlder_23 rfl (lv_at hl 0 rfl) ?_
      refine r_get cX inX0 hw hM rfl 0 (by decide) wF_X0_9 rfl dX0_growOlder_24 ?_
      refine lv_if_eq (tgt := 35) hx hb dX0_growOlder_27 (by decide) (fun c27 => ?_) (fun c27 => ?_)
      · exact r_vret cX hr hlocks hw (by simp_all) dX0_growOlder_35
      · refine lv_aload_n hx hb dX0_growOlder_30 rfl (lv_at hl 0 rfl) ?_
        refine lv_iconst (v := 1) hx hb dX0_growOlder_31 (by decide) ?_
        refine r_put (fs' := [.int y0, .int y1, .int y2, .int 1]) cX inX0 tyX0 tyX0_ok nmX0 hw hM rfl 3 (by decide) wF_X0_22 rfl rfl rfl rfl (Nat.le_of_ble_eq_true rfl) dX0_growOlder_32 (fun H locs hw => ?_)
        exact r_vret cX hr hlocks hw (by simp_all) dX0_growOlder_35
    · refine lv_aload_n hx hb dX0_growOlder_15 rfl (lv_at hl 0 rfl) ?_
      refine lv_iconst (v := 0) hx hb dX0_growOlder_16 (by decide) ?_
      refine r_put (fs' := [.int 0, .int y1, .int y2, .int y3]) cX inX0 tyX0 tyX0_ok nmX0 hw hM rfl 0 (by decide) wF_X0_9 rfl rfl rfl rfl (Nat.le_of_ble_eq_true rfl) dX0_growOlder_17 (fun H locs hw => ?_)
      refine lv_goto (tgt := 35) hx hb dX0_growOlder_20 (by decide) ?_
      exact r_vret cX hr hlocks hw (by simp_all) dX0_growOlder_35

set_option maxHeartbeats 4000000 in
set_option maxRecDepth 100000 in
theorem c_X1_reset (l : Launch) (G : gG) {M : HM} {a : Nat} {y0 y1 y2 y3 y4 : Int32} (hM : M a = some (.inr (1, [.int y0, .int y1, .int y2, .int y3, .int y4]))) : Cv l yX1_reset cX1_reset 1 (rd 0 0 0) G [.ref a] M (fun M' => M' = mu M a (.inr (1, [.int 0, .int 0, .int 0, .int (-9), .int (-9)]))) := by
  refine Cv.of (by decide) (Nat.le_of_ble_eq_true rfl) ?_
  intro p e s m args below meth c ls cX hw hlocks hr hnm hl
  have hx := cX.1
  have hb := cX.2.1
  have hl : lv_has ls 1 [(0, .ref a)] := hl
  refine lv_aload_n hx hb dX1_reset_0 rfl (lv_at hl 0 rfl) ?_
  refine lv_iconst (v := 0) hx hb dX1_reset_1 (by decide) ?_
  refine r_put (fs' := [.int 0, .int y1, .int y2, .int y3, .int y4]) cX inX1 tyX1 tyX1_ok nmX1 hw hM rfl 0 (by decide) wF_X1_9 rfl rfl rfl rfl (Nat.le_of_ble_eq_true rfl) dX1_reset_2 (fun H locs hw => ?_)
  refine lv_aload_n hx hb dX1_reset_5 rfl (lv_at hl 0 rfl) ?_
  refine lv_iconst (v := 0) hx hb dX1_reset_6 (by decide) ?_
  refine r_put (fs' := [.int 0, .int 0, .int y2, .int y3, .int y4]) cX inX1 tyX1 tyX1_ok nmX1 hw (mu_at _ _ _) rfl 1 (by decide) wF_X1_15 rfl rfl rfl rfl (Nat.le_of_ble_eq_true rfl) dX1_reset_7 (fun H locs hw => ?_)
  rw [mu_mu] at hw
  refine lv_aload_n hx hb dX1_reset_10 rfl (lv_at hl 0 rfl) ?_
  refine lv_iconst (v := 0) hx hb dX1_reset_11 (by decide) ?_
  refine r_put (fs' := [.int 0, .int 0, .int 0, .int y3, .int y4]) cX inX1 tyX1 tyX1_ok nmX1 hw (mu_at _ _ _) rfl 2 (by decide) wF_X1_18 rfl rfl rfl rfl (Nat.le_of_ble_eq_true rfl) dX1_reset_12 (fun H locs hw => ?_)
  rw [mu_mu] at hw
  refine lv_aload_n hx hb dX1_reset_15 rfl (lv_at hl 0 rfl) ?_
  refine lv_bipush (v := (-9)) hx hb dX1_reset_16 (by decide) ?_
  refine r_put (fs' := [.int 0, .int 0, .int 0, .int (-9), .int y4]) cX inX1 tyX1 tyX1_ok nmX1 hw (mu_at _ _ _) rfl 3 (by decide) wF_X1_21 rfl rfl rfl rfl (Nat.le_of_ble_eq_true rfl) dX1_reset_18 (fun H locs hw => ?_)
  rw [mu_mu] at hw
  refine lv_aload_n hx hb dX1_reset_21 rfl (lv_at hl 0 rfl) ?_
  refine lv_bipush (v := (-9)) hx hb dX1_reset_22 (by decide) ?_
  refine r_put (fs' := [.int 0, .int 0, .int 0, .int (-9), .int (-9)]) cX inX1 tyX1 tyX1_ok nmX1 hw (mu_at _ _ _) rfl 4 (by decide) wF_X1_24 rfl rfl rfl rfl (Nat.le_of_ble_eq_true rfl) dX1_reset_24 (fun H locs hw => ?_)
  rw [mu_mu] at hw
  exact r_vret cX hr hlocks hw rfl dX1_reset_27

set_option maxHeartbeats 4000000 in
set_option maxRecDepth 100000 in
theorem c_X1_copyFrom (l : Launch) (G : gG) {M : HM} {a : Nat} {y0 y1 y2 y3 y4 : Int32} (hM : M a = some (.inr (1, [.int y0, .int y1, .int y2, .int y3, .int y4]))) {b : Nat} {z0 z1 z2 z3 z4 : Int32} (hB : M b = some (.inr (1, [.int z0, .int z1, .int z2, .int z3, .int z4]))) (hba : b ≠ a) : Cv l yX1_copyFrom cX1_copyFrom 2 (rd 0 0 0) G [.ref a, .ref b] M (fun M' => M' = mu M a (.inr (1, [.int z0, .int z1, .int z2, .int z3, .int z4]))) := by
  refine Cv.of (by decide) (Nat.le_of_ble_eq_true rfl) ?_
  intro p e s m args below meth c ls cX hw hlocks hr hnm hl
  have hx := cX.1
  have hb := cX.2.1
  have hl : lv_has ls 2 [(0, .ref a), (1, .ref b)] := hl
  refine lv_aload_n hx hb dX1_copyFrom_0 rfl (lv_at hl 0 rfl) ?_
  refine lv_aload_n hx hb dX1_copyFrom_1 rfl (lv_at hl 1 rfl) ?_
  refine r_get cX inX1 hw hB rfl 0 (by decide) wF_X1_9 rfl dX1_copyFrom_2 ?_
  refine r_put (fs' := [.int z0, .int y1, .int y2, .int y3, .int y4]) cX inX1 tyX1 tyX1_ok nmX1 hw hM rfl 0 (by decide) wF_X1_9 rfl rfl rfl rfl (Nat.le_of_ble_eq_true rfl) dX1_copyFrom_5 (fun H locs hw => ?_)
  refine lv_aload_n hx hb dX1_copyFrom_8 rfl (lv_at hl 0 rfl) ?_
  refine lv_aload_n hx hb dX1_copyFrom_9 rfl (lv_at hl 1 rfl) ?_
  refine r_get cX inX1 hw ((mu_ne _ _ hba).trans hB) rfl 1 (by decide) wF_X1_15 rfl dX1_copyFrom_10 ?_
  refine r_put (fs' := [.int z0, .int z1, .int y2, .int y3, .int y4]) cX inX1 tyX1 tyX1_ok nmX1 hw (mu_at _ _ _) rfl 1 (by decide) wF_X1_15 rfl rfl rfl rfl (Nat.le_of_ble_eq_true rfl) dX1_copyFrom_13 (fun H locs hw => ?_)
  rw [mu_mu] at hw
  refine lv_aload_n hx hb dX1_copyFrom_16 rfl (lv_at hl 0 rfl) ?_
  refine lv_aload_n hx hb dX1_copyFrom_17 rfl (lv_at hl 1 rfl) ?_
  refine r_get cX inX1 hw ((mu_ne _ _ hba).trans hB) rfl 2 (by decide) wF_X1_18 rfl dX1_copyFrom_18 ?_
  refine r_put (fs' := [.int z0, .int z1, .int z2, .int y3, .int y4]) cX inX1 tyX1 tyX1_ok nmX1 hw (mu_at _ _ _) rfl 2 (by decide) wF_X1_18 rfl rfl rfl rfl (Nat.le_of_ble_eq_true rfl) dX1_copyFrom_21 (fun H locs hw => ?_)
  rw [mu_mu] at hw
  refine lv_aload_n hx hb dX1_copyFrom_24 rfl (lv_at hl 0 rfl) ?_
  refine lv_aload_n hx hb dX1_copyFrom_25 rfl (lv_at hl 1 rfl) ?_
  refine r_get cX inX1 hw ((mu_ne _ _ hba).trans hB) rfl 3 (by decide) wF_X1_21 rfl dX1_copyFrom_26 ?_
  refine r_put (fs' := [.int z0, .int z1, .int z2, .int z3, .int y4]) cX inX1 tyX1 tyX1_ok nmX1 hw (mu_at _ _ _) rfl 3 (by decide) wF_X1_21 rfl rfl rfl rfl (Nat.le_of_ble_eq_true rfl) dX1_copyFrom_29 (fun H locs hw => ?_)
  rw [mu_mu] at hw
  refine lv_aload_n hx hb dX1_copyFrom_32 rfl (lv_at hl 0 rfl) ?_
  refine lv_aload_n hx hb dX1_copyFrom_33 rfl (lv_at hl 1 rfl) ?_
  refine r_get cX inX1 hw ((mu_ne _ _ hba).trans hB) rfl 4 (by decide) wF_X1_24 rfl dX1_copyFrom_34 ?_
  refine r_put (fs' := [.int z0, .int z1, .int z2, .int z3, .int z4]) cX inX1 tyX1 tyX1_ok nmX1 hw (mu_at _ _ _) rfl 4 (by decide) wF_X1_24 rfl rfl rfl rfl (Nat.le_of_ble_eq_true rfl) dX1_copyFrom_37 (fun H locs hw => ?_)
  rw [mu_mu] at hw
  exact r_vret cX hr hlocks hw rfl dX1_copyFrom_40

set_option maxHeartbeats 4000000 in
set_option maxRecDepth 100000 in
theorem c_X1_isOvertakenBy (l : Launch) (G : gG) {M : HM} {a : Nat} {y0 y1 y2 y3 y4 : Int32} (hM : M a = some (.inr (1, [.int y0, .int y1, .int y2, .int y3, .int y4]))) (ar : Int32) : Ci l yX1_isOvertakenBy cX1_isOvertakenBy 2 .boolean (rd 0 0 0) G [.ref a, .int ar] M (fun r M' => r = (if ar < y4 then 1 else 0) ∧ M' = M) := by
  refine Ci.of (by decide) (Nat.le_of_ble_eq_true rfl) ?_
  intro p e s m args below meth c ls cX hw hlocks hr hl
  have hx := cX.1
  have hb := cX.2.1
  have hl : lv_has ls 2 [(0, .ref a), (1, .int ar)] := hl
  refine lv_iload_n hx hb dX1_isOvertakenBy_0 rfl (lv_at hl 1 rfl) ?_
  refine lv_aload_n hx hb dX1_isOvertakenBy_1 rfl (lv_at hl 0 rfl) ?_
  refine r_get cX inX1 hw hM rfl 4 (by decide) wF_X1_24 rfl dX1_isOvertakenBy_2 ?_
  refine lv_icmp_ge (tgt := 12) hx hb dX1_isOvertakenBy_5 (by decide) (fun c5 => ?_) (fun c5 => ?_)
  · refine lv_iconst (v := 0) hx hb dX1_isOvertakenBy_12 (by decide) ?_
    exact r_zret cX hr hlocks rfl hw ⟨by first | exact (if_pos (by first | exact c5 | exact Int32.not_le.mp c5)).symm | exact (if_neg (by first | exact c5 | exact Int32.not_lt.mpr c5)).symm, rfl⟩ dX1_isOvertakenBy_13
  · refine lv_iconst (v := 1) hx hb dX1_isOvertakenBy_8 (by decide) ?_
    refine lv_goto (tgt := 13) hx hb dX1_isOvertakenBy_9 (by decide) ?_
    exact r_zret cX hr hlocks rfl hw ⟨by first | exact (if_pos (by first | exact c5 | exact Int32.not_le.mp c5)).symm | exact (if_neg (by first | exact c5 | exact Int32.not_lt.mpr c5)).symm, rfl⟩ dX1_isOvertakenBy_13

set_option maxHeartbeats 4000000 in
set_option maxRecDepth 100000 in
theorem c_X1_deliver (l : Launch) (G : gG) {M : HM} {a : Nat} {y0 y1 y2 y3 y4 : Int32} (hM : M a = some (.inr (1, [.int y0, .int y1, .int y2, .int y3, .int y4]))) (np ar : Int32) : Cv l yX1_deliver cX1_deliver 3 (rd 1 0 0) G [.ref a, .int np, .int ar] M (fun M' => M' = mu M a (.inr (1, [.int y0, .int (y1 + (if ¬ y3 = -9 ∧ ¬ y3 = np then 1 else 0)), .int (y2 + (if ar < y4 then 1 else 0)), .int np, .int (if y4 < ar then ar else y4)]))) := by
  refine Cv.of (by decide) (Nat.le_of_ble_eq_true rfl) ?_
  intro p e s m args below meth c ls cX hw hlocks hr hnm hl
  have hx := cX.1
  have hb := cX.2.1
  have hl : lv_has ls 3 [(0, .ref a), (1, .int np), (2, .int ar)] := hl
  refine lv_aload_n hx hb dX1_deliver_0 rfl (lv_at hl 0 rfl) ?_
  refine r_get cX inX1 hw hM rfl 3 (by decide) wF_X1_21 rfl dX1_deliver_1 ?_
  refine lv_bipush (v := (-9)) hx hb dX1_deliver_4 (by decide) ?_
  refine lv_icmp_eq (tgt := 27) hx hb dX1_deliver_6 (by decide) (fun c6 => ?_) (fun c6 => ?_)
  · refine lv_aload_n hx hb dX1_deliver_27 rfl (lv_at hl 0 rfl) ?_
    refine lv_iload_n hx hb dX1_deliver_28 rfl (lv_at hl 2 rfl) ?_
    refine r_Vi cX hw hM rfl [.int ar] (c_X1_isOvertakenBy l G hM ar) wM_X1_27 mw_X1_isOvertakenBy ⟨Nat.le_of_ble_eq_true rfl, Nat.le_of_ble_eq_true rfl⟩ rfl rfl hl.1 (Nat.le_of_ble_eq_true rfl) dX1_deliver_29 ⟨Nat.le_of_ble_eq_true rfl, Nat.le_of_ble_eq_true rfl⟩ (fun r M1 H locs hp hw => ?_)
    obtain ⟨rfl, rfl⟩ := hp
    refine lv_if_eq (tgt := 45) hx hb dX1_deliver_32 (by decide) (fun c32 => ?_) (fun c32 => ?_)
    · refine lv_aload_n hx hb dX1_deliver_45 rfl (lv_at hl 0 rfl) ?_
      refine lv_iload_n hx hb dX1_deliver_46 rfl (lv_at hl 1 rfl) ?_
      refine r_put (fs' := [.int y0, .int y1, .int y2, .int np, .int y4]) cX inX1 tyX1 tyX1_ok nmX1 hw hM rfl 3 (by decide) wF_X1_21 rfl rfl rfl rfl (Nat.le_of_ble_eq_true rfl) dX1_deliver_47 (fun H locs hw => ?_)
      refine lv_aload_n hx hb dX1_deliver_50 rfl (lv_at hl 0 rfl) ?_
      refine lv_aload_n hx hb dX1_deliver_51 rfl (lv_at hl 0 rfl) ?_
      refine r_get cX inX1 hw (mu_at _ _ _) rfl 4 (by decide) wF_X1_24 rfl dX1_deliver_52 ?_
      refine lv_iload_n hx hb dX1_deliver_55 rfl (lv_at hl 2 rfl) ?_
      refine r_mmax (own := RX1) (index := 31) cX hl.1 wM_X1_31 (Nat.le_of_ble_eq_true rfl) (Nat.le_of_ble_eq_true rfl) (Nat.zero_le _) (Nat.zero_le _) dX1_deliver_56 ?_
      refine r_put (fs' := [.int y0, .int y1, .int y2, .int np, .int (if y4 < ar then ar else y4)]) cX inX1 tyX1 tyX1_ok nmX1 hw (mu_at _ _ _) rfl 4 (by decide) wF_X1_24 rfl rfl rfl rfl (Nat.le_of_ble_eq_true rfl) dX1_deliver_59 (fun H locs hw => ?_)
      rw [mu_mu] at hw
      exact r_vret cX hr hlocks hw (by by_cases hq : ar < y4 <;> simp only [hq, if_true, if_false] at * <;> simp_all) dX1_deliver_62
    · refine lv_aload_n hx hb dX1_deliver_35 rfl (lv_at hl 0 rfl) ?_
      refine lv_dup hx hb dX1_deliver_36 rfl ?_
      refine r_get cX inX1 hw hM rfl 2 (by decide) wF_X1_18 rfl dX1_deliver_37 ?_
      refine lv_iconst (v := 1) hx hb dX1_deliver_40 (by decide) ?_
      refine lv_iadd hx hb dX1_deliver_41 ?_
      refine r_put (fs' := [.int y0, .int y1, .int (y2 + 1), .int y3, .int y4]) cX inX1 tyX1 tyX1_ok nmX1 hw hM rfl 2 (by decide) wF_X1_18 rfl rfl rfl rfl (Nat.le_of_ble_eq_true rfl) dX1_deliver_42 (fun H locs hw => ?_)
      refine lv_aload_n hx hb dX1_deliver_45 rfl (lv_at hl 0 rfl) ?_
      refine lv_iload_n hx hb dX1_deliver_46 rfl (lv_at hl 1 rfl) ?_
      refine r_put (fs' := [.int y0, .int y1, .int (y2 + 1), .int np, .int y4]) cX inX1 tyX1 tyX1_ok nmX1 hw (mu_at _ _ _) rfl 3 (by decide) wF_X1_21 rfl rfl rfl rfl (Nat.le_of_ble_eq_true rfl) dX1_deliver_47 (fun H locs hw => ?_)
      rw [mu_mu] at hw
      refine lv_aload_n hx hb dX1_deliver_50 rfl (lv_at hl 0 rfl) ?_
      refine lv_aload_n hx hb dX1_deliver_51 rfl (lv_at hl 0 rfl) ?_
      refine r_get cX inX1 hw (mu_at _ _ _) rfl 4 (by decide) wF_X1_24 rfl dX1_deliver_52 ?_
      refine lv_iload_n hx hb dX1_deliver_55 rfl (lv_at hl 2 rfl) ?_
      refine r_mmax (own := RX1) (index := 31) cX hl.1 wM_X1_31 (Nat.le_of_ble_eq_true rfl) (Nat.le_of_ble_eq_true rfl) (Nat.zero_le _) (Nat.zero_le _) dX1_deliver_56 ?_
      refine r_put (fs' := [.int y0, .int y1, .int (y2 + 1), .int np, .int (if y4 < ar then ar else y4)]) cX inX1 tyX1 tyX1_ok nmX1 hw (mu_at _ _ _) rfl 4 (by decide) wF_X1_24 rfl rfl rfl rfl (Nat.le_of_ble_eq_true rfl) dX1_deliver_59 (fun H locs hw => ?_)
      rw [mu_mu] at hw
      exact r_vret cX hr hlocks hw (by by_cases hq : ar < y4 <;> simp only [hq, if_true, if_false] at * <;> simp_all) dX1_deliver_62
  · refine lv_aload_n hx hb dX1_deliver_9 rfl (lv_at hl 0 rfl) ?_
    refine r_get cX inX1 hw hM rfl 3 (by decide) wF_X1_21 rfl dX1_deliver_10 ?_
    refine lv_iload_n hx hb dX1_deliver_13 rfl (lv_at hl 1 rfl) ?_
    refine lv_icmp_eq (tgt := 27) hx hb dX1_deliver_14 (by decide) (fun c14 => ?_) (fun c14 => ?_)
    · refine lv_aload_n hx hb dX1_deliver_27 rfl (lv_at hl 0 rfl) ?_
      refine lv_iload_n hx hb dX1_deliver_28 rfl (lv_at hl 2 rfl) ?_
      refine r_Vi cX hw hM rfl [.int ar] (c_X1_isOvertakenBy l G hM ar) wM_X1_27 mw_X1_isOvertakenBy ⟨Nat.le_of_ble_eq_true rfl, Nat.le_of_ble_eq_true rfl⟩ rfl rfl hl.1 (Nat.le_of_ble_eq_true rfl) dX1_deliver_29 ⟨Nat.le_of_ble_eq_true rfl, Nat.le_of_ble_eq_true rfl⟩ (fun r M1 H locs hp hw => ?_)
      obtain ⟨rfl, rfl⟩ := hp
      refine lv_if_eq (tgt := 45) hx hb dX1_deliver_32 (by decide) (fun c32 => ?_) (fun c32 => ?_)
      · refine lv_aload_n hx hb dX1_deliver_45 rfl (lv_at hl 0 rfl) ?_
        refine lv_iload_n hx hb dX1_deliver_46 rfl (lv_at hl 1 rfl) ?_
        refine r_put (fs' := [.int y0, .int y1, .int y2, .int np, .int y4]) cX inX1 tyX1 tyX1_ok nmX1 hw hM rfl 3 (by decide) wF_X1_21 rfl rfl rfl rfl (Nat.le_of_ble_eq_true rfl) dX1_deliver_47 (fun H locs hw => ?_)
        refine lv_aload_n hx hb dX1_deliver_50 rfl (lv_at hl 0 rfl) ?_
        refine lv_aload_n hx hb dX1_deliver_51 rfl (lv_at hl 0 rfl) ?_
        refine r_get cX inX1 hw (mu_at _ _ _) rfl 4 (by decide) wF_X1_24 rfl dX1_deliver_52 ?_
        refine lv_iload_n hx hb dX1_deliver_55 rfl (lv_at hl 2 rfl) ?_
        refine r_mmax (own := RX1) (index := 31) cX hl.1 wM_X1_31 (Nat.le_of_ble_eq_true rfl) (Nat.le_of_ble_eq_true rfl) (Nat.zero_le _) (Nat.zero_le _) dX1_deliver_56 ?_
        refine r_put (fs' := [.int y0, .int y1, .int y2, .int np, .int (if y4 < ar then ar else y4)]) cX inX1 tyX1 tyX1_ok nmX1 hw (mu_at _ _ _) rfl 4 (by decide) wF_X1_24 rfl rfl rfl rfl (Nat.le_of_ble_eq_true rfl) dX1_deliver_59 (fun H locs hw => ?_)
        rw [mu_mu] at hw
        exact r_vret cX hr hlocks hw (by by_cases hq : ar < y4 <;> simp only [hq, if_true, if_false] at * <;> simp_all) dX1_deliver_62
      · refine lv_aload_n hx hb dX1_deliver_35 rfl (lv_at hl 0 rfl) ?_
        refine lv_dup hx hb dX1_deliver_36 rfl ?_
        refine r_get cX inX1 hw hM rfl 2 (by decide) wF_X1_18 rfl dX1_deliver_37 ?_
        refine lv_iconst (v := 1) hx hb dX1_deliver_40 (by decide) ?_
        refine lv_iadd hx hb dX1_deliver_41 ?_
        refine r_put (fs' := [.int y0, .int y1, .int (y2 + 1), .int y3, .int y4]) cX inX1 tyX1 tyX1_ok nmX1 hw hM rfl 2 (by decide) wF_X1_18 rfl rfl rfl rfl (Nat.le_of_ble_eq_true rfl) dX1_deliver_42 (fun H locs hw => ?_)
        refine lv_aload_n hx hb dX1_deliver_45 rfl (lv_at hl 0 rfl) ?_
        refine lv_iload_n hx hb dX1_deliver_46 rfl (lv_at hl 1 rfl) ?_
        refine r_put (fs' := [.int y0, .int y1, .int (y2 + 1), .int np, .int y4]) cX inX1 tyX1 tyX1_ok nmX1 hw (mu_at _ _ _) rfl 3 (by decide) wF_X1_21 rfl rfl rfl rfl (Nat.le_of_ble_eq_true rfl) dX1_deliver_47 (fun H locs hw => ?_)
        rw [mu_mu] at hw
        refine lv_aload_n hx hb dX1_deliver_50 rfl (lv_at hl 0 rfl) ?_
        refine lv_aload_n hx hb dX1_deliver_51 rfl (lv_at hl 0 rfl) ?_
        refine r_get cX inX1 hw (mu_at _ _ _) rfl 4 (by decide) wF_X1_24 rfl dX1_deliver_52 ?_
        refine lv_iload_n hx hb dX1_deliver_55 rfl (lv_at hl 2 rfl) ?_
        refine r_mmax (own := RX1) (index := 31) cX hl.1 wM_X1_31 (Nat.le_of_ble_eq_true rfl) (Nat.le_of_ble_eq_true rfl) (Nat.zero_le _) (Nat.zero_le _) dX1_deliver_56 ?_
        refine r_put (fs' := [.int y0, .int y1, .int (y2 + 1), .int np, .int (if y4 < ar then ar else y4)]) cX inX1 tyX1 tyX1_ok nmX1 hw (mu_at _ _ _) rfl 4 (by decide) wF_X1_24 rfl rfl rfl rfl (Nat.le_of_ble_eq_true rfl) dX1_deliver_59 (fun H locs hw => ?_)
        rw [mu_mu] at hw
        exact r_vret cX hr hlocks hw (by by_cases hq : ar < y4 <;> simp only [hq, if_true, if_false] at * <;> simp_all) dX1_deliver_62
    · refine lv_aload_n hx hb dX1_deliver_17 rfl (lv_at hl 0 rfl) ?_
      refine lv_dup hx hb dX1_deliver_18 rfl ?_
      refine r_get cX inX1 hw hM rfl 1 (by decide) wF_X1_15 rfl dX1_deliver_19 ?_
      refine lv_iconst (v := 1) hx hb dX1_deliver_22 (by decide) ?_
      refine lv_iadd hx hb dX1_deliver_23 ?_
      refine r_put (fs' := [.int y0, .int (y1 + 1), .int y2, .int y3, .int y4]) cX inX1 tyX1 tyX1_ok nmX1 hw hM rfl 1 (by decide) wF_X1_15 rfl rfl rfl rfl (Nat.le_of_ble_eq_true rfl) dX1_deliver_24 (fun H locs hw => ?_)
      refine lv_aload_n hx hb dX1_deliver_27 rfl (lv_at hl 0 rfl) ?_
      refine lv_iload_n hx hb dX1_deliver_28 rfl (lv_at hl 2 rfl) ?_
      refine r_Vi cX hw (mu_at _ _ _) rfl [.int ar] (c_X1_isOvertakenBy l G (mu_at _ _ _) ar) wM_X1_27 mw_X1_isOvertakenBy ⟨Nat.le_of_ble_eq_true rfl, Nat.le_of_ble_eq_true rfl⟩ rfl rfl hl.1 (Nat.le_of_ble_eq_true rfl) dX1_deliver_29 ⟨Nat.le_of_ble_eq_true rfl, Nat.le_of_ble_eq_true rfl⟩ (fun r M1 H locs hp hw => ?_)
      obtain ⟨rfl, rfl⟩ := hp
      refine lv_if_eq (tgt := 45) hx hb dX1_deliver_32 (by decide) (fun c32 => ?_) (fun c32 => ?_)
      · refine lv_aload_n hx hb dX1_deliver_45 rfl (lv_at hl 0 rfl) ?_
        refine lv_iload_n hx hb dX1_deliver_46 rfl (lv_at hl 1 rfl) ?_
        refine r_put (fs' := [.int y0, .int (y1 + 1), .int y2, .int np, .int y4]) cX inX1 tyX1 tyX1_ok nmX1 hw (mu_at _ _ _) rfl 3 (by decide) wF_X1_21 rfl rfl rfl rfl (Nat.le_of_ble_eq_true rfl) dX1_deliver_47 (fun H locs hw => ?_)
        rw [mu_mu] at hw
        refine lv_aload_n hx hb dX1_deliver_50 rfl (lv_at hl 0 rfl) ?_
        refine lv_aload_n hx hb dX1_deliver_51 rfl (lv_at hl 0 rfl) ?_
        refine r_get cX inX1 hw (mu_at _ _ _) rfl 4 (by decide) wF_X1_24 rfl dX1_deliver_52 ?_
        refine lv_iload_n hx hb dX1_deliver_55 rfl (lv_at hl 2 rfl) ?_
        refine r_mmax (own := RX1) (index := 31) cX hl.1 wM_X1_31 (Nat.le_of_ble_eq_true rfl) (Nat.le_of_ble_eq_true rfl) (Nat.zero_le _) (Nat.zero_le _) dX1_deliver_56 ?_
        refine r_put (fs' := [.int y0, .int (y1 + 1), .int y2, .int np, .int (if y4 < ar then ar else y4)]) cX inX1 tyX1 tyX1_ok nmX1 hw (mu_at _ _ _) rfl 4 (by decide) wF_X1_24 rfl rfl rfl rfl (Nat.le_of_ble_eq_true rfl) dX1_deliver_59 (fun H locs hw => ?_)
        rw [mu_mu] at hw
        exact r_vret cX hr hlocks hw (by by_cases hq : ar < y4 <;> simp only [hq, if_true, if_false] at * <;> simp_all) dX1_deliver_62
      · refine lv_aload_n hx hb dX1_deliver_35 rfl (lv_at hl 0 rfl) ?_
        refine lv_dup hx hb dX1_deliver_36 rfl ?_
        refine r_get cX inX1 hw (mu_at _ _ _) rfl 2 (by decide) wF_X1_18 rfl dX1_deliver_37 ?_
        refine lv_iconst (v := 1) hx hb dX1_deliver_40 (by decide) ?_
        refine lv_iadd hx hb dX1_deliver_41 ?_
        refine r_put (fs' := [.int y0, .int (y1 + 1), .int (y2 + 1), .int y3, .int y4]) cX inX1 tyX1 tyX1_ok nmX1 hw (mu_at _ _ _) rfl 2 (by decide) wF_X1_18 rfl rfl rfl rfl (Nat.le_of_ble_eq_true rfl) dX1_deliver_42 (fun H locs hw => ?_)
        rw [mu_mu] at hw
        refine lv_aload_n hx hb dX1_deliver_45 rfl (lv_at hl 0 rfl) ?_
        refine lv_iload_n hx hb dX1_deliver_46 rfl (lv_at hl 1 rfl) ?_
        refine r_put (fs' := [.int y0, .int (y1 + 1), .int (y2 + 1), .int np, .int y4]) cX inX1 tyX1 tyX1_ok nmX1 hw (mu_at _ _ _) rfl 3 (by decide) wF_X1_21 rfl rfl rfl rfl (Nat.le_of_ble_eq_true rfl) dX1_deliver_47 (fun H locs hw => ?_)
        rw [mu_mu] at hw
        refine lv_aload_n hx hb dX1_deliver_50 rfl (lv_at hl 0 rfl) ?_
        refine lv_aload_n hx hb dX1_deliver_51 rfl (lv_at hl 0 rfl) ?_
        refine r_get cX inX1 hw (mu_at _ _ _) rfl 4 (by decide) wF_X1_24 rfl dX1_deliver_52 ?_
        refine lv_iload_n hx hb dX1_deliver_55 rfl (lv_at hl 2 rfl) ?_
        refine r_mmax (own := RX1) (index := 31) cX hl.1 wM_X1_31 (Nat.le_of_ble_eq_true rfl) (Nat.le_of_ble_eq_true rfl) (Nat.zero_le _) (Nat.zero_le _) dX1_deliver_56 ?_
        refine r_put (fs' := [.int y0, .int (y1 + 1), .int (y2 + 1), .int np, .int (if y4 < ar then ar else y4)]) cX inX1 tyX1 tyX1_ok nmX1 hw (mu_at _ _ _) rfl 4 (by decide) wF_X1_24 rfl rfl rfl rfl (Nat.le_of_ble_eq_true rfl) dX1_deliver_59 (fun H locs hw => ?_)
        rw [mu_mu] at hw
        exact r_vret cX hr hlocks hw (by by_cases hq : ar < y4 <;> simp only [hq, if_true, if_false] at * <;> simp_all) dX1_deliver_62
