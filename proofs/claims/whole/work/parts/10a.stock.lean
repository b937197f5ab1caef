-- RoomRing$Stock.allWeights
abbrev rm_X3_allWeights : Room := { frames := 0, cells := 0, slots := 0, locals := 0 }
theorem hd_X3_allWeights : yX3_allWeights.cls ≠ "java/lang/invoke/MethodHandle" ∧ yX3_allWeights.cls ≠ "java/lang/invoke/VarHandle" ∧ (parseMethodDescriptor yX3_allWeights.desc).map (fun d => d.parameters.length) = some 0 := by decide +kernel
set_option maxHeartbeats 4000000 in
set_option maxRecDepth 100000 in
theorem kX3_allWeights (l : Launch) (g : rr_G) (ad : Nat → Nat) (σ : rr_T) (out : Int) (h : M3_allWeights σ = some out) : Met l yX3_allWeights wsX3_allWeights rm_X3_allWeights (rr_R g [.ref (ad 0)] (rr_wS g ad σ)) (vp_Si (fun x => x = rr_i out)) 0 0 (fun _ => False) := by
  refine rr_roI (cc := cX3_allWeights) (maxL := 3) (by decide) rfl (Nat.le_of_ble_eq_true rfl) ?_
  intro p e s m ar below meth c Q ls hx hb hml hown hts hK hP hret hl
  have hown : s.vm.findClass RX3 = some m.cls := hown
  have hl : lv_has ls 3 [(0, .ref (ad 0))] := hl
  have hinX3 : ∀ w ∈ u_ws RX3 TX3 7, w ∈ wsX3_allWeights := by decide +kernel
  have hk_0 : (Cond.fieldLink RX3 21 "RoomRing$Stock" "hostCount" "I").before ar s = true := hts _ (List.mem_of_getElem? (i := 1) (by decide +kernel))
  have hk_1 : (Cond.fieldLink RX3 15 "RoomRing$Stock" "weights" "[I").before ar s = true := hts _ (List.mem_of_getElem? (i := 2) (by decide +kernel))
  unfold M3_allWeights at h
  have hL3_allWeights_4 : ∀ (K : Int → Option Int) (n : Nat) (x1 : Int) (x2 : Int) (ls : Array Slot), L3_allWeights_4 σ K n x1 x2 = some out → lv_has ls 3 [(0, .ref (ad 0)), (1, .int (rr_i x1)), (2, .int (rr_i x2))] → (∀ (z1 : Int) (ls : Array Slot), K z1 = some out → lv_has ls 3 [(1, .int (rr_i z1))] → W p l e rm_X3_allWeights s m ar below meth c s.heap [] 0 0 Q (F0 m 27 ls [])) → W p l e rm_X3_allWeights s m ar below meth c s.heap [] 0 0 Q (F0 m 4 ls []) := by
    intro K n
    induction n with
    | zero => intro x1 x2 ls h hl hk; cases h
    | succ n ih =>
      intro x1 x2 ls h hl hk
      rw [L3_allWeights_4_s] at h
      refine lv_iload_n hx hb dX3_allWeights_4 rfl (lv_at hl 2 rfl) ?_
      refine lv_aload_n hx hb dX3_allWeights_5 rfl (lv_at hl 0 rfl) ?_
      refine va_get (D := g.1) (ci := 3) (v := .int (rr_i (σ 3 0))) (C := RX3) (T := TX3) (N := 7) hx hb hts hinX3 hown hK.1 hP 0 rfl rfl 3 (by decide) hk_0 (fun _ h9 => h9) rfl dX3_allWeights_6 ?_
      obtain ⟨hg1, h⟩ := rr_c_some h
      refine rr_icmp_ge (tgt := 27) hx hb dX3_allWeights_9 (by decide) hg1.1 hg1.2 (fun c2 => ?_) (fun c2 => ?_)
      · rw [if_pos c2] at h
        exact hk x1 ls h (lv_sub hl [1] rfl)
      · rw [if_neg c2] at h
        refine lv_iload_n hx hb dX3_allWeights_12 rfl (lv_at hl 1 rfl) ?_
        refine lv_aload_n hx hb dX3_allWeights_13 rfl (lv_at hl 0 rfl) ?_
        refine va_get (D := g.1) (ci := 3) (v := .ref (ad 2)) (C := RX3) (T := TX3) (N := 7) hx hb hts hinX3 hown hK.1 hP 0 rfl rfl 1 (by decide) hk_1 (fun _ h9 => h9) rfl dX3_allWeights_14 ?_
        refine lv_iload_n hx hb dX3_allWeights_17 rfl (lv_at hl 2 rfl) ?_
        obtain ⟨hg3, h⟩ := rr_c_some h
        refine rr_iald (f := (σ 1)) (N := 6) hx hb hK hP 2 rfl rfl (by decide) hg3 dX3_allWeights_18 ?_
        refine rr_iadd hx hb dX3_allWeights_19 ?_
        refine lv_istore_n (lv' := [(1, .int (rr_i (x1 + (σ 1 x2)))), (0, .ref (ad 0)), (2, .int (rr_i x2))]) hx hb dX3_allWeights_20 rfl hl (by decide) rfl (fun ls hl => ?_)
        refine rr_iinc (k := 2) (a := x2) (lv' := [(2, .int (rr_i (x2 + 1))), (1, .int (rr_i (x1 + (σ 1 x2)))), (0, .ref (ad 0))]) hx hb dX3_allWeights_21 hl rfl (by decide) rfl (fun ls hl => ?_)
        refine lv_goto (tgt := 4) hx hb dX3_allWeights_24 (by decide) ?_
        exact ih (x1 + (σ 1 x2)) (x2 + 1) ls h (lv_sub hl [2, 1, 0] rfl) hk
  refine rr_iconst hx hb dX3_allWeights_0 ?_
  refine lv_istore_n (lv' := [(1, .int (rr_i 0)), (0, .ref (ad 0))]) hx hb dX3_allWeights_1 rfl hl (by decide) rfl (fun ls hl => ?_)
  refine rr_iconst hx hb dX3_allWeights_2 ?_
  refine lv_istore_n (lv' := [(2, .int (rr_i 0)), (1, .int (rr_i 0)), (0, .ref (ad 0))]) hx hb dX3_allWeights_3 rfl hl (by decide) rfl (fun ls hl => ?_)
  refine hL3_allWeights_4 _ 1000 0 0 ls h (lv_sub hl [2, 1, 0] rfl) (fun y1_4 ls h hl => ?_)
  refine lv_iload_n hx hb dX3_allWeights_27 rfl (lv_at hl 0 rfl) ?_
  exact hret _ _ _ h dX3_allWeights_28
-- RoomRing$Stock.copyFrom
abbrev rm_X3_copyFrom : Room := { frames := 1, cells := 0, slots := 0, locals := 18 }
theorem hd_X3_copyFrom : yX3_copyFrom.cls ≠ "java/lang/invoke/MethodHandle" ∧ yX3_copyFrom.cls ≠ "java/lang/invoke/VarHandle" ∧ (parseMethodDescriptor yX3_copyFrom.desc).map (fun d => d.parameters.length) = some 1 := by decide +kernel
set_option maxHeartbeats 4000000 in
set_option maxRecDepth 100000 in
theorem kX3_copyFrom (l : Launch) (g : rr_G) (ad : Nat → Nat) (bd : Nat → Nat) (sz : Nat) (σ : rr_T) (τ : rr_T) (out : rr_T) (h : M3_copyFrom σ τ = some out) : Met l yX3_copyFrom wsX3_copyFrom rm_X3_copyFrom (rr_P g [.ref (ad 0), .ref (bd 0)] (rr_wS g ad σ ++ rr_wS g bd τ) sz) (rr_Qv g (rr_wS g ad out ++ rr_wS g bd τ) (va_A (rr_wS g ad σ ++ rr_wS g bd τ) sz)) 0 0 (va_A (rr_wS g ad σ ++ rr_wS g bd τ) sz) := by
  refine rr_rwV (cc := cX3_copyFrom) (maxL := 2) (fun σ => rr_wS g ad σ ++ rr_wS g bd τ) σ out (by decide) rfl (Nat.le_of_ble_eq_true rfl) ?_
  intro p e s m ar below meth c Q ls A hx hb hml hown hts hK hA hP hD hS hret hl
  have hP : va_P g.1 vwCl (rr_wS g ad σ ++ rr_wS g bd τ) s.heap := hP
  have hD : va_D A (rr_wS g ad σ ++ rr_wS g bd τ) := hD
  have hown : s.vm.findClass RX3 = some m.cls := hown
  have hl : lv_has ls 2 [(0, .ref (ad 0)), (1, .ref (bd 0))] := hl
  have hinX3 : ∀ w ∈ u_ws RX3 TX3 7, w ∈ wsX3_copyFrom := by decide +kernel
  have hk_0 : (Cond.fieldLink RX3 9 "RoomRing$Stock" "names" "[I").before ar s = true := hts _ (List.mem_of_getElem? (i := 1) (by decide +kernel))
  have hk_1 : (Cond.methodLink RX3 34 arraycopyName).before ar s = true := hts _ (List.mem_of_getElem? (i := 2) (by decide +kernel))
  have hk_2 : (Cond.native arraycopyName).before ar s = true := hts _ (List.mem_of_getElem? (i := 3) (by decide +kernel))
  have hk_3 : (Cond.static arraycopyName).before ar s = true := hts _ (List.mem_of_getElem? (i := 4) (by decide +kernel))
  have hk_4 : (Cond.initialized "java/lang/System").before ar s = true := hts _ (List.mem_of_getElem? (i := 5) (by decide +kernel))
  have hk_5 : (Cond.fieldLink RX3 15 "RoomRing$Stock" "weights" "[I").before ar s = true := hts _ (List.mem_of_getElem? (i := 6) (by decide +kernel))
  have hk_6 : (Cond.fieldLink RX3 18 "RoomRing$Stock" "keys" "[I").before ar s = true := hts _ (List.mem_of_getElem? (i := 7) (by decide +kernel))
  have hk_7 : (Cond.fieldLink RX3 21 "RoomRing$Stock" "hostCount" "I").before ar s = true := hts _ (List.mem_of_getElem? (i := 8) (by decide +kernel))
  have hk_8 : (Cond.fieldLink RX3 25 "RoomRing$Stock" "keyCount" "I").before ar s = true := hts _ (List.mem_of_getElem? (i := 9) (by decide +kernel))
  have hk_9 : (Cond.fieldLink RX3 28 "RoomRing$Stock" "extraShare" "I").before ar s = true := hts _ (List.mem_of_getElem? (i := 10) (by decide +kernel))
  have hk_10 : (Cond.fieldLink RX3 31 "RoomRing$Stock" "moved" "I").before ar s = true := hts _ (List.mem_of_getElem? (i := 11) (by decide +kernel))
  unfold M3_copyFrom at h
  refine lv_aload_n hx hb dX3_copyFrom_0 rfl (lv_at hl 1 rfl) ?_
  refine va_get (D := g.1) (ci := 3) (v := .ref (bd 1)) (C := RX3) (T := TX3) (N := 7) hx hb hts hinX3 hown hK.1 hP 4 rfl rfl 0 (by decide) hk_0 (fun _ h9 => h9) rfl dX3_copyFrom_1 ?_
  refine rr_iconst hx hb dX3_copyFrom_4 ?_
  refine lv_aload_n hx hb dX3_copyFrom_5 rfl (lv_at hl 0 rfl) ?_
  refine va_get (D := g.1) (ci := 3) (v := .ref (ad 1)) (C := RX3) (T := TX3) (N := 7) hx hb hts hinX3 hown hK.1 hP 0 rfl rfl 0 (by decide) hk_0 (fun _ h9 => h9) rfl dX3_copyFrom_6 ?_
  refine rr_iconst hx hb dX3_copyFrom_9 ?_
  refine rr_bipush hx hb dX3_copyFrom_10 (by decide +kernel) ?_
  refine rr_copy (f := (τ 0)) (f1 := (σ 0)) 6 rfl hx hb (by rw [hml]; exact hl.1.symm) hown hk_1 hk_2 hk_3 hk_4 hK hP hD hS 5 1 rfl rfl (by decide) (by decide) (by decide) (Nat.le_of_ble_eq_true rfl) (Nat.le_of_ble_eq_true rfl) dX3_copyFrom_12 (fun H locs hP hD hS => ?_)
  have hP : va_P g.1 vwCl (rr_wS g ad (rr_w σ 0 (rr_cp (τ 0) (σ 0) 6)) ++ rr_wS g bd τ) H := hP
  have hD : va_D A (rr_wS g ad (rr_w σ 0 (rr_cp (τ 0) (σ 0) 6)) ++ rr_wS g bd τ) := hD
  refine lv_aload_n hx hb dX3_copyFrom_15 rfl (lv_at hl 1 rfl) ?_
  refine va_get (D := g.1) (ci := 3) (v := .ref (bd 2)) (C := RX3) (T := TX3) (N := 7) hx hb hts hinX3 hown hK.1 hP 4 rfl rfl 1 (by decide) hk_5 (fun _ h9 => h9) rfl dX3_copyFrom_16 ?_
  refine rr_iconst hx hb dX3_copyFrom_19 ?_
  refine lv_aload_n hx hb dX3_copyFrom_20 rfl (lv_at hl 0 rfl) ?_
  refine va_get (D := g.1) (ci := 3) (v := .ref (ad 2)) (C := RX3) (T := TX3) (N := 7) hx hb hts hinX3 hown hK.1 hP 0 rfl rfl 1 (by decide) hk_5 (fun _ h9 => h9) rfl dX3_copyFrom_21 ?_
  refine rr_iconst hx hb dX3_copyFrom_24 ?_
  refine rr_bipush hx hb dX3_copyFrom_25 (by decide +kernel) ?_
  refine rr_copy (f := (τ 1)) (f1 := (σ 1)) 6 rfl hx hb (by rw [hml]; exact hl.1.symm) hown hk_1 hk_2 hk_3 hk_4 hK hP hD hS 6 2 rfl rfl (by decide) (by decide) (by decide) (Nat.le_of_ble_eq_true rfl) (Nat.le_of_ble_eq_true rfl) dX3_copyFrom_27 (fun H locs hP hD hS => ?_)
  have hP : va_P g.1 vwCl (rr_wS g ad (rr_w (rr_w σ 0 (rr_cp (τ 0) (σ 0) 6)) 1 (rr_cp (τ 1) (σ 1) 6)) ++ rr_wS g bd τ) H := hP
  have hD : va_D A (rr_wS g ad (rr_w (rr_w σ 0 (rr_cp (τ 0) (σ 0) 6)) 1 (rr_cp (τ 1) (σ 1) 6)) ++ rr_wS g bd τ) := hD
  refine lv_aload_n hx hb dX3_copyFrom_30 rfl (lv_at hl 1 rfl) ?_
  refine va_get (D := g.1) (ci := 3) (v := .ref (bd 3)) (C := RX3) (T := TX3) (N := 7) hx hb hts hinX3 hown hK.1 hP 4 rfl rfl 2 (by decide) hk_6 (fun _ h9 => h9) rfl dX3_copyFrom_31 ?_
  refine rr_iconst hx hb dX3_copyFrom_34 ?_
  refine lv_aload_n hx hb dX3_copyFrom_35 rfl (lv_at hl 0 rfl) ?_
  refine va_get (D := g.1) (ci := 3) (v := .ref (ad 3)) (C := RX3) (T := TX3) (N := 7) hx hb hts hinX3 hown hK.1 hP 0 rfl rfl 2 (by decide) hk_6 (fun _ h9 => h9) rfl dX3_copyFrom_36 ?_
  refine rr_iconst hx hb dX3_copyFrom_39 ?_
  refine rr_bipush hx hb dX3_copyFrom_40 (by decide +kernel) ?_
  refine rr_copy (f := (τ 2)) (f1 := (σ 2)) 40 rfl hx hb (by rw [hml]; exact hl.1.symm) hown hk_1 hk_2 hk_3 hk_4 hK hP hD hS 7 3 rfl rfl (by decide) (by decide) (by decide) (Nat.le_of_ble_eq_true rfl) (Nat.le_of_ble_eq_true rfl) dX3_copyFrom_42 (fun H locs hP hD hS => ?_)
  have hP : va_P g.1 vwCl (rr_wS g ad (rr_w (rr_w (rr_w σ 0 (rr_cp (τ 0) (σ 0) 6)) 1 (rr_cp (τ 1) (σ 1) 6)) 2 (rr_cp (τ 2) (σ 2) 40)) ++ rr_wS g bd τ) H := hP
  have hD : va_D A (rr_wS g ad (rr_w (rr_w (rr_w σ 0 (rr_cp (τ 0) (σ 0) 6)) 1 (rr_cp (τ 1) (σ 1) 6)) 2 (rr_cp (τ 2) (σ 2) 40)) ++ rr_wS g bd τ) := hD
  refine lv_aload_n hx hb dX3_copyFrom_45 rfl (lv_at hl 0 rfl) ?_
  refine lv_aload_n hx hb dX3_copyFrom_46 rfl (lv_at hl 1 rfl) ?_
  refine va_get (D := g.1) (ci := 3) (v := .int (rr_i (τ 3 0))) (C := RX3) (T := TX3) (N := 7) hx hb hts hinX3 hown hK.1 hP 4 rfl rfl 3 (by decide) hk_7 (fun _ h9 => h9) rfl dX3_copyFrom_47 ?_
  refine va_put (D := g.1) (ci := 3) (v := .int (rr_i (τ 3 0))) (ty := .int) (C := RX3) (T := TX3) (N := 7) hx hb hts hinX3 tyX3 tyX3_ok nmX3 hown hK.1 hP hD hS 0 rfl rfl 3 (by decide) hk_7 (fun _ h9 => h9) rfl (by decide +kernel) rfl rfl (Nat.le_of_ble_eq_true rfl) dX3_copyFrom_50 (fun H locs hP hD hS => ?_)
  have hP : va_P g.1 vwCl (rr_wS g ad (rr_t (rr_w (rr_w (rr_w σ 0 (rr_cp (τ 0) (σ 0) 6)) 1 (rr_cp (τ 1) (σ 1) 6)) 2 (rr_cp (τ 2) (σ 2) 40)) 3 (τ 3 0)) ++ rr_wS g bd τ) H := hP
  have hD : va_D A (rr_wS g ad (rr_t (rr_w (rr_w (rr_w σ 0 (rr_cp (τ 0) (σ 0) 6)) 1 (rr_cp (τ 1) (σ 1) 6)) 2 (rr_cp (τ 2) (σ 2) 40)) 3 (τ 3 0)) ++ rr_wS g bd τ) := hD
  refine lv_aload_n hx hb dX3_copyFrom_53 rfl (lv_at hl 0 rfl) ?_
  refine lv_aload_n hx hb dX3_copyFrom_54 rfl (lv_at hl 1 rfl) ?_
  refine va_get (D := g.1) (ci := 3) (v := .int (rr_i (τ 4 0))) (C := RX3) (T := TX3) (N := 7) hx hb hts hinX3 hown hK.1 hP 4 rfl rfl 4 (by decide) hk_8 (fun _ h9 => h9) rfl dX3_copyFrom_55 ?_
  refine va_put (D := g.1) (ci := 3) (v := .int (rr_i (τ 4 0))) (ty := .int) (C := RX3) (T := TX3) (N := 7) hx hb hts hinX3 tyX3 tyX3_ok nmX3 hown hK.1 hP hD hS 0 rfl rfl 4 (by decide) hk_8 (fun _ h9 => h9) rfl (by decide +kernel) rfl rfl (Nat.le_of_ble_eq_true rfl) dX3_copyFrom_58 (fun H locs hP hD hS => ?_)
  have hP : va_P g.1 vwCl (rr_wS g ad (rr_t (rr_t (rr_w (rr_w (rr_w σ 0 (rr_cp (τ 0) (σ 0) 6)) 1 (rr_cp (τ 1) (σ 1) 6)) 2 (rr_cp (τ 2) (σ 2) 40)) 3 (τ 3 0)) 4 (τ 4 0)) ++ rr_wS g bd τ) H := hP
  have hD : va_D A (rr_wS g ad (rr_t (rr_t (rr_w (rr_w (rr_w σ 0 (rr_cp (τ 0) (σ 0) 6)) 1 (rr_cp (τ 1) (σ 1) 6)) 2 (rr_cp (τ 2) (σ 2) 40)) 3 (τ 3 0)) 4 (τ 4 0)) ++ rr_wS g bd τ) := hD
  refine lv_aload_n hx hb dX3_copyFrom_61 rfl (lv_at hl 0 rfl) ?_
  refine lv_aload_n hx hb dX3_copyFrom_62 rfl (lv_at hl 1 rfl) ?_
  refine va_get (D := g.1) (ci := 3) (v := .int (rr_i (τ 5 0))) (C := RX3) (T := TX3) (N := 7) hx hb hts hinX3 hown hK.1 hP 4 rfl rfl 5 (by decide) hk_9 (fun _ h9 => h9) rfl dX3_copyFrom_63 ?_
  refine va_put (D := g.1) (ci := 3) (v := .int (rr_i (τ 5 0))) (ty := .int) (C := RX3) (T := TX3) (N := 7) hx hb hts hinX3 tyX3 tyX3_ok nmX3 hown hK.1 hP hD hS 0 rfl rfl 5 (by decide) hk_9 (fun _ h9 => h9) rfl (by decide +kernel) rfl rfl (Nat.le_of_ble_eq_true rfl) dX3_copyFrom_66 (fun H locs hP hD hS => ?_)
  have hP : va_P g.1 vwCl (rr_wS g ad (rr_t (rr_t (rr_t (rr_w (rr_w (rr_w σ 0 (rr_cp (τ 0) (σ 0) 6)) 1 (rr_cp (τ 1) (σ 1) 6)) 2 (rr_cp (τ 2) (σ 2) 40)) 3 (τ 3 0)) 4 (τ 4 0)) 5 (τ 5 0)) ++ rr_wS g bd τ) H := hP
  have hD : va_D A (rr_wS g ad (rr_t (rr_t (rr_t (rr_w (rr_w (rr_w σ 0 (rr_cp (τ 0) (σ 0) 6)) 1 (rr_cp (τ 1) (σ 1) 6)) 2 (rr_cp (τ 2) (σ 2) 40)) 3 (τ 3 0)) 4 (τ 4 0)) 5 (τ 5 0)) ++ rr_wS g bd τ) := hD
  refine lv_aload_n hx hb dX3_copyFrom_69 rfl (lv_at hl 0 rfl) ?_
  refine lv_aload_n hx hb dX3_copyFrom_70 rfl (lv_at hl 1 rfl) ?_
  refine va_get (D := g.1) (ci := 3) (v := .int (rr_i (τ 6 0))) (C := RX3) (T := TX3) (N := 7) hx hb hts hinX3 hown hK.1 hP 4 rfl rfl 6 (by decide) hk_10 (fun _ h9 => h9) rfl dX3_copyFrom_71 ?_
  refine va_put (D := g.1) (ci := 3) (v := .int (rr_i (τ 6 0))) (ty := .int) (C := RX3) (T := TX3) (N := 7) hx hb hts hinX3 tyX3 tyX3_ok nmX3 hown hK.1 hP hD hS 0 rfl rfl 6 (by decide) hk_10 (fun _ h9 => h9) rfl (by decide +kernel) rfl rfl (Nat.le_of_ble_eq_true rfl) dX3_copyFrom_74 (fun H locs hP hD hS => ?_)
  have hP : va_P g.1 vwCl (rr_wS g ad (rr_t (rr_t (rr_t (rr_t (rr_w (rr_w (rr_w σ 0 (rr_cp (τ 0) (σ 0) 6)) 1 (rr_cp (τ 1) (σ 1) 6)) 2 (rr_cp (τ 2) (σ 2) 40)) 3 (τ 3 0)) 4 (τ 4 0)) 5 (τ 5 0)) 6 (τ 6 0)) ++ rr_wS g bd τ) H := hP
  have hD : va_D A (rr_wS g ad (rr_t (rr_t (rr_t (rr_t (rr_w (rr_w (rr_w σ 0 (rr_cp (τ 0) (σ 0) 6)) 1 (rr_cp (τ 1) (σ 1) 6)) 2 (rr_cp (τ 2) (σ 2) 40)) 3 (τ 3 0)) 4 (τ 4 0)) 5 (τ 5 0)) 6 (τ 6 0)) ++ rr_wS g bd τ) := hD
  exact hret _ _ _ _ _ h hP hD hS dX3_copyFrom_77
-- RoomRing.isName
abbrev rm_X4_isName : Room := { frames := 0, cells := 0, slots := 0, locals := 0 }
theorem hd_X4_isName : yX4_isName.cls ≠ "java/lang/invoke/MethodHandle" ∧ yX4_isName.cls ≠ "java/lang/invoke/VarHandle" ∧ (parseMethodDescriptor yX4_isName.desc).map (fun d => d.parameters.length) = some 1 := by decide +kernel
set_option maxHeartbeats 4000000 in
set_option maxRecDepth 100000 in
theorem kX4_isName (l : Launch) (g : rr_G) (x0 : Int) (out : Int) (h : M4_isName x0 = some out) : Met l yX4_isName wsX4_isName rm_X4_isName (rr_R g [.int (rr_i x0)] (([] : va_W))) (vp_Si (fun x => x = rr_i out)) 0 0 (fun _ => False) := by
  refine rr_roZ (cc := cX4_isName) (maxL := 1) (by decide) rfl (Nat.le_of_ble_eq_true rfl) ?_
  intro p e s m ar below meth c Q ls hx hb hml hown hts hK hP hret hl
  have hown : s.vm.findClass RX4 = some m.cls := hown
  have hl : lv_has ls 1 [(0, .int (rr_i x0))] := hl
  unfold M4_isName at h
  refine lv_iload_n hx hb dX4_isName_0 rfl (lv_at hl 0 rfl) ?_
  obtain ⟨hg1, h⟩ := rr_c_some h
  refine rr_if_lt (tgt := 14) hx hb dX4_isName_1 (by decide) hg1 (fun c2 => ?_) (fun c2 => ?_)
  · rw [if_pos c2] at h
    refine rr_iconst hx hb dX4_isName_14 ?_
    exact hret _ _ _ h (by decide) dX4_isName_15
  · rw [if_neg c2] at h
    refine lv_iload_n hx hb dX4_isName_4 rfl (lv_at hl 0 rfl) ?_
    refine rr_bipush hx hb dX4_isName_5 (by decide +kernel) ?_
    refine rr_icmp_gt (tgt := 14) hx hb dX4_isName_7 (by decide) hg1 (by decide) (fun c3 => ?_) (fun c3 => ?_)
    · rw [if_pos c3] at h
      refine rr_iconst hx hb dX4_isName_14 ?_
      exact hret _ _ _ h (by decide) dX4_isName_15
    · rw [if_neg c3] at h
      refine rr_iconst hx hb dX4_isName_10 ?_
      refine lv_goto (tgt := 15) hx hb dX4_isName_11 (by decide) ?_
      exact hret _ _ _ h (by decide) dX4_isName_15
-- RoomRing.isWeight
abbrev rm_X4_isWeight : Room := { frames := 0, cells := 0, slots := 0, locals := 0 }
theorem hd_X4_isWeight : yX4_isWeight.cls ≠ "java/lang/invoke/MethodHandle" ∧ yX4_isWeight.cls ≠ "java/lang/invoke/VarHandle" ∧ (parseMethodDescriptor yX4_isWeight.desc).map (fun d => d.parameters.length) = some 1 := by decide +kernel
set_option maxHeartbeats 4000000 in
set_option maxRecDepth 100000 in
theorem kX4_isWeight (l : Launch) (g : rr_G) (x0 : Int) (out : Int) (h : M4_isWeight x0 = some out) : Met l yX4_isWeight wsX4_isWeight rm_X4_isWeight (rr_R g [.int (rr_i x0)] (([] : va_W))) (vp_Si (fun x => x = rr_i out)) 0 0 (fun _ => False) := by
  refine rr_roZ (cc := cX4_isWeight) (maxL := 1) (by decide) rfl (Nat.le_of_ble_eq_true rfl) ?_
  intro p e s m ar below meth c Q ls hx hb hml hown hts hK hP hret hl
  have hown : s.vm.findClass RX4 = some m.cls := hown
  have hl : lv_has ls 1 [(0, .int (rr_i x0))] := hl
  unfold M4_isWeight at h
  refine lv_iload_n hx hb dX4_isWeight_0 rfl (lv_at hl 0 rfl) ?_
  refine rr_iconst hx hb dX4_isWeight_1 ?_
  obtain ⟨hg1, h⟩ := rr_c_some h
  refine rr_icmp_lt (tgt := 14) hx hb dX4_isWeight_2 (by decide) hg1 (by decide) (fun c2 => ?_) (fun c2 => ?_)
  · rw [if_pos c2] at h
    refine rr_iconst hx hb dX4_isWeight_14 ?_
    exact hret _ _ _ h (by decide) dX4_isWeight_15
  · rw [if_neg c2] at h
    refine lv_iload_n hx hb dX4_isWeight_5 rfl (lv_at hl 0 rfl) ?_
    refine rr_iconst hx hb dX4_isWeight_6 ?_
    refine rr_icmp_gt (tgt := 14) hx hb dX4_isWeight_7 (by decide) hg1 (by decide) (fun c3 => ?_) (fun c3 => ?_)
    · rw [if_pos c3] at h
      refine rr_iconst hx hb dX4_isWeight_14 ?_
      exact hret _ _ _ h (by decide) dX4_isWeight_15
    · rw [if_neg c3] at h
      refine rr_iconst hx hb dX4_isWeight_10 ?_
      refine lv_goto (tgt := 15) hx hb dX4_isWeight_11 (by decide) ?_
      exact hret _ _ _ h (by decide) dX4_isWeight_15
-- RoomRing$Stock.findHost
abbrev rm_X3_findHost : Room := { frames := 0, cells := 0, slots := 0, locals := 0 }
theorem hd_X3_findHost : yX3_findHost.cls ≠ "java/lang/invoke/MethodHandle" ∧ yX3_findHost.cls ≠ "java/lang/invoke/VarHandle" ∧ (parseMethodDescriptor yX3_findHost.desc).map (fun d => d.parameters.length) = some 1 := by decide +kernel
set_option maxHeartbeats 4000000 in
set_option maxRecDepth 100000 in
theorem kX3_findHost (l : Launch) (g : rr_G) (ad : Nat → Nat) (x1 : Int) (σ : rr_T) (out : Int) (h : M3_findHost x1 σ = some out) : Met l yX3_findHost wsX3_findHost rm_X3_findHost (rr_R g [.ref (ad 0), .int (rr_i x1)] (rr_wS g ad σ)) (vp_Si (fun x => x = rr_i out)) 0 0 (fun _ => False) := by
  refine rr_roI (cc := cX3_findHost) (maxL := 3) (by decide) rfl (Nat.le_of_ble_eq_true rfl) ?_
  intro p e s m ar below meth c Q ls hx hb hml hown hts hK hP hret hl
  have hown : s.vm.findClass RX3 = some m.cls := hown
  have hl : lv_has ls 3 [(0, .ref (ad 0)), (1, .int (rr_i x1))] := hl
  have hinX3 : ∀ w ∈ u_ws RX3 TX3 7, w ∈ wsX3_findHost := by decide +kernel
  have hk_0 : (Cond.fieldLink RX3 21 "RoomRing$Stock" "hostCount" "I").before ar s = true := hts _ (List.mem_of_getElem? (i := 1) (by decide +kernel))
  have hk_1 : (Cond.fieldLink RX3 9 "RoomRing$Stock" "names" "[I").before ar s = true := hts _ (List.mem_of_getElem? (i := 2) (by decide +kernel))
  unfold M3_findHost at h
  have hL3_findHost_2 : ∀ (x1 : Int) (K : Option Int) (n : Nat) (x2 : Int) (ls : Array Slot), L3_findHost_2 σ x1 K n x2 = some out → lv_has ls 3 [(0, .ref (ad 0)), (1, .int (rr_i x1)), (2, .int (rr_i x2))] → (∀ (ls : Array Slot), K = some out → lv_has ls 3 [] → W p l e rm_X3_findHost s m ar below meth c s.heap [] 0 0 Q (F0 m 28 ls [])) → W p l e rm_X3_findHost s m ar below meth c s.heap [] 0 0 Q (F0 m 2 ls []) := by
    intro x1 K n
    induction n with
    | zero => intro x2 ls h hl hk; cases h
    | succ n ih =>
      intro x2 ls h hl hk
      rw [L3_findHost_2_s] at h
      refine lv_iload_n hx hb dX3_findHost_2 rfl (lv_at hl 2 rfl) ?_
      refine lv_aload_n hx hb dX3_findHost_3 rfl (lv_at hl 0 rfl) ?_
      refine va_get (D := g.1) (ci := 3) (v := .int (rr_i (σ 3 0))) (C := RX3) (T := TX3) (N := 7) hx hb hts hinX3 hown hK.1 hP 0 rfl rfl 3 (by decide) hk_0 (fun _ h9 => h9) rfl dX3_findHost_4 ?_
      obtain ⟨hg1, h⟩ := rr_c_some h
      refine rr_icmp_ge (tgt := 28) hx hb dX3_findHost_7 (by decide) hg1.1 hg1.2 (fun c2 => ?_) (fun c2 => ?_)
      · rw [if_pos c2] at h
        exact hk ls h (lv_sub hl [] rfl)
      · rw [if_neg c2] at h
        refine lv_aload_n hx hb dX3_findHost_10 rfl (lv_at hl 0 rfl) ?_
        refine va_get (D := g.1) (ci := 3) (v := .ref (ad 1)) (C := RX3) (T := TX3) (N := 7) hx hb hts hinX3 hown hK.1 hP 0 rfl rfl 0 (by decide) hk_1 (fun _ h9 => h9) rfl dX3_findHost_11 ?_
        refine lv_iload_n hx hb dX3_findHost_14 rfl (lv_at hl 2 rfl) ?_
        obtain ⟨hg3, h⟩ := rr_c_some h
        refine rr_iald (f := (σ 0)) (N := 6) hx hb hK hP 1 rfl rfl (by decide) hg3 dX3_findHost_15 ?_
        refine lv_iload_n hx hb dX3_findHost_16 rfl (lv_at hl 1 rfl) ?_
        obtain ⟨hg4, h⟩ := rr_c_some h
        refine rr_icmp_ne (tgt := 22) hx hb dX3_findHost_17 (by decide) hg4.1 hg4.2 (fun c5 => ?_) (fun c5 => ?_)
        · rw [if_neg c5] at h
          refine rr_iinc (k := 2) (a := x2) (lv' := [(2, .int (rr_i (x2 + 1))), (0, .ref (ad 0)), (1, .int (rr_i x1))]) hx hb dX3_findHost_22 hl rfl (by decide) rfl (fun ls hl => ?_)
          refine lv_goto (tgt := 2) hx hb dX3_findHost_25 (by decide) ?_
          exact ih (x2 + 1) ls h (lv_sub hl [1, 2, 0] rfl) hk
        · rw [if_pos c5] at h
          refine lv_iload_n hx hb dX3_findHost_20 rfl (lv_at hl 2 rfl) ?_
          exact hret _ _ _ h dX3_findHost_21
  refine rr_iconst hx hb dX3_findHost_0 ?_
  refine lv_istore_n (lv' := [(2, .int (rr_i 0)), (0, .ref (ad 0)), (1, .int (rr_i x1))]) hx hb dX3_findHost_1 rfl hl (by decide) rfl (fun ls hl => ?_)
  refine hL3_findHost_2 x1 _ 1000 0 ls h (lv_sub hl [1, 2, 0] rfl) (fun ls h hl => ?_)
  refine rr_iconst hx hb dX3_findHost_28 ?_
  exact hret _ _ _ h dX3_findHost_29
-- RoomRing$Stock.addHost
abbrev rm_X3_addHost : Room := { frames := 1, cells := 0, slots := 0, locals := 22 }
theorem hd_X3_addHost : yX3_addHost.cls ≠ "java/lang/invoke/MethodHandle" ∧ yX3_addHost.cls ≠ "java/lang/invoke/VarHandle" ∧ (parseMethodDescriptor yX3_addHost.desc).map (fun d => d.parameters.length) = some 2 := by decide +kernel
set_option maxHeartbeats 4000000 in
set_option maxRecDepth 100000 in
theorem kX3_addHost (l : Launch) (g : rr_G) (ad : Nat → Nat) (sz : Nat) (x1 : Int) (x2 : Int) (σ : rr_T) (out : (Int × rr_T)) (h : M3_addHost x1 x2 σ = some out) : Met l yX3_addHost wsX3_addHost rm_X3_addHost (rr_P g [.ref (ad 0), .int (rr_i x1), .int (rr_i x2)] (rr_wS g ad σ) sz) (rr_Qi g out.1 (rr_wS g ad out.2) (va_A (rr_wS g ad σ) sz)) 0 0 (va_A (rr_wS g ad σ) sz) := by
  refine rr_rwI (cc := cX3_addHost) (maxL := 4) (fun σ => rr_wS g ad σ) σ out (by decide) rfl (Nat.le_of_ble_eq_true rfl) ?_
  intro p e s m ar below meth c Q ls A hx hb hml hown hts hK hA hP hD hS hret hl
  have hP : va_P g.1 vwCl (rr_wS g ad σ) s.heap := hP
  have hD : va_D A (rr_wS g ad σ) := hD
  have hown : s.vm.findClass RX3 = some m.cls := hown
  have hl : lv_has ls 4 [(0, .ref (ad 0)), (1, .int (rr_i x1)), (2, .int (rr_i x2))] := hl
  have hinX3 : ∀ w ∈ u_ws RX3 TX3 7, w ∈ wsX3_addHost := by decide +kernel
  have hk_0 : (Cond.initialized RX4).before ar s = true := hts _ (List.mem_of_getElem? (i := 5) (by decide +kernel))
  have hk_1 : (Cond.static yX4_isName).before ar s = true := hts _ (List.mem_of_getElem? (i := 4) (by decide +kernel))
  have hk_2 : (Cond.static yX4_isWeight).before ar s = true := hts _ (List.mem_of_getElem? (i := 7) (by decide +kernel))
  have hk_3 : (Cond.fieldLink RX3 21 "RoomRing$Stock" "hostCount" "I").before ar s = true := hts _ (List.mem_of_getElem? (i := 1) (by decide +kernel))
  have hk_4 : (Cond.fieldLink RX3 9 "RoomRing$Stock" "names" "[I").before ar s = true := hts _ (List.mem_of_getElem? (i := 2) (by decide +kernel))
  have hk_5 : (Cond.fieldLink RX3 15 "RoomRing$Stock" "weights" "[I").before ar s = true := hts _ (List.mem_of_getElem? (i := 3) (by decide +kernel))
  unfold M3_addHost at h
  have hL3_addHost_45 : ∀ (x1 : Int) (x2 : Int) (K : Int → rr_T → Option (Int × rr_T)) (n : Nat) (x3 : Int) (σ : rr_T) (H : Heap) (locs : List Loc) (ls : Array Slot), L3_addHost_45 x1 x2 K n x3 σ = some out → va_P g.1 vwCl (rr_wS g ad σ) H → va_D A (rr_wS g ad σ) → va_S A s.heap H locs → lv_has ls 4 [(0, .ref (ad 0)), (1, .int (rr_i x1)), (2, .int (rr_i x2)), (3, .int (rr_i x3))] → (∀ (z3 : Int) (τ9 : rr_T) (H : Heap) (locs : List Loc) (ls : Array Slot), K z3 τ9 = some out → va_P g.1 vwCl (rr_wS g ad τ9) H → va_D A (rr_wS g ad τ9) → va_S A s.heap H locs → lv_has ls 4 [(0, .ref (ad 0)), (1, .int (rr_i x1)), (2, .int (rr_i x2)), (3, .int (rr_i z3))] → W p l e rm_X3_addHost s m ar below meth c H locs 0 0 Q (F0 m 95 ls [])) → W p l e rm_X3_addHost s m ar below meth c H locs 0 0 Q (F0 m 45 ls []) := by
    intro x1 x2 K n
    induction n with
    | zero => intro x3 σ H locs ls h hP hD hS hl hk; cases h
    | succ n ih =>
      intro x3 σ H locs ls h hP hD hS hl hk
      rw [L3_addHost_45_s] at h
      refine lv_iload_n hx hb dX3_addHost_45 rfl (lv_at hl 3 rfl) ?_
      obtain ⟨hg15, h⟩ := rr_c_some h
      refine rr_if_le (tgt := 95) hx hb dX3_addHost_46 (by decide) hg15 (fun c16 => ?_) (fun c16 => ?_)
      · rw [if_pos c16] at h
        exact hk x3 σ _ _ ls h hP hD hS (lv_sub hl [0, 1, 2, 3] rfl)
      · rw [if_neg c16] at h
        refine lv_aload_n hx hb dX3_addHost_49 rfl (lv_at hl 0 rfl) ?_
        refine va_get (D := g.1) (ci := 3) (v := .ref (ad 1)) (C := RX3) (T := TX3) (N := 7) hx hb hts hinX3 hown hK.1 hP 0 rfl rfl 0 (by decide) hk_4 (fun _ h9 => h9) rfl dX3_addHost_50 ?_
        refine lv_iload_n hx hb dX3_addHost_53 rfl (lv_at hl 3 rfl) ?_
        refine rr_iconst hx hb dX3_addHost_54 ?_
        refine rr_isub hx hb dX3_addHost_55 ?_
        obtain ⟨hg17, h⟩ := rr_c_some h
        refine rr_iald (f := (σ 0)) (N := 6) hx hb hK hP 1 rfl rfl (by decide) hg17 dX3_addHost_56 ?_
        refine lv_iload_n hx hb dX3_addHost_57 rfl (lv_at hl 1 rfl) ?_
        obtain ⟨hg18, h⟩ := rr_c_some h
        refine rr_icmp_le (tgt := 95) hx hb dX3_addHost_58 (by decide) hg18.1 hg18.2 (fun c19 => ?_) (fun c19 => ?_)
        · rw [if_pos c19] at h
          exact hk x3 σ _ _ ls h hP hD hS (lv_sub hl [0, 1, 2, 3] rfl)
        · rw [if_neg c19] at h
          refine lv_aload_n hx hb dX3_addHost_61 rfl (lv_at hl 0 rfl) ?_
          refine va_get (D := g.1) (ci := 3) (v := .ref (ad 1)) (C := RX3) (T := TX3) (N := 7) hx hb hts hinX3 hown hK.1 hP 0 rfl rfl 0 (by decide) hk_4 (fun _ h9 => h9) rfl dX3_addHost_62 ?_
          refine lv_iload_n hx hb dX3_addHost_65 rfl (lv_at hl 3 rfl) ?_
          refine lv_aload_n hx hb dX3_addHost_66 rfl (lv_at hl 0 rfl) ?_
          refine va_get (D := g.1) (ci := 3) (v := .ref (ad 1)) (C := RX3) (T := TX3) (N := 7) hx hb hts hinX3 hown hK.1 hP 0 rfl rfl 0 (by decide) hk_4 (fun _ h9 => h9) rfl dX3_addHost_67 ?_
          refine lv_iload_n hx hb dX3_addHost_70 rfl (lv_at hl 3 rfl) ?_
          refine rr_iconst hx hb dX3_addHost_71 ?_
          refine rr_isub hx hb dX3_addHost_72 ?_
          refine rr_iald (f := (σ 0)) (N := 6) hx hb hK hP 1 rfl rfl (by decide) hg17 dX3_addHost_73 ?_
          obtain ⟨hg20, h⟩ := rr_c_some h
          refine rr_iast (f := (σ 0)) (N := 6) hx hb hK hP hD hS 1 rfl rfl (by decide) hg20 dX3_addHost_74 (fun H locs hP hD hS => ?_)
          have hP : va_P g.1 vwCl (rr_wS g ad (rr_s σ 0 x3 (σ 0 (x3 - 1)))) H := hP
          have hD : va_D A (rr_wS g ad (rr_s σ 0 x3 (σ 0 (x3 - 1)))) := hD
          refine lv_aload_n hx hb dX3_addHost_75 rfl (lv_at hl 0 rfl) ?_
          refine va_get (D := g.1) (ci := 3) (v := .ref (ad 2)) (C := RX3) (T := TX3) (N := 7) hx hb hts hinX3 hown hK.1 hP 0 rfl rfl 1 (by decide) hk_5 (fun _ h9 => h9) rfl dX3_addHost_76 ?_
          refine lv_iload_n hx hb dX3_addHost_79 rfl (lv_at hl 3 rfl) ?_
          refine lv_aload_n hx hb dX3_addHost_80 rfl (lv_at hl 0 rfl) ?_
          refine va_get (D := g.1) (ci := 3) (v := .ref (ad 2)) (C := RX3) (T := TX3) (N := 7) hx hb hts hinX3 hown hK.1 hP 0 rfl rfl 1 (by decide) hk_5 (fun _ h9 => h9) rfl dX3_addHost_81 ?_
          refine lv_iload_n hx hb dX3_addHost_84 rfl (lv_at hl 3 rfl) ?_
          refine rr_iconst hx hb dX3_addHost_85 ?_
          refine rr_isub hx hb dX3_addHost_86 ?_
          refine rr_iald (f := (σ 1)) (N := 6) hx hb hK hP 2 rfl rfl (by decide) hg17 dX3_addHost_87 ?_
          refine rr_iast (f := (σ 1)) (N := 6) hx hb hK hP hD hS 2 rfl rfl (by decide) hg20 dX3_addHost_88 (fun H locs hP hD hS => ?_)
          have hP : va_P g.1 vwCl (rr_wS g ad (rr_s (rr_s σ 0 x3 (σ 0 (x3 - 1))) 1 x3 (σ 1 (x3 - 1)))) H := hP
          have hD : va_D A (rr_wS g ad (rr_s (rr_s σ 0 x3 (σ 0 (x3 - 1))) 1 x3 (σ 1 (x3 - 1)))) := hD
          refine rr_iinc (k := 3) (a := x3) (lv' := [(3, .int (rr_i (x3 + (-1)))), (0, .ref (ad 0)), (1, .int (rr_i x1)), (2, .int (rr_i x2))]) hx hb dX3_addHost_89 hl rfl (by decide) rfl (fun ls hl => ?_)
          refine lv_goto (tgt := 45) hx hb dX3_addHost_92 (by decide) ?_
          exact ih (x3 + (-1)) (rr_s (rr_s σ 0 x3 (σ 0 (x3 - 1))) 1 x3 (σ 1 (x3 - 1))) _ _ ls h hP hD hS (lv_sub hl [1, 2, 3, 0] rfl) hk
  refine lv_iload_n hx hb dX3_addHost_0 rfl (lv_at hl 1 rfl) ?_
  obtain ⟨v1, hw2, h⟩ := rr_b_some h
  refine rr_callI (va_runSN (As := [.int (rr_i x1)]) (rest := []) ⟨hx, hb, hml, hown, hts⟩ (kX4_isName l g x1 v1 hw2) ⟨va_cnB (host := RX4) 1 hts gX3_addHost_X4_isName_n60 rfl rfl rfl (hK.2.2.2.2.2.1) hk_0 hd_X4_isName ⟨Nat.le_of_ble_eq_true rfl, Nat.le_of_ble_eq_true rfl⟩, hk_1, trivial⟩ ⟨rr_R_blind, rr_R_pre hK (hP.sub (ws' := ([] : va_W)) [] rfl)⟩ rfl rfl hl.1 rfl (lv_room (Nat.le_of_ble_eq_true rfl)) dX3_addHost_1 ⟨Nat.zero_le _, Nat.zero_le _⟩) ?_
  obtain ⟨hg3, h⟩ := rr_c_some h
  refine rr_if_eq (tgt := 14) hx hb dX3_addHost_4 (by decide) hg3 (fun c4 => ?_) (fun c4 => ?_)
  · rw [if_pos c4] at h
    refine rr_bipush hx hb dX3_addHost_14 (by decide +kernel) ?_
    exact hret _ _ _ _ _ _ h hP hD hS dX3_addHost_16
  · rw [if_neg c4] at h
    refine lv_iload_n hx hb dX3_addHost_7 rfl (lv_at hl 2 rfl) ?_
    obtain ⟨v5, hw6, h⟩ := rr_b_some h
    refine rr_callI (va_runSN (As := [.int (rr_i x2)]) (rest := []) ⟨hx, hb, hml, hown, hts⟩ (kX4_isWeight l g x2 v5 hw6) ⟨va_cnB (host := RX4) 1 hts gX3_addHost_X4_isWeight_n64 rfl rfl rfl (hK.2.2.2.2.2.2.1) hk_0 hd_X4_isWeight ⟨Nat.le_of_ble_eq_true rfl, Nat.le_of_ble_eq_true rfl⟩, hk_2, trivial⟩ ⟨rr_R_blind, rr_R_pre hK (hP.sub (ws' := ([] : va_W)) [] rfl)⟩ rfl rfl hl.1 rfl (lv_room (Nat.le_of_ble_eq_true rfl)) dX3_addHost_8 ⟨Nat.zero_le _, Nat.zero_le _⟩) ?_
    obtain ⟨hg7, h⟩ := rr_c_some h
    refine rr_if_ne (tgt := 17) hx hb dX3_addHost_11 (by decide) hg7 (fun c8 => ?_) (fun c8 => ?_)
    · rw [if_neg c8] at h
      refine lv_aload_n hx hb dX3_addHost_17 rfl (lv_at hl 0 rfl) ?_
      refine lv_iload_n hx hb dX3_addHost_18 rfl (lv_at hl 1 rfl) ?_
      obtain ⟨v9, hw10, h⟩ := rr_b_some h
      refine rr_callI (va_runV (As := [.int (rr_i x1)]) (rest := []) ⟨hx, hb, hml, hown, hts⟩ (kX3_findHost l g ad x1 σ v9 hw10) (cwV 1 hts gX3_addHost_X3_findHost rfl rfl rfl ⟨rfl, hd_X3_findHost⟩ ⟨Nat.le_of_ble_eq_true rfl, Nat.le_of_ble_eq_true rfl⟩) ⟨rr_R_blind, va_recv hK.1 hP (ci := 3) (q0 := 0) rfl rfl, rr_R_pre hK hP⟩ rfl rfl hl.1 rfl (lv_room (Nat.le_of_ble_eq_true rfl)) dX3_addHost_19 ⟨Nat.zero_le _, Nat.zero_le _⟩) ?_
      obtain ⟨hg11, h⟩ := rr_c_some h
      refine rr_if_lt (tgt := 28) hx hb dX3_addHost_22 (by decide) hg11 (fun c12 => ?_) (fun c12 => ?_)
      · rw [if_pos c12] at h
        refine lv_aload_n hx hb dX3_addHost_28 rfl (lv_at hl 0 rfl) ?_
        refine va_get (D := g.1) (ci := 3) (v := .int (rr_i (σ 3 0))) (C := RX3) (T := TX3) (N := 7) hx hb hts hinX3 hown hK.1 hP 0 rfl rfl 3 (by decide) hk_3 (fun _ h9 => h9) rfl dX3_addHost_29 ?_
        refine rr_bipush hx hb dX3_addHost_32 (by decide +kernel) ?_
        obtain ⟨hg13, h⟩ := rr_c_some h
        refine rr_icmp_lt (tgt := 40) hx hb dX3_addHost_34 (by decide) hg13 (by decide) (fun c14 => ?_) (fun c14 => ?_)
        · rw [if_pos c14] at h
          refine lv_aload_n hx hb dX3_addHost_40 rfl (lv_at hl 0 rfl) ?_
          refine va_get (D := g.1) (ci := 3) (v := .int (rr_i (σ 3 0))) (C := RX3) (T := TX3) (N := 7) hx hb hts hinX3 hown hK.1 hP 0 rfl rfl 3 (by decide) hk_3 (fun _ h9 => h9) rfl dX3_addHost_41 ?_
          refine lv_istore_n (lv' := [(3, .int (rr_i (σ 3 0))), (0, .ref (ad 0)), (1, .int (rr_i x1)), (2, .int (rr_i x2))]) hx hb dX3_addHost_44 rfl hl (by decide) rfl (fun ls hl => ?_)
          refine hL3_addHost_45 x1 x2 _ 1000 (σ 3 0) σ _ _ ls h hP hD hS (lv_sub hl [1, 2, 3, 0] rfl) (fun y3_45 σ_45 H locs ls h hP hD hS hl => ?_)
          refine lv_aload_n hx hb dX3_addHost_95 rfl (lv_at hl 0 rfl) ?_
          refine va_get (D := g.1) (ci := 3) (v := .ref (ad 1)) (C := RX3) (T := TX3) (N := 7) hx hb hts hinX3 hown hK.1 hP 0 rfl rfl 0 (by decide) hk_4 (fun _ h9 => h9) rfl dX3_addHost_96 ?_
          refine lv_iload_n hx hb dX3_addHost_99 rfl (lv_at hl 3 rfl) ?_
          refine lv_iload_n hx hb dX3_addHost_100 rfl (lv_at hl 1 rfl) ?_
          obtain ⟨hg21, h⟩ := rr_c_some h
          refine rr_iast (f := (σ_45 0)) (N := 6) hx hb hK hP hD hS 1 rfl rfl (by decide) hg21 dX3_addHost_101 (fun H locs hP hD hS => ?_)
          have hP : va_P g.1 vwCl (rr_wS g ad (rr_s σ_45 0 y3_45 x1)) H := hP
          have hD : va_D A (rr_wS g ad (rr_s σ_45 0 y3_45 x1)) := hD
          refine lv_aload_n hx hb dX3_addHost_102 rfl (lv_at hl 0 rfl) ?_
          refine va_get (D := g.1) (ci := 3) (v := .ref (ad 2)) (C := RX3) (T := TX3) (N := 7) hx hb hts hinX3 hown hK.1 hP 0 rfl rfl 1 (by decide) hk_5 (fun _ h9 => h9) rfl dX3_addHost_103 ?_
          refine lv_iload_n hx hb dX3_addHost_106 rfl (lv_at hl 3 rfl) ?_
          refine lv_iload_n hx hb dX3_addHost_107 rfl (lv_at hl 2 rfl) ?_
          refine rr_iast (f := (σ_45 1)) (N := 6) hx hb hK hP hD hS 2 rfl rfl (by decide) hg21 dX3_addHost_108 (fun H locs hP hD hS => ?_)
          have hP : va_P g.1 vwCl (rr_wS g ad (rr_s (rr_s σ_45 0 y3_45 x1) 1 y3_45 x2)) H := hP
          have hD : va_D A (rr_wS g ad (rr_s (rr_s σ_45 0 y3_45 x1) 1 y3_45 x2)) := hD
          refine lv_aload_n hx hb dX3_addHost_109 rfl (lv_at hl 0 rfl) ?_
          refine lv_dup hx hb dX3_addHost_110 rfl ?_
          refine va_get (D := g.1) (ci := 3) (v := .int (rr_i (σ_45 3 0))) (C := RX3) (T := TX3) (N := 7) hx hb hts hinX3 hown hK.1 hP 0 rfl rfl 3 (by decide) hk_3 (fun _ h9 => h9) rfl dX3_addHost_111 ?_
          refine rr_iconst hx hb dX3_addHost_114 ?_
          refine rr_iadd hx hb dX3_addHost_115 ?_
          refine va_put (D := g.1) (ci := 3) (v := .int (rr_i ((σ_45 3 0) + 1))) (ty := .int) (C := RX3) (T := TX3) (N := 7) hx hb hts hinX3 tyX3 tyX3_ok nmX3 hown hK.1 hP hD hS 0 rfl rfl 3 (by decide) hk_3 (fun _ h9 => h9) rfl (by decide +kernel) rfl rfl (Nat.le_of_ble_eq_true rfl) dX3_addHost_116 (fun H locs hP hD hS => ?_)
          have hP : va_P g.1 vwCl (rr_wS g ad (rr_t (rr_s (rr_s σ_45 0 y3_45 x1) 1 y3_45 x2) 3 ((σ_45 3 0) + 1))) H := hP
          have hD : va_D A (rr_wS g ad (rr_t (rr_s (rr_s σ_45 0 y3_45 x1) 1 y3_45 x2) 3 ((σ_45 3 0) + 1))) := hD
          refine rr_iconst hx hb dX3_addHost_119 ?_
          exact hret _ _ _ _ _ _ h hP hD hS dX3_addHost_120
        · rw [if_neg c14] at h
          refine rr_bipush hx hb dX3_addHost_37 (by decide +kernel) ?_
          exact hret _ _ _ _ _ _ h hP hD hS dX3_addHost_39
      · rw [if_neg c12] at h
        refine rr_bipush hx hb dX3_addHost_25 (by decide +kernel) ?_
        exact hret _ _ _ _ _ _ h hP hD hS dX3_addHost_27
    · rw [if_pos c8] at h
      refine rr_bipush hx hb dX3_addHost_14 (by decide +kernel) ?_
      exact hret _ _ _ _ _ _ h hP hD hS dX3_addHost_16
-- RoomRing$Stock.weighAnew
abbrev rm_X3_weighAnew : Room := { frames := 1, cells := 0, slots := 0, locals := 22 }
theorem hd_X3_weighAnew : yX3_weighAnew.cls ≠ "java/lang/invoke/MethodHandle" ∧ yX3_weighAnew.cls ≠ "java/lang/invoke/VarHandle" ∧ (parseMethodDescriptor yX3_weighAnew.desc).map (fun d => d.parameters.length) = some 2 := by decide +kernel
set_option maxHeartbeats 4000000 in
set_option maxRecDepth 100000 in
theorem kX3_weighAnew (l : Launch) (g : rr_G) (ad : Nat → Nat) (sz : Nat) (x1 : Int) (x2 : Int) (σ : rr_T) (out : (Int × rr_T)) (h : M3_weighAnew x1 x2 σ = some out) : Met l yX3_weighAnew wsX3_weighAnew rm_X3_weighAnew (rr_P g [.ref (ad 0), .int (rr_i x1), .int (rr_i x2)] (rr_wS g ad σ) sz) (rr_Qi g out.1 (rr_wS g ad out.2) (va_A (rr_wS g ad σ) sz)) 0 0 (va_A (rr_wS g ad σ) sz) := by
  refine rr_rwI (cc := cX3_weighAnew) (maxL := 4) (fun σ => rr_wS g ad σ) σ out (by decide) rfl (Nat.le_of_ble_eq_true rfl) ?_
  intro p e s m ar below meth c Q ls A hx hb hml hown hts hK hA hP hD hS hret hl
  have hP : va_P g.1 vwCl (rr_wS g ad σ) s.heap := hP
  have hD : va_D A (rr_wS g ad σ) := hD
  have hown : s.vm.findClass RX3 = some m.cls := hown
  have hl : lv_has ls 4 [(0, .ref (ad 0)), (1, .int (rr_i x1)), (2, .int (rr_i x2))] := hl
  have hinX3 : ∀ w ∈ u_ws RX3 TX3 7, w ∈ wsX3_weighAnew := by decide +kernel
  have hk_0 : (Cond.initialized RX4).before ar s = true := hts _ (List.mem_of_getElem? (i := 3) (by decide +kernel))
  have hk_1 : (Cond.static yX4_isName).before ar s = true := hts _ (List.mem_of_getElem? (i := 2) (by decide +kernel))
  have hk_2 : (Cond.static yX4_isWeight).before ar s = true := hts _ (List.mem_of_getElem? (i := 5) (by decide +kernel))
  have hk_3 : (Cond.fieldLink RX3 15 "RoomRing$Stock" "weights" "[I").before ar s = true := hts _ (List.mem_of_getElem? (i := 1) (by decide +kernel))
  unfold M3_weighAnew at h
  refine lv_iload_n hx hb dX3_weighAnew_0 rfl (lv_at hl 1 rfl) ?_
  obtain ⟨v1, hw2, h⟩ := rr_b_some h
  refine rr_callI (va_runSN (As := [.int (rr_i x1)]) (rest := []) ⟨hx, hb, hml, hown, hts⟩ (kX4_isName l g x1 v1 hw2) ⟨va_cnB (host := RX4) 1 hts gX3_weighAnew_X4_isName_n60 rfl rfl rfl (hK.2.2.2.2.2.1) hk_0 hd_X4_isName ⟨Nat.le_of_ble_eq_true rfl, Nat.le_of_ble_eq_true rfl⟩, hk_1, trivial⟩ ⟨rr_R_blind, rr_R_pre hK (hP.sub (ws' := ([] : va_W)) [] rfl)⟩ rfl rfl hl.1 rfl (lv_room (Nat.le_of_ble_eq_true rfl)) dX3_weighAnew_1 ⟨Nat.zero_le _, Nat.zero_le _⟩) ?_
  obtain ⟨hg3, h⟩ := rr_c_some h
  refine rr_if_eq (tgt := 14) hx hb dX3_weighAnew_4 (by decide) hg3 (fun c4 => ?_) (fun c4 => ?_)
  · rw [if_pos c4] at h
    refine rr_bipush hx hb dX3_weighAnew_14 (by decide +kernel) ?_
    exact hret _ _ _ _ _ _ h hP hD hS dX3_weighAnew_16
  · rw [if_neg c4] at h
    refine lv_iload_n hx hb dX3_weighAnew_7 rfl (lv_at hl 2 rfl) ?_
    obtain ⟨v5, hw6, h⟩ := rr_b_some h
    refine rr_callI (va_runSN (As := [.int (rr_i x2)]) (rest := []) ⟨hx, hb, hml, hown, hts⟩ (kX4_isWeight l g x2 v5 hw6) ⟨va_cnB (host := RX4) 1 hts gX3_weighAnew_X4_isWeight_n64 rfl rfl rfl (hK.2.2.2.2.2.2.1) hk_0 hd_X4_isWeight ⟨Nat.le_of_ble_eq_true rfl, Nat.le_of_ble_eq_true rfl⟩, hk_2, trivial⟩ ⟨rr_R_blind, rr_R_pre hK (hP.sub (ws' := ([] : va_W)) [] rfl)⟩ rfl rfl hl.1 rfl (lv_room (Nat.le_of_ble_eq_true rfl)) dX3_weighAnew_8 ⟨Nat.zero_le _, Nat.zero_le _⟩) ?_
    obtain ⟨hg7, h⟩ := rr_c_some h
    refine rr_if_ne (tgt := 17) hx hb dX3_weighAnew_11 (by decide) hg7 (fun c8 => ?_) (fun c8 => ?_)
    · rw [if_neg c8] at h
      refine lv_aload_n hx hb dX3_weighAnew_17 rfl (lv_at hl 0 rfl) ?_
      refine lv_iload_n hx hb dX3_weighAnew_18 rfl (lv_at hl 1 rfl) ?_
      obtain ⟨v9, hw10, h⟩ := rr_b_some h
      refine rr_callI (va_runV (As := [.int (rr_i x1)]) (rest := []) ⟨hx, hb, hml, hown, hts⟩ (kX3_findHost l g ad x1 σ v9 hw10) (cwV 1 hts gX3_weighAnew_X3_findHost rfl rfl rfl ⟨rfl, hd_X3_findHost⟩ ⟨Nat.le_of_ble_eq_true rfl, Nat.le_of_ble_eq_true rfl⟩) ⟨rr_R_blind, va_recv hK.1 hP (ci := 3) (q0 := 0) rfl rfl, rr_R_pre hK hP⟩ rfl rfl hl.1 rfl (lv_room (Nat.le_of_ble_eq_true rfl)) dX3_weighAnew_19 ⟨Nat.zero_le _, Nat.zero_le _⟩) ?_
      refine lv_istore_n (lv' := [(3, .int (rr_i v9)), (0, .ref (ad 0)), (1, .int (rr_i x1)), (2, .int (rr_i x2))]) hx hb dX3_weighAnew_22 rfl hl (by decide) rfl (fun ls hl => ?_)
      refine lv_iload_n hx hb dX3_weighAnew_23 rfl (lv_at hl 0 rfl) ?_
      obtain ⟨hg11, h⟩ := rr_c_some h
      refine rr_if_ge (tgt := 30) hx hb dX3_weighAnew_24 (by decide) hg11 (fun c12 => ?_) (fun c12 => ?_)
      · rw [if_pos c12] at h
        refine lv_aload_n hx hb dX3_weighAnew_30 rfl (lv_at hl 1 rfl) ?_
        refine va_get (D := g.1) (ci := 3) (v := .ref (ad 2)) (C := RX3) (T := TX3) (N := 7) hx hb hts hinX3 hown hK.1 hP 0 rfl rfl 1 (by decide) hk_3 (fun _ h9 => h9) rfl dX3_weighAnew_31 ?_
        refine lv_iload_n hx hb dX3_weighAnew_34 rfl (lv_at hl 0 rfl) ?_
        refine lv_iload_n hx hb dX3_weighAnew_35 rfl (lv_at hl 3 rfl) ?_
        obtain ⟨hg13, h⟩ := rr_c_some h
        refine rr_iast (f := (σ 1)) (N := 6) hx hb hK hP hD hS 2 rfl rfl (by decide) hg13 dX3_weighAnew_36 (fun H locs hP hD hS => ?_)
        have hP : va_P g.1 vwCl (rr_wS g ad (rr_s σ 1 v9 x2)) H := hP
        have hD : va_D A (rr_wS g ad (rr_s σ 1 v9 x2)) := hD
        refine rr_iconst hx hb dX3_weighAnew_37 ?_
        exact hret _ _ _ _ _ _ h hP hD hS dX3_weighAnew_38
      · rw [if_neg c12] at h
        refine rr_bipush hx hb dX3_weighAnew_27 (by decide +kernel) ?_
        exact hret _ _ _ _ _ _ h hP hD hS dX3_weighAnew_29
    · rw [if_pos c8] at h
      refine rr_bipush hx hb dX3_weighAnew_14 (by decide +kernel) ?_
      exact hret _ _ _ _ _ _ h hP hD hS dX3_weighAnew_16
-- RoomRing$Stock.removeHost
abbrev rm_X3_removeHost : Room := { frames := 1, cells := 0, slots := 0, locals := 22 }
theorem hd_X3_removeHost : yX3_removeHost.cls ≠ "java/lang/invoke/MethodHandle" ∧ yX3_removeHost.cls ≠ "java/lang/invoke/VarHandle" ∧ (parseMethodDescriptor yX3_removeHost.desc).map (fun d => d.parameters.length) = some 1 := by decide +kernel
set_option maxHeartbeats 4000000 in
set_option maxRecDepth 100000 in
theorem kX3_removeHost (l : Launch) (g : rr_G) (ad : Nat → Nat) (sz : Nat) (x1 : Int) (σ : rr_T) (out : (Int × rr_T)) (h : M3_removeHost x1 σ = some out) : Met l yX3_removeHost wsX3_removeHost rm_X3_removeHost (rr_P g [.ref (ad 0), .int (rr_i x1)] (rr_wS g ad σ) sz) (rr_Qi g out.1 (rr_wS g ad out.2) (va_A (rr_wS g ad σ) sz)) 0 0 (va_A (rr_wS g ad σ) sz) := by
  refine rr_rwI (cc := cX3_removeHost) (maxL := 4) (fun σ => rr_wS g ad σ) σ out (by decide) rfl (Nat.le_of_ble_eq_true rfl) ?_
  intro p e s m ar below meth c Q ls A hx hb hml hown hts hK hA hP hD hS hret hl
  have hP : va_P g.1 vwCl (rr_wS g ad σ) s.heap := hP
  have hD : va_D A (rr_wS g ad σ) := hD
  have hown : s.vm.findClass RX3 = some m.cls := hown
  have hl : lv_has ls 4 [(0, .ref (ad 0)), (1, .int (rr_i x1))] := hl
  have hinX3 : ∀ w ∈ u_ws RX3 TX3 7, w ∈ wsX3_removeHost := by decide +kernel
  have hk_0 : (Cond.initialized RX4).before ar s = true := hts _ (List.mem_of_getElem? (i := 5) (by decide +kernel))
  have hk_1 : (Cond.static yX4_isName).before ar s = true := hts _ (List.mem_of_getElem? (i := 4) (by decide +kernel))
  have hk_2 : (Cond.fieldLink RX3 21 "RoomRing$Stock" "hostCount" "I").before ar s = true := hts _ (List.mem_of_getElem? (i := 1) (by decide +kernel))
  have hk_3 : (Cond.fieldLink RX3 9 "RoomRing$Stock" "names" "[I").before ar s = true := hts _ (List.mem_of_getElem? (i := 2) (by decide +kernel))
  have hk_4 : (Cond.fieldLink RX3 15 "RoomRing$Stock" "weights" "[I").before ar s = true := hts _ (List.mem_of_getElem? (i := 3) (by decide +kernel))
  unfold M3_removeHost at h
  have hL3_removeHost_27 : ∀ (K : rr_T → Option (Int × rr_T)) (n : Nat) (x3 : Int) (σ : rr_T) (H : Heap) (locs : List Loc) (ls : Array Slot), L3_removeHost_27 K n x3 σ = some out → va_P g.1 vwCl (rr_wS g ad σ) H → va_D A (rr_wS g ad σ) → va_S A s.heap H locs → lv_has ls 4 [(0, .ref (ad 0)), (3, .int (rr_i x3))] → (∀ (τ9 : rr_T) (H : Heap) (locs : List Loc) (ls : Array Slot), K τ9 = some out → va_P g.1 vwCl (rr_wS g ad τ9) H → va_D A (rr_wS g ad τ9) → va_S A s.heap H locs → lv_has ls 4 [(0, .ref (ad 0))] → W p l e rm_X3_removeHost s m ar below meth c H locs 0 0 Q (F0 m 69 ls [])) → W p l e rm_X3_removeHost s m ar below meth c H locs 0 0 Q (F0 m 27 ls []) := by
    intro K n
    induction n with
    | zero => intro x3 σ H locs ls h hP hD hS hl hk; cases h
    | succ n ih =>
      intro x3 σ H locs ls h hP hD hS hl hk
      rw [L3_removeHost_27_s] at h
      refine lv_iload_n hx hb dX3_removeHost_27 rfl (lv_at hl 1 rfl) ?_
      refine lv_aload_n hx hb dX3_removeHost_28 rfl (lv_at hl 0 rfl) ?_
      refine va_get (D := g.1) (ci := 3) (v := .int (rr_i (σ 3 0))) (C := RX3) (T := TX3) (N := 7) hx hb hts hinX3 hown hK.1 hP 0 rfl rfl 3 (by decide) hk_2 (fun _ h9 => h9) rfl dX3_removeHost_29 ?_
      obtain ⟨hg9, h⟩ := rr_c_some h
      refine rr_icmp_ge (tgt := 69) hx hb dX3_removeHost_32 (by decide) hg9.1 hg9.2 (fun c10 => ?_) (fun c10 => ?_)
      · rw [if_pos c10] at h
        exact hk σ _ _ ls h hP hD hS (lv_sub hl [0] rfl)
      · rw [if_neg c10] at h
        refine lv_aload_n hx hb dX3_removeHost_35 rfl (lv_at hl 0 rfl) ?_
        refine va_get (D := g.1) (ci := 3) (v := .ref (ad 1)) (C := RX3) (T := TX3) (N := 7) hx hb hts hinX3 hown hK.1 hP 0 rfl rfl 0 (by decide) hk_3 (fun _ h9 => h9) rfl dX3_removeHost_36 ?_
        refine lv_iload_n hx hb dX3_removeHost_39 rfl (lv_at hl 1 rfl) ?_
        refine rr_iconst hx hb dX3_removeHost_40 ?_
        refine rr_isub hx hb dX3_removeHost_41 ?_
        refine lv_aload_n hx hb dX3_removeHost_42 rfl (lv_at hl 0 rfl) ?_
        refine va_get (D := g.1) (ci := 3) (v := .ref (ad 1)) (C := RX3) (T := TX3) (N := 7) hx hb hts hinX3 hown hK.1 hP 0 rfl rfl 0 (by decide) hk_3 (fun _ h9 => h9) rfl dX3_removeHost_43 ?_
        refine lv_iload_n hx hb dX3_removeHost_46 rfl (lv_at hl 1 rfl) ?_
        obtain ⟨hg11, h⟩ := rr_c_some h
        refine rr_iald (f := (σ 0)) (N := 6) hx hb hK hP 1 rfl rfl (by decide) hg11 dX3_removeHost_47 ?_
        obtain ⟨hg12, h⟩ := rr_c_some h
        refine rr_iast (f := (σ 0)) (N := 6) hx hb hK hP hD hS 1 rfl rfl (by decide) hg12 dX3_removeHost_48 (fun H locs hP hD hS => ?_)
        have hP : va_P g.1 vwCl (rr_wS g ad (rr_s σ 0 (x3 - 1) (σ 0 x3))) H := hP
        have hD : va_D A (rr_wS g ad (rr_s σ 0 (x3 - 1) (σ 0 x3))) := hD
        refine lv_aload_n hx hb dX3_removeHost_49 rfl (lv_at hl 0 rfl) ?_
        refine va_get (D := g.1) (ci := 3) (v := .ref (ad 2)) (C := RX3) (T := TX3) (N := 7) hx hb hts hinX3 hown hK.1 hP 0 rfl rfl 1 (by decide) hk_4 (fun _ h9 => h9) rfl dX3_removeHost_50 ?_
        refine lv_iload_n hx hb dX3_removeHost_53 rfl (lv_at hl 1 rfl) ?_
        refine rr_iconst hx hb dX3_removeHost_54 ?_
        refine rr_isub hx hb dX3_removeHost_55 ?_
        refine lv_aload_n hx hb dX3_removeHost_56 rfl (lv_at hl 0 rfl) ?_
        refine va_get (D := g.1) (ci := 3) (v := .ref (ad 2)) (C := RX3) (T := TX3) (N := 7) hx hb hts hinX3 hown hK.1 hP 0 rfl rfl 1 (by decide) hk_4 (fun _ h9 => h9) rfl dX3_removeHost_57 ?_
        refine lv_iload_n hx hb dX3_removeHost_60 rfl (lv_at hl 1 rfl) ?_
        refine rr_iald (f := (σ 1)) (N := 6) hx hb hK hP 2 rfl rfl (by decide) hg11 dX3_removeHost_61 ?_
        refine rr_iast (f := (σ 1)) (N := 6) hx hb hK hP hD hS 2 rfl rfl (by decide) hg12 dX3_removeHost_62 (fun H locs hP hD hS => ?_)
        have hP : va_P g.1 vwCl (rr_wS g ad (rr_s (rr_s σ 0 (x3 - 1) (σ 0 x3)) 1 (x3 - 1) (σ 1 x3))) H := hP
        have hD : va_D A (rr_wS g ad (rr_s (rr_s σ 0 (x3 - 1) (σ 0 x3)) 1 (x3 - 1) (σ 1 x3))) := hD
        refine rr_iinc (k := 1) (a := x3) (lv' := [(3, .int (rr_i (x3 + 1))), (0, .ref (ad 0))]) hx hb dX3_removeHost_63 hl rfl (by decide) rfl (fun ls hl => ?_)
        refine lv_goto (tgt := 27) hx hb dX3_removeHost_66 (by decide) ?_
        exact ih (x3 + 1) (rr_s (rr_s σ 0 (x3 - 1) (σ 0 x3)) 1 (x3 - 1) (σ 1 x3)) _ _ ls h hP hD hS (lv_sub hl [1, 0] rfl) hk
  refine lv_iload_n hx hb dX3_removeHost_0 rfl (lv_at hl 1 rfl) ?_
  obtain ⟨v1, hw2, h⟩ := rr_b_some h
  refine rr_callI (va_runSN (As := [.int (rr_i x1)]) (rest := []) ⟨hx, hb, hml, hown, hts⟩ (kX4_isName l g x1 v1 hw2) ⟨va_cnB (host := RX4) 1 hts gX3_removeHost_X4_isName_n60 rfl rfl rfl (hK.2.2.2.2.2.1) hk_0 hd_X4_isName ⟨Nat.le_of_ble_eq_true rfl, Nat.le_of_ble_eq_true rfl⟩, hk_1, trivial⟩ ⟨rr_R_blind, rr_R_pre hK (hP.sub (ws' := ([] : va_W)) [] rfl)⟩ rfl rfl hl.1 rfl (lv_room (Nat.le_of_ble_eq_true rfl)) dX3_removeHost_1 ⟨Nat.zero_le _, Nat.zero_le _⟩) ?_
  obtain ⟨hg3, h⟩ := rr_c_some h
  refine rr_if_ne (tgt := 10) hx hb dX3_removeHost_4 (by decide) hg3 (fun c4 => ?_) (fun c4 => ?_)
  · rw [if_neg c4] at h
    refine lv_aload_n hx hb dX3_removeHost_10 rfl (lv_at hl 0 rfl) ?_
    refine lv_iload_n hx hb dX3_removeHost_11 rfl (lv_at hl 1 rfl) ?_
    obtain ⟨v5, hw6, h⟩ := rr_b_some h
    refine rr_callI (va_runV (As := [.int (rr_i x1)]) (rest := []) ⟨hx, hb, hml, hown, hts⟩ (kX3_findHost l g ad x1 σ v5 hw6) (cwV 1 hts gX3_removeHost_X3_findHost rfl rfl rfl ⟨rfl, hd_X3_findHost⟩ ⟨Nat.le_of_ble_eq_true rfl, Nat.le_of_ble_eq_true rfl⟩) ⟨rr_R_blind, va_recv hK.1 hP (ci := 3) (q0 := 0) rfl rfl, rr_R_pre hK hP⟩ rfl rfl hl.1 rfl (lv_room (Nat.le_of_ble_eq_true rfl)) dX3_removeHost_12 ⟨Nat.zero_le _, Nat.zero_le _⟩) ?_
    refine lv_istore_n (lv' := [(2, .int (rr_i v5)), (0, .ref (ad 0)), (1, .int (rr_i x1))]) hx hb dX3_removeHost_15 rfl hl (by decide) rfl (fun ls hl => ?_)
    refine lv_iload_n hx hb dX3_removeHost_16 rfl (lv_at hl 0 rfl) ?_
    obtain ⟨hg7, h⟩ := rr_c_some h
    refine rr_if_ge (tgt := 23) hx hb dX3_removeHost_17 (by decide) hg7 (fun c8 => ?_) (fun c8 => ?_)
    · rw [if_pos c8] at h
      refine lv_iload_n hx hb dX3_removeHost_23 rfl (lv_at hl 0 rfl) ?_
      refine rr_iconst hx hb dX3_removeHost_24 ?_
      refine rr_iadd hx hb dX3_removeHost_25 ?_
      refine lv_istore_n (lv' := [(3, .int (rr_i (v5 + 1))), (2, .int (rr_i v5)), (0, .ref (ad 0)), (1, .int (rr_i x1))]) hx hb dX3_removeHost_26 rfl hl (by decide) rfl (fun ls hl => ?_)
      refine hL3_removeHost_27 _ 1000 (v5 + 1) σ _ _ ls h hP hD hS (lv_sub hl [2, 0] rfl) (fun σ_27 H locs ls h hP hD hS hl => ?_)
      refine lv_aload_n hx hb dX3_removeHost_69 rfl (lv_at hl 0 rfl) ?_
      refine lv_dup hx hb dX3_removeHost_70 rfl ?_
      refine va_get (D := g.1) (ci := 3) (v := .int (rr_i (σ_27 3 0))) (C := RX3) (T := TX3) (N := 7) hx hb hts hinX3 hown hK.1 hP 0 rfl rfl 3 (by decide) hk_2 (fun _ h9 => h9) rfl dX3_removeHost_71 ?_
      refine rr_iconst hx hb dX3_removeHost_74 ?_
      refine rr_isub hx hb dX3_removeHost_75 ?_
      refine va_put (D := g.1) (ci := 3) (v := .int (rr_i ((σ_27 3 0) - 1))) (ty := .int) (C := RX3) (T := TX3) (N := 7) hx hb hts hinX3 tyX3 tyX3_ok nmX3 hown hK.1 hP hD hS 0 rfl rfl 3 (by decide) hk_2 (fun _ h9 => h9) rfl (by decide +kernel) rfl rfl (Nat.le_of_ble_eq_true rfl) dX3_removeHost_76 (fun H locs hP hD hS => ?_)
      have hP : va_P g.1 vwCl (rr_wS g ad (rr_t σ_27 3 ((σ_27 3 0) - 1))) H := hP
      have hD : va_D A (rr_wS g ad (rr_t σ_27 3 ((σ_27 3 0) - 1))) := hD
      refine rr_iconst hx hb dX3_removeHost_79 ?_
      exact hret _ _ _ _ _ _ h hP hD hS dX3_removeHost_80
    · rw [if_neg c8] at h
      refine rr_bipush hx hb dX3_removeHost_20 (by decide +kernel) ?_
      exact hret _ _ _ _ _ _ h hP hD hS dX3_removeHost_22
  · rw [if_pos c4] at h
    refine rr_bipush hx hb dX3_removeHost_7 (by decide +kernel) ?_
    exact hret _ _ _ _ _ _ h hP hD hS dX3_removeHost_9
-- RoomRing.isKey
abbrev rm_X4_isKey : Room := { frames := 0, cells := 0, slots := 0, locals := 0 }
theorem hd_X4_isKey : yX4_isKey.cls ≠ "java/lang/invoke/MethodHandle" ∧ yX4_isKey.cls ≠ "java/lang/invoke/VarHandle" ∧ (parseMethodDescriptor yX4_isKey.desc).map (fun d => d.parameters.length) = some 1 := by decide +kernel
set_option maxHeartbeats 4000000 in
set_option maxRecDepth 100000 in
theorem kX4_isKey (l : Launch) (g : rr_G) (x0 : Int) (out : Int) (h : M4_isKey x0 = some out) : Met l yX4_isKey wsX4_isKey rm_X4_isKey (rr_R g [.int (rr_i x0)] (([] : va_W))) (vp_Si (fun x => x = rr_i out)) 0 0 (fun _ => False) := by
  refine rr_roZ (cc := cX4_isKey) (maxL := 1) (by decide) rfl (Nat.le_of_ble_eq_true rfl) ?_
  intro p e s m ar below meth c Q ls hx hb hml hown hts hK hP hret hl
  have hown : s.vm.findClass RX4 = some m.cls := hown
  have hl : lv_has ls 1 [(0, .int (rr_i x0))] := hl
  unfold M4_isKey at h
  refine lv_iload_n hx hb dX4_isKey_0 rfl (lv_at hl 0 rfl) ?_
  obtain ⟨hg1, h⟩ := rr_c_some h
  refine rr_if_lt (tgt := 15) hx hb dX4_isKey_1 (by decide) hg1 (fun c2 => ?_) (fun c2 => ?_)
  · rw [if_pos c2] at h
    refine rr_iconst hx hb dX4_isKey_15 ?_
    exact hret _ _ _ h (by decide) dX4_isKey_16
  · rw [if_neg c2] at h
    refine lv_iload_n hx hb dX4_isKey_4 rfl (lv_at hl 0 rfl) ?_
    refine rr_sipush hx hb dX4_isKey_5 (by decide +kernel) ?_
    refine rr_icmp_gt (tgt := 15) hx hb dX4_isKey_8 (by decide) hg1 (by decide) (fun c3 => ?_) (fun c3 => ?_)
    · rw [if_pos c3] at h
      refine rr_iconst hx hb dX4_isKey_15 ?_
      exact hret _ _ _ h (by decide) dX4_isKey_16
    · rw [if_neg c3] at h
      refine rr_iconst hx hb dX4_isKey_11 ?_
      refine lv_goto (tgt := 16) hx hb dX4_isKey_12 (by decide) ?_
      exact hret _ _ _ h (by decide) dX4_isKey_16
-- RoomRing$Stock.findKey
abbrev rm_X3_findKey : Room := { frames := 0, cells := 0, slots := 0, locals := 0 }
theorem hd_X3_findKey : yX3_findKey.cls ≠ "java/lang/invoke/MethodHandle" ∧ yX3_findKey.cls ≠ "java/lang/invoke/VarHandle" ∧ (parseMethodDescriptor yX3_findKey.desc).map (fun d => d.parameters.length) = some 1 := by decide +kernel
set_option maxHeartbeats 4000000 in
set_option maxRecDepth 100000 in
theorem kX3_findKey (l : Launch) (g : rr_G) (ad : Nat → Nat) (x1 : Int) (σ : rr_T) (out : Int) (h : M3_findKey x1 σ = some out) : Met l yX3_findKey wsX3_findKey rm_X3_findKey (rr_R g [.ref (ad 0), .int (rr_i x1)] (rr_wS g ad σ)) (vp_Si (fun x => x = rr_i out)) 0 0 (fun _ => False) := by
  refine rr_roI (cc := cX3_findKey) (maxL := 3) (by decide) rfl (Nat.le_of_ble_eq_true rfl) ?_
  intro p e s m ar below meth c Q ls hx hb hml hown hts hK hP hret hl
  have hown : s.vm.findClass RX3 = some m.cls := hown
  have hl : lv_has ls 3 [(0, .ref (ad 0)), (1, .int (rr_i x1))] := hl
  have hinX3 : ∀ w ∈ u_ws RX3 TX3 7, w ∈ wsX3_findKey := by decide +kernel
  have hk_0 : (Cond.fieldLink RX3 25 "RoomRing$Stock" "keyCount" "I").before ar s = true := hts _ (List.mem_of_getElem? (i := 1) (by decide +kernel))
  have hk_1 : (Cond.fieldLink RX3 18 "RoomRing$Stock" "keys" "[I").before ar s = true := hts _ (List.mem_of_getElem? (i := 2) (by decide +kernel))
  unfold M3_findKey at h
  have hL3_findKey_2 : ∀ (x1 : Int) (K : Option Int) (n : Nat) (x2 : Int) (ls : Array Slot), L3_findKey_2 σ x1 K n x2 = some out → lv_has ls 3 [(0, .ref (ad 0)), (1, .int (rr_i x1)), (2, .int (rr_i x2))] → (∀ (ls : Array Slot), K = some out → lv_has ls 3 [] → W p l e rm_X3_findKey s m ar below meth c s.heap [] 0 0 Q (F0 m 28 ls [])) → W p l e rm_X3_findKey s m ar below meth c s.heap [] 0 0 Q (F0 m 2 ls []) := by
    intro x1 K n
    induction n with
    | zero => intro x2 ls h hl hk; cases h
    | succ n ih =>
      intro x2 ls h hl hk
      rw [L3_findKey_2_s] at h
      refine lv_iload_n hx hb dX3_findKey_2 rfl (lv_at hl 2 rfl) ?_
      refine lv_aload_n hx hb dX3_findKey_3 rfl (lv_at hl 0 rfl) ?_
      refine va_get (D := g.1) (ci := 3) (v := .int (rr_i (σ 4 0))) (C := RX3) (T := TX3) (N := 7) hx hb hts hinX3 hown hK.1 hP 0 rfl rfl 4 (by decide) hk_0 (fun _ h9 => h9) rfl dX3_findKey_4 ?_
      obtain ⟨hg1, h⟩ := rr_c_some h
      refine rr_icmp_ge (tgt := 28) hx hb dX3_findKey_7 (by decide) hg1.1 hg1.2 (fun c2 => ?_) (fun c2 => ?_)
      · rw [if_pos c2] at h
        exact hk ls h (lv_sub hl [] rfl)
      · rw [if_neg c2] at h
        refine lv_aload_n hx hb dX3_findKey_10 rfl (lv_at hl 0 rfl) ?_
        refine va_get (D := g.1) (ci := 3) (v := .ref (ad 3)) (C := RX3) (T := TX3) (N := 7) hx hb hts hinX3 hown hK.1 hP 0 rfl rfl 2 (by decide) hk_1 (fun _ h9 => h9) rfl dX3_findKey_11 ?_
        refine lv_iload_n hx hb dX3_findKey_14 rfl (lv_at hl 2 rfl) ?_
        obtain ⟨hg3, h⟩ := rr_c_some h
        refine rr_iald (f := (σ 2)) (N := 40) hx hb hK hP 3 rfl rfl (by decide) hg3 dX3_findKey_15 ?_
        refine lv_iload_n hx hb dX3_findKey_16 rfl (lv_at hl 1 rfl) ?_
        obtain ⟨hg4, h⟩ := rr_c_some h
        refine rr_icmp_ne (tgt := 22) hx hb dX3_findKey_17 (by decide) hg4.1 hg4.2 (fun c5 => ?_) (fun c5 => ?_)
        · rw [if_neg c5] at h
          refine rr_iinc (k := 2) (a := x2) (lv' := [(2, .int (rr_i (x2 + 1))), (0, .ref (ad 0)), (1, .int (rr_i x1))]) hx hb dX3_findKey_22 hl rfl (by decide) rfl (fun ls hl => ?_)
          refine lv_goto (tgt := 2) hx hb dX3_findKey_25 (by decide) ?_
          exact ih (x2 + 1) ls h (lv_sub hl [1, 2, 0] rfl) hk
        · rw [if_pos c5] at h
          refine lv_iload_n hx hb dX3_findKey_20 rfl (lv_at hl 2 rfl) ?_
          exact hret _ _ _ h dX3_findKey_21
  refine rr_iconst hx hb dX3_findKey_0 ?_
  refine lv_istore_n (lv' := [(2, .int (rr_i 0)), (0, .ref (ad 0)), (1, .int (rr_i x1))]) hx hb dX3_findKey_1 rfl hl (by decide) rfl (fun ls hl => ?_)
  refine hL3_findKey_2 x1 _ 1000 0 ls h (lv_sub hl [1, 2, 0] rfl) (fun ls h hl => ?_)
  refine rr_iconst hx hb dX3_findKey_28 ?_
  exact hret _ _ _ h dX3_findKey_29
-- RoomRing$Stock.addKey
abbrev rm_X3_addKey : Room := { frames := 1, cells := 0, slots := 0, locals := 22 }
theorem hd_X3_addKey : yX3_addKey.cls ≠ "java/lang/invoke/MethodHandle" ∧ yX3_addKey.cls ≠ "java/lang/invoke/VarHandle" ∧ (parseMethodDescriptor yX3_addKey.desc).map (fun d => d.parameters.length) = some 1 := by decide +kernel
set_option maxHeartbeats 4000000 in
set_option maxRecDepth 100000 in
theorem kX3_addKey (l : Launch) (g : rr_G) (ad : Nat → Nat) (sz : Nat) (x1 : Int) (σ : rr_T) (out : (Int × rr_T)) (h : M3_addKey x1 σ = some out) : Met l yX3_addKey wsX3_addKey rm_X3_addKey (rr_P g [.ref (ad 0), .int (rr_i x1)] (rr_wS g ad σ) sz) (rr_Qi g out.1 (rr_wS g ad out.2) (va_A (rr_wS g ad σ) sz)) 0 0 (va_A (rr_wS g ad σ) sz) := by
  refine rr_rwI (cc := cX3_addKey) (maxL := 3) (fun σ => rr_wS g ad σ) σ out (by decide) rfl (Nat.le_of_ble_eq_true rfl) ?_
  intro p e s m ar below meth c Q ls A hx hb hml hown hts hK hA hP hD hS hret hl
  have hP : va_P g.1 vwCl (rr_wS g ad σ) s.heap := hP
  have hD : va_D A (rr_wS g ad σ) := hD
  have hown : s.vm.findClass RX3 = some m.cls := hown
  have hl : lv_has ls 3 [(0, .ref (ad 0)), (1, .int (rr_i x1))] := hl
  have hinX3 : ∀ w ∈ u_ws RX3 TX3 7, w ∈ wsX3_addKey := by decide +kernel
  have hk_0 : (Cond.initialized RX4).before ar s = true := hts _ (List.mem_of_getElem? (i := 4) (by decide +kernel))
  have hk_1 : (Cond.static yX4_isKey).before ar s = true := hts _ (List.mem_of_getElem? (i := 3) (by decide +kernel))
  have hk_2 : (Cond.fieldLink RX3 25 "RoomRing$Stock" "keyCount" "I").before ar s = true := hts _ (List.mem_of_getElem? (i := 1) (by decide +kernel))
  have hk_3 : (Cond.fieldLink RX3 18 "RoomRing$Stock" "keys" "[I").before ar s = true := hts _ (List.mem_of_getElem? (i := 2) (by decide +kernel))
  unfold M3_addKey at h
  have hL3_addKey_38 : ∀ (x1 : Int) (K : Int → rr_T → Option (Int × rr_T)) (n : Nat) (x2 : Int) (σ : rr_T) (H : Heap) (locs : List Loc) (ls : Array Slot), L3_addKey_38 x1 K n x2 σ = some out → va_P g.1 vwCl (rr_wS g ad σ) H → va_D A (rr_wS g ad σ) → va_S A s.heap H locs → lv_has ls 3 [(0, .ref (ad 0)), (1, .int (rr_i x1)), (2, .int (rr_i x2))] → (∀ (z2 : Int) (τ9 : rr_T) (H : Heap) (locs : List Loc) (ls : Array Slot), K z2 τ9 = some out → va_P g.1 vwCl (rr_wS g ad τ9) H → va_D A (rr_wS g ad τ9) → va_S A s.heap H locs → lv_has ls 3 [(0, .ref (ad 0)), (1, .int (rr_i x1)), (2, .int (rr_i z2))] → W p l e rm_X3_addKey s m ar below meth c H locs 0 0 Q (F0 m 74 ls [])) → W p l e rm_X3_addKey s m ar below meth c H locs 0 0 Q (F0 m 38 ls []) := by
    intro x1 K n
    induction n with
    | zero => intro x2 σ H locs ls h hP hD hS hl hk; cases h
    | succ n ih =>
      intro x2 σ H locs ls h hP hD hS hl hk
      rw [L3_addKey_38_s] at h
      refine lv_iload_n hx hb dX3_addKey_38 rfl (lv_at hl 2 rfl) ?_
      obtain ⟨hg11, h⟩ := rr_c_some h
      refine rr_if_le (tgt := 74) hx hb dX3_addKey_39 (by decide) hg11 (fun c12 => ?_) (fun c12 => ?_)
      · rw [if_pos c12] at h
        exact hk x2 σ _ _ ls h hP hD hS (lv_sub hl [0, 1, 2] rfl)
      · rw [if_neg c12] at h
        refine lv_aload_n hx hb dX3_addKey_42 rfl (lv_at hl 0 rfl) ?_
        refine va_get (D := g.1) (ci := 3) (v := .ref (ad 3)) (C := RX3) (T := TX3) (N := 7) hx hb hts hinX3 hown hK.1 hP 0 rfl rfl 2 (by decide) hk_3 (fun _ h9 => h9) rfl dX3_addKey_43 ?_
        refine lv_iload_n hx hb dX3_addKey_46 rfl (lv_at hl 2 rfl) ?_
        refine rr_iconst hx hb dX3_addKey_47 ?_
        refine rr_isub hx hb dX3_addKey_48 ?_
        obtain ⟨hg13, h⟩ := rr_c_some h
        refine rr_iald (f := (σ 2)) (N := 40) hx hb hK hP 3 rfl rfl (by decide) hg13 dX3_addKey_49 ?_
        refine lv_iload_n hx hb dX3_addKey_50 rfl (lv_at hl 1 rfl) ?_
        obtain ⟨hg14, h⟩ := rr_c_some h
        refine rr_icmp_le (tgt := 74) hx hb dX3_addKey_51 (by decide) hg14.1 hg14.2 (fun c15 => ?_) (fun c15 => ?_)
        · rw [if_pos c15] at h
          exact hk x2 σ _ _ ls h hP hD hS (lv_sub hl [0, 1, 2] rfl)
        · rw [if_neg c15] at h
          refine lv_aload_n hx hb dX3_addKey_54 rfl (lv_at hl 0 rfl) ?_
          refine va_get (D := g.1) (ci := 3) (v := .ref (ad 3)) (C := RX3) (T := TX3) (N := 7) hx hb hts hinX3 hown hK.1 hP 0 rfl rfl 2 (by decide) hk_3 (fun _ h9 => h9) rfl dX3_addKey_55 ?_
          refine lv_iload_n hx hb dX3_addKey_58 rfl (lv_at hl 2 rfl) ?_
          refine lv_aload_n hx hb dX3_addKey_59 rfl (lv_at hl 0 rfl) ?_
          refine va_get (D := g.1) (ci := 3) (v := .ref (ad 3)) (C := RX3) (T := TX3) (N := 7) hx hb hts hinX3 hown hK.1 hP 0 rfl rfl 2 (by decide) hk_3 (fun _ h9 => h9) rfl dX3_addKey_60 ?_
          refine lv_iload_n hx hb dX3_addKey_63 rfl (lv_at hl 2 rfl) ?_
          refine rr_iconst hx hb dX3_addKey_64 ?_
          refine rr_isub hx hb dX3_addKey_65 ?_
          refine rr_iald (f := (σ 2)) (N := 40) hx hb hK hP 3 rfl rfl (by decide) hg13 dX3_addKey_66 ?_
          obtain ⟨hg16, h⟩ := rr_c_some h
          refine rr_iast (f := (σ 2)) (N := 40) hx hb hK hP hD hS 3 rfl rfl (by decide) hg16 dX3_addKey_67 (fun H locs hP hD hS => ?_)
          have hP : va_P g.1 vwCl (rr_wS g ad (rr_s σ 2 x2 (σ 2 (x2 - 1)))) H := hP
          have hD : va_D A (rr_wS g ad (rr_s σ 2 x2 (σ 2 (x2 - 1)))) := hD
          refine rr_iinc (k := 2) (a := x2) (lv' := [(2, .int (rr_i (x2 + (-1)))), (0, .ref (ad 0)), (1, .int (rr_i x1))]) hx hb dX3_addKey_68 hl rfl (by decide) rfl (fun ls hl => ?_)
          refine lv_goto (tgt := 38) hx hb dX3_addKey_71 (by decide) ?_
          exact ih (x2 + (-1)) (rr_s σ 2 x2 (σ 2 (x2 - 1))) _ _ ls h hP hD hS (lv_sub hl [1, 2, 0] rfl) hk
  refine lv_iload_n hx hb dX3_addKey_0 rfl (lv_at hl 1 rfl) ?_
  obtain ⟨v1, hw2, h⟩ := rr_b_some h
  refine rr_callI (va_runSN (As := [.int (rr_i x1)]) (rest := []) ⟨hx, hb, hml, hown, hts⟩ (kX4_isKey l g x1 v1 hw2) ⟨va_cnB (host := RX4) 1 hts gX3_addKey_X4_isKey_n70 rfl rfl rfl (hK.2.2.2.2.2.2.2) hk_0 hd_X4_isKey ⟨Nat.le_of_ble_eq_true rfl, Nat.le_of_ble_eq_true rfl⟩, hk_1, trivial⟩ ⟨rr_R_blind, rr_R_pre hK (hP.sub (ws' := ([] : va_W)) [] rfl)⟩ rfl rfl hl.1 rfl (lv_room (Nat.le_of_ble_eq_true rfl)) dX3_addKey_1 ⟨Nat.zero_le _, Nat.zero_le _⟩) ?_
  obtain ⟨hg3, h⟩ := rr_c_some h
  refine rr_if_ne (tgt := 10) hx hb dX3_addKey_4 (by decide) hg3 (fun c4 => ?_) (fun c4 => ?_)
  · rw [if_neg c4] at h
    refine lv_aload_n hx hb dX3_addKey_10 rfl (lv_at hl 0 rfl) ?_
    refine lv_iload_n hx hb dX3_addKey_11 rfl (lv_at hl 1 rfl) ?_
    obtain ⟨v5, hw6, h⟩ := rr_b_some h
    refine rr_callI (va_runV (As := [.int (rr_i x1)]) (rest := []) ⟨hx, hb, hml, hown, hts⟩ (kX3_findKey l g ad x1 σ v5 hw6) (cwV 1 hts gX3_addKey_X3_findKey rfl rfl rfl ⟨rfl, hd_X3_findKey⟩ ⟨Nat.le_of_ble_eq_true rfl, Nat.le_of_ble_eq_true rfl⟩) ⟨rr_R_blind, va_recv hK.1 hP (ci := 3) (q0 := 0) rfl rfl, rr_R_pre hK hP⟩ rfl rfl hl.1 rfl (lv_room (Nat.le_of_ble_eq_true rfl)) dX3_addKey_12 ⟨Nat.zero_le _, Nat.zero_le _⟩) ?_
    obtain ⟨hg7, h⟩ := rr_c_some h
    refine rr_if_lt (tgt := 21) hx hb dX3_addKey_15 (by decide) hg7 (fun c8 => ?_) (fun c8 => ?_)
    · rw [if_pos c8] at h
      refine lv_aload_n hx hb dX3_addKey_21 rfl (lv_at hl 0 rfl) ?_
      refine va_get (D := g.1) (ci := 3) (v := .int (rr_i (σ 4 0))) (C := RX3) (T := TX3) (N := 7) hx hb hts hinX3 hown hK.1 hP 0 rfl rfl 4 (by decide) hk_2 (fun _ h9 => h9) rfl dX3_addKey_22 ?_
      refine rr_bipush hx hb dX3_addKey_25 (by decide +kernel) ?_
      obtain ⟨hg9, h⟩ := rr_c_some h
      refine rr_icmp_lt (tgt := 33) hx hb dX3_addKey_27 (by decide) hg9 (by decide) (fun c10 => ?_) (fun c10 => ?_)
      · rw [if_pos c10] at h
        refine lv_aload_n hx hb dX3_addKey_33 rfl (lv_at hl 0 rfl) ?_
        refine va_get (D := g.1) (ci := 3) (v := .int (rr_i (σ 4 0))) (C := RX3) (T := TX3) (N := 7) hx hb hts hinX3 hown hK.1 hP 0 rfl rfl 4 (by decide) hk_2 (fun _ h9 => h9) rfl dX3_addKey_34 ?_
        refine lv_istore_n (lv' := [(2, .int (rr_i (σ 4 0))), (0, .ref (ad 0)), (1, .int (rr_i x1))]) hx hb dX3_addKey_37 rfl hl (by decide) rfl (fun ls hl => ?_)
        refine hL3_addKey_38 x1 _ 1000 (σ 4 0) σ _ _ ls h hP hD hS (lv_sub hl [1, 2, 0] rfl) (fun y2_38 σ_38 H locs ls h hP hD hS hl => ?_)
        refine lv_aload_n hx hb dX3_addKey_74 rfl (lv_at hl 0 rfl) ?_
        refine va_get (D := g.1) (ci := 3) (v := .ref (ad 3)) (C := RX3) (T := TX3) (N := 7) hx hb hts hinX3 hown hK.1 hP 0 rfl rfl 2 (by decide) hk_3 (fun _ h9 => h9) rfl dX3_addKey_75 ?_
        refine lv_iload_n hx hb dX3_addKey_78 rfl (lv_at hl 2 rfl) ?_
        refine lv_iload_n hx hb dX3_addKey_79 rfl (lv_at hl 1 rfl) ?_
        obtain ⟨hg17, h⟩ := rr_c_some h
        refine rr_iast (f := (σ_38 2)) (N := 40) hx hb hK hP hD hS 3 rfl rfl (by decide) hg17 dX3_addKey_80 (fun H locs hP hD hS => ?_)
        have hP : va_P g.1 vwCl (rr_wS g ad (rr_s σ_38 2 y2_38 x1)) H := hP
        have hD : va_D A (rr_wS g ad (rr_s σ_38 2 y2_38 x1)) := hD
        refine lv_aload_n hx hb dX3_addKey_81 rfl (lv_at hl 0 rfl) ?_
        refine lv_dup hx hb dX3_addKey_82 rfl ?_
        refine va_get (D := g.1) (ci := 3) (v := .int (rr_i (σ_38 4 0))) (C := RX3) (T := TX3) (N := 7) hx hb hts hinX3 hown hK.1 hP 0 rfl rfl 4 (by decide) hk_2 (fun _ h9 => h9) rfl dX3_addKey_83 ?_
        refine rr_iconst hx hb dX3_addKey_86 ?_
        refine rr_iadd hx hb dX3_addKey_87 ?_
        refine va_put (D := g.1) (ci := 3) (v := .int (rr_i ((σ_38 4 0) + 1))) (ty := .int) (C := RX3) (T := TX3) (N := 7) hx hb hts hinX3 tyX3 tyX3_ok nmX3 hown hK.1 hP hD hS 0 rfl rfl 4 (by decide) hk_2 (fun _ h9 => h9) rfl (by decide +kernel) rfl rfl (Nat.le_of_ble_eq_true rfl) dX3_addKey_88 (fun H locs hP hD hS => ?_)
        have hP : va_P g.1 vwCl (rr_wS g ad (rr_t (rr_s σ_38 2 y2_38 x1) 4 ((σ_38 4 0) + 1))) H := hP
        have hD : va_D A (rr_wS g ad (rr_t (rr_s σ_38 2 y2_38 x1) 4 ((σ_38 4 0) + 1))) := hD
        refine rr_iconst hx hb dX3_addKey_91 ?_
        exact hret _ _ _ _ _ _ h hP hD hS dX3_addKey_92
      · rw [if_neg c10] at h
        refine rr_bipush hx hb dX3_addKey_30 (by decide +kernel) ?_
        exact hret _ _ _ _ _ _ h hP hD hS dX3_addKey_32
    · rw [if_neg c8] at h
      refine rr_bipush hx hb dX3_addKey_18 (by decide +kernel) ?_
      exact hret _ _ _ _ _ _ h hP hD hS dX3_addKey_20
  · rw [if_pos c4] at h
    refine rr_bipush hx hb dX3_addKey_7 (by decide +kernel) ?_
    exact hret _ _ _ _ _ _ h hP hD hS dX3_addKey_9
-- RoomRing$Stock.removeKey
abbrev rm_X3_removeKey : Room := { frames := 1, cells := 0, slots := 0, locals := 22 }
theorem hd_X3_removeKey : yX3_removeKey.cls ≠ "java/lang/invoke/MethodHandle" ∧ yX3_removeKey.cls ≠ "java/lang/invoke/VarHandle" ∧ (parseMethodDescriptor yX3_removeKey.desc).map (fun d => d.parameters.length) = some 1 := by decide +kernel
set_option maxHeartbeats 4000000 in
set_option maxRecDepth 100000 in
theorem kX3_removeKey (l : Launch) (g : rr_G) (ad : Nat → Nat) (sz : Nat) (x1 : Int) (σ : rr_T) (out : (Int × rr_T)) (h : M3_removeKey x1 σ = some out) : Met l yX3_removeKey wsX3_removeKey rm_X3_removeKey (rr_P g [.ref (ad 0), .int (rr_i x1)] (rr_wS g ad σ) sz) (rr_Qi g out.1 (rr_wS g ad out.2) (va_A (rr_wS g ad σ) sz)) 0 0 (va_A (rr_wS g ad σ) sz) := by
  refine rr_rwI (cc := cX3_removeKey) (maxL := 4) (fun σ => rr_wS g ad σ) σ out (by decide) rfl (Nat.le_of_ble_eq_true rfl) ?_
  intro p e s m ar below meth c Q ls A hx hb hml hown hts hK hA hP hD hS hret hl
  have hP : va_P g.1 vwCl (rr_wS g ad σ) s.heap := hP
  have hD : va_D A (rr_wS g ad σ) := hD
  have hown : s.vm.findClass RX3 = some m.cls := hown
  have hl : lv_has ls 4 [(0, .ref (ad 0)), (1, .int (rr_i x1))] := hl
  have hinX3 : ∀ w ∈ u_ws RX3 TX3 7, w ∈ wsX3_removeKey := by decide +kernel
  have hk_0 : (Cond.initialized RX4).before ar s = true := hts _ (List.mem_of_getElem? (i := 4) (by decide +kernel))
  have hk_1 : (Cond.static yX4_isKey).before ar s = true := hts _ (List.mem_of_getElem? (i := 3) (by decide +kernel))
  have hk_2 : (Cond.fieldLink RX3 25 "RoomRing$Stock" "keyCount" "I").before ar s = true := hts _ (List.mem_of_getElem? (i := 1) (by decide +kernel))
  have hk_3 : (Cond.fieldLink RX3 18 "RoomRing$Stock" "keys" "[I").before ar s = true := hts _ (List.mem_of_getElem? (i := 2) (by decide +kernel))
  unfold M3_removeKey at h
  have hL3_removeKey_27 : ∀ (K : rr_T → Option (Int × rr_T)) (n : Nat) (x3 : Int) (σ : rr_T) (H : Heap) (locs : List Loc) (ls : Array Slot), L3_removeKey_27 K n x3 σ = some out → va_P g.1 vwCl (rr_wS g ad σ) H → va_D A (rr_wS g ad σ) → va_S A s.heap H locs → lv_has ls 4 [(0, .ref (ad 0)), (3, .int (rr_i x3))] → (∀ (τ9 : rr_T) (H : Heap) (locs : List Loc) (ls : Array Slot), K τ9 = some out → va_P g.1 vwCl (rr_wS g ad τ9) H → va_D A (rr_wS g ad τ9) → va_S A s.heap H locs → lv_has ls 4 [(0, .ref (ad 0))] → W p l e rm_X3_removeKey s m ar below meth c H locs 0 0 Q (F0 m 55 ls [])) → W p l e rm_X3_removeKey s m ar below meth c H locs 0 0 Q (F0 m 27 ls []) := by
    intro K n
    induction n with
    | zero => intro x3 σ H locs ls h hP hD hS hl hk; cases h
    | succ n ih =>
      intro x3 σ H locs ls h hP hD hS hl hk
      rw [L3_removeKey_27_s] at h
      refine lv_iload_n hx hb dX3_removeKey_27 rfl (lv_at hl 1 rfl) ?_
      refine lv_aload_n hx hb dX3_removeKey_28 rfl (lv_at hl 0 rfl) ?_
      refine va_get (D := g.1) (ci := 3) (v := .int (rr_i (σ 4 0))) (C := RX3) (T := TX3) (N := 7) hx hb hts hinX3 hown hK.1 hP 0 rfl rfl 4 (by decide) hk_2 (fun _ h9 => h9) rfl dX3_removeKey_29 ?_
      obtain ⟨hg9, h⟩ := rr_c_some h
      refine rr_icmp_ge (tgt := 55) hx hb dX3_removeKey_32 (by decide) hg9.1 hg9.2 (fun c10 => ?_) (fun c10 => ?_)
      · rw [if_pos c10] at h
        exact hk σ _ _ ls h hP hD hS (lv_sub hl [0] rfl)
      · rw [if_neg c10] at h
        refine lv_aload_n hx hb dX3_removeKey_35 rfl (lv_at hl 0 rfl) ?_
        refine va_get (D := g.1) (ci := 3) (v := .ref (ad 3)) (C := RX3) (T := TX3) (N := 7) hx hb hts hinX3 hown hK.1 hP 0 rfl rfl 2 (by decide) hk_3 (fun _ h9 => h9) rfl dX3_removeKey_36 ?_
        refine lv_iload_n hx hb dX3_removeKey_39 rfl (lv_at hl 1 rfl) ?_
        refine rr_iconst hx hb dX3_removeKey_40 ?_
        refine rr_isub hx hb dX3_removeKey_41 ?_
        refine lv_aload_n hx hb dX3_removeKey_42 rfl (lv_at hl 0 rfl) ?_
        refine va_get (D := g.1) (ci := 3) (v := .ref (ad 3)) (C := RX3) (T := TX3) (N := 7) hx hb hts hinX3 hown hK.1 hP 0 rfl rfl 2 (by decide) hk_3 (fun _ h9 => h9) rfl dX3_removeKey_43 ?_
        refine lv_iload_n hx hb dX3_removeKey_46 rfl (lv_at hl 1 rfl) ?_
        obtain ⟨hg11, h⟩ := rr_c_some h
        refine rr_iald (f := (σ 2)) (N := 40) hx hb hK hP 3 rfl rfl (by decide) hg11 dX3_removeKey_47 ?_
        obtain ⟨hg12, h⟩ := rr_c_some h
        refine rr_iast (f := (σ 2)) (N := 40) hx hb hK hP hD hS 3 rfl rfl (by decide) hg12 dX3_removeKey_48 (fun H locs hP hD hS => ?_)
        have hP : va_P g.1 vwCl (rr_wS g ad (rr_s σ 2 (x3 - 1) (σ 2 x3))) H := hP
        have hD : va_D A (rr_wS g ad (rr_s σ 2 (x3 - 1) (σ 2 x3))) := hD
        refine rr_iinc (k := 1) (a := x3) (lv' := [(3, .int (rr_i (x3 + 1))), (0, .ref (ad 0))]) hx hb dX3_removeKey_49 hl rfl (by decide) rfl (fun ls hl => ?_)
        refine lv_goto (tgt := 27) hx hb dX3_removeKey_52 (by decide) ?_
        exact ih (x3 + 1) (rr_s σ 2 (x3 - 1) (σ 2 x3)) _ _ ls h hP hD hS (lv_sub hl [1, 0] rfl) hk
  refine lv_iload_n hx hb dX3_removeKey_0 rfl (lv_at hl 1 rfl) ?_
  obtain ⟨v1, hw2, h⟩ := rr_b_some h
  refine rr_callI (va_runSN (As := [.int (rr_i x1)]) (rest := []) ⟨hx, hb, hml, hown, hts⟩ (kX4_isKey l g x1 v1 hw2) ⟨va_cnB (host := RX4) 1 hts gX3_removeKey_X4_isKey_n70 rfl rfl rfl (hK.2.2.2.2.2.2.2) hk_0 hd_X4_isKey ⟨Nat.le_of_ble_eq_true rfl, Nat.le_of_ble_eq_true rfl⟩, hk_1, trivial⟩ ⟨rr_R_blind, rr_R_pre hK (hP.sub (ws' := ([] : va_W)) [] rfl)⟩ rfl rfl hl.1 rfl (lv_room (Nat.le_of_ble_eq_true rfl)) dX3_removeKey_1 ⟨Nat.zero_le _, Nat.zero_le _⟩) ?_
  obtain ⟨hg3, h⟩ := rr_c_some h
  refine rr_if_ne (tgt := 10) hx hb dX3_removeKey_4 (by decide) hg3 (fun c4 => ?_) (fun c4 => ?_)
  · rw [if_neg c4] at h
    refine lv_aload_n hx hb dX3_removeKey_10 rfl (lv_at hl 0 rfl) ?_
    refine lv_iload_n hx hb dX3_removeKey_11 rfl (lv_at hl 1 rfl) ?_
    obtain ⟨v5, hw6, h⟩ := rr_b_some h
    refine rr_callI (va_runV (As := [.int (rr_i x1)]) (rest := []) ⟨hx, hb, hml, hown, hts⟩ (kX3_findKey l g ad x1 σ v5 hw6) (cwV 1 hts gX3_removeKey_X3_findKey rfl rfl rfl ⟨rfl, hd_X3_findKey⟩ ⟨Nat.le_of_ble_eq_true rfl, Nat.le_of_ble_eq_true rfl⟩) ⟨rr_R_blind, va_recv hK.1 hP (ci := 3) (q0 := 0) rfl rfl, rr_R_pre hK hP⟩ rfl rfl hl.1 rfl (lv_room (Nat.le_of_ble_eq_true rfl)) dX3_removeKey_12 ⟨Nat.zero_le _, Nat.zero_le _⟩) ?_
    refine lv_istore_n (lv' := [(2, .int (rr_i v5)), (0, .ref (ad 0)), (1, .int (rr_i x1))]) hx hb dX3_removeKey_15 rfl hl (by decide) rfl (fun ls hl => ?_)
    refine lv_iload_n hx hb dX3_removeKey_16 rfl (lv_at hl 0 rfl) ?_
    obtain ⟨hg7, h⟩ := rr_c_some h
    refine rr_if_ge (tgt := 23) hx hb dX3_removeKey_17 (by decide) hg7 (fun c8 => ?_) (fun c8 => ?_)
    · rw [if_pos c8] at h
      refine lv_iload_n hx hb dX3_removeKey_23 rfl (lv_at hl 0 rfl) ?_
      refine rr_iconst hx hb dX3_removeKey_24 ?_
      refine rr_iadd hx hb dX3_removeKey_25 ?_
      refine lv_istore_n (lv' := [(3, .int (rr_i (v5 + 1))), (2, .int (rr_i v5)), (0, .ref (ad 0)), (1, .int (rr_i x1))]) hx hb dX3_removeKey_26 rfl hl (by decide) rfl (fun ls hl => ?_)
      refine hL3_removeKey_27 _ 1000 (v5 + 1) σ _ _ ls h hP hD hS (lv_sub hl [2, 0] rfl) (fun σ_27 H locs ls h hP hD hS hl => ?_)
      refine lv_aload_n hx hb dX3_removeKey_55 rfl (lv_at hl 0 rfl) ?_
      refine lv_dup hx hb dX3_removeKey_56 rfl ?_
      refine va_get (D := g.1) (ci := 3) (v := .int (rr_i (σ_27 4 0))) (C := RX3) (T := TX3) (N := 7) hx hb hts hinX3 hown hK.1 hP 0 rfl rfl 4 (by decide) hk_2 (fun _ h9 => h9) rfl dX3_removeKey_57 ?_
      refine rr_iconst hx hb dX3_removeKey_60 ?_
      refine rr_isub hx hb dX3_removeKey_61 ?_
      refine va_put (D := g.1) (ci := 3) (v := .int (rr_i ((σ_27 4 0) - 1))) (ty := .int) (C := RX3) (T := TX3) (N := 7) hx hb hts hinX3 tyX3 tyX3_ok nmX3 hown hK.1 hP hD hS 0 rfl rfl 4 (by decide) hk_2 (fun _ h9 => h9) rfl (by decide +kernel) rfl rfl (Nat.le_of_ble_eq_true rfl) dX3_removeKey_62 (fun H locs hP hD hS => ?_)
      have hP : va_P g.1 vwCl (rr_wS g ad (rr_t σ_27 4 ((σ_27 4 0) - 1))) H := hP
      have hD : va_D A (rr_wS g ad (rr_t σ_27 4 ((σ_27 4 0) - 1))) := hD
      refine rr_iconst hx hb dX3_removeKey_65 ?_
      exact hret _ _ _ _ _ _ h hP hD hS dX3_removeKey_66
    · rw [if_neg c8] at h
      refine rr_bipush hx hb dX3_removeKey_20 (by decide +kernel) ?_
      exact hret _ _ _ _ _ _ h hP hD hS dX3_removeKey_22
  · rw [if_pos c4] at h
    refine rr_bipush hx hb dX3_removeKey_7 (by decide +kernel) ?_
    exact hret _ _ _ _ _ _ h hP hD hS dX3_removeKey_9
-- RoomRing$Stock.changeExtra
abbrev rm_X3_changeExtra : Room := { frames := 0, cells := 0, slots := 0, locals := 0 }
theorem hd_X3_changeExtra : yX3_changeExtra.cls ≠ "java/lang/invoke/MethodHandle" ∧ yX3_changeExtra.cls ≠ "java/lang/invoke/VarHandle" ∧ (parseMethodDescriptor yX3_changeExtra.desc).map (fun d => d.parameters.length) = some 1 := by decide +kernel
set_option maxHeartbeats 4000000 in
set_option maxRecDepth 100000 in
theorem kX3_changeExtra (l : Launch) (g : rr_G) (ad : Nat → Nat) (sz : Nat) (x1 : Int) (σ : rr_T) (out : (Int × rr_T)) (h : M3_changeExtra x1 σ = some out) : Met l yX3_changeExtra wsX3_changeExtra rm_X3_changeExtra (rr_P g [.ref (ad 0), .int (rr_i x1)] (rr_wS g ad σ) sz) (rr_Qi g out.1 (rr_wS g ad out.2) (va_A (rr_wS g ad σ) sz)) 0 0 (va_A (rr_wS g ad σ) sz) := by
  refine rr_rwI (cc := cX3_changeExtra) (maxL := 2) (fun σ => rr_wS g ad σ) σ out (by decide) rfl (Nat.le_of_ble_eq_true rfl) ?_
  intro p e s m ar below meth c Q ls A hx hb hml hown hts hK hA hP hD hS hret hl
  have hP : va_P g.1 vwCl (rr_wS g ad σ) s.heap := hP
  have hD : va_D A (rr_wS g ad σ) := hD
  have hown : s.vm.findClass RX3 = some m.cls := hown
  have hl : lv_has ls 2 [(0, .ref (ad 0)), (1, .int (rr_i x1))] := hl
  have hinX3 : ∀ w ∈ u_ws RX3 TX3 7, w ∈ wsX3_changeExtra := by decide +kernel
  have hk_0 : (Cond.fieldLink RX3 28 "RoomRing$Stock" "extraShare" "I").before ar s = true := hts _ (List.mem_of_getElem? (i := 1) (by decide +kernel))
  unfold M3_changeExtra at h
  refine lv_iload_n hx hb dX3_changeExtra_0 rfl (lv_at hl 1 rfl) ?_
  obtain ⟨hg1, h⟩ := rr_c_some h
  refine rr_if_lt (tgt := 11) hx hb dX3_changeExtra_1 (by decide) hg1 (fun c2 => ?_) (fun c2 => ?_)
  · rw [if_pos c2] at h
    refine rr_bipush hx hb dX3_changeExtra_11 (by decide +kernel) ?_
    exact hret _ _ _ _ _ _ h hP hD hS dX3_changeExtra_13
  · rw [if_neg c2] at h
    refine lv_iload_n hx hb dX3_changeExtra_4 rfl (lv_at hl 1 rfl) ?_
    refine rr_sipush hx hb dX3_changeExtra_5 (by decide +kernel) ?_
    refine rr_icmp_le (tgt := 14) hx hb dX3_changeExtra_8 (by decide) hg1 (by decide) (fun c3 => ?_) (fun c3 => ?_)
    · rw [if_pos c3] at h
      refine lv_aload_n hx hb dX3_changeExtra_14 rfl (lv_at hl 0 rfl) ?_
      refine lv_iload_n hx hb dX3_changeExtra_15 rfl (lv_at hl 1 rfl) ?_
      refine va_put (D := g.1) (ci := 3) (v := .int (rr_i x1)) (ty := .int) (C := RX3) (T := TX3) (N := 7) hx hb hts hinX3 tyX3 tyX3_ok nmX3 hown hK.1 hP hD hS 0 rfl rfl 5 (by decide) hk_0 (fun _ h9 => h9) rfl (by decide +kernel) rfl rfl (Nat.le_of_ble_eq_true rfl) dX3_changeExtra_16 (fun H locs hP hD hS => ?_)
      have hP : va_P g.1 vwCl (rr_wS g ad (rr_t σ 5 x1)) H := hP
      have hD : va_D A (rr_wS g ad (rr_t σ 5 x1)) := hD
      refine rr_iconst hx hb dX3_changeExtra_19 ?_
      exact hret _ _ _ _ _ _ h hP hD hS dX3_changeExtra_20
    · rw [if_neg c3] at h
      refine rr_bipush hx hb dX3_changeExtra_11 (by decide +kernel) ?_
      exact hret _ _ _ _ _ _ h hP hD hS dX3_changeExtra_13
-- RoomRing$Stock.take
abbrev rm_X3_take : Room := { frames := 2, cells := 0, slots := 0, locals := 45 }
theorem hd_X3_take : yX3_take.cls ≠ "java/lang/invoke/MethodHandle" ∧ yX3_take.cls ≠ "java/lang/invoke/VarHandle" ∧ (parseMethodDescriptor yX3_take.desc).map (fun d => d.parameters.length) = some 3 := by decide +kernel
set_option maxHeartbeats 4000000 in
set_option maxRecDepth 100000 in
theorem kX3_take (l : Launch) (g : rr_G) (ad : Nat → Nat) (sz : Nat) (x1 : Int) (x2 : Int) (x3 : Int) (σ : rr_T) (out : (Int × rr_T)) (h : M3_take x1 x2 x3 σ = some out) : Met l yX3_take wsX3_take rm_X3_take (rr_P g [.ref (ad 0), .int (rr_i x1), .int (rr_i x2), .int (rr_i x3)] (rr_wS g ad σ) sz) (rr_Qi g out.1 (rr_wS g ad out.2) (va_A (rr_wS g ad σ) sz)) 0 0 (va_A (rr_wS g ad σ) sz) := by
  refine rr_rwI (cc := cX3_take) (maxL := 4) (fun σ => rr_wS g ad σ) σ out (by decide) rfl (Nat.le_of_ble_eq_true rfl) ?_
  intro p e s m ar below meth c Q ls A hx hb hml hown hts hK hA hP hD hS hret hl
  have hP : va_P g.1 vwCl (rr_wS g ad σ) s.heap := hP
  have hD : va_D A (rr_wS g ad σ) := hD
  have hown : s.vm.findClass RX3 = some m.cls := hown
  have hl : lv_has ls 4 [(0, .ref (ad 0)), (1, .int (rr_i x1)), (2, .int (rr_i x2)), (3, .int (rr_i x3))] := hl
  unfold M3_take at h
  refine lv_iload_n hx hb dX3_take_0 rfl (lv_at hl 1 rfl) ?_
  obtain ⟨hg1, h⟩ := rr_c_some h
  have hv2 : (rr_i x1).toInt = x1 := rr_to_i hg1
  by_cases c3 : x1 = 100
  · rw [if_pos c3] at h
    refine lv_lookup (off := 77) (tgt := 78) hx hb dX3_take_1 (by decide) (by rw [hv2, c3]; decide) (by decide) ?_
    refine lv_aload_n hx hb dX3_take_78 rfl (lv_at hl 0 rfl) ?_
    refine lv_iload_n hx hb dX3_take_79 rfl (lv_at hl 2 rfl) ?_
    obtain ⟨v4, hw5, h⟩ := rr_b_some h
    refine rr_allI hD hS hA (va_runV (As := [.int (rr_i x2)]) (rest := []) ⟨hx, hb, hml, hown, hts⟩ (kX3_removeKey l g ad _ x2 σ v4 hw5) (cwV 1 hts gX3_take_X3_removeKey rfl rfl rfl ⟨rfl, hd_X3_removeKey⟩ ⟨Nat.le_of_ble_eq_true rfl, Nat.le_of_ble_eq_true rfl⟩) ⟨rr_P_blind, va_recv hK.1 hP (ci := 3) (q0 := 0) rfl rfl, rr_P_pre hK hP hD⟩ rfl rfl hl.1 rfl (lv_room (Nat.le_of_ble_eq_true rfl)) dX3_take_80 ⟨Nat.zero_le _, Nat.zero_le _⟩) (fun H locs hP hD hS => ?_)
    exact hret _ _ _ _ _ _ h hP hD hS dX3_take_83
  · rw [if_neg c3] at h
    by_cases c6 : x1 = 103
    · rw [if_pos c6] at h
      refine lv_lookup (off := 65) (tgt := 66) hx hb dX3_take_1 (by decide) (by rw [hv2, c6]; decide) (by decide) ?_
      refine lv_aload_n hx hb dX3_take_66 rfl (lv_at hl 0 rfl) ?_
      refine lv_iload_n hx hb dX3_take_67 rfl (lv_at hl 2 rfl) ?_
      obtain ⟨v7, hw8, h⟩ := rr_b_some h
      refine rr_allI hD hS hA (va_runV (As := [.int (rr_i x2)]) (rest := []) ⟨hx, hb, hml, hown, hts⟩ (kX3_removeHost l g ad _ x2 σ v7 hw8) (cwV 1 hts gX3_take_X3_removeHost rfl rfl rfl ⟨rfl, hd_X3_removeHost⟩ ⟨Nat.le_of_ble_eq_true rfl, Nat.le_of_ble_eq_true rfl⟩) ⟨rr_P_blind, va_recv hK.1 hP (ci := 3) (q0 := 0) rfl rfl, rr_P_pre hK hP hD⟩ rfl rfl hl.1 rfl (lv_room (Nat.le_of_ble_eq_true rfl)) dX3_take_68 ⟨Nat.zero_le _, Nat.zero_le _⟩) (fun H locs hP hD hS => ?_)
      exact hret _ _ _ _ _ _ h hP hD hS dX3_take_71
    · rw [if_neg c6] at h
      by_cases c9 : x1 = 104
      · rw [if_pos c9] at h
        refine lv_lookup (off := 51) (tgt := 52) hx hb dX3_take_1 (by decide) (by rw [hv2, c9]; decide) (by decide) ?_
        refine lv_aload_n hx hb dX3_take_52 rfl (lv_at hl 0 rfl) ?_
        refine lv_iload_n hx hb dX3_take_53 rfl (lv_at hl 2 rfl) ?_
        refine lv_iload_n hx hb dX3_take_54 rfl (lv_at hl 3 rfl) ?_
        obtain ⟨v10, hw11, h⟩ := rr_b_some h
        refine rr_allI hD hS hA (va_runV (As := [.int (rr_i x2), .int (rr_i x3)]) (rest := []) ⟨hx, hb, hml, hown, hts⟩ (kX3_addHost l g ad _ x2 x3 σ v10 hw11) (cwV 2 hts gX3_take_X3_addHost rfl rfl rfl ⟨rfl, hd_X3_addHost⟩ ⟨Nat.le_of_ble_eq_true rfl, Nat.le_of_ble_eq_true rfl⟩) ⟨rr_P_blind, va_recv hK.1 hP (ci := 3) (q0 := 0) rfl rfl, rr_P_pre hK hP hD⟩ rfl rfl hl.1 rfl (lv_room (Nat.le_of_ble_eq_true rfl)) dX3_take_55 ⟨Nat.zero_le _, Nat.zero_le _⟩) (fun H locs hP hD hS => ?_)
        exact hret _ _ _ _ _ _ h hP hD hS dX3_take_58
      · rw [if_neg c9] at h
        by_cases c12 : x1 = 107
        · rw [if_pos c12] at h
          refine lv_lookup (off := 71) (tgt := 72) hx hb dX3_take_1 (by decide) (by rw [hv2, c12]; decide) (by decide) ?_
          refine lv_aload_n hx hb dX3_take_72 rfl (lv_at hl 0 rfl) ?_
          refine lv_iload_n hx hb dX3_take_73 rfl (lv_at hl 2 rfl) ?_
          obtain ⟨v13, hw14, h⟩ := rr_b_some h
          refine rr_allI hD hS hA (va_runV (As := [.int (rr_i x2)]) (rest := []) ⟨hx, hb, hml, hown, hts⟩ (kX3_addKey l g ad _ x2 σ v13 hw14) (cwV 1 hts gX3_take_X3_addKey rfl rfl rfl ⟨rfl, hd_X3_addKey⟩ ⟨Nat.le_of_ble_eq_true rfl, Nat.le_of_ble_eq_true rfl⟩) ⟨rr_P_blind, va_recv hK.1 hP (ci := 3) (q0 := 0) rfl rfl, rr_P_pre hK hP hD⟩ rfl rfl hl.1 rfl (lv_room (Nat.le_of_ble_eq_true rfl)) dX3_take_74 ⟨Nat.zero_le _, Nat.zero_le _⟩) (fun H locs hP hD hS => ?_)
          exact hret _ _ _ _ _ _ h hP hD hS dX3_take_77
        · rw [if_neg c12] at h
          by_cases c15 : x1 = 119
          · rw [if_pos c15] at h
            refine lv_lookup (off := 58) (tgt := 59) hx hb dX3_take_1 (by decide) (by rw [hv2, c15]; decide) (by decide) ?_
            refine lv_aload_n hx hb dX3_take_59 rfl (lv_at hl 0 rfl) ?_
            refine lv_iload_n hx hb dX3_take_60 rfl (lv_at hl 2 rfl) ?_
            refine lv_iload_n hx hb dX3_take_61 rfl (lv_at hl 3 rfl) ?_
            obtain ⟨v16, hw17, h⟩ := rr_b_some h
            refine rr_allI hD hS hA (va_runV (As := [.int (rr_i x2), .int (rr_i x3)]) (rest := []) ⟨hx, hb, hml, hown, hts⟩ (kX3_weighAnew l g ad _ x2 x3 σ v16 hw17) (cwV 2 hts gX3_take_X3_weighAnew rfl rfl rfl ⟨rfl, hd_X3_weighAnew⟩ ⟨Nat.le_of_ble_eq_true rfl, Nat.le_of_ble_eq_true rfl⟩) ⟨rr_P_blind, va_recv hK.1 hP (ci := 3) (q0 := 0) rfl rfl, rr_P_pre hK hP hD⟩ rfl rfl hl.1 rfl (lv_room (Nat.le_of_ble_eq_true rfl)) dX3_take_62 ⟨Nat.zero_le _, Nat.zero_le _⟩) (fun H locs hP hD hS => ?_)
            exact hret _ _ _ _ _ _ h hP hD hS dX3_take_65
          · rw [if_neg c15] at h
            refine lv_lookup (off := 83) (tgt := 84) hx hb dX3_take_1 (by decide) (by rw [hv2]; simp [Op.lookupswitch.offset, Ne.symm c3, Ne.symm c6, Ne.symm c9, Ne.symm c12, Ne.symm c15]) (by decide) ?_
            refine lv_aload_n hx hb dX3_take_84 rfl (lv_at hl 0 rfl) ?_
            refine lv_iload_n hx hb dX3_take_85 rfl (lv_at hl 2 rfl) ?_
            obtain ⟨v18, hw19, h⟩ := rr_b_some h
            refine rr_allI hD hS hA (va_runV (As := [.int (rr_i x2)]) (rest := []) ⟨hx, hb, hml, hown, hts⟩ (kX3_changeExtra l g ad _ x2 σ v18 hw19) (cwV 1 hts gX3_take_X3_changeExtra rfl rfl rfl ⟨rfl, hd_X3_changeExtra⟩ ⟨Nat.le_of_ble_eq_true rfl, Nat.le_of_ble_eq_true rfl⟩) ⟨rr_P_blind, va_recv hK.1 hP (ci := 3) (q0 := 0) rfl rfl, rr_P_pre hK hP hD⟩ rfl rfl hl.1 rfl (lv_room (Nat.le_of_ble_eq_true rfl)) dX3_take_86 ⟨Nat.zero_le _, Nat.zero_le _⟩) (fun H locs hP hD hS => ?_)
            exact hret _ _ _ _ _ _ h hP hD hS dX3_take_89
-- RoomRing$Stock.nameOf
abbrev rm_X3_nameOf : Room := { frames := 0, cells := 0, slots := 0, locals := 0 }
theorem hd_X3_nameOf : yX3_nameOf.cls ≠ "java/lang/invoke/MethodHandle" ∧ yX3_nameOf.cls ≠ "java/lang/invoke/VarHandle" ∧ (parseMethodDescriptor yX3_nameOf.desc).map (fun d => d.parameters.length) = some 1 := by decide +kernel
set_option maxHeartbeats 4000000 in
set_option maxRecDepth 100000 in
theorem kX3_nameOf (l : Launch) (g : rr_G) (ad : Nat → Nat) (x1 : Int) (σ : rr_T) (out : Int) (h : M3_nameOf x1 σ = some out) : Met l yX3_nameOf wsX3_nameOf rm_X3_nameOf (rr_R g [.ref (ad 0), .int (rr_i x1)] (rr_wS g ad σ)) (vp_Si (fun x => x = rr_i out)) 0 0 (fun _ => False) := by
  refine rr_roI (cc := cX3_nameOf) (maxL := 2) (by decide) rfl (Nat.le_of_ble_eq_true rfl) ?_
  intro p e s m ar below meth c Q ls hx hb hml hown hts hK hP hret hl
  have hown : s.vm.findClass RX3 = some m.cls := hown
  have hl : lv_has ls 2 [(0, .ref (ad 0)), (1, .int (rr_i x1))] := hl
  have hinX3 : ∀ w ∈ u_ws RX3 TX3 7, w ∈ wsX3_nameOf := by decide +kernel
  have hk_0 : (Cond.fieldLink RX3 21 "RoomRing$Stock" "hostCount" "I").before ar s = true := hts _ (List.mem_of_getElem? (i := 1) (by decide +kernel))
  have hk_1 : (Cond.fieldLink RX3 9 "RoomRing$Stock" "names" "[I").before ar s = true := hts _ (List.mem_of_getElem? (i := 2) (by decide +kernel))
  unfold M3_nameOf at h
  refine lv_iload_n hx hb dX3_nameOf_0 rfl (lv_at hl 1 rfl) ?_
  obtain ⟨hg1, h⟩ := rr_c_some h
  refine rr_if_lt (tgt := 21) hx hb dX3_nameOf_1 (by decide) hg1 (fun c2 => ?_) (fun c2 => ?_)
  · rw [if_pos c2] at h
    refine rr_iconst hx hb dX3_nameOf_21 ?_
    exact hret _ _ _ h dX3_nameOf_22
  · rw [if_neg c2] at h
    refine lv_iload_n hx hb dX3_nameOf_4 rfl (lv_at hl 1 rfl) ?_
    refine lv_aload_n hx hb dX3_nameOf_5 rfl (lv_at hl 0 rfl) ?_
    refine va_get (D := g.1) (ci := 3) (v := .int (rr_i (σ 3 0))) (C := RX3) (T := TX3) (N := 7) hx hb hts hinX3 hown hK.1 hP 0 rfl rfl 3 (by decide) hk_0 (fun _ h9 => h9) rfl dX3_nameOf_6 ?_
    obtain ⟨hg3, h⟩ := rr_c_some h
    refine rr_icmp_ge (tgt := 21) hx hb dX3_nameOf_9 (by decide) hg1 hg3 (fun c4 => ?_) (fun c4 => ?_)
    · rw [if_pos c4] at h
      refine rr_iconst hx hb dX3_nameOf_21 ?_
      exact hret _ _ _ h dX3_nameOf_22
    · rw [if_neg c4] at h
      refine lv_aload_n hx hb dX3_nameOf_12 rfl (lv_at hl 0 rfl) ?_
      refine va_get (D := g.1) (ci := 3) (v := .ref (ad 1)) (C := RX3) (T := TX3) (N := 7) hx hb hts hinX3 hown hK.1 hP 0 rfl rfl 0 (by decide) hk_1 (fun _ h9 => h9) rfl dX3_nameOf_13 ?_
      refine lv_iload_n hx hb dX3_nameOf_16 rfl (lv_at hl 1 rfl) ?_
      obtain ⟨hg5, h⟩ := rr_c_some h
      refine rr_iald (f := (σ 0)) (N := 6) hx hb hK hP 1 rfl rfl (by decide) hg5 dX3_nameOf_17 ?_
      refine lv_goto (tgt := 22) hx hb dX3_nameOf_18 (by decide) ?_
      exact hret _ _ _ h dX3_nameOf_22
