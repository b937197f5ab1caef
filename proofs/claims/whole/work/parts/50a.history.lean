-- RoomRing$History.forgetOldest
abbrev rm_X0_forgetOldest : Room := { frames := 0, cells := 0, slots := 0, locals := 0 }
theorem hd_X0_forgetOldest : yX0_forgetOldest.cls ≠ "java/lang/invoke/MethodHandle" ∧ yX0_forgetOldest.cls ≠ "java/lang/invoke/VarHandle" ∧ (parseMethodDescriptor yX0_forgetOldest.desc).map (fun d => d.parameters.length) = some 0 := by decide +kernel
set_option maxHeartbeats 4000000 in
set_option maxRecDepth 100000 in
theorem kX0_forgetOldest (l : Launch) (g : rr_G) (a : Nat) (ad : Nat → Nat) (sz : Nat) (Ω : (Nat → rr_T)) (out : (Nat → rr_T)) (h : M0_forgetOldest Ω = some out) : Met l yX0_forgetOldest wsX0_forgetOldest rm_X0_forgetOldest (rr_P g [.ref a] (rr_wH g a ad Ω) sz) (rr_Qvx g (fun ad => rr_wH g a ad out) (va_A (rr_wH g a ad Ω) sz)) 0 0 (va_A (rr_wH g a ad Ω) sz) := by
  refine rr_rwVx (cc := cX0_forgetOldest) (maxL := 3) (fun ad Ω => rr_wH g a ad Ω) ad Ω out (by decide) rfl (Nat.le_of_ble_eq_true rfl) ?_
  intro p e s m ar below meth c Q ls A hx hb hml hown hts hK hA hP hD hS hret hl
  have hP : va_P g.1 vwCl (rr_wH g a ad Ω) s.heap := hP
  have hD : va_D A (rr_wH g a ad Ω) := hD
  have hown : s.vm.findClass RX0 = some m.cls := hown
  have hl : lv_has ls 3 [(0, .ref a)] := hl
  have hinX0 : ∀ w ∈ u_ws RX0 TX0 2, w ∈ wsX0_forgetOldest := by decide +kernel
  have hk_0 : (Cond.fieldLink RX0 11 "RoomRing$History" "states" "[LRoomRing$Stock;").before ar s = true := hts _ (List.mem_of_getElem? (i := 1) (by decide +kernel))
  have hk_1 : (Cond.fieldLink RX0 17 "RoomRing$History" "size" "I").before ar s = true := hts _ (List.mem_of_getElem? (i := 2) (by decide +kernel))
  unfold M0_forgetOldest at h
  refine lv_aload_n hx hb dX0_forgetOldest_0 rfl (lv_at hl 0 rfl) ?_
  refine va_get (D := g.1) (ci := 0) (v := .ref (ad 0)) (C := RX0) (T := TX0) (N := 2) hx hb hts hinX0 hown hK.1 hP 0 rfl rfl 0 (by decide) hk_0 (fun _ h9 => h9) rfl dX0_forgetOldest_1 ?_
  refine rr_iconst hx hb dX0_forgetOldest_4 ?_
  refine rr_ald (f := rr_lf [ad 1, ad 5, ad 9, ad 13, ad 17]) (v := ad 1) 0 rfl (by decide) rfl hx hb hK hP 1 rfl dX0_forgetOldest_5 ?_
  refine lv_astore_n (lv' := [(1, .ref (ad 1)), (0, .ref a)]) hx hb dX0_forgetOldest_6 rfl hl (by decide) rfl (fun ls hl => ?_)
  refine rr_iconst hx hb dX0_forgetOldest_7 ?_
  refine lv_istore_n (lv' := [(2, .int (rr_i 1)), (1, .ref (ad 1)), (0, .ref a)]) hx hb dX0_forgetOldest_8 rfl hl (by decide) rfl (fun ls hl => ?_)
  refine lv_iload_n hx hb dX0_forgetOldest_9 rfl (lv_at hl 0 rfl) ?_
  refine rr_iconst hx hb dX0_forgetOldest_10 ?_
  refine rr_icmp_ge (tgt := 34) hx hb dX0_forgetOldest_11 (by decide) (by decide) (by decide) (fun c1 => absurd c1 (by decide)) (fun c1 => ?_)
  refine lv_aload_n hx hb dX0_forgetOldest_14 rfl (lv_at hl 2 rfl) ?_
  refine va_get (D := g.1) (ci := 0) (v := .ref (ad 0)) (C := RX0) (T := TX0) (N := 2) hx hb hts hinX0 hown hK.1 hP 0 rfl rfl 0 (by decide) hk_0 (fun _ h9 => h9) rfl dX0_forgetOldest_15 ?_
  refine lv_iload_n hx hb dX0_forgetOldest_18 rfl (lv_at hl 0 rfl) ?_
  refine rr_iconst hx hb dX0_forgetOldest_19 ?_
  refine rr_isub hx hb dX0_forgetOldest_20 ?_
  refine lv_aload_n hx hb dX0_forgetOldest_21 rfl (lv_at hl 2 rfl) ?_
  refine va_get (D := g.1) (ci := 0) (v := .ref (ad 0)) (C := RX0) (T := TX0) (N := 2) hx hb hts hinX0 hown hK.1 hP 0 rfl rfl 0 (by decide) hk_0 (fun _ h9 => h9) rfl dX0_forgetOldest_22 ?_
  refine lv_iload_n hx hb dX0_forgetOldest_25 rfl (lv_at hl 0 rfl) ?_
  refine rr_ald (f := rr_lf [ad 1, ad 5, ad 9, ad 13, ad 17]) (v := ad 5) 1 rfl (by decide) rfl hx hb hK hP 1 rfl dX0_forgetOldest_26 ?_
  refine rr_ast 0 rfl (by decide) hx hb hK hP hD hS 1 6 rfl rfl dX0_forgetOldest_27 (fun H locs hP hD hS => ?_)
  rw [rr_lf_set _ _ _ (Nat.le_of_ble_eq_true rfl)] at hP hD
  have hP : va_P g.1 vwCl (rr_wHL g a ad [ad 5, ad 5, ad 9, ad 13, ad 17] Ω) H := hP
  have hD : va_D A (rr_wHL g a ad [ad 5, ad 5, ad 9, ad 13, ad 17] Ω) := hD
  refine rr_iinc (k := 0) (a := 1) (lv' := [(2, .int (rr_i (1 + 1))), (1, .ref (ad 1)), (0, .ref a)]) hx hb dX0_forgetOldest_28 hl rfl (by decide) rfl (fun ls hl => ?_)
  refine lv_goto (tgt := 9) hx hb dX0_forgetOldest_31 (by decide) ?_
  refine lv_iload_n hx hb dX0_forgetOldest_9 rfl (lv_at hl 0 rfl) ?_
  refine rr_iconst hx hb dX0_forgetOldest_10 ?_
  refine rr_icmp_ge (tgt := 34) hx hb dX0_forgetOldest_11 (by decide) (by decide) (by decide) (fun c2 => absurd c2 (by decide)) (fun c2 => ?_)
  refine lv_aload_n hx hb dX0_forgetOldest_14 rfl (lv_at hl 2 rfl) ?_
  refine va_get (D := g.1) (ci := 0) (v := .ref (ad 0)) (C := RX0) (T := TX0) (N := 2) hx hb hts hinX0 hown hK.1 hP 0 rfl rfl 0 (by decide) hk_0 (fun _ h9 => h9) rfl dX0_forgetOldest_15 ?_
  refine lv_iload_n hx hb dX0_forgetOldest_18 rfl (lv_at hl 0 rfl) ?_
  refine rr_iconst hx hb dX0_forgetOldest_19 ?_
  refine rr_isub hx hb dX0_forgetOldest_20 ?_
  refine lv_aload_n hx hb dX0_forgetOldest_21 rfl (lv_at hl 2 rfl) ?_
  refine va_get (D := g.1) (ci := 0) (v := .ref (ad 0)) (C := RX0) (T := TX0) (N := 2) hx hb hts hinX0 hown hK.1 hP 0 rfl rfl 0 (by decide) hk_0 (fun _ h9 => h9) rfl dX0_forgetOldest_22 ?_
  refine lv_iload_n hx hb dX0_forgetOldest_25 rfl (lv_at hl 0 rfl) ?_
  refine rr_ald (f := rr_lf [ad 5, ad 5, ad 9, ad 13, ad 17]) (v := ad 9) 2 rfl (by decide) rfl hx hb hK hP 1 rfl dX0_forgetOldest_26 ?_
  refine rr_ast 1 rfl (by decide) hx hb hK hP hD hS 1 10 rfl rfl dX0_forgetOldest_27 (fun H locs hP hD hS => ?_)
  rw [rr_lf_set _ _ _ (Nat.le_of_ble_eq_true rfl)] at hP hD
  have hP : va_P g.1 vwCl (rr_wHL g a ad [ad 5, ad 9, ad 9, ad 13, ad 17] Ω) H := hP
  have hD : va_D A (rr_wHL g a ad [ad 5, ad 9, ad 9, ad 13, ad 17] Ω) := hD
  refine rr_iinc (k := 0) (a := (1 + 1)) (lv' := [(2, .int (rr_i ((1 + 1) + 1))), (1, .ref (ad 1)), (0, .ref a)]) hx hb dX0_forgetOldest_28 hl rfl (by decide) rfl (fun ls hl => ?_)
  refine lv_goto (tgt := 9) hx hb dX0_forgetOldest_31 (by decide) ?_
  refine lv_iload_n hx hb dX0_forgetOldest_9 rfl (lv_at hl 0 rfl) ?_
  refine rr_iconst hx hb dX0_forgetOldest_10 ?_
  refine rr_icmp_ge (tgt := 34) hx hb dX0_forgetOldest_11 (by decide) (by decide) (by decide) (fun c3 => absurd c3 (by decide)) (fun c3 => ?_)
  refine lv_aload_n hx hb dX0_forgetOldest_14 rfl (lv_at hl 2 rfl) ?_
  refine va_get (D := g.1) (ci := 0) (v := .ref (ad 0)) (C := RX0) (T := TX0) (N := 2) hx hb hts hinX0 hown hK.1 hP 0 rfl rfl 0 (by decide) hk_0 (fun _ h9 => h9) rfl dX0_forgetOldest_15 ?_
  refine lv_iload_n hx hb dX0_forgetOldest_18 rfl (lv_at hl 0 rfl) ?_
  refine rr_iconst hx hb dX0_forgetOldest_19 ?_
  refine rr_isub hx hb dX0_forgetOldest_20 ?_
  refine lv_aload_n hx hb dX0_forgetOldest_21 rfl (lv_at hl 2 rfl) ?_
  refine va_get (D := g.1) (ci := 0) (v := .ref (ad 0)) (C := RX0) (T := TX0) (N := 2) hx hb hts hinX0 hown hK.1 hP 0 rfl rfl 0 (by decide) hk_0 (fun _ h9 => h9) rfl dX0_forgetOldest_22 ?_
  refine lv_iload_n hx hb dX0_forgetOldest_25 rfl (lv_at hl 0 rfl) ?_
  refine rr_ald (f := rr_lf [ad 5, ad 9, ad 9, ad 13, ad 17]) (v := ad 13) 3 rfl (by decide) rfl hx hb hK hP 1 rfl dX0_forgetOldest_26 ?_
  refine rr_ast 2 rfl (by decide) hx hb hK hP hD hS 1 14 rfl rfl dX0_forgetOldest_27 (fun H locs hP hD hS => ?_)
  rw [rr_lf_set _ _ _ (Nat.le_of_ble_eq_true rfl)] at hP hD
  have hP : va_P g.1 vwCl (rr_wHL g a ad [ad 5, ad 9, ad 13, ad 13, ad 17] Ω) H := hP
  have hD : va_D A (rr_wHL g a ad [ad 5, ad 9, ad 13, ad 13, ad 17] Ω) := hD
  refine rr_iinc (k := 0) (a := ((1 + 1) + 1)) (lv' := [(2, .int (rr_i (((1 + 1) + 1) + 1))), (1, .ref (ad 1)), (0, .ref a)]) hx hb dX0_forgetOldest_28 hl rfl (by decide) rfl (fun ls hl => ?_)
  refine lv_goto (tgt := 9) hx hb dX0_forgetOldest_31 (by decide) ?_
  refine lv_iload_n hx hb dX0_forgetOldest_9 rfl (lv_at hl 0 rfl) ?_
  refine rr_iconst hx hb dX0_forgetOldest_10 ?_
  refine rr_icmp_ge (tgt := 34) hx hb dX0_forgetOldest_11 (by decide) (by decide) (by decide) (fun c4 => absurd c4 (by decide)) (fun c4 => ?_)
  refine lv_aload_n hx hb dX0_forgetOldest_14 rfl (lv_at hl 2 rfl) ?_
  refine va_get (D := g.1) (ci := 0) (v := .ref (ad 0)) (C := RX0) (T := TX0) (N := 2) hx hb hts hinX0 hown hK.1 hP 0 rfl rfl 0 (by decide) hk_0 (fun _ h9 => h9) rfl dX0_forgetOldest_15 ?_
  refine lv_iload_n hx hb dX0_forgetOldest_18 rfl (lv_at hl 0 rfl) ?_
  refine rr_iconst hx hb dX0_forgetOldest_19 ?_
  refine rr_isub hx hb dX0_forgetOldest_20 ?_
  refine lv_aload_n hx hb dX0_forgetOldest_21 rfl (lv_at hl 2 rfl) ?_
  refine va_get (D := g.1) (ci := 0) (v := .ref (ad 0)) (C := RX0) (T := TX0) (N := 2) hx hb hts hinX0 hown hK.1 hP 0 rfl rfl 0 (by decide) hk_0 (fun _ h9 => h9) rfl dX0_forgetOldest_22 ?_
  refine lv_iload_n hx hb dX0_forgetOldest_25 rfl (lv_at hl 0 rfl) ?_
  refine rr_ald (f := rr_lf [ad 5, ad 9, ad 13, ad 13, ad 17]) (v := ad 17) 4 rfl (by decide) rfl hx hb hK hP 1 rfl dX0_forgetOldest_26 ?_
  refine rr_ast 3 rfl (by decide) hx hb hK hP hD hS 1 18 rfl rfl dX0_forgetOldest_27 (fun H locs hP hD hS => ?_)
  rw [rr_lf_set _ _ _ (Nat.le_of_ble_eq_true rfl)] at hP hD
  have hP : va_P g.1 vwCl (rr_wHL g a ad [ad 5, ad 9, ad 13, ad 17, ad 17] Ω) H := hP
  have hD : va_D A (rr_wHL g a ad [ad 5, ad 9, ad 13, ad 17, ad 17] Ω) := hD
  refine rr_iinc (k := 0) (a := (((1 + 1) + 1) + 1)) (lv' := [(2, .int (rr_i ((((1 + 1) + 1) + 1) + 1))), (1, .ref (ad 1)), (0, .ref a)]) hx hb dX0_forgetOldest_28 hl rfl (by decide) rfl (fun ls hl => ?_)
  refine lv_goto (tgt := 9) hx hb dX0_forgetOldest_31 (by decide) ?_
  refine lv_iload_n hx hb dX0_forgetOldest_9 rfl (lv_at hl 0 rfl) ?_
  refine rr_iconst hx hb dX0_forgetOldest_10 ?_
  refine rr_icmp_ge (tgt := 34) hx hb dX0_forgetOldest_11 (by decide) (by decide) (by decide) (fun c5 => ?_) (fun c5 => absurd (by decide) c5)
  refine lv_aload_n hx hb dX0_forgetOldest_34 rfl (lv_at hl 2 rfl) ?_
  refine va_get (D := g.1) (ci := 0) (v := .ref (ad 0)) (C := RX0) (T := TX0) (N := 2) hx hb hts hinX0 hown hK.1 hP 0 rfl rfl 0 (by decide) hk_0 (fun _ h9 => h9) rfl dX0_forgetOldest_35 ?_
  refine rr_iconst hx hb dX0_forgetOldest_38 ?_
  refine lv_aload_n hx hb dX0_forgetOldest_39 rfl (lv_at hl 1 rfl) ?_
  refine rr_ast 4 rfl (by decide) hx hb hK hP hD hS 1 2 rfl rfl dX0_forgetOldest_40 (fun H locs hP hD hS => ?_)
  rw [rr_lf_set _ _ _ (Nat.le_of_ble_eq_true rfl)] at hP hD
  have hP : va_P g.1 vwCl (rr_wHL g a ad [ad 5, ad 9, ad 13, ad 17, ad 1] Ω) H := hP
  have hD : va_D A (rr_wHL g a ad [ad 5, ad 9, ad 13, ad 17, ad 1] Ω) := hD
  refine lv_aload_n hx hb dX0_forgetOldest_41 rfl (lv_at hl 2 rfl) ?_
  refine rr_iconst hx hb dX0_forgetOldest_42 ?_
  refine va_put (D := g.1) (ci := 0) (v := .int (rr_i 4)) (ty := .int) (C := RX0) (T := TX0) (N := 2) hx hb hts hinX0 tyX0 tyX0_ok nmX0 hown hK.1 hP hD hS 0 rfl rfl 1 (by decide) hk_1 (fun _ h9 => h9) rfl (by decide +kernel) rfl rfl (Nat.le_of_ble_eq_true rfl) dX0_forgetOldest_43 (fun H locs hP hD hS => ?_)
  have hP : va_P g.1 vwCl (rr_wHL g a ad [ad 5, ad 9, ad 13, ad 17, ad 1] (rr_z Ω 9 (rr_t (Ω 9) 0 4))) H := hP
  have hD : va_D A (rr_wHL g a ad [ad 5, ad 9, ad 13, ad 17, ad 1] (rr_z Ω 9 (rr_t (Ω 9) 0 4))) := hD
  have hP := hP.sub (ws' := rr_wH g a (fun k => if k = 0 then ad 0 else if k < 17 then ad (k + 4) else ad (k - 16)) (rr_z (rr_z (rr_z (rr_z (rr_z (rr_z Ω 4 (Ω 5)) 5 (Ω 6)) 6 (Ω 7)) 7 (Ω 8)) 8 (Ω 4)) 9 (rr_t (Ω 9) 0 4))) [0, 1, 6, 7, 8, 9, 10, 11, 12, 13, 14, 15, 16, 17, 18, 19, 20, 21, 2, 3, 4, 5] rfl
  have hD := hD.sub (ws' := rr_wH g a (fun k => if k = 0 then ad 0 else if k < 17 then ad (k + 4) else ad (k - 16)) (rr_z (rr_z (rr_z (rr_z (rr_z (rr_z Ω 4 (Ω 5)) 5 (Ω 6)) 6 (Ω 7)) 7 (Ω 8)) 8 (Ω 4)) 9 (rr_t (Ω 9) 0 4))) [0, 1, 6, 7, 8, 9, 10, 11, 12, 13, 14, 15, 16, 17, 18, 19, 20, 21, 2, 3, 4, 5] (by decide) rfl
  exact hret _ _ _ _ _ _ h hP hD hS dX0_forgetOldest_46
-- RoomRing$History.keep
abbrev rm_X0_keep : Room := { frames := 2, cells := 0, slots := 0, locals := 39 }
theorem hd_X0_keep : yX0_keep.cls ≠ "java/lang/invoke/MethodHandle" ∧ yX0_keep.cls ≠ "java/lang/invoke/VarHandle" ∧ (parseMethodDescriptor yX0_keep.desc).map (fun d => d.parameters.length) = some 1 := by decide +kernel
set_option maxHeartbeats 4000000 in
set_option maxRecDepth 100000 in
theorem kX0_keep (l : Launch) (g : rr_G) (a : Nat) (ad : Nat → Nat) (bd : Nat → Nat) (sz : Nat) (Ω : (Nat → rr_T)) (τ : rr_T) (out : (Nat → rr_T)) (h : M0_keep Ω τ = some out) : Met l yX0_keep wsX0_keep rm_X0_keep (rr_P g [.ref a, .ref (bd 0)] (rr_wH g a ad Ω ++ rr_wS g bd τ) sz) (rr_Qvx g (fun ad => rr_wH g a ad out ++ rr_wS g bd τ) (va_A (rr_wH g a ad Ω ++ rr_wS g bd τ) sz)) 0 0 (va_A (rr_wH g a ad Ω ++ rr_wS g bd τ) sz) := by
  refine rr_rwVx (cc := cX0_keep) (maxL := 2) (fun ad Ω => rr_wH g a ad Ω ++ rr_wS g bd τ) ad Ω out (by decide) rfl (Nat.le_of_ble_eq_true rfl) ?_
  intro p e s m ar below meth c Q ls A hx hb hml hown hts hK hA hP hD hS hret hl
  have hP : va_P g.1 vwCl (rr_wH g a ad Ω ++ rr_wS g bd τ) s.heap := hP
  have hD : va_D A (rr_wH g a ad Ω ++ rr_wS g bd τ) := hD
  have hown : s.vm.findClass RX0 = some m.cls := hown
  have hl : lv_has ls 2 [(0, .ref a), (1, .ref (bd 0))] := hl
  have hinX0 : ∀ w ∈ u_ws RX0 TX0 2, w ∈ wsX0_keep := by decide +kernel
  have hk_0 : (Cond.fieldLink RX0 17 "RoomRing$History" "size" "I").before ar s = true := hts _ (List.mem_of_getElem? (i := 1) (by decide +kernel))
  have hk_1 : (Cond.fieldLink RX0 11 "RoomRing$History" "states" "[LRoomRing$Stock;").before ar s = true := hts _ (List.mem_of_getElem? (i := 2) (by decide +kernel))
  unfold M0_keep at h
  refine lv_aload_n hx hb dX0_keep_0 rfl (lv_at hl 0 rfl) ?_
  refine va_get (D := g.1) (ci := 0) (v := .int (rr_i ((Ω 9) 0 0))) (C := RX0) (T := TX0) (N := 2) hx hb hts hinX0 hown hK.1 hP 0 rfl rfl 1 (by decide) hk_0 (fun _ h9 => h9) rfl dX0_keep_1 ?_
  refine rr_iconst hx hb dX0_keep_4 ?_
  obtain ⟨hg1, h⟩ := rr_c_some h
  refine rr_icmp_lt (tgt := 12) hx hb dX0_keep_5 (by decide) hg1 (by decide) (fun c2 => ?_) (fun c2 => ?_)
  · rw [if_pos c2] at h
    refine lv_aload_n hx hb dX0_keep_12 rfl (lv_at hl 0 rfl) ?_
    refine va_get (D := g.1) (ci := 0) (v := .ref (ad 0)) (C := RX0) (T := TX0) (N := 2) hx hb hts hinX0 hown hK.1 hP 0 rfl rfl 0 (by decide) hk_1 (fun _ h9 => h9) rfl dX0_keep_13 ?_
    refine lv_aload_n hx hb dX0_keep_16 rfl (lv_at hl 0 rfl) ?_
    refine va_get (D := g.1) (ci := 0) (v := .int (rr_i ((Ω 9) 0 0))) (C := RX0) (T := TX0) (N := 2) hx hb hts hinX0 hown hK.1 hP 0 rfl rfl 1 (by decide) hk_0 (fun _ h9 => h9) rfl dX0_keep_17 ?_
    by_cases c3 : ((Ω 9) 0 0) = 0
    · rw [if_pos c3] at h
      refine rr_ald (f := rr_lf [ad 1, ad 5, ad 9, ad 13, ad 17]) (v := ad 1) 0 c3 (by decide) rfl hx hb hK hP 1 rfl dX0_keep_20 ?_
      refine lv_aload_n hx hb dX0_keep_21 rfl (lv_at hl 1 rfl) ?_
      obtain ⟨v4, hw5, h⟩ := rr_b_some h
      refine rr_partV (wc := rr_wS g (fun k => ad (1 + k)) (Ω 4) ++ rr_wS g bd τ) (wr := rr_pick (rr_wH g a ad Ω ++ rr_wS g bd τ) [0, 1, 6, 7, 8, 9, 10, 11, 12, 13, 14, 15, 16, 17, 18, 19, 20, 21]) hP hD hS hA [2, 3, 4, 5, 22, 23, 24, 25] [0, 1, 6, 7, 8, 9, 10, 11, 12, 13, 14, 15, 16, 17, 18, 19, 20, 21] rfl rfl (by decide) (by decide) (va_runV (As := [.ref (bd 0)]) (rest := []) ⟨hx, hb, hml, hown, hts⟩ (kX3_copyFrom l g (fun k => ad (1 + k)) bd _ (Ω 4) τ v4 hw5) (cwV 1 hts gX0_keep_X3_copyFrom rfl rfl rfl ⟨rfl, hd_X3_copyFrom⟩ ⟨Nat.le_of_ble_eq_true rfl, Nat.le_of_ble_eq_true rfl⟩) ⟨rr_P_blind, va_recv hK.1 (hP.sub (ws' := rr_wS g (fun k => ad (1 + k)) (Ω 4) ++ rr_wS g bd τ) [2, 3, 4, 5, 22, 23, 24, 25] rfl) (ci := 3) (q0 := 0) rfl rfl, rr_P_pre hK (hP.sub (ws' := rr_wS g (fun k => ad (1 + k)) (Ω 4) ++ rr_wS g bd τ) [2, 3, 4, 5, 22, 23, 24, 25] rfl) (hD.sub (ws' := rr_wS g (fun k => ad (1 + k)) (Ω 4) ++ rr_wS g bd τ) [2, 3, 4, 5, 22, 23, 24, 25] (by decide) rfl)⟩ rfl rfl hl.1 rfl (lv_room (Nat.le_of_ble_eq_true rfl)) dX0_keep_22 ⟨Nat.zero_le _, Nat.zero_le _⟩) (fun H locs hP hD hS => ?_)
      have hP := hP.sub (ws' := rr_wH g a ad (rr_z Ω 4 v4) ++ rr_wS g bd τ) [0, 1, 18, 19, 20, 21, 2, 3, 4, 5, 6, 7, 8, 9, 10, 11, 12, 13, 14, 15, 16, 17, 22, 23, 24, 25] rfl
      have hD := hD.sub (ws' := rr_wH g a ad (rr_z Ω 4 v4) ++ rr_wS g bd τ) [0, 1, 18, 19, 20, 21, 2, 3, 4, 5, 6, 7, 8, 9, 10, 11, 12, 13, 14, 15, 16, 17, 22, 23, 24, 25] (by decide) rfl
      refine lv_aload_n hx hb dX0_keep_25 rfl (lv_at hl 0 rfl) ?_
      refine lv_dup hx hb dX0_keep_26 rfl ?_
      refine va_get (D := g.1) (ci := 0) (v := .int (rr_i ((Ω 9) 0 0))) (C := RX0) (T := TX0) (N := 2) hx hb hts hinX0 hown hK.1 hP 0 rfl rfl 1 (by decide) hk_0 (fun _ h9 => h9) rfl dX0_keep_27 ?_
      refine rr_iconst hx hb dX0_keep_30 ?_
      refine rr_iadd hx hb dX0_keep_31 ?_
      refine va_put (D := g.1) (ci := 0) (v := .int (rr_i (((Ω 9) 0 0) + 1))) (ty := .int) (C := RX0) (T := TX0) (N := 2) hx hb hts hinX0 tyX0 tyX0_ok nmX0 hown hK.1 hP hD hS 0 rfl rfl 1 (by decide) hk_0 (fun _ h9 => h9) rfl (by decide +kernel) rfl rfl (Nat.le_of_ble_eq_true rfl) dX0_keep_32 (fun H locs hP hD hS => ?_)
      have hP : va_P g.1 vwCl (rr_wH g a ad (rr_z (rr_z Ω 4 v4) 9 (rr_t (Ω 9) 0 (((Ω 9) 0 0) + 1))) ++ rr_wS g bd τ) H := hP
      have hD : va_D A (rr_wH g a ad (rr_z (rr_z Ω 4 v4) 9 (rr_t (Ω 9) 0 (((Ω 9) 0 0) + 1))) ++ rr_wS g bd τ) := hD
      exact hret _ _ _ _ _ _ h hP hD hS dX0_keep_35
    · rw [if_neg c3] at h
      by_cases c6 : ((Ω 9) 0 0) = 1
      · rw [if_pos c6] at h
        refine rr_ald (f := rr_lf [ad 1, ad 5, ad 9, ad 13, ad 17]) (v := ad 5) 1 c6 (by decide) rfl hx hb hK hP 1 rfl dX0_keep_20 ?_
        refine lv_aload_n hx hb dX0_keep_21 rfl (lv_at hl 1 rfl) ?_
        obtain ⟨v7, hw8, h⟩ := rr_b_some h
        refine rr_partV (wc := rr_wS g (fun k => ad (5 + k)) (Ω 5) ++ rr_wS g bd τ) (wr := rr_pick (rr_wH g a ad Ω ++ rr_wS g bd τ) [0, 1, 2, 3, 4, 5, 10, 11, 12, 13, 14, 15, 16, 17, 18, 19, 20, 21]) hP hD hS hA [6, 7, 8, 9, 22, 23, 24, 25] [0, 1, 2, 3, 4, 5, 10, 11, 12, 13, 14, 15, 16, 17, 18, 19, 20, 21] rfl rfl (by decide) (by decide) (va_runV (As := [.ref (bd 0)]) (rest := []) ⟨hx, hb, hml, hown, hts⟩ (kX3_copyFrom l g (fun k => ad (5 + k)) bd _ (Ω 5) τ v7 hw8) (cwV 1 hts gX0_keep_X3_copyFrom rfl rfl rfl ⟨rfl, hd_X3_copyFrom⟩ ⟨Nat.le_of_ble_eq_true rfl, Nat.le_of_ble_eq_true rfl⟩) ⟨rr_P_blind, va_recv hK.1 (hP.sub (ws' := rr_wS g (fun k => ad (5 + k)) (Ω 5) ++ rr_wS g bd τ) [6, 7, 8, 9, 22, 23, 24, 25] rfl) (ci := 3) (q0 := 0) rfl rfl, rr_P_pre hK (hP.sub (ws' := rr_wS g (fun k => ad (5 + k)) (Ω 5) ++ rr_wS g bd τ) [6, 7, 8, 9, 22, 23, 24, 25] rfl) (hD.sub (ws' := rr_wS g (fun k => ad (5 + k)) (Ω 5) ++ rr_wS g bd τ) [6, 7, 8, 9, 22, 23, 24, 25] (by decide) rfl)⟩ rfl rfl hl.1 rfl (lv_room (Nat.le_of_ble_eq_true rfl)) dX0_keep_22 ⟨Nat.zero_le _, Nat.zero_le _⟩) (fun H locs hP hD hS => ?_)
        have hP := hP.sub (ws' := rr_wH g a ad (rr_z Ω 5 v7) ++ rr_wS g bd τ) [0, 1, 2, 3, 4, 5, 18, 19, 20, 21, 6, 7, 8, 9, 10, 11, 12, 13, 14, 15, 16, 17, 22, 23, 24, 25] rfl
        have hD := hD.sub (ws' := rr_wH g a ad (rr_z Ω 5 v7) ++ rr_wS g bd τ) [0, 1, 2, 3, 4, 5, 18, 19, 20, 21, 6, 7, 8, 9, 10, 11, 12, 13, 14, 15, 16, 17, 22, 23, 24, 25] (by decide) rfl
        refine lv_aload_n hx hb dX0_keep_25 rfl (lv_at hl 0 rfl) ?_
        refine lv_dup hx hb dX0_keep_26 rfl ?_
        refine va_get (D := g.1) (ci := 0) (v := .int (rr_i ((Ω 9) 0 0))) (C := RX0) (T := TX0) (N := 2) hx hb hts hinX0 hown hK.1 hP 0 rfl rfl 1 (by decide) hk_0 (fun _ h9 => h9) rfl dX0_keep_27 ?_
        refine rr_iconst hx hb dX0_keep_30 ?_
        refine rr_iadd hx hb dX0_keep_31 ?_
        refine va_put (D := g.1) (ci := 0) (v := .int (rr_i (((Ω 9) 0 0) + 1))) (ty := .int) (C := RX0) (T := TX0) (N := 2) hx hb hts hinX0 tyX0 tyX0_ok nmX0 hown hK.1 hP hD hS 0 rfl rfl 1 (by decide) hk_0 (fun _ h9 => h9) rfl (by decide +kernel) rfl rfl (Nat.le_of_ble_eq_true rfl) dX0_keep_32 (fun H locs hP hD hS => ?_)
        have hP : va_P g.1 vwCl (rr_wH g a ad (rr_z (rr_z Ω 5 v7) 9 (rr_t (Ω 9) 0 (((Ω 9) 0 0) + 1))) ++ rr_wS g bd τ) H := hP
        have hD : va_D A (rr_wH g a ad (rr_z (rr_z Ω 5 v7) 9 (rr_t (Ω 9) 0 (((Ω 9) 0 0) + 1))) ++ rr_wS g bd τ) := hD
        exact hret _ _ _ _ _ _ h hP hD hS dX0_keep_35
      · rw [if_neg c6] at h
        by_cases c9 : ((Ω 9) 0 0) = 2
        · rw [if_pos c9] at h
          refine rr_ald (f := rr_lf [ad 1, ad 5, ad 9, ad 13, ad 17]) (v := ad 9) 2 c9 (by decide) rfl hx hb hK hP 1 rfl dX0_keep_20 ?_
          refine lv_aload_n hx hb dX0_keep_21 rfl (lv_at hl 1 rfl) ?_
          obtain ⟨v10, hw11, h⟩ := rr_b_some h
          refine rr_partV (wc := rr_wS g (fun k => ad (9 + k)) (Ω 6) ++ rr_wS g bd τ) (wr := rr_pick (rr_wH g a ad Ω ++ rr_wS g bd τ) [0, 1, 2, 3, 4, 5, 6, 7, 8, 9, 14, 15, 16, 17, 18, 19, 20, 21]) hP hD hS hA [10, 11, 12, 13, 22, 23, 24, 25] [0, 1, 2, 3, 4, 5, 6, 7, 8, 9, 14, 15, 16, 17, 18, 19, 20, 21] rfl rfl (by decide) (by decide) (va_runV (As := [.ref (bd 0)]) (rest := []) ⟨hx, hb, hml, hown, hts⟩ (kX3_copyFrom l g (fun k => ad (9 + k)) bd _ (Ω 6) τ v10 hw11) (cwV 1 hts gX0_keep_X3_copyFrom rfl rfl rfl ⟨rfl, hd_X3_copyFrom⟩ ⟨Nat.le_of_ble_eq_true rfl, Nat.le_of_ble_eq_true rfl⟩) ⟨rr_P_blind, va_recv hK.1 (hP.sub (ws' := rr_wS g (fun k => ad (9 + k)) (Ω 6) ++ rr_wS g bd τ) [10, 11, 12, 13, 22, 23, 24, 25] rfl) (ci := 3) (q0 := 0) rfl rfl, rr_P_pre hK (hP.sub (ws' := rr_wS g (fun k => ad (9 + k)) (Ω 6) ++ rr_wS g bd τ) [10, 11, 12, 13, 22, 23, 24, 25] rfl) (hD.sub (ws' := rr_wS g (fun k => ad (9 + k)) (Ω 6) ++ rr_wS g bd τ) [10, 11, 12, 13, 22, 23, 24, 25] (by decide) rfl)⟩ rfl rfl hl.1 rfl (lv_room (Nat.le_of_ble_eq_true rfl)) dX0_keep_22 ⟨Nat.zero_le _, Nat.zero_le _⟩) (fun H locs hP hD hS => ?_)
          have hP := hP.sub (ws' := rr_wH g a ad (rr_z Ω 6 v10) ++ rr_wS g bd τ) [0, 1, 2, 3, 4, 5, 6, 7, 8, 9, 18, 19, 20, 21, 10, 11, 12, 13, 14, 15, 16, 17, 22, 23, 24, 25] rfl
          have hD := hD.sub (ws' := rr_wH g a ad (rr_z Ω 6 v10) ++ rr_wS g bd τ) [0, 1, 2, 3, 4, 5, 6, 7, 8, 9, 18, 19, 20, 21, 10, 11, 12, 13, 14, 15, 16, 17, 22, 23, 24, 25] (by decide) rfl
          refine lv_aload_n hx hb dX0_keep_25 rfl (lv_at hl 0 rfl) ?_
          refine lv_dup hx hb dX0_keep_26 rfl ?_
          refine va_get (D := g.1) (ci := 0) (v := .int (rr_i ((Ω 9) 0 0))) (C := RX0) (T := TX0) (N := 2) hx hb hts hinX0 hown hK.1 hP 0 rfl rfl 1 (by decide) hk_0 (fun _ h9 => h9) rfl dX0_keep_27 ?_
          refine rr_iconst hx hb dX0_keep_30 ?_
          refine rr_iadd hx hb dX0_keep_31 ?_
          refine va_put (D := g.1) (ci := 0) (v := .int (rr_i (((Ω 9) 0 0) + 1))) (ty := .int) (C := RX0) (T := TX0) (N := 2) hx hb hts hinX0 tyX0 tyX0_ok nmX0 hown hK.1 hP hD hS 0 rfl rfl 1 (by decide) hk_0 (fun _ h9 => h9) rfl (by decide +kernel) rfl rfl (Nat.le_of_ble_eq_true rfl) dX0_keep_32 (fun H locs hP hD hS => ?_)
          have hP : va_P g.1 vwCl (rr_wH g a ad (rr_z (rr_z Ω 6 v10) 9 (rr_t (Ω 9) 0 (((Ω 9) 0 0) + 1))) ++ rr_wS g bd τ) H := hP
          have hD : va_D A (rr_wH g a ad (rr_z (rr_z Ω 6 v10) 9 (rr_t (Ω 9) 0 (((Ω 9) 0 0) + 1))) ++ rr_wS g bd τ) := hD
          exact hret _ _ _ _ _ _ h hP hD hS dX0_keep_35
        · rw [if_neg c9] at h
          by_cases c12 : ((Ω 9) 0 0) = 3
          · rw [if_pos c12] at h
            refine rr_ald (f := rr_lf [ad 1, ad 5, ad 9, ad 13, ad 17]) (v := ad 13) 3 c12 (by decide) rfl hx hb hK hP 1 rfl dX0_keep_20 ?_
            refine lv_aload_n hx hb dX0_keep_21 rfl (lv_at hl 1 rfl) ?_
            obtain ⟨v13, hw14, h⟩ := rr_b_some h
            refine rr_partV (wc := rr_wS g (fun k => ad (13 + k)) (Ω 7) ++ rr_wS g bd τ) (wr := rr_pick (rr_wH g a ad Ω ++ rr_wS g bd τ) [0, 1, 2, 3, 4, 5, 6, 7, 8, 9, 10, 11, 12, 13, 18, 19, 20, 21]) hP hD hS hA [14, 15, 16, 17, 22, 23, 24, 25] [0, 1, 2, 3, 4, 5, 6, 7, 8, 9, 10, 11, 12, 13, 18, 19, 20, 21] rfl rfl (by decide) (by decide) (va_runV (As := [.ref (bd 0)]) (rest := []) ⟨hx, hb, hml, hown, hts⟩ (kX3_copyFrom l g (fun k => ad (13 + k)) bd _ (Ω 7) τ v13 hw14) (cwV 1 hts gX0_keep_X3_copyFrom rfl rfl rfl ⟨rfl, hd_X3_copyFrom⟩ ⟨Nat.le_of_ble_eq_true rfl, Nat.le_of_ble_eq_true rfl⟩) ⟨rr_P_blind, va_recv hK.1 (hP.sub (ws' := rr_wS g (fun k => ad (13 + k)) (Ω 7) ++ rr_wS g bd τ) [14, 15, 16, 17, 22, 23, 24, 25] rfl) (ci := 3) (q0 := 0) rfl rfl, rr_P_pre hK (hP.sub (ws' := rr_wS g (fun k => ad (13 + k)) (Ω 7) ++ rr_wS g bd τ) [14, 15, 16, 17, 22, 23, 24, 25] rfl) (hD.sub (ws' := rr_wS g (fun k => ad (13 + k)) (Ω 7) ++ rr_wS g bd τ) [14, 15, 16, 17, 22, 23, 24, 25] (by decide) rfl)⟩ rfl rfl hl.1 rfl (lv_room (Nat.le_of_ble_eq_true rfl)) dX0_keep_22 ⟨Nat.zero_le _, Nat.zero_le _⟩) (fun H locs hP hD hS => ?_)
            have hP := hP.sub (ws' := rr_wH g a ad (rr_z Ω 7 v13) ++ rr_wS g bd τ) [0, 1, 2, 3, 4, 5, 6, 7, 8, 9, 10, 11, 12, 13, 18, 19, 20, 21, 14, 15, 16, 17, 22, 23, 24, 25] rfl
            have hD := hD.sub (ws' := rr_wH g a ad (rr_z Ω 7 v13) ++ rr_wS g bd τ) [0, 1, 2, 3, 4, 5, 6, 7, 8, 9, 10, 11, 12, 13, 18, 19, 20, 21, 14, 15, 16, 17, 22, 23, 24, 25] (by decide) rfl
            refine lv_aload_n hx hb dX0_keep_25 rfl (lv_at hl 0 rfl) ?_
            refine lv_dup hx hb dX0_keep_26 rfl ?_
            refine va_get (D := g.1) (ci := 0) (v := .int (rr_i ((Ω 9) 0 0))) (C := RX0) (T := TX0) (N := 2) hx hb hts hinX0 hown hK.1 hP 0 rfl rfl 1 (by decide) hk_0 (fun _ h9 => h9) rfl dX0_keep_27 ?_
            refine rr_iconst hx hb dX0_keep_30 ?_
            refine rr_iadd hx hb dX0_keep_31 ?_
            refine va_put (D := g.1) (ci := 0) (v := .int (rr_i (((Ω 9) 0 0) + 1))) (ty := .int) (C := RX0) (T := TX0) (N := 2) hx hb hts hinX0 tyX0 tyX0_ok nmX0 hown hK.1 hP hD hS 0 rfl rfl 1 (by decide) hk_0 (fun _ h9 => h9) rfl (by decide +kernel) rfl rfl (Nat.le_of_ble_eq_true rfl) dX0_keep_32 (fun H locs hP hD hS => ?_)
            have hP : va_P g.1 vwCl (rr_wH g a ad (rr_z (rr_z Ω 7 v13) 9 (rr_t (Ω 9) 0 (((Ω 9) 0 0) + 1))) ++ rr_wS g bd τ) H := hP
            have hD : va_D A (rr_wH g a ad (rr_z (rr_z Ω 7 v13) 9 (rr_t (Ω 9) 0 (((Ω 9) 0 0) + 1))) ++ rr_wS g bd τ) := hD
            exact hret _ _ _ _ _ _ h hP hD hS dX0_keep_35
          · rw [if_neg c12] at h
            by_cases c15 : ((Ω 9) 0 0) = 4
            · rw [if_pos c15] at h
              refine rr_ald (f := rr_lf [ad 1, ad 5, ad 9, ad 13, ad 17]) (v := ad 17) 4 c15 (by decide) rfl hx hb hK hP 1 rfl dX0_keep_20 ?_
              refine lv_aload_n hx hb dX0_keep_21 rfl (lv_at hl 1 rfl) ?_
              obtain ⟨v16, hw17, h⟩ := rr_b_some h
              refine rr_partV (wc := rr_wS g (fun k => ad (17 + k)) (Ω 8) ++ rr_wS g bd τ) (wr := rr_pick (rr_wH g a ad Ω ++ rr_wS g bd τ) [0, 1, 2, 3, 4, 5, 6, 7, 8, 9, 10, 11, 12, 13, 14, 15, 16, 17]) hP hD hS hA [18, 19, 20, 21, 22, 23, 24, 25] [0, 1, 2, 3, 4, 5, 6, 7, 8, 9, 10, 11, 12, 13, 14, 15, 16, 17] rfl rfl (by decide) (by decide) (va_runV (As := [.ref (bd 0)]) (rest := []) ⟨hx, hb, hml, hown, hts⟩ (kX3_copyFrom l g (fun k => ad (17 + k)) bd _ (Ω 8) τ v16 hw17) (cwV 1 hts gX0_keep_X3_copyFrom rfl rfl rfl ⟨rfl, hd_X3_copyFrom⟩ ⟨Nat.le_of_ble_eq_true rfl, Nat.le_of_ble_eq_true rfl⟩) ⟨rr_P_blind, va_recv hK.1 (hP.sub (ws' := rr_wS g (fun k => ad (17 + k)) (Ω 8) ++ rr_wS g bd τ) [18, 19, 20, 21, 22, 23, 24, 25] rfl) (ci := 3) (q0 := 0) rfl rfl, rr_P_pre hK (hP.sub (ws' := rr_wS g (fun k => ad (17 + k)) (Ω 8) ++ rr_wS g bd τ) [18, 19, 20, 21, 22, 23, 24, 25] rfl) (hD.sub (ws' := rr_wS g (fun k => ad (17 + k)) (Ω 8) ++ rr_wS g bd τ) [18, 19, 20, 21, 22, 23, 24, 25] (by decide) rfl)⟩ rfl rfl hl.1 rfl (lv_room (Nat.le_of_ble_eq_true rfl)) dX0_keep_22 ⟨Nat.zero_le _, Nat.zero_le _⟩) (fun H locs hP hD hS => ?_)
              have hP := hP.sub (ws' := rr_wH g a ad (rr_z Ω 8 v16) ++ rr_wS g bd τ) [0, 1, 2, 3, 4, 5, 6, 7, 8, 9, 10, 11, 12, 13, 14, 15, 16, 17, 18, 19, 20, 21, 22, 23, 24, 25] rfl
              have hD := hD.sub (ws' := rr_wH g a ad (rr_z Ω 8 v16) ++ rr_wS g bd τ) [0, 1, 2, 3, 4, 5, 6, 7, 8, 9, 10, 11, 12, 13, 14, 15, 16, 17, 18, 19, 20, 21, 22, 23, 24, 25] (by decide) rfl
              refine lv_aload_n hx hb dX0_keep_25 rfl (lv_at hl 0 rfl) ?_
              refine lv_dup hx hb dX0_keep_26 rfl ?_
              refine va_get (D := g.1) (ci := 0) (v := .int (rr_i ((Ω 9) 0 0))) (C := RX0) (T := TX0) (N := 2) hx hb hts hinX0 hown hK.1 hP 0 rfl rfl 1 (by decide) hk_0 (fun _ h9 => h9) rfl dX0_keep_27 ?_
              refine rr_iconst hx hb dX0_keep_30 ?_
              refine rr_iadd hx hb dX0_keep_31 ?_
              refine va_put (D := g.1) (ci := 0) (v := .int (rr_i (((Ω 9) 0 0) + 1))) (ty := .int) (C := RX0) (T := TX0) (N := 2) hx hb hts hinX0 tyX0 tyX0_ok nmX0 hown hK.1 hP hD hS 0 rfl rfl 1 (by decide) hk_0 (fun _ h9 => h9) rfl (by decide +kernel) rfl rfl (Nat.le_of_ble_eq_true rfl) dX0_keep_32 (fun H locs hP hD hS => ?_)
              have hP : va_P g.1 vwCl (rr_wH g a ad (rr_z (rr_z Ω 8 v16) 9 (rr_t (Ω 9) 0 (((Ω 9) 0 0) + 1))) ++ rr_wS g bd τ) H := hP
              have hD : va_D A (rr_wH g a ad (rr_z (rr_z Ω 8 v16) 9 (rr_t (Ω 9) 0 (((Ω 9) 0 0) + 1))) ++ rr_wS g bd τ) := hD
              exact hret _ _ _ _ _ _ h hP hD hS dX0_keep_35
            · rw [if_neg c15] at h
              cases h
  · rw [if_neg c2] at h
    refine lv_aload_n hx hb dX0_keep_8 rfl (lv_at hl 0 rfl) ?_
    obtain ⟨v18, hw19, h⟩ := rr_b_some h
    refine rr_partVx (wc := rr_wH g a ad Ω) (wr := rr_pick (rr_wH g a ad Ω ++ rr_wS g bd τ) [22, 23, 24, 25]) hP hD hS hA [0, 1, 2, 3, 4, 5, 6, 7, 8, 9, 10, 11, 12, 13, 14, 15, 16, 17, 18, 19, 20, 21] [22, 23, 24, 25] rfl rfl (by decide) (by decide) (va_runV (As := []) (rest := []) ⟨hx, hb, hml, hown, hts⟩ (kX0_forgetOldest l g a ad _ Ω v18 hw19) (cwV 0 hts gX0_keep_X0_forgetOldest rfl rfl rfl ⟨rfl, hd_X0_forgetOldest⟩ ⟨Nat.le_of_ble_eq_true rfl, Nat.le_of_ble_eq_true rfl⟩) ⟨rr_P_blind, va_recv hK.1 (hP.sub (ws' := rr_wH g a ad Ω) [0, 1, 2, 3, 4, 5, 6, 7, 8, 9, 10, 11, 12, 13, 14, 15, 16, 17, 18, 19, 20, 21] rfl) (ci := 0) (q0 := 0) rfl rfl, rr_P_pre hK (hP.sub (ws' := rr_wH g a ad Ω) [0, 1, 2, 3, 4, 5, 6, 7, 8, 9, 10, 11, 12, 13, 14, 15, 16, 17, 18, 19, 20, 21] rfl) (hD.sub (ws' := rr_wH g a ad Ω) [0, 1, 2, 3, 4, 5, 6, 7, 8, 9, 10, 11, 12, 13, 14, 15, 16, 17, 18, 19, 20, 21] (by decide) rfl)⟩ rfl rfl hl.1 rfl (lv_room (Nat.le_of_ble_eq_true rfl)) dX0_keep_9 ⟨Nat.zero_le _, Nat.zero_le _⟩) (fun u H locs hP hD hS => ?_)
    have hP := hP.sub (ws' := rr_wH g a u v18 ++ rr_wS g bd τ) [4, 5, 6, 7, 8, 9, 10, 11, 12, 13, 14, 15, 16, 17, 18, 19, 20, 21, 22, 23, 24, 25, 0, 1, 2, 3] rfl
    have hD := hD.sub (ws' := rr_wH g a u v18 ++ rr_wS g bd τ) [4, 5, 6, 7, 8, 9, 10, 11, 12, 13, 14, 15, 16, 17, 18, 19, 20, 21, 22, 23, 24, 25, 0, 1, 2, 3] (by decide) rfl
    generalize u = ad at hP hD
    refine lv_aload_n hx hb dX0_keep_12 rfl (lv_at hl 0 rfl) ?_
    refine va_get (D := g.1) (ci := 0) (v := .ref (ad 0)) (C := RX0) (T := TX0) (N := 2) hx hb hts hinX0 hown hK.1 hP 0 rfl rfl 0 (by decide) hk_1 (fun _ h9 => h9) rfl dX0_keep_13 ?_
    refine lv_aload_n hx hb dX0_keep_16 rfl (lv_at hl 0 rfl) ?_
    refine va_get (D := g.1) (ci := 0) (v := .int (rr_i ((v18 9) 0 0))) (C := RX0) (T := TX0) (N := 2) hx hb hts hinX0 hown hK.1 hP 0 rfl rfl 1 (by decide) hk_0 (fun _ h9 => h9) rfl dX0_keep_17 ?_
    by_cases c20 : ((v18 9) 0 0) = 0
    · rw [if_pos c20] at h
      refine rr_ald (f := rr_lf [ad 1, ad 5, ad 9, ad 13, ad 17]) (v := ad 1) 0 c20 (by decide) rfl hx hb hK hP 1 rfl dX0_keep_20 ?_
      refine lv_aload_n hx hb dX0_keep_21 rfl (lv_at hl 1 rfl) ?_
      obtain ⟨v21, hw22, h⟩ := rr_b_some h
      refine rr_partV (wc := rr_wS g (fun k => ad (1 + k)) (v18 4) ++ rr_wS g bd τ) (wr := rr_pick (rr_wH g a ad v18 ++ rr_wS g bd τ) [0, 1, 6, 7, 8, 9, 10, 11, 12, 13, 14, 15, 16, 17, 18, 19, 20, 21]) hP hD hS hA [2, 3, 4, 5, 22, 23, 24, 25] [0, 1, 6, 7, 8, 9, 10, 11, 12, 13, 14, 15, 16, 17, 18, 19, 20, 21] rfl rfl (by decide) (by decide) (va_runV (As := [.ref (bd 0)]) (rest := []) ⟨hx, hb, hml, hown, hts⟩ (kX3_copyFrom l g (fun k => ad (1 + k)) bd _ (v18 4) τ v21 hw22) (cwV 1 hts gX0_keep_X3_copyFrom rfl rfl rfl ⟨rfl, hd_X3_copyFrom⟩ ⟨Nat.le_of_ble_eq_true rfl, Nat.le_of_ble_eq_true rfl⟩) ⟨rr_P_blind, va_recv hK.1 (hP.sub (ws' := rr_wS g (fun k => ad (1 + k)) (v18 4) ++ rr_wS g bd τ) [2, 3, 4, 5, 22, 23, 24, 25] rfl) (ci := 3) (q0 := 0) rfl rfl, rr_P_pre hK (hP.sub (ws' := rr_wS g (fun k => ad (1 + k)) (v18 4) ++ rr_wS g bd τ) [2, 3, 4, 5, 22, 23, 24, 25] rfl) (hD.sub (ws' := rr_wS g (fun k => ad (1 + k)) (v18 4) ++ rr_wS g bd τ) [2, 3, 4, 5, 22, 23, 24, 25] (by decide) rfl)⟩ rfl rfl hl.1 rfl (lv_room (Nat.le_of_ble_eq_true rfl)) dX0_keep_22 ⟨Nat.zero_le _, Nat.zero_le _⟩) (fun H locs hP hD hS => ?_)
      have hP := hP.sub (ws' := rr_wH g a ad (rr_z v18 4 v21) ++ rr_wS g bd τ) [0, 1, 18, 19, 20, 21, 2, 3, 4, 5, 6, 7, 8, 9, 10, 11, 12, 13, 14, 15, 16, 17, 22, 23, 24, 25] rfl
      have hD := hD.sub (ws' := rr_wH g a ad (rr_z v18 4 v21) ++ rr_wS g bd τ) [0, 1, 18, 19, 20, 21, 2, 3, 4, 5, 6, 7, 8, 9, 10, 11, 12, 13, 14, 15, 16, 17, 22, 23, 24, 25] (by decide) rfl
      refine lv_aload_n hx hb dX0_keep_25 rfl (lv_at hl 0 rfl) ?_
      refine lv_dup hx hb dX0_keep_26 rfl ?_
      refine va_get (D := g.1) (ci := 0) (v := .int (rr_i ((v18 9) 0 0))) (C := RX0) (T := TX0) (N := 2) hx hb hts hinX0 hown hK.1 hP 0 rfl rfl 1 (by decide) hk_0 (fun _ h9 => h9) rfl dX0_keep_27 ?_
      refine rr_iconst hx hb dX0_keep_30 ?_
      refine rr_iadd hx hb dX0_keep_31 ?_
      refine va_put (D := g.1) (ci := 0) (v := .int (rr_i (((v18 9) 0 0) + 1))) (ty := .int) (C := RX0) (T := TX0) (N := 2) hx hb hts hinX0 tyX0 tyX0_ok nmX0 hown hK.1 hP hD hS 0 rfl rfl 1 (by decide) hk_0 (fun _ h9 => h9) rfl (by decide +kernel) rfl rfl (Nat.le_of_ble_eq_true rfl) dX0_keep_32 (fun H locs hP hD hS => ?_)
      have hP : va_P g.1 vwCl (rr_wH g a ad (rr_z (rr_z v18 4 v21) 9 (rr_t (v18 9) 0 (((v18 9) 0 0) + 1))) ++ rr_wS g bd τ) H := hP
      have hD : va_D A (rr_wH g a ad (rr_z (rr_z v18 4 v21) 9 (rr_t (v18 9) 0 (((v18 9) 0 0) + 1))) ++ rr_wS g bd τ) := hD
      exact hret _ _ _ _ _ _ h hP hD hS dX0_keep_35
    · rw [if_neg c20] at h
      by_cases c23 : ((v18 9) 0 0) = 1
      · rw [if_pos c23] at h
        refine rr_ald (f := rr_lf [ad 1, ad 5, ad 9, ad 13, ad 17]) (v := ad 5) 1 c23 (by decide) rfl hx hb hK hP 1 rfl dX0_keep_20 ?_
        refine lv_aload_n hx hb dX0_keep_21 rfl (lv_at hl 1 rfl) ?_
        obtain ⟨v24, hw25, h⟩ := rr_b_some h
        refine rr_partV (wc := rr_wS g (fun k => ad (5 + k)) (v18 5) ++ rr_wS g bd τ) (wr := rr_pick (rr_wH g a ad v18 ++ rr_wS g bd τ) [0, 1, 2, 3, 4, 5, 10, 11, 12, 13, 14, 15, 16, 17, 18, 19, 20, 21]) hP hD hS hA [6, 7, 8, 9, 22, 23, 24, 25] [0, 1, 2, 3, 4, 5, 10, 11, 12, 13, 14, 15, 16, 17, 18, 19, 20, 21] rfl rfl (by decide) (by decide) (va_runV (As := [.ref (bd 0)]) (rest := []) ⟨hx, hb, hml, hown, hts⟩ (kX3_copyFrom l g (fun k => ad (5 + k)) bd _ (v18 5) τ v24 hw25) (cwV 1 hts gX0_keep_X3_copyFrom rfl rfl rfl ⟨rfl, hd_X3_copyFrom⟩ ⟨Nat.le_of_ble_eq_true rfl, Nat.le_of_ble_eq_true rfl⟩) ⟨rr_P_blind, va_recv hK.1 (hP.sub (ws' := rr_wS g (fun k => ad (5 + k)) (v18 5) ++ rr_wS g bd τ) [6, 7, 8, 9, 22, 23, 24, 25] rfl) (ci := 3) (q0 := 0) rfl rfl, rr_P_pre hK (hP.sub (ws' := rr_wS g (fun k => ad (5 + k)) (v18 5) ++ rr_wS g bd τ) [6, 7, 8, 9, 22, 23, 24, 25] rfl) (hD.sub (ws' := rr_wS g (fun k => ad (5 + k)) (v18 5) ++ rr_wS g bd τ) [6, 7, 8, 9, 22, 23, 24, 25] (by decide) rfl)⟩ rfl rfl hl.1 rfl (lv_room (Nat.le_of_ble_eq_true rfl)) dX0_keep_22 ⟨Nat.zero_le _, Nat.zero_le _⟩) (fun H locs hP hD hS => ?_)
        have hP := hP.sub (ws' := rr_wH g a ad (rr_z v18 5 v24) ++ rr_wS g bd τ) [0, 1, 2, 3, 4, 5, 18, 19, 20, 21, 6, 7, 8, 9, 10, 11, 12, 13, 14, 15, 16, 17, 22, 23, 24, 25] rfl
        have hD := hD.sub (ws' := rr_wH g a ad (rr_z v18 5 v24) ++ rr_wS g bd τ) [0, 1, 2, 3, 4, 5, 18, 19, 20, 21, 6, 7, 8, 9, 10, 11, 12, 13, 14, 15, 16, 17, 22, 23, 24, 25] (by decide) rfl
        refine lv_aload_n hx hb dX0_keep_25 rfl (lv_at hl 0 rfl) ?_
        refine lv_dup hx hb dX0_keep_26 rfl ?_
        refine va_get (D := g.1) (ci := 0) (v := .int (rr_i ((v18 9) 0 0))) (C := RX0) (T := TX0) (N := 2) hx hb hts hinX0 hown hK.1 hP 0 rfl rfl 1 (by decide) hk_0 (fun _ h9 => h9) rfl dX0_keep_27 ?_
        refine rr_iconst hx hb dX0_keep_30 ?_
        refine rr_iadd hx hb dX0_keep_31 ?_
        refine va_put (D := g.1) (ci := 0) (v := .int (rr_i (((v18 9) 0 0) + 1))) (ty := .int) (C := RX0) (T := TX0) (N := 2) hx hb hts hinX0 tyX0 tyX0_ok nmX0 hown hK.1 hP hD hS 0 rfl rfl 1 (by decide) hk_0 (fun _ h9 => h9) rfl (by decide +kernel) rfl rfl (Nat.le_of_ble_eq_true rfl) dX0_keep_32 (fun H locs hP hD hS => ?_)
        have hP : va_P g.1 vwCl (rr_wH g a ad (rr_z (rr_z v18 5 v24) 9 (rr_t (v18 9) 0 (((v18 9) 0 0) + 1))) ++ rr_wS g bd τ) H := hP
        have hD : va_D A (rr_wH g a ad (rr_z (rr_z v18 5 v24) 9 (rr_t (v18 9) 0 (((v18 9) 0 0) + 1))) ++ rr_wS g bd τ) := hD
        exact hret _ _ _ _ _ _ h hP hD hS dX0_keep_35
      · rw [if_neg c23] at h
        by_cases c26 : ((v18 9) 0 0) = 2
        · rw [if_pos c26] at h
          refine rr_ald (f := rr_lf [ad 1, ad 5, ad 9, ad 13, ad 17]) (v := ad 9) 2 c26 (by decide) rfl hx hb hK hP 1 rfl dX0_keep_20 ?_
          refine lv_aload_n hx hb dX0_keep_21 rfl (lv_at hl 1 rfl) ?_
          obtain ⟨v27, hw28, h⟩ := rr_b_some h
          refine rr_partV (wc := rr_wS g (fun k => ad (9 + k)) (v18 6) ++ rr_wS g bd τ) (wr := rr_pick (rr_wH g a ad v18 ++ rr_wS g bd τ) [0, 1, 2, 3, 4, 5, 6, 7, 8, 9, 14, 15, 16, 17, 18, 19, 20, 21]) hP hD hS hA [10, 11, 12, 13, 22, 23, 24, 25] [0, 1, 2, 3, 4, 5, 6, 7, 8, 9, 14, 15, 16, 17, 18, 19, 20, 21] rfl rfl (by decide) (by decide) (va_runV (As := [.ref (bd 0)]) (rest := []) ⟨hx, hb, hml, hown, hts⟩ (kX3_copyFrom l g (fun k => ad (9 + k)) bd _ (v18 6) τ v27 hw28) (cwV 1 hts gX0_keep_X3_copyFrom rfl rfl rfl ⟨rfl, hd_X3_copyFrom⟩ ⟨Nat.le_of_ble_eq_true rfl, Nat.le_of_ble_eq_true rfl⟩) ⟨rr_P_blind, va_recv hK.1 (hP.sub (ws' := rr_wS g (fun k => ad (9 + k)) (v18 6) ++ rr_wS g bd τ) [10, 11, 12, 13, 22, 23, 24, 25] rfl) (ci := 3) (q0 := 0) rfl rfl, rr_P_pre hK (hP.sub (ws' := rr_wS g (fun k => ad (9 + k)) (v18 6) ++ rr_wS g bd τ) [10, 11, 12, 13, 22, 23, 24, 25] rfl) (hD.sub (ws' := rr_wS g (fun k => ad (9 + k)) (v18 6) ++ rr_wS g bd τ) [10, 11, 12, 13, 22, 23, 24, 25] (by decide) rfl)⟩ rfl rfl hl.1 rfl (lv_room (Nat.le_of_ble_eq_true rfl)) dX0_keep_22 ⟨Nat.zero_le _, Nat.zero_le _⟩) (fun H locs hP hD hS => ?_)
          have hP := hP.sub (ws' := rr_wH g a ad (rr_z v18 6 v27) ++ rr_wS g bd τ) [0, 1, 2, 3, 4, 5, 6, 7, 8, 9, 18, 19, 20, 21, 10, 11, 12, 13, 14, 15, 16, 17, 22, 23, 24, 25] rfl
          have hD := hD.sub (ws' := rr_wH g a ad (rr_z v18 6 v27) ++ rr_wS g bd τ) [0, 1, 2, 3, 4, 5, 6, 7, 8, 9, 18, 19, 20, 21, 10, 11, 12, 13, 14, 15, 16, 17, 22, 23, 24, 25] (by decide) rfl
          refine lv_aload_n hx hb dX0_keep_25 rfl (lv_at hl 0 rfl) ?_
          refine lv_dup hx hb dX0_keep_26 rfl ?_
          refine va_get (D := g.1) (ci := 0) (v := .int (rr_i ((v18 9) 0 0))) (C := RX0) (T := TX0) (N := 2) hx hb hts hinX0 hown hK.1 hP 0 rfl rfl 1 (by decide) hk_0 (fun _ h9 => h9) rfl dX0_keep_27 ?_
          refine rr_iconst hx hb dX0_keep_30 ?_
          refine rr_iadd hx hb dX0_keep_31 ?_
          refine va_put (D := g.1) (ci := 0) (v := .int (rr_i (((v18 9) 0 0) + 1))) (ty := .int) (C := RX0) (T := TX0) (N := 2) hx hb hts hinX0 tyX0 tyX0_ok nmX0 hown hK.1 hP hD hS 0 rfl rfl 1 (by decide) hk_0 (fun _ h9 => h9) rfl (by decide +kernel) rfl rfl (Nat.le_of_ble_eq_true rfl) dX0_keep_32 (fun H locs hP hD hS => ?_)
          have hP : va_P g.1 vwCl (rr_wH g a ad (rr_z (rr_z v18 6 v27) 9 (rr_t (v18 9) 0 (((v18 9) 0 0) + 1))) ++ rr_wS g bd τ) H := hP
          have hD : va_D A (rr_wH g a ad (rr_z (rr_z v18 6 v27) 9 (rr_t (v18 9) 0 (((v18 9) 0 0) + 1))) ++ rr_wS g bd τ) := hD
          exact hret _ _ _ _ _ _ h hP hD hS dX0_keep_35
        · rw [if_neg c26] at h
          by_cases c29 : ((v18 9) 0 0) = 3
          · rw [if_pos c29] at h
            refine rr_ald (f := rr_lf [ad 1, ad 5, ad 9, ad 13, ad 17]) (v := ad 13) 3 c29 (by decide) rfl hx hb hK hP 1 rfl dX0_keep_20 ?_
            refine lv_aload_n hx hb dX0_keep_21 rfl (lv_at hl 1 rfl) ?_
            obtain ⟨v30, hw31, h⟩ := rr_b_some h
            refine rr_partV (wc := rr_wS g (fun k => ad (13 + k)) (v18 7) ++ rr_wS g bd τ) (wr := rr_pick (rr_wH g a ad v18 ++ rr_wS g bd τ) [0, 1, 2, 3, 4, 5, 6, 7, 8, 9, 10, 11, 12, 13, 18, 19, 20, 21]) hP hD hS hA [14, 15, 16, 17, 22, 23, 24, 25] [0, 1, 2, 3, 4, 5, 6, 7, 8, 9, 10, 11, 12, 13, 18, 19, 20, 21] rfl rfl (by decide) (by decide) (va_runV (As := [.ref (bd 0)]) (rest := []) ⟨hx, hb, hml, hown, hts⟩ (kX3_copyFrom l g (fun k => ad (13 + k)) bd _ (v18 7) τ v30 hw31) (cwV 1 hts gX0_keep_X3_copyFrom rfl rfl rfl ⟨rfl, hd_X3_copyFrom⟩ ⟨Nat.le_of_ble_eq_true rfl, Nat.le_of_ble_eq_true rfl⟩) ⟨rr_P_blind, va_recv hK.1 (hP.sub (ws' := rr_wS g (fun k => ad (13 + k)) (v18 7) ++ rr_wS g bd τ) [14, 15, 16, 17, 22, 23, 24, 25] rfl) (ci := 3) (q0 := 0) rfl rfl, rr_P_pre hK (hP.sub (ws' := rr_wS g (fun k => ad (13 + k)) (v18 7) ++ rr_wS g bd τ) [14, 15, 16, 17, 22, 23, 24, 25] rfl) (hD.sub (ws' := rr_wS g (fun k => ad (13 + k)) (v18 7) ++ rr_wS g bd τ) [14, 15, 16, 17, 22, 23, 24, 25] (by decide) rfl)⟩ rfl rfl hl.1 rfl (lv_room (Nat.le_of_ble_eq_true rfl)) dX0_keep_22 ⟨Nat.zero_le _, Nat.zero_le _⟩) (fun H locs hP hD hS => ?_)
            have hP := hP.sub (ws' := rr_wH g a ad (rr_z v18 7 v30) ++ rr_wS g bd τ) [0, 1, 2, 3, 4, 5, 6, 7, 8, 9, 10, 11, 12, 13, 18, 19, 20, 21, 14, 15, 16, 17, 22, 23, 24, 25] rfl
            have hD := hD.sub (ws' := rr_wH g a ad (rr_z v18 7 v30) ++ rr_wS g bd τ) [0, 1, 2, 3, 4, 5, 6, 7, 8, 9, 10, 11, 12, 13, 18, 19, 20, 21, 14, 15, 16, 17, 22, 23, 24, 25] (by decide) rfl
            refine lv_aload_n hx hb dX0_keep_25 rfl (lv_at hl 0 rfl) ?_
            refine lv_dup hx hb dX0_keep_26 rfl ?_
            refine va_get (D := g.1) (ci := 0) (v := .int (rr_i ((v18 9) 0 0))) (C := RX0) (T := TX0) (N := 2) hx hb hts hinX0 hown hK.1 hP 0 rfl rfl 1 (by decide) hk_0 (fun _ h9 => h9) rfl dX0_keep_27 ?_
            refine rr_iconst hx hb dX0_keep_30 ?_
            refine rr_iadd hx hb dX0_keep_31 ?_
            refine va_put (D := g.1) (ci := 0) (v := .int (rr_i (((v18 9) 0 0) + 1))) (ty := .int) (C := RX0) (T := TX0) (N := 2) hx hb hts hinX0 tyX0 tyX0_ok nmX0 hown hK.1 hP hD hS 0 rfl rfl 1 (by decide) hk_0 (fun _ h9 => h9) rfl (by decide +kernel) rfl rfl (Nat.le_of_ble_eq_true rfl) dX0_keep_32 (fun H locs hP hD hS => ?_)
            have hP : va_P g.1 vwCl (rr_wH g a ad (rr_z (rr_z v18 7 v30) 9 (rr_t (v18 9) 0 (((v18 9) 0 0) + 1))) ++ rr_wS g bd τ) H := hP
            have hD : va_D A (rr_wH g a ad (rr_z (rr_z v18 7 v30) 9 (rr_t (v18 9) 0 (((v18 9) 0 0) + 1))) ++ rr_wS g bd τ) := hD
            exact hret _ _ _ _ _ _ h hP hD hS dX0_keep_35
          · rw [if_neg c29] at h
            by_cases c32 : ((v18 9) 0 0) = 4
            · rw [if_pos c32] at h
              refine rr_ald (f := rr_lf [ad 1, ad 5, ad 9, ad 13, ad 17]) (v := ad 17) 4 c32 (by decide) rfl hx hb hK hP 1 rfl dX0_keep_20 ?_
              refine lv_aload_n hx hb dX0_keep_21 rfl (lv_at hl 1 rfl) ?_
              obtain ⟨v33, hw34, h⟩ := rr_b_some h
              refine rr_partV (wc := rr_wS g (fun k => ad (17 + k)) (v18 8) ++ rr_wS g bd τ) (wr := rr_pick (rr_wH g a ad v18 ++ rr_wS g bd τ) [0, 1, 2, 3, 4, 5, 6, 7, 8, 9, 10, 11, 12, 13, 14, 15, 16, 17]) hP hD hS hA [18, 19, 20, 21, 22, 23, 24, 25] [0, 1, 2, 3, 4, 5, 6, 7, 8, 9, 10, 11, 12, 13, 14, 15, 16, 17] rfl rfl (by decide) (by decide) (va_runV (As := [.ref (bd 0)]) (rest := []) ⟨hx, hb, hml, hown, hts⟩ (kX3_copyFrom l g (fun k => ad (17 + k)) bd _ (v18 8) τ v33 hw34) (cwV 1 hts gX0_keep_X3_copyFrom rfl rfl rfl ⟨rfl, hd_X3_copyFrom⟩ ⟨Nat.le_of_ble_eq_true rfl, Nat.le_of_ble_eq_true rfl⟩) ⟨rr_P_blind, va_recv hK.1 (hP.sub (ws' := rr_wS g (fun k => ad (17 + k)) (v18 8) ++ rr_wS g bd τ) [18, 19, 20, 21, 22, 23, 24, 25] rfl) (ci := 3) (q0 := 0) rfl rfl, rr_P_pre hK (hP.sub (ws' := rr_wS g (fun k => ad (17 + k)) (v18 8) ++ rr_wS g bd τ) [18, 19, 20, 21, 22, 23, 24, 25] rfl) (hD.sub (ws' := rr_wS g (fun k => ad (17 + k)) (v18 8) ++ rr_wS g bd τ) [18, 19, 20, 21, 22, 23, 24, 25] (by decide) rfl)⟩ rfl rfl hl.1 rfl (lv_room (Nat.le_of_ble_eq_true rfl)) dX0_keep_22 ⟨Nat.zero_le _, Nat.zero_le _⟩) (fun H locs hP hD hS => ?_)
              have hP := hP.sub (ws' := rr_wH g a ad (rr_z v18 8 v33) ++ rr_wS g bd τ) [0, 1, 2, 3, 4, 5, 6, 7, 8, 9, 10, 11, 12, 13, 14, 15, 16, 17, 18, 19, 20, 21, 22, 23, 24, 25] rfl
              have hD := hD.sub (ws' := rr_wH g a ad (rr_z v18 8 v33) ++ rr_wS g bd τ) [0, 1, 2, 3, 4, 5, 6, 7, 8, 9, 10, 11, 12, 13, 14, 15, 16, 17, 18, 19, 20, 21, 22, 23, 24, 25] (by decide) rfl
              refine lv_aload_n hx hb dX0_keep_25 rfl (lv_at hl 0 rfl) ?_
              refine lv_dup hx hb dX0_keep_26 rfl ?_
              refine va_get (D := g.1) (ci := 0) (v := .int (rr_i ((v18 9) 0 0))) (C := RX0) (T := TX0) (N := 2) hx hb hts hinX0 hown hK.1 hP 0 rfl rfl 1 (by decide) hk_0 (fun _ h9 => h9) rfl dX0_keep_27 ?_
              refine rr_iconst hx hb dX0_keep_30 ?_
              refine rr_iadd hx hb dX0_keep_31 ?_
              refine va_put (D := g.1) (ci := 0) (v := .int (rr_i (((v18 9) 0 0) + 1))) (ty := .int) (C := RX0) (T := TX0) (N := 2) hx hb hts hinX0 tyX0 tyX0_ok nmX0 hown hK.1 hP hD hS 0 rfl rfl 1 (by decide) hk_0 (fun _ h9 => h9) rfl (by decide +kernel) rfl rfl (Nat.le_of_ble_eq_true rfl) dX0_keep_32 (fun H locs hP hD hS => ?_)
              have hP : va_P g.1 vwCl (rr_wH g a ad (rr_z (rr_z v18 8 v33) 9 (rr_t (v18 9) 0 (((v18 9) 0 0) + 1))) ++ rr_wS g bd τ) H := hP
              have hD : va_D A (rr_wH g a ad (rr_z (rr_z v18 8 v33) 9 (rr_t (v18 9) 0 (((v18 9) 0 0) + 1))) ++ rr_wS g bd τ) := hD
              exact hret _ _ _ _ _ _ h hP hD hS dX0_keep_35
            · rw [if_neg c32] at h
              cases h
-- RoomRing$History.takeBack
abbrev rm_X0_takeBack : Room := { frames := 2, cells := 0, slots := 0, locals := 39 }
theorem hd_X0_takeBack : yX0_takeBack.cls ≠ "java/lang/invoke/MethodHandle" ∧ yX0_takeBack.cls ≠ "java/lang/invoke/VarHandle" ∧ (parseMethodDescriptor yX0_takeBack.desc).map (fun d => d.parameters.length) = some 1 := by decide +kernel
set_option maxHeartbeats 4000000 in
set_option maxRecDepth 100000 in
theorem kX0_takeBack (l : Launch) (g : rr_G) (a : Nat) (ad : Nat → Nat) (bd : Nat → Nat) (sz : Nat) (Ω : (Nat → rr_T)) (τ : rr_T) (out : ((Nat → rr_T) × rr_T)) (h : M0_takeBack Ω τ = some out) : Met l yX0_takeBack wsX0_takeBack rm_X0_takeBack (rr_P g [.ref a, .ref (bd 0)] (rr_wH g a ad Ω ++ rr_wS g bd τ) sz) (rr_Qv g (rr_wH g a ad out.1 ++ rr_wS g bd out.2) (va_A (rr_wH g a ad Ω ++ rr_wS g bd τ) sz)) 0 0 (va_A (rr_wH g a ad Ω ++ rr_wS g bd τ) sz) := by
  refine rr_rwV (y := yX0_takeBack) (rm := rm_X0_takeBack) (g := g) (av := [.ref a, .ref (bd 0)]) (sz := sz) (cc := cX0_takeBack) (maxL := 2) (fun q => rr_wH g a ad q.1 ++ rr_wS g bd q.2) (Ω, τ) out (by decide) rfl (Nat.le_of_ble_eq_true rfl) ?_
  intro p e s m ar below meth c Q ls A hx hb hml hown hts hK hA hP hD hS hret hl
  have hP : va_P g.1 vwCl (rr_wH g a ad Ω ++ rr_wS g bd τ) s.heap := hP
  have hD : va_D A (rr_wH g a ad Ω ++ rr_wS g bd τ) := hD
  have hown : s.vm.findClass RX0 = some m.cls := hown
  have hl : lv_has ls 2 [(0, .ref a), (1, .ref (bd 0))] := hl
  have hinX0 : ∀ w ∈ u_ws RX0 TX0 2, w ∈ wsX0_takeBack := by decide +kernel
  have hk_0 : (Cond.fieldLink RX0 17 "RoomRing$History" "size" "I").before ar s = true := hts _ (List.mem_of_getElem? (i := 1) (by decide +kernel))
  have hk_1 : (Cond.fieldLink RX0 11 "RoomRing$History" "states" "[LRoomRing$Stock;").before ar s = true := hts _ (List.mem_of_getElem? (i := 2) (by decide +kernel))
  unfold M0_takeBack at h
  refine lv_aload_n hx hb dX0_takeBack_0 rfl (lv_at hl 0 rfl) ?_
  refine va_get (D := g.1) (ci := 0) (v := .int (rr_i ((Ω 9) 0 0))) (C := RX0) (T := TX0) (N := 2) hx hb hts hinX0 hown hK.1 hP 0 rfl rfl 1 (by decide) hk_0 (fun _ h9 => h9) rfl dX0_takeBack_1 ?_
  obtain ⟨hg1, h⟩ := rr_c_some h
  refine rr_if_le (tgt := 30) hx hb dX0_takeBack_4 (by decide) hg1 (fun c2 => ?_) (fun c2 => ?_)
  · rw [if_pos c2] at h
    exact hret _ _ _ _ _ h hP hD hS dX0_takeBack_30
  · rw [if_neg c2] at h
    refine lv_aload_n hx hb dX0_takeBack_7 rfl (lv_at hl 0 rfl) ?_
    refine lv_dup hx hb dX0_takeBack_8 rfl ?_
    refine va_get (D := g.1) (ci := 0) (v := .int (rr_i ((Ω 9) 0 0))) (C := RX0) (T := TX0) (N := 2) hx hb hts hinX0 hown hK.1 hP 0 rfl rfl 1 (by decide) hk_0 (fun _ h9 => h9) rfl dX0_takeBack_9 ?_
    refine rr_iconst hx hb dX0_takeBack_12 ?_
    refine rr_isub hx hb dX0_takeBack_13 ?_
    refine va_put (D := g.1) (ci := 0) (v := .int (rr_i (((Ω 9) 0 0) - 1))) (ty := .int) (C := RX0) (T := TX0) (N := 2) hx hb hts hinX0 tyX0 tyX0_ok nmX0 hown hK.1 hP hD hS 0 rfl rfl 1 (by decide) hk_0 (fun _ h9 => h9) rfl (by decide +kernel) rfl rfl (Nat.le_of_ble_eq_true rfl) dX0_takeBack_14 (fun H locs hP hD hS => ?_)
    have hP : va_P g.1 vwCl (rr_wH g a ad (rr_z Ω 9 (rr_t (Ω 9) 0 (((Ω 9) 0 0) - 1))) ++ rr_wS g bd τ) H := hP
    have hD : va_D A (rr_wH g a ad (rr_z Ω 9 (rr_t (Ω 9) 0 (((Ω 9) 0 0) - 1))) ++ rr_wS g bd τ) := hD
    refine lv_aload_n hx hb dX0_takeBack_17 rfl (lv_at hl 1 rfl) ?_
    refine lv_aload_n hx hb dX0_takeBack_18 rfl (lv_at hl 0 rfl) ?_
    refine va_get (D := g.1) (ci := 0) (v := .ref (ad 0)) (C := RX0) (T := TX0) (N := 2) hx hb hts hinX0 hown hK.1 hP 0 rfl rfl 0 (by decide) hk_1 (fun _ h9 => h9) rfl dX0_takeBack_19 ?_
    refine lv_aload_n hx hb dX0_takeBack_22 rfl (lv_at hl 0 rfl) ?_
    refine va_get (D := g.1) (ci := 0) (v := .int (rr_i (((Ω 9) 0 0) - 1))) (C := RX0) (T := TX0) (N := 2) hx hb hts hinX0 hown hK.1 hP 0 rfl rfl 1 (by decide) hk_0 (fun _ h9 => h9) rfl dX0_takeBack_23 ?_
    by_cases c3 : (((Ω 9) 0 0) - 1) = 0
    · rw [if_pos c3] at h
      refine rr_ald (f := rr_lf [ad 1, ad 5, ad 9, ad 13, ad 17]) (v := ad 1) 0 c3 (by decide) rfl hx hb hK hP 1 rfl dX0_takeBack_26 ?_
      obtain ⟨v4, hw5, h⟩ := rr_b_some h
      refine rr_partV (wc := rr_wS g bd τ ++ rr_wS g (fun k => ad (1 + k)) (Ω 4)) (wr := rr_pick (rr_wH g a ad (rr_z Ω 9 (rr_t (Ω 9) 0 (((Ω 9) 0 0) - 1))) ++ rr_wS g bd τ) [0, 1, 6, 7, 8, 9, 10, 11, 12, 13, 14, 15, 16, 17, 18, 19, 20, 21]) hP hD hS hA [22, 23, 24, 25, 2, 3, 4, 5] [0, 1, 6, 7, 8, 9, 10, 11, 12, 13, 14, 15, 16, 17, 18, 19, 20, 21] rfl rfl (by decide) (by decide) (va_runV (As := [.ref (ad 1)]) (rest := []) ⟨hx, hb, hml, hown, hts⟩ (kX3_copyFrom l g bd (fun k => ad (1 + k)) _ τ (Ω 4) v4 hw5) (cwV 1 hts gX0_takeBack_X3_copyFrom rfl rfl rfl ⟨rfl, hd_X3_copyFrom⟩ ⟨Nat.le_of_ble_eq_true rfl, Nat.le_of_ble_eq_true rfl⟩) ⟨rr_P_blind, va_recv hK.1 (hP.sub (ws' := rr_wS g bd τ ++ rr_wS g (fun k => ad (1 + k)) (Ω 4)) [22, 23, 24, 25, 2, 3, 4, 5] rfl) (ci := 3) (q0 := 0) rfl rfl, rr_P_pre hK (hP.sub (ws' := rr_wS g bd τ ++ rr_wS g (fun k => ad (1 + k)) (Ω 4)) [22, 23, 24, 25, 2, 3, 4, 5] rfl) (hD.sub (ws' := rr_wS g bd τ ++ rr_wS g (fun k => ad (1 + k)) (Ω 4)) [22, 23, 24, 25, 2, 3, 4, 5] (by decide) rfl)⟩ rfl rfl hl.1 rfl (lv_room (Nat.le_of_ble_eq_true rfl)) dX0_takeBack_27 ⟨Nat.zero_le _, Nat.zero_le _⟩) (fun H locs hP hD hS => ?_)
      have hP := hP.sub (ws' := rr_wH g a ad (rr_z Ω 9 (rr_t (Ω 9) 0 (((Ω 9) 0 0) - 1))) ++ rr_wS g bd v4) [0, 1, 22, 23, 24, 25, 2, 3, 4, 5, 6, 7, 8, 9, 10, 11, 12, 13, 14, 15, 16, 17, 18, 19, 20, 21] rfl
      have hD := hD.sub (ws' := rr_wH g a ad (rr_z Ω 9 (rr_t (Ω 9) 0 (((Ω 9) 0 0) - 1))) ++ rr_wS g bd v4) [0, 1, 22, 23, 24, 25, 2, 3, 4, 5, 6, 7, 8, 9, 10, 11, 12, 13, 14, 15, 16, 17, 18, 19, 20, 21] (by decide) rfl
      exact hret _ _ _ _ _ h hP hD hS dX0_takeBack_30
    · rw [if_neg c3] at h
      by_cases c6 : (((Ω 9) 0 0) - 1) = 1
      · rw [if_pos c6] at h
        refine rr_ald (f := rr_lf [ad 1, ad 5, ad 9, ad 13, ad 17]) (v := ad 5) 1 c6 (by decide) rfl hx hb hK hP 1 rfl dX0_takeBack_26 ?_
        obtain ⟨v7, hw8, h⟩ := rr_b_some h
        refine rr_partV (wc := rr_wS g bd τ ++ rr_wS g (fun k => ad (5 + k)) (Ω 5)) (wr := rr_pick (rr_wH g a ad (rr_z Ω 9 (rr_t (Ω 9) 0 (((Ω 9) 0 0) - 1))) ++ rr_wS g bd τ) [0, 1, 2, 3, 4, 5, 10, 11, 12, 13, 14, 15, 16, 17, 18, 19, 20, 21]) hP hD hS hA [22, 23, 24, 25, 6, 7, 8, 9] [0, 1, 2, 3, 4, 5, 10, 11, 12, 13, 14, 15, 16, 17, 18, 19, 20, 21] rfl rfl (by decide) (by decide) (va_runV (As := [.ref (ad 5)]) (rest := []) ⟨hx, hb, hml, hown, hts⟩ (kX3_copyFrom l g bd (fun k => ad (5 + k)) _ τ (Ω 5) v7 hw8) (cwV 1 hts gX0_takeBack_X3_copyFrom rfl rfl rfl ⟨rfl, hd_X3_copyFrom⟩ ⟨Nat.le_of_ble_eq_true rfl, Nat.le_of_ble_eq_true rfl⟩) ⟨rr_P_blind, va_recv hK.1 (hP.sub (ws' := rr_wS g bd τ ++ rr_wS g (fun k => ad (5 + k)) (Ω 5)) [22, 23, 24, 25, 6, 7, 8, 9] rfl) (ci := 3) (q0 := 0) rfl rfl, rr_P_pre hK (hP.sub (ws' := rr_wS g bd τ ++ rr_wS g (fun k => ad (5 + k)) (Ω 5)) [22, 23, 24, 25, 6, 7, 8, 9] rfl) (hD.sub (ws' := rr_wS g bd τ ++ rr_wS g (fun k => ad (5 + k)) (Ω 5)) [22, 23, 24, 25, 6, 7, 8, 9] (by decide) rfl)⟩ rfl rfl hl.1 rfl (lv_room (Nat.le_of_ble_eq_true rfl)) dX0_takeBack_27 ⟨Nat.zero_le _, Nat.zero_le _⟩) (fun H locs hP hD hS => ?_)
        have hP := hP.sub (ws' := rr_wH g a ad (rr_z Ω 9 (rr_t (Ω 9) 0 (((Ω 9) 0 0) - 1))) ++ rr_wS g bd v7) [0, 1, 2, 3, 4, 5, 22, 23, 24, 25, 6, 7, 8, 9, 10, 11, 12, 13, 14, 15, 16, 17, 18, 19, 20, 21] rfl
        have hD := hD.sub (ws' := rr_wH g a ad (rr_z Ω 9 (rr_t (Ω 9) 0 (((Ω 9) 0 0) - 1))) ++ rr_wS g bd v7) [0, 1, 2, 3, 4, 5, 22, 23, 24, 25, 6, 7, 8, 9, 10, 11, 12, 13, 14, 15, 16, 17, 18, 19, 20, 21] (by decide) rfl
        exact hret _ _ _ _ _ h hP hD hS dX0_takeBack_30
      · rw [if_neg c6] at h
        by_cases c9 : (((Ω 9) 0 0) - 1) = 2
        · rw [if_pos c9] at h
          refine rr_ald (f := rr_lf [ad 1, ad 5, ad 9, ad 13, ad 17]) (v := ad 9) 2 c9 (by decide) rfl hx hb hK hP 1 rfl dX0_takeBack_26 ?_
          obtain ⟨v10, hw11, h⟩ := rr_b_some h
          refine rr_partV (wc := rr_wS g bd τ ++ rr_wS g (fun k => ad (9 + k)) (Ω 6)) (wr := rr_pick (rr_wH g a ad (rr_z Ω 9 (rr_t (Ω 9) 0 (((Ω 9) 0 0) - 1))) ++ rr_wS g bd τ) [0, 1, 2, 3, 4, 5, 6, 7, 8, 9, 14, 15, 16, 17, 18, 19, 20, 21]) hP hD hS hA [22, 23, 24, 25, 10, 11, 12, 13] [0, 1, 2, 3, 4, 5, 6, 7, 8, 9, 14, 15, 16, 17, 18, 19, 20, 21] rfl rfl (by decide) (by decide) (va_runV (As := [.ref (ad 9)]) (rest := []) ⟨hx, hb, hml, hown, hts⟩ (kX3_copyFrom l g bd (fun k => ad (9 + k)) _ τ (Ω 6) v10 hw11) (cwV 1 hts gX0_takeBack_X3_copyFrom rfl rfl rfl ⟨rfl, hd_X3_copyFrom⟩ ⟨Nat.le_of_ble_eq_true rfl, Nat.le_of_ble_eq_true rfl⟩) ⟨rr_P_blind, va_recv hK.1 (hP.sub (ws' := rr_wS g bd τ ++ rr_wS g (fun k => ad (9 + k)) (Ω 6)) [22, 23, 24, 25, 10, 11, 12, 13] rfl) (ci := 3) (q0 := 0) rfl rfl, rr_P_pre hK (hP.sub (ws' := rr_wS g bd τ ++ rr_wS g (fun k => ad (9 + k)) (Ω 6)) [22, 23, 24, 25, 10, 11, 12, 13] rfl) (hD.sub (ws' := rr_wS g bd τ ++ rr_wS g (fun k => ad (9 + k)) (Ω 6)) [22, 23, 24, 25, 10, 11, 12, 13] (by decide) rfl)⟩ rfl rfl hl.1 rfl (lv_room (Nat.le_of_ble_eq_true rfl)) dX0_takeBack_27 ⟨Nat.zero_le _, Nat.zero_le _⟩) (fun H locs hP hD hS => ?_)
          have hP := hP.sub (ws' := rr_wH g a ad (rr_z Ω 9 (rr_t (Ω 9) 0 (((Ω 9) 0 0) - 1))) ++ rr_wS g bd v10) [0, 1, 2, 3, 4, 5, 6, 7, 8, 9, 22, 23, 24, 25, 10, 11, 12, 13, 14, 15, 16, 17, 18, 19, 20, 21] rfl
          have hD := hD.sub (ws' := rr_wH g a ad (rr_z Ω 9 (rr_t (Ω 9) 0 (((Ω 9) 0 0) - 1))) ++ rr_wS g bd v10) [0, 1, 2, 3, 4, 5, 6, 7, 8, 9, 22, 23, 24, 25, 10, 11, 12, 13, 14, 15, 16, 17, 18, 19, 20, 21] (by decide) rfl
          exact hret _ _ _ _ _ h hP hD hS dX0_takeBack_30
        · rw [if_neg c9] at h
          by_cases c12 : (((Ω 9) 0 0) - 1) = 3
          · rw [if_pos c12] at h
            refine rr_ald (f := rr_lf [ad 1, ad 5, ad 9, ad 13, ad 17]) (v := ad 13) 3 c12 (by decide) rfl hx hb hK hP 1 rfl dX0_takeBack_26 ?_
            obtain ⟨v13, hw14, h⟩ := rr_b_some h
            refine rr_partV (wc := rr_wS g bd τ ++ rr_wS g (fun k => ad (13 + k)) (Ω 7)) (wr := rr_pick (rr_wH g a ad (rr_z Ω 9 (rr_t (Ω 9) 0 (((Ω 9) 0 0) - 1))) ++ rr_wS g bd τ) [0, 1, 2, 3, 4, 5, 6, 7, 8, 9, 10, 11, 12, 13, 18, 19, 20, 21]) hP hD hS hA [22, 23, 24, 25, 14, 15, 16, 17] [0, 1, 2, 3, 4, 5, 6, 7, 8, 9, 10, 11, 12, 13, 18, 19, 20, 21] rfl rfl (by decide) (by decide) (va_runV (As := [.ref (ad 13)]) (rest := []) ⟨hx, hb, hml, hown, hts⟩ (kX3_copyFrom l g bd (fun k => ad (13 + k)) _ τ (Ω 7) v13 hw14) (cwV 1 hts gX0_takeBack_X3_copyFrom rfl rfl rfl ⟨rfl, hd_X3_copyFrom⟩ ⟨Nat.le_of_ble_eq_true rfl, Nat.le_of_ble_eq_true rfl⟩) ⟨rr_P_blind, va_recv hK.1 (hP.sub (ws' := rr_wS g bd τ ++ rr_wS g (fun k => ad (13 + k)) (Ω 7)) [22, 23, 24, 25, 14, 15, 16, 17] rfl) (ci := 3) (q0 := 0) rfl rfl, rr_P_pre hK (hP.sub (ws' := rr_wS g bd τ ++ rr_wS g (fun k => ad (13 + k)) (Ω 7)) [22, 23, 24, 25, 14, 15, 16, 17] rfl) (hD.sub (ws' := rr_wS g bd τ ++ rr_wS g (fun k => ad (13 + k)) (Ω 7)) [22, 23, 24, 25, 14, 15, 16, 17] (by decide) rfl)⟩ rfl rfl hl.1 rfl (lv_room (Nat.le_of_ble_eq_true rfl)) dX0_takeBack_27 ⟨Nat.zero_le _, Nat.zero_le _⟩) (fun H locs hP hD hS => ?_)
            have hP := hP.sub (ws' := rr_wH g a ad (rr_z Ω 9 (rr_t (Ω 9) 0 (((Ω 9) 0 0) - 1))) ++ rr_wS g bd v13) [0, 1, 2, 3, 4, 5, 6, 7, 8, 9, 10, 11, 12, 13, 22, 23, 24, 25, 14, 15, 16, 17, 18, 19, 20, 21] rfl
            have hD := hD.sub (ws' := rr_wH g a ad (rr_z Ω 9 (rr_t (Ω 9) 0 (((Ω 9) 0 0) - 1))) ++ rr_wS g bd v13) [0, 1, 2, 3, 4, 5, 6, 7, 8, 9, 10, 11, 12, 13, 22, 23, 24, 25, 14, 15, 16, 17, 18, 19, 20, 21] (by decide) rfl
            exact hret _ _ _ _ _ h hP hD hS dX0_takeBack_30
          · rw [if_neg c12] at h
            by_cases c15 : (((Ω 9) 0 0) - 1) = 4
            · rw [if_pos c15] at h
              refine rr_ald (f := rr_lf [ad 1, ad 5, ad 9, ad 13, ad 17]) (v := ad 17) 4 c15 (by decide) rfl hx hb hK hP 1 rfl dX0_takeBack_26 ?_
              obtain ⟨v16, hw17, h⟩ := rr_b_some h
              refine rr_partV (wc := rr_wS g bd τ ++ rr_wS g (fun k => ad (17 + k)) (Ω 8)) (wr := rr_pick (rr_wH g a ad (rr_z Ω 9 (rr_t (Ω 9) 0 (((Ω 9) 0 0) - 1))) ++ rr_wS g bd τ) [0, 1, 2, 3, 4, 5, 6, 7, 8, 9, 10, 11, 12, 13, 14, 15, 16, 17]) hP hD hS hA [22, 23, 24, 25, 18, 19, 20, 21] [0, 1, 2, 3, 4, 5, 6, 7, 8, 9, 10, 11, 12, 13, 14, 15, 16, 17] rfl rfl (by decide) (by decide) (va_runV (As := [.ref (ad 17)]) (rest := []) ⟨hx, hb, hml, hown, hts⟩ (kX3_copyFrom l g bd (fun k => ad (17 + k)) _ τ (Ω 8) v16 hw17) (cwV 1 hts gX0_takeBack_X3_copyFrom rfl rfl rfl ⟨rfl, hd_X3_copyFrom⟩ ⟨Nat.le_of_ble_eq_true rfl, Nat.le_of_ble_eq_true rfl⟩) ⟨rr_P_blind, va_recv hK.1 (hP.sub (ws' := rr_wS g bd τ ++ rr_wS g (fun k => ad (17 + k)) (Ω 8)) [22, 23, 24, 25, 18, 19, 20, 21] rfl) (ci := 3) (q0 := 0) rfl rfl, rr_P_pre hK (hP.sub (ws' := rr_wS g bd τ ++ rr_wS g (fun k => ad (17 + k)) (Ω 8)) [22, 23, 24, 25, 18, 19, 20, 21] rfl) (hD.sub (ws' := rr_wS g bd τ ++ rr_wS g (fun k => ad (17 + k)) (Ω 8)) [22, 23, 24, 25, 18, 19, 20, 21] (by decide) rfl)⟩ rfl rfl hl.1 rfl (lv_room (Nat.le_of_ble_eq_true rfl)) dX0_takeBack_27 ⟨Nat.zero_le _, Nat.zero_le _⟩) (fun H locs hP hD hS => ?_)
              have hP := hP.sub (ws' := rr_wH g a ad (rr_z Ω 9 (rr_t (Ω 9) 0 (((Ω 9) 0 0) - 1))) ++ rr_wS g bd v16) [0, 1, 2, 3, 4, 5, 6, 7, 8, 9, 10, 11, 12, 13, 14, 15, 16, 17, 22, 23, 24, 25, 18, 19, 20, 21] rfl
              have hD := hD.sub (ws' := rr_wH g a ad (rr_z Ω 9 (rr_t (Ω 9) 0 (((Ω 9) 0 0) - 1))) ++ rr_wS g bd v16) [0, 1, 2, 3, 4, 5, 6, 7, 8, 9, 10, 11, 12, 13, 14, 15, 16, 17, 22, 23, 24, 25, 18, 19, 20, 21] (by decide) rfl
              exact hret _ _ _ _ _ h hP hD hS dX0_takeBack_30
            · rw [if_neg c15] at h
              cases h
