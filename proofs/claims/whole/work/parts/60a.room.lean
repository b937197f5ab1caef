-- RoomRing.refuse
abbrev rm_X4_refuse : Room := { frames := 0, cells := 0, slots := 0, locals := 0 }
theorem hd_X4_refuse : yX4_refuse.cls ≠ "java/lang/invoke/MethodHandle" ∧ yX4_refuse.cls ≠ "java/lang/invoke/VarHandle" ∧ (parseMethodDescriptor yX4_refuse.desc).map (fun d => d.parameters.length) = some 1 := by decide +kernel
set_option maxHeartbeats 4000000 in
set_option maxRecDepth 100000 in
theorem kX4_refuse (l : Launch) (g : rr_G) (a : Nat) (ad : Nat → Nat) (sz : Nat) (x1 : Int) (Ω : (Nat → rr_T)) (out : (Int × (Nat → rr_T))) (h : M4_refuse x1 Ω = some out) : Met l yX4_refuse wsX4_refuse rm_X4_refuse (rr_P g [.ref a, .int (rr_i x1)] (rr_wC g a ad Ω) sz) (rr_Qi g out.1 (rr_wC g a ad out.2) (va_A (rr_wC g a ad Ω) sz)) 0 0 (va_A (rr_wC g a ad Ω) sz) := by
  refine rr_rwI (cc := cX4_refuse) (maxL := 2) (fun Ω => rr_wC g a ad Ω) Ω out (by decide) rfl (Nat.le_of_ble_eq_true rfl) ?_
  intro p e s m ar below meth c Q ls A hx hb hml hown hts hK hA hP hD hS hret hl
  have hP : va_P g.1 vwCl (rr_wC g a ad Ω) s.heap := hP
  have hD : va_D A (rr_wC g a ad Ω) := hD
  have hown : s.vm.findClass RX4 = some m.cls := hown
  have hl : lv_has ls 2 [(0, .ref a), (1, .int (rr_i x1))] := hl
  have hinX4 : ∀ w ∈ u_ws RX4 TX4 7, w ∈ wsX4_refuse := by decide +kernel
  have hk_0 : (Cond.fieldLink RX4 40 "RoomRing" "refusedFull" "I").before ar s = true := hts _ (List.mem_of_getElem? (i := 3) (by decide +kernel))
  have hk_1 : (Cond.fieldLink RX4 37 "RoomRing" "refusedNo" "I").before ar s = true := hts _ (List.mem_of_getElem? (i := 2) (by decide +kernel))
  have hk_2 : (Cond.fieldLink RX4 33 "RoomRing" "refusedBad" "I").before ar s = true := hts _ (List.mem_of_getElem? (i := 1) (by decide +kernel))
  unfold M4_refuse at h
  refine lv_iload_n hx hb dX4_refuse_0 rfl (lv_at hl 1 rfl) ?_
  refine rr_bipush hx hb dX4_refuse_1 (by decide +kernel) ?_
  obtain ⟨hg1, h⟩ := rr_c_some h
  refine rr_icmp_ne (tgt := 19) hx hb dX4_refuse_3 (by decide) hg1 (by decide) (fun c2 => ?_) (fun c2 => ?_)
  · rw [if_neg c2] at h
    refine lv_iload_n hx hb dX4_refuse_19 rfl (lv_at hl 1 rfl) ?_
    refine rr_bipush hx hb dX4_refuse_20 (by decide +kernel) ?_
    refine rr_icmp_ne (tgt := 38) hx hb dX4_refuse_22 (by decide) hg1 (by decide) (fun c3 => ?_) (fun c3 => ?_)
    · rw [if_neg c3] at h
      refine lv_aload_n hx hb dX4_refuse_38 rfl (lv_at hl 0 rfl) ?_
      refine lv_dup hx hb dX4_refuse_39 rfl ?_
      refine va_get (D := g.1) (ci := 4) (v := .int (rr_i ((Ω 3) 2 0))) (C := RX4) (T := TX4) (N := 7) hx hb hts hinX4 hown hK.1 hP 0 rfl rfl 6 (by decide) hk_0 (fun _ h9 => h9) rfl dX4_refuse_40 ?_
      refine rr_iconst hx hb dX4_refuse_43 ?_
      refine rr_iadd hx hb dX4_refuse_44 ?_
      refine va_put (D := g.1) (ci := 4) (v := .int (rr_i (((Ω 3) 2 0) + 1))) (ty := .int) (C := RX4) (T := TX4) (N := 7) hx hb hts hinX4 tyX4 tyX4_ok nmX4 hown hK.1 hP hD hS 0 rfl rfl 6 (by decide) hk_0 (fun _ h9 => h9) rfl (by decide +kernel) rfl rfl (Nat.le_of_ble_eq_true rfl) dX4_refuse_45 (fun H locs hP hD hS => ?_)
      have hP : va_P g.1 vwCl (rr_wC g a ad (rr_z Ω 3 (rr_t (Ω 3) 2 (((Ω 3) 2 0) + 1)))) H := hP
      have hD : va_D A (rr_wC g a ad (rr_z Ω 3 (rr_t (Ω 3) 2 (((Ω 3) 2 0) + 1)))) := hD
      refine lv_iload_n hx hb dX4_refuse_48 rfl (lv_at hl 1 rfl) ?_
      exact hret _ _ _ _ _ _ h hP hD hS dX4_refuse_49
    · rw [if_pos c3] at h
      refine lv_aload_n hx hb dX4_refuse_25 rfl (lv_at hl 0 rfl) ?_
      refine lv_dup hx hb dX4_refuse_26 rfl ?_
      refine va_get (D := g.1) (ci := 4) (v := .int (rr_i ((Ω 3) 1 0))) (C := RX4) (T := TX4) (N := 7) hx hb hts hinX4 hown hK.1 hP 0 rfl rfl 5 (by decide) hk_1 (fun _ h9 => h9) rfl dX4_refuse_27 ?_
      refine rr_iconst hx hb dX4_refuse_30 ?_
      refine rr_iadd hx hb dX4_refuse_31 ?_
      refine va_put (D := g.1) (ci := 4) (v := .int (rr_i (((Ω 3) 1 0) + 1))) (ty := .int) (C := RX4) (T := TX4) (N := 7) hx hb hts hinX4 tyX4 tyX4_ok nmX4 hown hK.1 hP hD hS 0 rfl rfl 5 (by decide) hk_1 (fun _ h9 => h9) rfl (by decide +kernel) rfl rfl (Nat.le_of_ble_eq_true rfl) dX4_refuse_32 (fun H locs hP hD hS => ?_)
      have hP : va_P g.1 vwCl (rr_wC g a ad (rr_z Ω 3 (rr_t (Ω 3) 1 (((Ω 3) 1 0) + 1)))) H := hP
      have hD : va_D A (rr_wC g a ad (rr_z Ω 3 (rr_t (Ω 3) 1 (((Ω 3) 1 0) + 1)))) := hD
      refine lv_goto (tgt := 48) hx hb dX4_refuse_35 (by decide) ?_
      refine lv_iload_n hx hb dX4_refuse_48 rfl (lv_at hl 1 rfl) ?_
      exact hret _ _ _ _ _ _ h hP hD hS dX4_refuse_49
  · rw [if_pos c2] at h
    refine lv_aload_n hx hb dX4_refuse_6 rfl (lv_at hl 0 rfl) ?_
    refine lv_dup hx hb dX4_refuse_7 rfl ?_
    refine va_get (D := g.1) (ci := 4) (v := .int (rr_i ((Ω 3) 0 0))) (C := RX4) (T := TX4) (N := 7) hx hb hts hinX4 hown hK.1 hP 0 rfl rfl 4 (by decide) hk_2 (fun _ h9 => h9) rfl dX4_refuse_8 ?_
    refine rr_iconst hx hb dX4_refuse_11 ?_
    refine rr_iadd hx hb dX4_refuse_12 ?_
    refine va_put (D := g.1) (ci := 4) (v := .int (rr_i (((Ω 3) 0 0) + 1))) (ty := .int) (C := RX4) (T := TX4) (N := 7) hx hb hts hinX4 tyX4 tyX4_ok nmX4 hown hK.1 hP hD hS 0 rfl rfl 4 (by decide) hk_2 (fun _ h9 => h9) rfl (by decide +kernel) rfl rfl (Nat.le_of_ble_eq_true rfl) dX4_refuse_13 (fun H locs hP hD hS => ?_)
    have hP : va_P g.1 vwCl (rr_wC g a ad (rr_z Ω 3 (rr_t (Ω 3) 0 (((Ω 3) 0 0) + 1)))) H := hP
    have hD : va_D A (rr_wC g a ad (rr_z Ω 3 (rr_t (Ω 3) 0 (((Ω 3) 0 0) + 1)))) := hD
    refine lv_goto (tgt := 48) hx hb dX4_refuse_16 (by decide) ?_
    refine lv_iload_n hx hb dX4_refuse_48 rfl (lv_at hl 1 rfl) ?_
    exact hret _ _ _ _ _ _ h hP hD hS dX4_refuse_49
-- RoomRing.keepDraft
abbrev rm_X4_keepDraft : Room := { frames := 4, cells := 0, slots := 0, locals := 88 }
theorem hd_X4_keepDraft : yX4_keepDraft.cls ≠ "java/lang/invoke/MethodHandle" ∧ yX4_keepDraft.cls ≠ "java/lang/invoke/VarHandle" ∧ (parseMethodDescriptor yX4_keepDraft.desc).map (fun d => d.parameters.length) = some 0 := by decide +kernel
set_option maxHeartbeats 4000000 in
set_option maxRecDepth 100000 in
theorem kX4_keepDraft (l : Launch) (g : rr_G) (a : Nat) (ad : Nat → Nat) (sz : Nat) (Ω : (Nat → rr_T)) (out : (Nat → rr_T)) (h : M4_keepDraft Ω = some out) : Met l yX4_keepDraft wsX4_keepDraft rm_X4_keepDraft (rr_P g [.ref a] (rr_wC g a ad Ω) sz) (rr_Qvx g (fun ad => rr_wC g a ad out) (va_A (rr_wC g a ad Ω) sz)) 0 0 (va_A (rr_wC g a ad Ω) sz) := by
  refine rr_rwVx (cc := cX4_keepDraft) (maxL := 2) (fun ad Ω => rr_wC g a ad Ω) ad Ω out (by decide) rfl (Nat.le_of_ble_eq_true rfl) ?_
  intro p e s m ar below meth c Q ls A hx hb hml hown hts hK hA hP hD hS hret hl
  have hP : va_P g.1 vwCl (rr_wC g a ad Ω) s.heap := hP
  have hD : va_D A (rr_wC g a ad Ω) := hD
  have hown : s.vm.findClass RX4 = some m.cls := hown
  have hl : lv_has ls 2 [(0, .ref a)] := hl
  have hinX1 : ∀ w ∈ u_ws RX1 TX1 8, w ∈ wsX4_keepDraft := by decide +kernel
  have hinX3 : ∀ w ∈ u_ws RX3 TX3 7, w ∈ wsX4_keepDraft := by decide +kernel
  have hinX4 : ∀ w ∈ u_ws RX4 TX4 7, w ∈ wsX4_keepDraft := by decide +kernel
  have hk_0 : (Cond.fieldLink RX4 16 "RoomRing" "draft" "LRoomRing$Ring;").before ar s = true := hts _ (List.mem_of_getElem? (i := 1) (by decide +kernel))
  have hk_1 : (Cond.fieldLink RX4 58 "RoomRing$Ring" "stock" "LRoomRing$Stock;").before ar s = true := hts _ (List.mem_of_getElem? (i := 2) (by decide +kernel))
  have hk_2 : (Cond.fieldLink RX4 12 "RoomRing" "now" "LRoomRing$Ring;").before ar s = true := hts _ (List.mem_of_getElem? (i := 3) (by decide +kernel))
  have hk_3 : (Cond.fieldLink RX4 116 "RoomRing$Stock" "moved" "I").before ar s = true := hts _ (List.mem_of_getElem? (i := 4) (by decide +kernel))
  have hk_4 : (Cond.fieldLink RX4 22 "RoomRing" "history" "LRoomRing$History;").before ar s = true := hts _ (List.mem_of_getElem? (i := 5) (by decide +kernel))
  unfold M4_keepDraft at h
  refine lv_aload_n hx hb dX4_keepDraft_0 rfl (lv_at hl 0 rfl) ?_
  refine va_get (D := g.1) (ci := 4) (v := .ref (ad 12)) (C := RX4) (T := TX4) (N := 7) hx hb hts hinX4 hown hK.1 hP 0 rfl rfl 1 (by decide) hk_0 (fun _ h9 => h9) rfl dX4_keepDraft_1 ?_
  obtain ⟨v1, hw2, h⟩ := rr_b_some h
  refine rr_partV (wc := rr_wR g (fun k => ad (12 + k)) (Ω 1)) (wr := rr_pick (rr_wC g a ad Ω) [0, 1, 2, 3, 4, 5, 6, 7, 8, 9, 10, 11, 12, 25, 26, 27, 28, 29, 30, 31, 32, 33, 34, 35, 36, 37, 38, 39, 40, 41, 42, 43, 44, 45, 46, 47, 48, 49, 50, 51]) hP hD hS hA [13, 14, 15, 16, 17, 18, 19, 20, 21, 22, 23, 24] [0, 1, 2, 3, 4, 5, 6, 7, 8, 9, 10, 11, 12, 25, 26, 27, 28, 29, 30, 31, 32, 33, 34, 35, 36, 37, 38, 39, 40, 41, 42, 43, 44, 45, 46, 47, 48, 49, 50, 51] rfl rfl (by decide) (by decide) (va_runV (As := []) (rest := []) ⟨hx, hb, hml, hown, hts⟩ (kX1_lay l g (fun k => ad (12 + k)) _ (Ω 1) v1 hw2) (cwV 0 hts gX4_keepDraft_X1_lay rfl rfl rfl ⟨rfl, hd_X1_lay⟩ ⟨Nat.le_of_ble_eq_true rfl, Nat.le_of_ble_eq_true rfl⟩) ⟨rr_P_blind, va_recv hK.1 (hP.sub (ws' := rr_wR g (fun k => ad (12 + k)) (Ω 1)) [13, 14, 15, 16, 17, 18, 19, 20, 21, 22, 23, 24] rfl) (ci := 1) (q0 := 0) rfl rfl, rr_P_pre hK (hP.sub (ws' := rr_wR g (fun k => ad (12 + k)) (Ω 1)) [13, 14, 15, 16, 17, 18, 19, 20, 21, 22, 23, 24] rfl) (hD.sub (ws' := rr_wR g (fun k => ad (12 + k)) (Ω 1)) [13, 14, 15, 16, 17, 18, 19, 20, 21, 22, 23, 24] (by decide) rfl)⟩ rfl rfl hl.1 rfl (lv_room (Nat.le_of_ble_eq_true rfl)) dX4_keepDraft_4 ⟨Nat.zero_le _, Nat.zero_le _⟩) (fun H locs hP hD hS => ?_)
  have hP := hP.sub (ws' := rr_wC g a ad (rr_z Ω 1 v1)) [0, 1, 2, 3, 4, 5, 6, 7, 8, 9, 10, 11, 12, 40, 41, 42, 43, 44, 45, 46, 47, 48, 49, 50, 51, 13, 14, 15, 16, 17, 18, 19, 20, 21, 22, 23, 24, 25, 26, 27, 28, 29, 30, 31, 32, 33, 34, 35, 36, 37, 38, 39] rfl
  have hD := hD.sub (ws' := rr_wC g a ad (rr_z Ω 1 v1)) [0, 1, 2, 3, 4, 5, 6, 7, 8, 9, 10, 11, 12, 40, 41, 42, 43, 44, 45, 46, 47, 48, 49, 50, 51, 13, 14, 15, 16, 17, 18, 19, 20, 21, 22, 23, 24, 25, 26, 27, 28, 29, 30, 31, 32, 33, 34, 35, 36, 37, 38, 39] (by decide) rfl
  refine lv_aload_n hx hb dX4_keepDraft_7 rfl (lv_at hl 0 rfl) ?_
  refine va_get (D := g.1) (ci := 4) (v := .ref (ad 12)) (C := RX4) (T := TX4) (N := 7) hx hb hts hinX4 hown hK.1 hP 0 rfl rfl 1 (by decide) hk_0 (fun _ h9 => h9) rfl dX4_keepDraft_8 ?_
  refine va_get (D := g.1) (ci := 1) (v := .ref (ad 20)) (C := RX1) (T := TX1) (N := 8) hx hb hts hinX1 hown hK.1 hP 13 rfl rfl 0 (by decide) hk_1 (fun _ h9 => h9) rfl dX4_keepDraft_11 ?_
  refine lv_aload_n hx hb dX4_keepDraft_14 rfl (lv_at hl 0 rfl) ?_
  refine va_get (D := g.1) (ci := 4) (v := .ref (ad 12)) (C := RX4) (T := TX4) (N := 7) hx hb hts hinX4 hown hK.1 hP 0 rfl rfl 1 (by decide) hk_0 (fun _ h9 => h9) rfl dX4_keepDraft_15 ?_
  refine lv_aload_n hx hb dX4_keepDraft_18 rfl (lv_at hl 0 rfl) ?_
  refine va_get (D := g.1) (ci := 4) (v := .ref (ad 0)) (C := RX4) (T := TX4) (N := 7) hx hb hts hinX4 hown hK.1 hP 0 rfl rfl 0 (by decide) hk_2 (fun _ h9 => h9) rfl dX4_keepDraft_19 ?_
  obtain ⟨v3, hw4, h⟩ := rr_b_some h
  refine rr_callI (va_runV (As := [.ref (ad 0)]) (rest := [.ref (ad 20)]) ⟨hx, hb, hml, hown, hts⟩ (kX1_movedSince l g (fun k => ad (12 + k)) ad v1 (Ω 0) v3 hw4) (cwV 1 hts gX4_keepDraft_X1_movedSince rfl rfl rfl ⟨rfl, hd_X1_movedSince⟩ ⟨Nat.le_of_ble_eq_true rfl, Nat.le_of_ble_eq_true rfl⟩) ⟨rr_R_blind, va_recv hK.1 (hP.sub (ws' := rr_wR g (fun k => ad (12 + k)) v1 ++ rr_wR g ad (Ω 0)) [13, 14, 15, 16, 17, 18, 19, 20, 21, 22, 23, 24, 1, 2, 3, 4, 5, 6, 7, 8, 9, 10, 11, 12] rfl) (ci := 1) (q0 := 0) rfl rfl, rr_R_pre hK (hP.sub (ws' := rr_wR g (fun k => ad (12 + k)) v1 ++ rr_wR g ad (Ω 0)) [13, 14, 15, 16, 17, 18, 19, 20, 21, 22, 23, 24, 1, 2, 3, 4, 5, 6, 7, 8, 9, 10, 11, 12] rfl)⟩ rfl rfl hl.1 rfl (lv_room (Nat.le_of_ble_eq_true rfl)) dX4_keepDraft_22 ⟨Nat.zero_le _, Nat.zero_le _⟩) ?_
  refine va_put (D := g.1) (ci := 3) (v := .int (rr_i v3)) (ty := .int) (C := RX3) (T := TX3) (N := 7) hx hb hts hinX3 tyX3 tyX3_ok nmX3 hown hK.1 hP hD hS 21 rfl rfl 6 (by decide) hk_3 (fun _ h9 => h9) rfl (by decide +kernel) rfl rfl (Nat.le_of_ble_eq_true rfl) dX4_keepDraft_25 (fun H locs hP hD hS => ?_)
  have hP : va_P g.1 vwCl (rr_wC g a ad (rr_z Ω 1 (rr_t v1 6 v3))) H := hP
  have hD : va_D A (rr_wC g a ad (rr_z Ω 1 (rr_t v1 6 v3))) := hD
  refine lv_aload_n hx hb dX4_keepDraft_28 rfl (lv_at hl 0 rfl) ?_
  refine va_get (D := g.1) (ci := 4) (v := .ref (ad 24)) (C := RX4) (T := TX4) (N := 7) hx hb hts hinX4 hown hK.1 hP 0 rfl rfl 2 (by decide) hk_4 (fun _ h9 => h9) rfl dX4_keepDraft_29 ?_
  refine lv_aload_n hx hb dX4_keepDraft_32 rfl (lv_at hl 0 rfl) ?_
  refine va_get (D := g.1) (ci := 4) (v := .ref (ad 0)) (C := RX4) (T := TX4) (N := 7) hx hb hts hinX4 hown hK.1 hP 0 rfl rfl 0 (by decide) hk_2 (fun _ h9 => h9) rfl dX4_keepDraft_33 ?_
  refine va_get (D := g.1) (ci := 1) (v := .ref (ad 8)) (C := RX1) (T := TX1) (N := 8) hx hb hts hinX1 hown hK.1 hP 1 rfl rfl 0 (by decide) hk_1 (fun _ h9 => h9) rfl dX4_keepDraft_36 ?_
  obtain ⟨v5, hw6, h⟩ := rr_b_some h
  refine rr_partVx (wc := rr_wH g (ad 24) (fun k => ad (25 + k)) (rr_z Ω 1 (rr_t v1 6 v3)) ++ rr_wS g (fun k => ad (8 + k)) (Ω 0)) (wr := rr_pick (rr_wC g a ad (rr_z Ω 1 (rr_t v1 6 v3))) [0, 1, 2, 3, 4, 5, 6, 7, 8, 13, 14, 15, 16, 17, 18, 19, 20, 21, 22, 23, 24, 47, 48, 49, 50, 51]) hP hD hS hA [25, 26, 27, 28, 29, 30, 31, 32, 33, 34, 35, 36, 37, 38, 39, 40, 41, 42, 43, 44, 45, 46, 9, 10, 11, 12] [0, 1, 2, 3, 4, 5, 6, 7, 8, 13, 14, 15, 16, 17, 18, 19, 20, 21, 22, 23, 24, 47, 48, 49, 50, 51] rfl rfl (by decide) (by decide) (va_runV (As := [.ref (ad 8)]) (rest := []) ⟨hx, hb, hml, hown, hts⟩ (kX0_keep l g (ad 24) (fun k => ad (25 + k)) (fun k => ad (8 + k)) _ (rr_z Ω 1 (rr_t v1 6 v3)) (Ω 0) v5 hw6) (cwV 1 hts gX4_keepDraft_X0_keep rfl rfl rfl ⟨rfl, hd_X0_keep⟩ ⟨Nat.le_of_ble_eq_true rfl, Nat.le_of_ble_eq_true rfl⟩) ⟨rr_P_blind, va_recv hK.1 (hP.sub (ws' := rr_wH g (ad 24) (fun k => ad (25 + k)) (rr_z Ω 1 (rr_t v1 6 v3)) ++ rr_wS g (fun k => ad (8 + k)) (Ω 0)) [25, 26, 27, 28, 29, 30, 31, 32, 33, 34, 35, 36, 37, 38, 39, 40, 41, 42, 43, 44, 45, 46, 9, 10, 11, 12] rfl) (ci := 0) (q0 := 0) rfl rfl, rr_P_pre hK (hP.sub (ws' := rr_wH g (ad 24) (fun k => ad (25 + k)) (rr_z Ω 1 (rr_t v1 6 v3)) ++ rr_wS g (fun k => ad (8 + k)) (Ω 0)) [25, 26, 27, 28, 29, 30, 31, 32, 33, 34, 35, 36, 37, 38, 39, 40, 41, 42, 43, 44, 45, 46, 9, 10, 11, 12] rfl) (hD.sub (ws' := rr_wH g (ad 24) (fun k => ad (25 + k)) (rr_z Ω 1 (rr_t v1 6 v3)) ++ rr_wS g (fun k => ad (8 + k)) (Ω 0)) [25, 26, 27, 28, 29, 30, 31, 32, 33, 34, 35, 36, 37, 38, 39, 40, 41, 42, 43, 44, 45, 46, 9, 10, 11, 12] (by decide) rfl)⟩ rfl rfl hl.1 rfl (lv_room (Nat.le_of_ble_eq_true rfl)) dX4_keepDraft_39 ⟨Nat.zero_le _, Nat.zero_le _⟩) (fun u H locs hP hD hS => ?_)
  have hP := hP.sub (ws' := rr_wC g a (fun k => if 25 ≤ k ∧ k < 46 then u (k - 25) else ad k) (rr_z (rr_z (rr_z (rr_z (rr_z (rr_z (rr_z Ω 1 (rr_t v1 6 v3)) 4 (v5 4)) 5 (v5 5)) 6 (v5 6)) 7 (v5 7)) 8 (v5 8)) 9 (v5 9))) [0, 1, 2, 3, 4, 5, 6, 7, 8, 48, 49, 50, 51, 9, 10, 11, 12, 13, 14, 15, 16, 17, 18, 19, 20, 26, 27, 28, 29, 30, 31, 32, 33, 34, 35, 36, 37, 38, 39, 40, 41, 42, 43, 44, 45, 46, 47, 21, 22, 23, 24, 25] rfl
  have hD := hD.sub (ws' := rr_wC g a (fun k => if 25 ≤ k ∧ k < 46 then u (k - 25) else ad k) (rr_z (rr_z (rr_z (rr_z (rr_z (rr_z (rr_z Ω 1 (rr_t v1 6 v3)) 4 (v5 4)) 5 (v5 5)) 6 (v5 6)) 7 (v5 7)) 8 (v5 8)) 9 (v5 9))) [0, 1, 2, 3, 4, 5, 6, 7, 8, 48, 49, 50, 51, 9, 10, 11, 12, 13, 14, 15, 16, 17, 18, 19, 20, 26, 27, 28, 29, 30, 31, 32, 33, 34, 35, 36, 37, 38, 39, 40, 41, 42, 43, 44, 45, 46, 47, 21, 22, 23, 24, 25] (by decide) rfl
  generalize (fun k => if 25 ≤ k ∧ k < 46 then u (k - 25) else ad k) = ad at hP hD
  refine lv_aload_n hx hb dX4_keepDraft_42 rfl (lv_at hl 0 rfl) ?_
  refine va_get (D := g.1) (ci := 4) (v := .ref (ad 0)) (C := RX4) (T := TX4) (N := 7) hx hb hts hinX4 hown hK.1 hP 0 rfl rfl 0 (by decide) hk_2 (fun _ h9 => h9) rfl dX4_keepDraft_43 ?_
  refine lv_astore_n (lv' := [(1, .ref (ad 0)), (0, .ref a)]) hx hb dX4_keepDraft_46 rfl hl (by decide) rfl (fun ls hl => ?_)
  refine lv_aload_n hx hb dX4_keepDraft_47 rfl (lv_at hl 1 rfl) ?_
  refine lv_aload_n hx hb dX4_keepDraft_48 rfl (lv_at hl 1 rfl) ?_
  refine va_get (D := g.1) (ci := 4) (v := .ref (ad 12)) (C := RX4) (T := TX4) (N := 7) hx hb hts hinX4 hown hK.1 hP 0 rfl rfl 1 (by decide) hk_0 (fun _ h9 => h9) rfl dX4_keepDraft_49 ?_
  refine va_put (D := g.1) (ci := 4) (v := .ref (ad 12)) (ty := .object "RoomRing$Ring") (C := RX4) (T := TX4) (N := 7) hx hb hts hinX4 tyX4 tyX4_ok nmX4 hown hK.1 hP hD hS 0 rfl rfl 0 (by decide) hk_2 (fun _ h9 => h9) rfl (by decide +kernel) rfl rfl (Nat.le_of_ble_eq_true rfl) dX4_keepDraft_52 (fun H locs hP hD hS => ?_)
  refine lv_aload_n hx hb dX4_keepDraft_55 rfl (lv_at hl 1 rfl) ?_
  refine lv_aload_n hx hb dX4_keepDraft_56 rfl (lv_at hl 0 rfl) ?_
  refine va_put (D := g.1) (ci := 4) (v := .ref (ad 0)) (ty := .object "RoomRing$Ring") (C := RX4) (T := TX4) (N := 7) hx hb hts hinX4 tyX4 tyX4_ok nmX4 hown hK.1 hP hD hS 0 rfl rfl 1 (by decide) hk_0 (fun _ h9 => h9) rfl (by decide +kernel) rfl rfl (Nat.le_of_ble_eq_true rfl) dX4_keepDraft_57 (fun H locs hP hD hS => ?_)
  have hP := hP.sub (ws' := rr_wC g a (fun k => if k < 12 then ad (12 + k) else if k < 24 then ad (k - 12) else ad k) (rr_z (rr_z (rr_z (rr_z (rr_z (rr_z (rr_z (rr_z Ω 0 (rr_t v1 6 v3)) 1 (Ω 0)) 4 (v5 4)) 5 (v5 5)) 6 (v5 6)) 7 (v5 7)) 8 (v5 8)) 9 (v5 9))) [0, 13, 14, 15, 16, 17, 18, 19, 20, 21, 22, 23, 24, 1, 2, 3, 4, 5, 6, 7, 8, 9, 10, 11, 12, 25, 26, 27, 28, 29, 30, 31, 32, 33, 34, 35, 36, 37, 38, 39, 40, 41, 42, 43, 44, 45, 46, 47, 48, 49, 50, 51] rfl
  have hD := hD.sub (ws' := rr_wC g a (fun k => if k < 12 then ad (12 + k) else if k < 24 then ad (k - 12) else ad k) (rr_z (rr_z (rr_z (rr_z (rr_z (rr_z (rr_z (rr_z Ω 0 (rr_t v1 6 v3)) 1 (Ω 0)) 4 (v5 4)) 5 (v5 5)) 6 (v5 6)) 7 (v5 7)) 8 (v5 8)) 9 (v5 9))) [0, 13, 14, 15, 16, 17, 18, 19, 20, 21, 22, 23, 24, 1, 2, 3, 4, 5, 6, 7, 8, 9, 10, 11, 12, 25, 26, 27, 28, 29, 30, 31, 32, 33, 34, 35, 36, 37, 38, 39, 40, 41, 42, 43, 44, 45, 46, 47, 48, 49, 50, 51] (by decide) rfl
  exact hret _ _ _ _ _ _ h hP hD hS dX4_keepDraft_60
-- RoomRing.tellOne
abbrev rm_X4_tellOne : Room := { frames := 5, cells := 0, slots := 0, locals := 109 }
theorem hd_X4_tellOne : yX4_tellOne.cls ≠ "java/lang/invoke/MethodHandle" ∧ yX4_tellOne.cls ≠ "java/lang/invoke/VarHandle" ∧ (parseMethodDescriptor yX4_tellOne.desc).map (fun d => d.parameters.length) = some 3 := by decide +kernel
set_option maxHeartbeats 4000000 in
set_option maxRecDepth 100000 in
theorem kX4_tellOne (l : Launch) (g : rr_G) (a : Nat) (ad : Nat → Nat) (sz : Nat) (x1 : Int) (x2 : Int) (x3 : Int) (Ω : (Nat → rr_T)) (out : (Int × (Nat → rr_T))) (h : M4_tellOne x1 x2 x3 Ω = some out) : Met l yX4_tellOne wsX4_tellOne rm_X4_tellOne (rr_P g [.ref a, .int (rr_i x1), .int (rr_i x2), .int (rr_i x3)] (rr_wC g a ad Ω) sz) (rr_Qix g out.1 (fun ad => rr_wC g a ad out.2) (va_A (rr_wC g a ad Ω) sz)) 0 0 (va_A (rr_wC g a ad Ω) sz) := by
  refine rr_rwIx (cc := cX4_tellOne) (maxL := 5) (fun ad Ω => rr_wC g a ad Ω) ad Ω out (by decide) rfl (Nat.le_of_ble_eq_true rfl) ?_
  intro p e s m ar below meth c Q ls A hx hb hml hown hts hK hA hP hD hS hret hl
  have hP : va_P g.1 vwCl (rr_wC g a ad Ω) s.heap := hP
  have hD : va_D A (rr_wC g a ad Ω) := hD
  have hown : s.vm.findClass RX4 = some m.cls := hown
  have hl : lv_has ls 5 [(0, .ref a), (1, .int (rr_i x1)), (2, .int (rr_i x2)), (3, .int (rr_i x3))] := hl
  have hinX1 : ∀ w ∈ u_ws RX1 TX1 8, w ∈ wsX4_tellOne := by decide +kernel
  have hinX3 : ∀ w ∈ u_ws RX3 TX3 7, w ∈ wsX4_tellOne := by decide +kernel
  have hinX4 : ∀ w ∈ u_ws RX4 TX4 7, w ∈ wsX4_tellOne := by decide +kernel
  have hk_0 : (Cond.fieldLink RX4 16 "RoomRing" "draft" "LRoomRing$Ring;").before ar s = true := hts _ (List.mem_of_getElem? (i := 1) (by decide +kernel))
  have hk_1 : (Cond.fieldLink RX4 58 "RoomRing$Ring" "stock" "LRoomRing$Stock;").before ar s = true := hts _ (List.mem_of_getElem? (i := 2) (by decide +kernel))
  have hk_2 : (Cond.fieldLink RX4 12 "RoomRing" "now" "LRoomRing$Ring;").before ar s = true := hts _ (List.mem_of_getElem? (i := 3) (by decide +kernel))
  have hk_3 : (Cond.fieldLink RX4 116 "RoomRing$Stock" "moved" "I").before ar s = true := hts _ (List.mem_of_getElem? (i := 4) (by decide +kernel))
  unfold M4_tellOne at h
  refine lv_aload_n hx hb dX4_tellOne_0 rfl (lv_at hl 0 rfl) ?_
  refine va_get (D := g.1) (ci := 4) (v := .ref (ad 12)) (C := RX4) (T := TX4) (N := 7) hx hb hts hinX4 hown hK.1 hP 0 rfl rfl 1 (by decide) hk_0 (fun _ h9 => h9) rfl dX4_tellOne_1 ?_
  refine va_get (D := g.1) (ci := 1) (v := .ref (ad 20)) (C := RX1) (T := TX1) (N := 8) hx hb hts hinX1 hown hK.1 hP 13 rfl rfl 0 (by decide) hk_1 (fun _ h9 => h9) rfl dX4_tellOne_4 ?_
  refine lv_aload_n hx hb dX4_tellOne_7 rfl (lv_at hl 0 rfl) ?_
  refine va_get (D := g.1) (ci := 4) (v := .ref (ad 0)) (C := RX4) (T := TX4) (N := 7) hx hb hts hinX4 hown hK.1 hP 0 rfl rfl 0 (by decide) hk_2 (fun _ h9 => h9) rfl dX4_tellOne_8 ?_
  refine va_get (D := g.1) (ci := 1) (v := .ref (ad 8)) (C := RX1) (T := TX1) (N := 8) hx hb hts hinX1 hown hK.1 hP 1 rfl rfl 0 (by decide) hk_1 (fun _ h9 => h9) rfl dX4_tellOne_11 ?_
  obtain ⟨v1, hw2, h⟩ := rr_b_some h
  refine rr_partV (wc := rr_wS g (fun k => ad (20 + k)) (Ω 1) ++ rr_wS g (fun k => ad (8 + k)) (Ω 0)) (wr := rr_pick (rr_wC g a ad Ω) [0, 1, 2, 3, 4, 5, 6, 7, 8, 13, 14, 15, 16, 17, 18, 19, 20, 25, 26, 27, 28, 29, 30, 31, 32, 33, 34, 35, 36, 37, 38, 39, 40, 41, 42, 43, 44, 45, 46, 47, 48, 49, 50, 51]) hP hD hS hA [21, 22, 23, 24, 9, 10, 11, 12] [0, 1, 2, 3, 4, 5, 6, 7, 8, 13, 14, 15, 16, 17, 18, 19, 20, 25, 26, 27, 28, 29, 30, 31, 32, 33, 34, 35, 36, 37, 38, 39, 40, 41, 42, 43, 44, 45, 46, 47, 48, 49, 50, 51] rfl rfl (by decide) (by decide) (va_runV (As := [.ref (ad 8)]) (rest := []) ⟨hx, hb, hml, hown, hts⟩ (kX3_copyFrom l g (fun k => ad (20 + k)) (fun k => ad (8 + k)) _ (Ω 1) (Ω 0) v1 hw2) (cwV 1 hts gX4_tellOne_X3_copyFrom rfl rfl rfl ⟨rfl, hd_X3_copyFrom⟩ ⟨Nat.le_of_ble_eq_true rfl, Nat.le_of_ble_eq_true rfl⟩) ⟨rr_P_blind, va_recv hK.1 (hP.sub (ws' := rr_wS g (fun k => ad (20 + k)) (Ω 1) ++ rr_wS g (fun k => ad (8 + k)) (Ω 0)) [21, 22, 23, 24, 9, 10, 11, 12] rfl) (ci := 3) (q0 := 0) rfl rfl, rr_P_pre hK (hP.sub (ws' := rr_wS g (fun k => ad (20 + k)) (Ω 1) ++ rr_wS g (fun k => ad (8 + k)) (Ω 0)) [21, 22, 23, 24, 9, 10, 11, 12] rfl) (hD.sub (ws' := rr_wS g (fun k => ad (20 + k)) (Ω 1) ++ rr_wS g (fun k => ad (8 + k)) (Ω 0)) [21, 22, 23, 24, 9, 10, 11, 12] (by decide) rfl)⟩ rfl rfl hl.1 rfl (lv_room (Nat.le_of_ble_eq_true rfl)) dX4_tellOne_14 ⟨Nat.zero_le _, Nat.zero_le _⟩) (fun H locs hP hD hS => ?_)
  have hP := hP.sub (ws' := rr_wC g a ad (rr_z Ω 1 (rr_m 7 v1 (Ω 1)))) [0, 1, 2, 3, 4, 5, 6, 7, 8, 48, 49, 50, 51, 9, 10, 11, 12, 13, 14, 15, 16, 44, 45, 46, 47, 17, 18, 19, 20, 21, 22, 23, 24, 25, 26, 27, 28, 29, 30, 31, 32, 33, 34, 35, 36, 37, 38, 39, 40, 41, 42, 43] rfl
  have hD := hD.sub (ws' := rr_wC g a ad (rr_z Ω 1 (rr_m 7 v1 (Ω 1)))) [0, 1, 2, 3, 4, 5, 6, 7, 8, 48, 49, 50, 51, 9, 10, 11, 12, 13, 14, 15, 16, 44, 45, 46, 47, 17, 18, 19, 20, 21, 22, 23, 24, 25, 26, 27, 28, 29, 30, 31, 32, 33, 34, 35, 36, 37, 38, 39, 40, 41, 42, 43] (by decide) rfl
  refine lv_aload_n hx hb dX4_tellOne_17 rfl (lv_at hl 0 rfl) ?_
  refine va_get (D := g.1) (ci := 4) (v := .ref (ad 12)) (C := RX4) (T := TX4) (N := 7) hx hb hts hinX4 hown hK.1 hP 0 rfl rfl 1 (by decide) hk_0 (fun _ h9 => h9) rfl dX4_tellOne_18 ?_
  refine va_get (D := g.1) (ci := 1) (v := .ref (ad 20)) (C := RX1) (T := TX1) (N := 8) hx hb hts hinX1 hown hK.1 hP 13 rfl rfl 0 (by decide) hk_1 (fun _ h9 => h9) rfl dX4_tellOne_21 ?_
  refine lv_iload_n hx hb dX4_tellOne_24 rfl (lv_at hl 1 rfl) ?_
  refine lv_iload_n hx hb dX4_tellOne_25 rfl (lv_at hl 2 rfl) ?_
  refine lv_iload_n hx hb dX4_tellOne_26 rfl (lv_at hl 3 rfl) ?_
  obtain ⟨v3, hw4, h⟩ := rr_b_some h
  refine rr_partI (wc := rr_wS g (fun k => ad (20 + k)) (rr_m 7 v1 (Ω 1))) (wr := rr_pick (rr_wC g a ad (rr_z Ω 1 (rr_m 7 v1 (Ω 1)))) [0, 1, 2, 3, 4, 5, 6, 7, 8, 9, 10, 11, 12, 13, 14, 15, 16, 17, 18, 19, 20, 25, 26, 27, 28, 29, 30, 31, 32, 33, 34, 35, 36, 37, 38, 39, 40, 41, 42, 43, 44, 45, 46, 47, 48, 49, 50, 51]) hP hD hS hA [21, 22, 23, 24] [0, 1, 2, 3, 4, 5, 6, 7, 8, 9, 10, 11, 12, 13, 14, 15, 16, 17, 18, 19, 20, 25, 26, 27, 28, 29, 30, 31, 32, 33, 34, 35, 36, 37, 38, 39, 40, 41, 42, 43, 44, 45, 46, 47, 48, 49, 50, 51] rfl rfl (by decide) (by decide) (va_runV (As := [.int (rr_i x1), .int (rr_i x2), .int (rr_i x3)]) (rest := []) ⟨hx, hb, hml, hown, hts⟩ (kX3_take l g (fun k => ad (20 + k)) _ x1 x2 x3 (rr_m 7 v1 (Ω 1)) v3 hw4) (cwV 3 hts gX4_tellOne_X3_take rfl rfl rfl ⟨rfl, hd_X3_take⟩ ⟨Nat.le_of_ble_eq_true rfl, Nat.le_of_ble_eq_true rfl⟩) ⟨rr_P_blind, va_recv hK.1 (hP.sub (ws' := rr_wS g (fun k => ad (20 + k)) (rr_m 7 v1 (Ω 1))) [21, 22, 23, 24] rfl) (ci := 3) (q0 := 0) rfl rfl, rr_P_pre hK (hP.sub (ws' := rr_wS g (fun k => ad (20 + k)) (rr_m 7 v1 (Ω 1))) [21, 22, 23, 24] rfl) (hD.sub (ws' := rr_wS g (fun k => ad (20 + k)) (rr_m 7 v1 (Ω 1))) [21, 22, 23, 24] (by decide) rfl)⟩ rfl rfl hl.1 rfl (lv_room (Nat.le_of_ble_eq_true rfl)) dX4_tellOne_27 ⟨Nat.zero_le _, Nat.zero_le _⟩) (fun H locs hP hD hS => ?_)
  have hP := hP.sub (ws' := rr_wC g a ad (rr_z Ω 1 (rr_m 7 v3.2 (rr_m 7 v1 (Ω 1))))) [0, 1, 2, 3, 4, 5, 6, 7, 8, 9, 10, 11, 12, 13, 14, 15, 16, 17, 18, 19, 20, 48, 49, 50, 51, 21, 22, 23, 24, 25, 26, 27, 28, 29, 30, 31, 32, 33, 34, 35, 36, 37, 38, 39, 40, 41, 42, 43, 44, 45, 46, 47] rfl
  have hD := hD.sub (ws' := rr_wC g a ad (rr_z Ω 1 (rr_m 7 v3.2 (rr_m 7 v1 (Ω 1))))) [0, 1, 2, 3, 4, 5, 6, 7, 8, 9, 10, 11, 12, 13, 14, 15, 16, 17, 18, 19, 20, 48, 49, 50, 51, 21, 22, 23, 24, 25, 26, 27, 28, 29, 30, 31, 32, 33, 34, 35, 36, 37, 38, 39, 40, 41, 42, 43, 44, 45, 46, 47] (by decide) rfl
  refine lv_istore (lv' := [(4, .int (rr_i v3.1)), (0, .ref a), (1, .int (rr_i x1)), (2, .int (rr_i x2)), (3, .int (rr_i x3))]) hx hb dX4_tellOne_30 hl (by decide) rfl (fun ls hl => ?_)
  refine lv_iload hx hb dX4_tellOne_32 (lv_at hl 0 rfl) ?_
  obtain ⟨hg5, h⟩ := rr_c_some h
  refine rr_if_eq (tgt := 44) hx hb dX4_tellOne_34 (by decide) hg5 (fun c6 => ?_) (fun c6 => ?_)
  · rw [if_pos c6] at h
    refine lv_aload_n hx hb dX4_tellOne_44 rfl (lv_at hl 1 rfl) ?_
    obtain ⟨v7, hw8, h⟩ := rr_b_some h
    refine rr_allVx hD hS hA (va_runV (As := []) (rest := []) ⟨hx, hb, hml, hown, hts⟩ (kX4_keepDraft l g a ad _ (rr_z Ω 1 (rr_m 7 v3.2 (rr_m 7 v1 (Ω 1)))) v7 hw8) (cwV 0 hts gX4_tellOne_X4_keepDraft rfl rfl rfl ⟨rfl, hd_X4_keepDraft⟩ ⟨Nat.le_of_ble_eq_true rfl, Nat.le_of_ble_eq_true rfl⟩) ⟨rr_P_blind, va_recv hK.1 hP (ci := 4) (q0 := 0) rfl rfl, rr_P_pre hK hP hD⟩ rfl rfl hl.1 rfl (lv_room (Nat.le_of_ble_eq_true rfl)) dX4_tellOne_45 ⟨Nat.zero_le _, Nat.zero_le _⟩) (fun ad H locs hP hD hS => ?_)
    refine lv_aload_n hx hb dX4_tellOne_48 rfl (lv_at hl 1 rfl) ?_
    refine va_get (D := g.1) (ci := 4) (v := .ref (ad 0)) (C := RX4) (T := TX4) (N := 7) hx hb hts hinX4 hown hK.1 hP 0 rfl rfl 0 (by decide) hk_2 (fun _ h9 => h9) rfl dX4_tellOne_49 ?_
    refine va_get (D := g.1) (ci := 1) (v := .ref (ad 8)) (C := RX1) (T := TX1) (N := 8) hx hb hts hinX1 hown hK.1 hP 1 rfl rfl 0 (by decide) hk_1 (fun _ h9 => h9) rfl dX4_tellOne_52 ?_
    refine va_get (D := g.1) (ci := 3) (v := .int (rr_i ((v7 0) 6 0))) (C := RX3) (T := TX3) (N := 7) hx hb hts hinX3 hown hK.1 hP 9 rfl rfl 6 (by decide) hk_3 (fun _ h9 => h9) rfl dX4_tellOne_55 ?_
    exact hret _ _ _ _ _ _ _ h hP hD hS dX4_tellOne_58
  · rw [if_neg c6] at h
    refine lv_aload_n hx hb dX4_tellOne_37 rfl (lv_at hl 1 rfl) ?_
    refine lv_iload hx hb dX4_tellOne_38 (lv_at hl 0 rfl) ?_
    obtain ⟨v9, hw10, h⟩ := rr_b_some h
    refine rr_allI hD hS hA (va_runV (As := [.int (rr_i v3.1)]) (rest := []) ⟨hx, hb, hml, hown, hts⟩ (kX4_refuse l g a ad _ v3.1 (rr_z Ω 1 (rr_m 7 v3.2 (rr_m 7 v1 (Ω 1)))) v9 hw10) (cwV 1 hts gX4_tellOne_X4_refuse rfl rfl rfl ⟨rfl, hd_X4_refuse⟩ ⟨Nat.le_of_ble_eq_true rfl, Nat.le_of_ble_eq_true rfl⟩) ⟨rr_P_blind, va_recv hK.1 hP (ci := 4) (q0 := 0) rfl rfl, rr_P_pre hK hP hD⟩ rfl rfl hl.1 rfl (lv_room (Nat.le_of_ble_eq_true rfl)) dX4_tellOne_40 ⟨Nat.zero_le _, Nat.zero_le _⟩) (fun H locs hP hD hS => ?_)
    exact hret _ _ _ _ _ _ _ h hP hD hS dX4_tellOne_43
-- RoomRing.host
abbrev rm_X4_host : Room := { frames := 6, cells := 0, slots := 0, locals := 133 }
theorem hd_X4_host : yX4_host.cls ≠ "java/lang/invoke/MethodHandle" ∧ yX4_host.cls ≠ "java/lang/invoke/VarHandle" ∧ (parseMethodDescriptor yX4_host.desc).map (fun d => d.parameters.length) = some 2 := by decide +kernel
set_option maxHeartbeats 4000000 in
set_option maxRecDepth 100000 in
theorem kX4_host (l : Launch) (g : rr_G) (a : Nat) (ad : Nat → Nat) (sz : Nat) (x1 : Int) (x2 : Int) (Ω : (Nat → rr_T)) (out : (Int × (Nat → rr_T))) (h : M4_host x1 x2 Ω = some out) : Met l yX4_host wsX4_host rm_X4_host (rr_P g [.ref a, .int (rr_i x1), .int (rr_i x2)] (rr_wC g a ad Ω) sz) (rr_Qix g out.1 (fun ad => rr_wC g a ad out.2) (va_A (rr_wC g a ad Ω) sz)) 0 0 (va_A (rr_wC g a ad Ω) sz) := by
  refine rr_rwIx (cc := cX4_host) (maxL := 3) (fun ad Ω => rr_wC g a ad Ω) ad Ω out (by decide) rfl (Nat.le_of_ble_eq_true rfl) ?_
  intro p e s m ar below meth c Q ls A hx hb hml hown hts hK hA hP hD hS hret hl
  have hP : va_P g.1 vwCl (rr_wC g a ad Ω) s.heap := hP
  have hD : va_D A (rr_wC g a ad Ω) := hD
  have hown : s.vm.findClass RX4 = some m.cls := hown
  have hl : lv_has ls 3 [(0, .ref a), (1, .int (rr_i x1)), (2, .int (rr_i x2))] := hl
  unfold M4_host at h
  refine lv_aload_n hx hb dX4_host_0 rfl (lv_at hl 0 rfl) ?_
  refine rr_bipush hx hb dX4_host_1 (by decide +kernel) ?_
  refine lv_iload_n hx hb dX4_host_3 rfl (lv_at hl 1 rfl) ?_
  refine lv_iload_n hx hb dX4_host_4 rfl (lv_at hl 2 rfl) ?_
  obtain ⟨v1, hw2, h⟩ := rr_b_some h
  refine rr_allIx hD hS hA (va_runV (As := [.int (rr_i 104), .int (rr_i x1), .int (rr_i x2)]) (rest := []) ⟨hx, hb, hml, hown, hts⟩ (kX4_tellOne l g a ad _ 104 x1 x2 Ω v1 hw2) (cwV 3 hts gX4_host_X4_tellOne rfl rfl rfl ⟨rfl, hd_X4_tellOne⟩ ⟨Nat.le_of_ble_eq_true rfl, Nat.le_of_ble_eq_true rfl⟩) ⟨rr_P_blind, va_recv hK.1 hP (ci := 4) (q0 := 0) rfl rfl, rr_P_pre hK hP hD⟩ rfl rfl hl.1 rfl (lv_room (Nat.le_of_ble_eq_true rfl)) dX4_host_5 ⟨Nat.zero_le _, Nat.zero_le _⟩) (fun ad H locs hP hD hS => ?_)
  exact hret _ _ _ _ _ _ _ h hP hD hS dX4_host_8
-- RoomRing.weighs
abbrev rm_X4_weighs : Room := { frames := 6, cells := 0, slots := 0, locals := 133 }
theorem hd_X4_weighs : yX4_weighs.cls ≠ "java/lang/invoke/MethodHandle" ∧ yX4_weighs.cls ≠ "java/lang/invoke/VarHandle" ∧ (parseMethodDescriptor yX4_weighs.desc).map (fun d => d.parameters.length) = some 2 := by decide +kernel
set_option maxHeartbeats 4000000 in
set_option maxRecDepth 100000 in
theorem kX4_weighs (l : Launch) (g : rr_G) (a : Nat) (ad : Nat → Nat) (sz : Nat) (x1 : Int) (x2 : Int) (Ω : (Nat → rr_T)) (out : (Int × (Nat → rr_T))) (h : M4_weighs x1 x2 Ω = some out) : Met l yX4_weighs wsX4_weighs rm_X4_weighs (rr_P g [.ref a, .int (rr_i x1), .int (rr_i x2)] (rr_wC g a ad Ω) sz) (rr_Qix g out.1 (fun ad => rr_wC g a ad out.2) (va_A (rr_wC g a ad Ω) sz)) 0 0 (va_A (rr_wC g a ad Ω) sz) := by
  refine rr_rwIx (cc := cX4_weighs) (maxL := 3) (fun ad Ω => rr_wC g a ad Ω) ad Ω out (by decide) rfl (Nat.le_of_ble_eq_true rfl) ?_
  intro p e s m ar below meth c Q ls A hx hb hml hown hts hK hA hP hD hS hret hl
  have hP : va_P g.1 vwCl (rr_wC g a ad Ω) s.heap := hP
  have hD : va_D A (rr_wC g a ad Ω) := hD
  have hown : s.vm.findClass RX4 = some m.cls := hown
  have hl : lv_has ls 3 [(0, .ref a), (1, .int (rr_i x1)), (2, .int (rr_i x2))] := hl
  unfold M4_weighs at h
  refine lv_aload_n hx hb dX4_weighs_0 rfl (lv_at hl 0 rfl) ?_
  refine rr_bipush hx hb dX4_weighs_1 (by decide +kernel) ?_
  refine lv_iload_n hx hb dX4_weighs_3 rfl (lv_at hl 1 rfl) ?_
  refine lv_iload_n hx hb dX4_weighs_4 rfl (lv_at hl 2 rfl) ?_
  obtain ⟨v1, hw2, h⟩ := rr_b_some h
  refine rr_allIx hD hS hA (va_runV (As := [.int (rr_i 119), .int (rr_i x1), .int (rr_i x2)]) (rest := []) ⟨hx, hb, hml, hown, hts⟩ (kX4_tellOne l g a ad _ 119 x1 x2 Ω v1 hw2) (cwV 3 hts gX4_weighs_X4_tellOne rfl rfl rfl ⟨rfl, hd_X4_tellOne⟩ ⟨Nat.le_of_ble_eq_true rfl, Nat.le_of_ble_eq_true rfl⟩) ⟨rr_P_blind, va_recv hK.1 hP (ci := 4) (q0 := 0) rfl rfl, rr_P_pre hK hP hD⟩ rfl rfl hl.1 rfl (lv_room (Nat.le_of_ble_eq_true rfl)) dX4_weighs_5 ⟨Nat.zero_le _, Nat.zero_le _⟩) (fun ad H locs hP hD hS => ?_)
  exact hret _ _ _ _ _ _ _ h hP hD hS dX4_weighs_8
-- RoomRing.goes
abbrev rm_X4_goes : Room := { frames := 6, cells := 0, slots := 0, locals := 133 }
theorem hd_X4_goes : yX4_goes.cls ≠ "java/lang/invoke/MethodHandle" ∧ yX4_goes.cls ≠ "java/lang/invoke/VarHandle" ∧ (parseMethodDescriptor yX4_goes.desc).map (fun d => d.parameters.length) = some 1 := by decide +kernel
set_option maxHeartbeats 4000000 in
set_option maxRecDepth 100000 in
theorem kX4_goes (l : Launch) (g : rr_G) (a : Nat) (ad : Nat → Nat) (sz : Nat) (x1 : Int) (Ω : (Nat → rr_T)) (out : (Int × (Nat → rr_T))) (h : M4_goes x1 Ω = some out) : Met l yX4_goes wsX4_goes rm_X4_goes (rr_P g [.ref a, .int (rr_i x1)] (rr_wC g a ad Ω) sz) (rr_Qix g out.1 (fun ad => rr_wC g a ad out.2) (va_A (rr_wC g a ad Ω) sz)) 0 0 (va_A (rr_wC g a ad Ω) sz) := by
  refine rr_rwIx (cc := cX4_goes) (maxL := 2) (fun ad Ω => rr_wC g a ad Ω) ad Ω out (by decide) rfl (Nat.le_of_ble_eq_true rfl) ?_
  intro p e s m ar below meth c Q ls A hx hb hml hown hts hK hA hP hD hS hret hl
  have hP : va_P g.1 vwCl (rr_wC g a ad Ω) s.heap := hP
  have hD : va_D A (rr_wC g a ad Ω) := hD
  have hown : s.vm.findClass RX4 = some m.cls := hown
  have hl : lv_has ls 2 [(0, .ref a), (1, .int (rr_i x1))] := hl
  unfold M4_goes at h
  refine lv_aload_n hx hb dX4_goes_0 rfl (lv_at hl 0 rfl) ?_
  refine rr_bipush hx hb dX4_goes_1 (by decide +kernel) ?_
  refine lv_iload_n hx hb dX4_goes_3 rfl (lv_at hl 1 rfl) ?_
  refine rr_iconst hx hb dX4_goes_4 ?_
  obtain ⟨v1, hw2, h⟩ := rr_b_some h
  refine rr_allIx hD hS hA (va_runV (As := [.int (rr_i 103), .int (rr_i x1), .int (rr_i 0)]) (rest := []) ⟨hx, hb, hml, hown, hts⟩ (kX4_tellOne l g a ad _ 103 x1 0 Ω v1 hw2) (cwV 3 hts gX4_goes_X4_tellOne rfl rfl rfl ⟨rfl, hd_X4_tellOne⟩ ⟨Nat.le_of_ble_eq_true rfl, Nat.le_of_ble_eq_true rfl⟩) ⟨rr_P_blind, va_recv hK.1 hP (ci := 4) (q0 := 0) rfl rfl, rr_P_pre hK hP hD⟩ rfl rfl hl.1 rfl (lv_room (Nat.le_of_ble_eq_true rfl)) dX4_goes_5 ⟨Nat.zero_le _, Nat.zero_le _⟩) (fun ad H locs hP hD hS => ?_)
  exact hret _ _ _ _ _ _ _ h hP hD hS dX4_goes_8
-- RoomRing.key
abbrev rm_X4_key : Room := { frames := 6, cells := 0, slots := 0, locals := 133 }
theorem hd_X4_key : yX4_key.cls ≠ "java/lang/invoke/MethodHandle" ∧ yX4_key.cls ≠ "java/lang/invoke/VarHandle" ∧ (parseMethodDescriptor yX4_key.desc).map (fun d => d.parameters.length) = some 1 := by decide +kernel
set_option maxHeartbeats 4000000 in
set_option maxRecDepth 100000 in
theorem kX4_key (l : Launch) (g : rr_G) (a : Nat) (ad : Nat → Nat) (sz : Nat) (x1 : Int) (Ω : (Nat → rr_T)) (out : (Int × (Nat → rr_T))) (h : M4_key x1 Ω = some out) : Met l yX4_key wsX4_key rm_X4_key (rr_P g [.ref a, .int (rr_i x1)] (rr_wC g a ad Ω) sz) (rr_Qix g out.1 (fun ad => rr_wC g a ad out.2) (va_A (rr_wC g a ad Ω) sz)) 0 0 (va_A (rr_wC g a ad Ω) sz) := by
  refine rr_rwIx (cc := cX4_key) (maxL := 3) (fun ad Ω => rr_wC g a ad Ω) ad Ω out (by decide) rfl (Nat.le_of_ble_eq_true rfl) ?_
  intro p e s m ar below meth c Q ls A hx hb hml hown hts hK hA hP hD hS hret hl
  have hP : va_P g.1 vwCl (rr_wC g a ad Ω) s.heap := hP
  have hD : va_D A (rr_wC g a ad Ω) := hD
  have hown : s.vm.findClass RX4 = some m.cls := hown
  have hl : lv_has ls 3 [(0, .ref a), (1, .int (rr_i x1))] := hl
  have hinX4 : ∀ w ∈ u_ws RX4 TX4 7, w ∈ wsX4_key := by decide +kernel
  have hk_0 : (Cond.fieldLink RX4 12 "RoomRing" "now" "LRoomRing$Ring;").before ar s = true := hts _ (List.mem_of_getElem? (i := 1) (by decide +kernel))
  unfold M4_key at h
  refine lv_aload_n hx hb dX4_key_0 rfl (lv_at hl 0 rfl) ?_
  refine rr_bipush hx hb dX4_key_1 (by decide +kernel) ?_
  refine lv_iload_n hx hb dX4_key_3 rfl (lv_at hl 1 rfl) ?_
  refine rr_iconst hx hb dX4_key_4 ?_
  obtain ⟨v1, hw2, h⟩ := rr_b_some h
  refine rr_allIx hD hS hA (va_runV (As := [.int (rr_i 107), .int (rr_i x1), .int (rr_i 0)]) (rest := []) ⟨hx, hb, hml, hown, hts⟩ (kX4_tellOne l g a ad _ 107 x1 0 Ω v1 hw2) (cwV 3 hts gX4_key_X4_tellOne rfl rfl rfl ⟨rfl, hd_X4_tellOne⟩ ⟨Nat.le_of_ble_eq_true rfl, Nat.le_of_ble_eq_true rfl⟩) ⟨rr_P_blind, va_recv hK.1 hP (ci := 4) (q0 := 0) rfl rfl, rr_P_pre hK hP hD⟩ rfl rfl hl.1 rfl (lv_room (Nat.le_of_ble_eq_true rfl)) dX4_key_5 ⟨Nat.zero_le _, Nat.zero_le _⟩) (fun ad H locs hP hD hS => ?_)
  refine lv_istore_n (lv' := [(2, .int (rr_i v1.1)), (0, .ref a), (1, .int (rr_i x1))]) hx hb dX4_key_8 rfl hl (by decide) rfl (fun ls hl => ?_)
  refine lv_iload_n hx hb dX4_key_9 rfl (lv_at hl 0 rfl) ?_
  obtain ⟨hg3, h⟩ := rr_c_some h
  refine rr_if_ge (tgt := 17) hx hb dX4_key_10 (by decide) hg3 (fun c4 => ?_) (fun c4 => ?_)
  · rw [if_pos c4] at h
    refine lv_aload_n hx hb dX4_key_17 rfl (lv_at hl 1 rfl) ?_
    refine va_get (D := g.1) (ci := 4) (v := .ref (ad 0)) (C := RX4) (T := TX4) (N := 7) hx hb hts hinX4 hown hK.1 hP 0 rfl rfl 0 (by decide) hk_0 (fun _ h9 => h9) rfl dX4_key_18 ?_
    refine lv_iload_n hx hb dX4_key_21 rfl (lv_at hl 2 rfl) ?_
    obtain ⟨v5, hw6, h⟩ := rr_b_some h
    refine rr_callI (va_runV (As := [.int (rr_i x1)]) (rest := []) ⟨hx, hb, hml, hown, hts⟩ (kX1_hostNameOfKey l g ad x1 (v1.2 0) v5 hw6) (cwV 1 hts gX4_key_X1_hostNameOfKey rfl rfl rfl ⟨rfl, hd_X1_hostNameOfKey⟩ ⟨Nat.le_of_ble_eq_true rfl, Nat.le_of_ble_eq_true rfl⟩) ⟨rr_R_blind, va_recv hK.1 (hP.sub (ws' := rr_wR g ad (v1.2 0)) [1, 2, 3, 4, 5, 6, 7, 8, 9, 10, 11, 12] rfl) (ci := 1) (q0 := 0) rfl rfl, rr_R_pre hK (hP.sub (ws' := rr_wR g ad (v1.2 0)) [1, 2, 3, 4, 5, 6, 7, 8, 9, 10, 11, 12] rfl)⟩ rfl rfl hl.1 rfl (lv_room (Nat.le_of_ble_eq_true rfl)) dX4_key_22 ⟨Nat.zero_le _, Nat.zero_le _⟩) ?_
    exact hret _ _ _ _ _ _ _ h hP hD hS dX4_key_25
  · rw [if_neg c4] at h
    refine lv_iload_n hx hb dX4_key_13 rfl (lv_at hl 0 rfl) ?_
    refine lv_goto (tgt := 25) hx hb dX4_key_14 (by decide) ?_
    exact hret _ _ _ _ _ _ _ h hP hD hS dX4_key_25
-- RoomRing.drops
abbrev rm_X4_drops : Room := { frames := 6, cells := 0, slots := 0, locals := 133 }
theorem hd_X4_drops : yX4_drops.cls ≠ "java/lang/invoke/MethodHandle" ∧ yX4_drops.cls ≠ "java/lang/invoke/VarHandle" ∧ (parseMethodDescriptor yX4_drops.desc).map (fun d => d.parameters.length) = some 1 := by decide +kernel
set_option maxHeartbeats 4000000 in
set_option maxRecDepth 100000 in
theorem kX4_drops (l : Launch) (g : rr_G) (a : Nat) (ad : Nat → Nat) (sz : Nat) (x1 : Int) (Ω : (Nat → rr_T)) (out : (Int × (Nat → rr_T))) (h : M4_drops x1 Ω = some out) : Met l yX4_drops wsX4_drops rm_X4_drops (rr_P g [.ref a, .int (rr_i x1)] (rr_wC g a ad Ω) sz) (rr_Qix g out.1 (fun ad => rr_wC g a ad out.2) (va_A (rr_wC g a ad Ω) sz)) 0 0 (va_A (rr_wC g a ad Ω) sz) := by
  refine rr_rwIx (cc := cX4_drops) (maxL := 2) (fun ad Ω => rr_wC g a ad Ω) ad Ω out (by decide) rfl (Nat.le_of_ble_eq_true rfl) ?_
  intro p e s m ar below meth c Q ls A hx hb hml hown hts hK hA hP hD hS hret hl
  have hP : va_P g.1 vwCl (rr_wC g a ad Ω) s.heap := hP
  have hD : va_D A (rr_wC g a ad Ω) := hD
  have hown : s.vm.findClass RX4 = some m.cls := hown
  have hl : lv_has ls 2 [(0, .ref a), (1, .int (rr_i x1))] := hl
  unfold M4_drops at h
  refine lv_aload_n hx hb dX4_drops_0 rfl (lv_at hl 0 rfl) ?_
  refine rr_bipush hx hb dX4_drops_1 (by decide +kernel) ?_
  refine lv_iload_n hx hb dX4_drops_3 rfl (lv_at hl 1 rfl) ?_
  refine rr_iconst hx hb dX4_drops_4 ?_
  obtain ⟨v1, hw2, h⟩ := rr_b_some h
  refine rr_allIx hD hS hA (va_runV (As := [.int (rr_i 100), .int (rr_i x1), .int (rr_i 0)]) (rest := []) ⟨hx, hb, hml, hown, hts⟩ (kX4_tellOne l g a ad _ 100 x1 0 Ω v1 hw2) (cwV 3 hts gX4_drops_X4_tellOne rfl rfl rfl ⟨rfl, hd_X4_tellOne⟩ ⟨Nat.le_of_ble_eq_true rfl, Nat.le_of_ble_eq_true rfl⟩) ⟨rr_P_blind, va_recv hK.1 hP (ci := 4) (q0 := 0) rfl rfl, rr_P_pre hK hP hD⟩ rfl rfl hl.1 rfl (lv_room (Nat.le_of_ble_eq_true rfl)) dX4_drops_5 ⟨Nat.zero_le _, Nat.zero_le _⟩) (fun ad H locs hP hD hS => ?_)
  exact hret _ _ _ _ _ _ _ h hP hD hS dX4_drops_8
-- RoomRing.extra
abbrev rm_X4_extra : Room := { frames := 6, cells := 0, slots := 0, locals := 133 }
theorem hd_X4_extra : yX4_extra.cls ≠ "java/lang/invoke/MethodHandle" ∧ yX4_extra.cls ≠ "java/lang/invoke/VarHandle" ∧ (parseMethodDescriptor yX4_extra.desc).map (fun d => d.parameters.length) = some 1 := by decide +kernel
set_option maxHeartbeats 4000000 in
set_option maxRecDepth 100000 in
theorem kX4_extra (l : Launch) (g : rr_G) (a : Nat) (ad : Nat → Nat) (sz : Nat) (x1 : Int) (Ω : (Nat → rr_T)) (out : (Int × (Nat → rr_T))) (h : M4_extra x1 Ω = some out) : Met l yX4_extra wsX4_extra rm_X4_extra (rr_P g [.ref a, .int (rr_i x1)] (rr_wC g a ad Ω) sz) (rr_Qix g out.1 (fun ad => rr_wC g a ad out.2) (va_A (rr_wC g a ad Ω) sz)) 0 0 (va_A (rr_wC g a ad Ω) sz) := by
  refine rr_rwIx (cc := cX4_extra) (maxL := 2) (fun ad Ω => rr_wC g a ad Ω) ad Ω out (by decide) rfl (Nat.le_of_ble_eq_true rfl) ?_
  intro p e s m ar below meth c Q ls A hx hb hml hown hts hK hA hP hD hS hret hl
  have hP : va_P g.1 vwCl (rr_wC g a ad Ω) s.heap := hP
  have hD : va_D A (rr_wC g a ad Ω) := hD
  have hown : s.vm.findClass RX4 = some m.cls := hown
  have hl : lv_has ls 2 [(0, .ref a), (1, .int (rr_i x1))] := hl
  unfold M4_extra at h
  refine lv_aload_n hx hb dX4_extra_0 rfl (lv_at hl 0 rfl) ?_
  refine rr_bipush hx hb dX4_extra_1 (by decide +kernel) ?_
  refine lv_iload_n hx hb dX4_extra_3 rfl (lv_at hl 1 rfl) ?_
  refine rr_iconst hx hb dX4_extra_4 ?_
  obtain ⟨v1, hw2, h⟩ := rr_b_some h
  refine rr_allIx hD hS hA (va_runV (As := [.int (rr_i 101), .int (rr_i x1), .int (rr_i 0)]) (rest := []) ⟨hx, hb, hml, hown, hts⟩ (kX4_tellOne l g a ad _ 101 x1 0 Ω v1 hw2) (cwV 3 hts gX4_extra_X4_tellOne rfl rfl rfl ⟨rfl, hd_X4_tellOne⟩ ⟨Nat.le_of_ble_eq_true rfl, Nat.le_of_ble_eq_true rfl⟩) ⟨rr_P_blind, va_recv hK.1 hP (ci := 4) (q0 := 0) rfl rfl, rr_P_pre hK hP hD⟩ rfl rfl hl.1 rfl (lv_room (Nat.le_of_ble_eq_true rfl)) dX4_extra_5 ⟨Nat.zero_le _, Nat.zero_le _⟩) (fun ad H locs hP hD hS => ?_)
  exact hret _ _ _ _ _ _ _ h hP hD hS dX4_extra_8
-- RoomRing.of
abbrev rm_X4_of : Room := { frames := 2, cells := 0, slots := 0, locals := 46 }
theorem hd_X4_of : yX4_of.cls ≠ "java/lang/invoke/MethodHandle" ∧ yX4_of.cls ≠ "java/lang/invoke/VarHandle" ∧ (parseMethodDescriptor yX4_of.desc).map (fun d => d.parameters.length) = some 2 := by decide +kernel
set_option maxHeartbeats 4000000 in
set_option maxRecDepth 100000 in
theorem kX4_of (l : Launch) (g : rr_G) (a : Nat) (ad : Nat → Nat) (sz : Nat) (x1 : Int) (x2 : Int) (Ω : (Nat → rr_T)) (out : (Int × (Nat → rr_T))) (h : M4_of x1 x2 Ω = some out) : Met l yX4_of wsX4_of rm_X4_of (rr_P g [.ref a, .int (rr_i x1), .int (rr_i x2)] (rr_wC g a ad Ω) sz) (rr_Qi g out.1 (rr_wC g a ad out.2) (va_A (rr_wC g a ad Ω) sz)) 0 0 (va_A (rr_wC g a ad Ω) sz) := by
  refine rr_rwI (cc := cX4_of) (maxL := 4) (fun Ω => rr_wC g a ad Ω) Ω out (by decide) rfl (Nat.le_of_ble_eq_true rfl) ?_
  intro p e s m ar below meth c Q ls A hx hb hml hown hts hK hA hP hD hS hret hl
  have hP : va_P g.1 vwCl (rr_wC g a ad Ω) s.heap := hP
  have hD : va_D A (rr_wC g a ad Ω) := hD
  have hown : s.vm.findClass RX4 = some m.cls := hown
  have hl : lv_has ls 4 [(0, .ref a), (1, .int (rr_i x1)), (2, .int (rr_i x2))] := hl
  have hinX1 : ∀ w ∈ u_ws RX1 TX1 8, w ∈ wsX4_of := by decide +kernel
  have hinX4 : ∀ w ∈ u_ws RX4 TX4 7, w ∈ wsX4_of := by decide +kernel
  have hk_0 : (Cond.fieldLink RX4 12 "RoomRing" "now" "LRoomRing$Ring;").before ar s = true := hts _ (List.mem_of_getElem? (i := 1) (by decide +kernel))
  have hk_1 : (Cond.fieldLink RX4 58 "RoomRing$Ring" "stock" "LRoomRing$Stock;").before ar s = true := hts _ (List.mem_of_getElem? (i := 2) (by decide +kernel))
  unfold M4_of at h
  refine lv_iload_n hx hb dX4_of_0 rfl (lv_at hl 1 rfl) ?_
  obtain ⟨v1, hw2, h⟩ := rr_b_some h
  refine rr_callI (va_runS (As := [.int (rr_i x1)]) (rest := []) ⟨hx, hb, hml, hown, hts⟩ (kX4_isName l g x1 v1 hw2) (va_cwS 1 hts gX4_of_X4_isName rfl rfl rfl hd_X4_isName ⟨Nat.le_of_ble_eq_true rfl, Nat.le_of_ble_eq_true rfl⟩) ⟨rr_R_blind, rr_R_pre hK (hP.sub (ws' := ([] : va_W)) [] rfl)⟩ rfl rfl hl.1 rfl (lv_room (Nat.le_of_ble_eq_true rfl)) dX4_of_1 ⟨Nat.zero_le _, Nat.zero_le _⟩) ?_
  obtain ⟨hg3, h⟩ := rr_c_some h
  refine rr_if_eq (tgt := 17) hx hb dX4_of_4 (by decide) hg3 (fun c4 => ?_) (fun c4 => ?_)
  · rw [if_pos c4] at h
    refine lv_aload_n hx hb dX4_of_17 rfl (lv_at hl 0 rfl) ?_
    refine rr_bipush hx hb dX4_of_18 (by decide +kernel) ?_
    obtain ⟨v5, hw6, h⟩ := rr_b_some h
    refine rr_allI hD hS hA (va_runV (As := [.int (rr_i (-2))]) (rest := []) ⟨hx, hb, hml, hown, hts⟩ (kX4_refuse l g a ad _ (-2) Ω v5 hw6) (cwV 1 hts gX4_of_X4_refuse rfl rfl rfl ⟨rfl, hd_X4_refuse⟩ ⟨Nat.le_of_ble_eq_true rfl, Nat.le_of_ble_eq_true rfl⟩) ⟨rr_P_blind, va_recv hK.1 hP (ci := 4) (q0 := 0) rfl rfl, rr_P_pre hK hP hD⟩ rfl rfl hl.1 rfl (lv_room (Nat.le_of_ble_eq_true rfl)) dX4_of_20 ⟨Nat.zero_le _, Nat.zero_le _⟩) (fun H locs hP hD hS => ?_)
    exact hret _ _ _ _ _ _ h hP hD hS dX4_of_23
  · rw [if_neg c4] at h
    refine lv_iload_n hx hb dX4_of_7 rfl (lv_at hl 2 rfl) ?_
    obtain ⟨hg7, h⟩ := rr_c_some h
    refine rr_if_lt (tgt := 17) hx hb dX4_of_8 (by decide) hg7 (fun c8 => ?_) (fun c8 => ?_)
    · rw [if_pos c8] at h
      refine lv_aload_n hx hb dX4_of_17 rfl (lv_at hl 0 rfl) ?_
      refine rr_bipush hx hb dX4_of_18 (by decide +kernel) ?_
      obtain ⟨v9, hw10, h⟩ := rr_b_some h
      refine rr_allI hD hS hA (va_runV (As := [.int (rr_i (-2))]) (rest := []) ⟨hx, hb, hml, hown, hts⟩ (kX4_refuse l g a ad _ (-2) Ω v9 hw10) (cwV 1 hts gX4_of_X4_refuse rfl rfl rfl ⟨rfl, hd_X4_refuse⟩ ⟨Nat.le_of_ble_eq_true rfl, Nat.le_of_ble_eq_true rfl⟩) ⟨rr_P_blind, va_recv hK.1 hP (ci := 4) (q0 := 0) rfl rfl, rr_P_pre hK hP hD⟩ rfl rfl hl.1 rfl (lv_room (Nat.le_of_ble_eq_true rfl)) dX4_of_20 ⟨Nat.zero_le _, Nat.zero_le _⟩) (fun H locs hP hD hS => ?_)
      exact hret _ _ _ _ _ _ h hP hD hS dX4_of_23
    · rw [if_neg c8] at h
      refine lv_iload_n hx hb dX4_of_11 rfl (lv_at hl 2 rfl) ?_
      refine rr_bipush hx hb dX4_of_12 (by decide +kernel) ?_
      refine rr_icmp_lt (tgt := 24) hx hb dX4_of_14 (by decide) hg7 (by decide) (fun c11 => ?_) (fun c11 => ?_)
      · rw [if_pos c11] at h
        refine lv_aload_n hx hb dX4_of_24 rfl (lv_at hl 0 rfl) ?_
        refine va_get (D := g.1) (ci := 4) (v := .ref (ad 0)) (C := RX4) (T := TX4) (N := 7) hx hb hts hinX4 hown hK.1 hP 0 rfl rfl 0 (by decide) hk_0 (fun _ h9 => h9) rfl dX4_of_25 ?_
        refine va_get (D := g.1) (ci := 1) (v := .ref (ad 8)) (C := RX1) (T := TX1) (N := 8) hx hb hts hinX1 hown hK.1 hP 1 rfl rfl 0 (by decide) hk_1 (fun _ h9 => h9) rfl dX4_of_28 ?_
        refine lv_iload_n hx hb dX4_of_31 rfl (lv_at hl 1 rfl) ?_
        obtain ⟨v12, hw13, h⟩ := rr_b_some h
        refine rr_callI (va_runV (As := [.int (rr_i x1)]) (rest := []) ⟨hx, hb, hml, hown, hts⟩ (kX3_findHost l g (fun k => ad (8 + k)) x1 (Ω 0) v12 hw13) (cwV 1 hts gX4_of_X3_findHost rfl rfl rfl ⟨rfl, hd_X3_findHost⟩ ⟨Nat.le_of_ble_eq_true rfl, Nat.le_of_ble_eq_true rfl⟩) ⟨rr_R_blind, va_recv hK.1 (hP.sub (ws' := rr_wS g (fun k => ad (8 + k)) (Ω 0)) [9, 10, 11, 12] rfl) (ci := 3) (q0 := 0) rfl rfl, rr_R_pre hK (hP.sub (ws' := rr_wS g (fun k => ad (8 + k)) (Ω 0)) [9, 10, 11, 12] rfl)⟩ rfl rfl hl.1 rfl (lv_room (Nat.le_of_ble_eq_true rfl)) dX4_of_32 ⟨Nat.zero_le _, Nat.zero_le _⟩) ?_
        refine lv_istore_n (lv' := [(3, .int (rr_i v12)), (0, .ref a), (1, .int (rr_i x1)), (2, .int (rr_i x2))]) hx hb dX4_of_35 rfl hl (by decide) rfl (fun ls hl => ?_)
        refine lv_iload_n hx hb dX4_of_36 rfl (lv_at hl 0 rfl) ?_
        obtain ⟨hg14, h⟩ := rr_c_some h
        refine rr_if_ge (tgt := 49) hx hb dX4_of_37 (by decide) hg14 (fun c15 => ?_) (fun c15 => ?_)
        · rw [if_pos c15] at h
          refine lv_aload_n hx hb dX4_of_49 rfl (lv_at hl 1 rfl) ?_
          refine va_get (D := g.1) (ci := 4) (v := .ref (ad 0)) (C := RX4) (T := TX4) (N := 7) hx hb hts hinX4 hown hK.1 hP 0 rfl rfl 0 (by decide) hk_0 (fun _ h9 => h9) rfl dX4_of_50 ?_
          refine lv_iload_n hx hb dX4_of_53 rfl (lv_at hl 0 rfl) ?_
          refine lv_iload_n hx hb dX4_of_54 rfl (lv_at hl 3 rfl) ?_
          obtain ⟨v16, hw17, h⟩ := rr_b_some h
          refine rr_callI (va_runV (As := [.int (rr_i v12), .int (rr_i x2)]) (rest := []) ⟨hx, hb, hml, hown, hts⟩ (kX1_hostFact l g ad v12 x2 (Ω 0) v16 hw17) (cwV 2 hts gX4_of_X1_hostFact rfl rfl rfl ⟨rfl, hd_X1_hostFact⟩ ⟨Nat.le_of_ble_eq_true rfl, Nat.le_of_ble_eq_true rfl⟩) ⟨rr_R_blind, va_recv hK.1 (hP.sub (ws' := rr_wR g ad (Ω 0)) [1, 2, 3, 4, 5, 6, 7, 8, 9, 10, 11, 12] rfl) (ci := 1) (q0 := 0) rfl rfl, rr_R_pre hK (hP.sub (ws' := rr_wR g ad (Ω 0)) [1, 2, 3, 4, 5, 6, 7, 8, 9, 10, 11, 12] rfl)⟩ rfl rfl hl.1 rfl (lv_room (Nat.le_of_ble_eq_true rfl)) dX4_of_55 ⟨Nat.zero_le _, Nat.zero_le _⟩) ?_
          exact hret _ _ _ _ _ _ h hP hD hS dX4_of_58
        · rw [if_neg c15] at h
          refine lv_aload_n hx hb dX4_of_40 rfl (lv_at hl 1 rfl) ?_
          refine rr_bipush hx hb dX4_of_41 (by decide +kernel) ?_
          obtain ⟨v18, hw19, h⟩ := rr_b_some h
          refine rr_allI hD hS hA (va_runV (As := [.int (rr_i (-3))]) (rest := []) ⟨hx, hb, hml, hown, hts⟩ (kX4_refuse l g a ad _ (-3) Ω v18 hw19) (cwV 1 hts gX4_of_X4_refuse rfl rfl rfl ⟨rfl, hd_X4_refuse⟩ ⟨Nat.le_of_ble_eq_true rfl, Nat.le_of_ble_eq_true rfl⟩) ⟨rr_P_blind, va_recv hK.1 hP (ci := 4) (q0 := 0) rfl rfl, rr_P_pre hK hP hD⟩ rfl rfl hl.1 rfl (lv_room (Nat.le_of_ble_eq_true rfl)) dX4_of_43 ⟨Nat.zero_le _, Nat.zero_le _⟩) (fun H locs hP hD hS => ?_)
          refine lv_goto (tgt := 58) hx hb dX4_of_46 (by decide) ?_
          exact hret _ _ _ _ _ _ h hP hD hS dX4_of_58
      · rw [if_neg c11] at h
        refine lv_aload_n hx hb dX4_of_17 rfl (lv_at hl 0 rfl) ?_
        refine rr_bipush hx hb dX4_of_18 (by decide +kernel) ?_
        obtain ⟨v20, hw21, h⟩ := rr_b_some h
        refine rr_allI hD hS hA (va_runV (As := [.int (rr_i (-2))]) (rest := []) ⟨hx, hb, hml, hown, hts⟩ (kX4_refuse l g a ad _ (-2) Ω v20 hw21) (cwV 1 hts gX4_of_X4_refuse rfl rfl rfl ⟨rfl, hd_X4_refuse⟩ ⟨Nat.le_of_ble_eq_true rfl, Nat.le_of_ble_eq_true rfl⟩) ⟨rr_P_blind, va_recv hK.1 hP (ci := 4) (q0 := 0) rfl rfl, rr_P_pre hK hP hD⟩ rfl rfl hl.1 rfl (lv_room (Nat.le_of_ble_eq_true rfl)) dX4_of_20 ⟨Nat.zero_le _, Nat.zero_le _⟩) (fun H locs hP hD hS => ?_)
        exact hret _ _ _ _ _ _ h hP hD hS dX4_of_23
-- RoomRing.mark
abbrev rm_X4_mark : Room := { frames := 1, cells := 0, slots := 0, locals := 22 }
theorem hd_X4_mark : yX4_mark.cls ≠ "java/lang/invoke/MethodHandle" ∧ yX4_mark.cls ≠ "java/lang/invoke/VarHandle" ∧ (parseMethodDescriptor yX4_mark.desc).map (fun d => d.parameters.length) = some 2 := by decide +kernel
set_option maxHeartbeats 4000000 in
set_option maxRecDepth 100000 in
theorem kX4_mark (l : Launch) (g : rr_G) (a : Nat) (ad : Nat → Nat) (sz : Nat) (x1 : Int) (x2 : Int) (Ω : (Nat → rr_T)) (out : (Int × (Nat → rr_T))) (h : M4_mark x1 x2 Ω = some out) : Met l yX4_mark wsX4_mark rm_X4_mark (rr_P g [.ref a, .int (rr_i x1), .int (rr_i x2)] (rr_wC g a ad Ω) sz) (rr_Qi g out.1 (rr_wC g a ad out.2) (va_A (rr_wC g a ad Ω) sz)) 0 0 (va_A (rr_wC g a ad Ω) sz) := by
  refine rr_rwI (cc := cX4_mark) (maxL := 4) (fun Ω => rr_wC g a ad Ω) Ω out (by decide) rfl (Nat.le_of_ble_eq_true rfl) ?_
  intro p e s m ar below meth c Q ls A hx hb hml hown hts hK hA hP hD hS hret hl
  have hP : va_P g.1 vwCl (rr_wC g a ad Ω) s.heap := hP
  have hD : va_D A (rr_wC g a ad Ω) := hD
  have hown : s.vm.findClass RX4 = some m.cls := hown
  have hl : lv_has ls 4 [(0, .ref a), (1, .int (rr_i x1)), (2, .int (rr_i x2))] := hl
  have hinX1 : ∀ w ∈ u_ws RX1 TX1 8, w ∈ wsX4_mark := by decide +kernel
  have hinX4 : ∀ w ∈ u_ws RX4 TX4 7, w ∈ wsX4_mark := by decide +kernel
  have hk_0 : (Cond.fieldLink RX4 12 "RoomRing" "now" "LRoomRing$Ring;").before ar s = true := hts _ (List.mem_of_getElem? (i := 1) (by decide +kernel))
  have hk_1 : (Cond.fieldLink RX4 58 "RoomRing$Ring" "stock" "LRoomRing$Stock;").before ar s = true := hts _ (List.mem_of_getElem? (i := 2) (by decide +kernel))
  unfold M4_mark at h
  refine lv_iload_n hx hb dX4_mark_0 rfl (lv_at hl 1 rfl) ?_
  obtain ⟨v1, hw2, h⟩ := rr_b_some h
  refine rr_callI (va_runS (As := [.int (rr_i x1)]) (rest := []) ⟨hx, hb, hml, hown, hts⟩ (kX4_isName l g x1 v1 hw2) (va_cwS 1 hts gX4_mark_X4_isName rfl rfl rfl hd_X4_isName ⟨Nat.le_of_ble_eq_true rfl, Nat.le_of_ble_eq_true rfl⟩) ⟨rr_R_blind, rr_R_pre hK (hP.sub (ws' := ([] : va_W)) [] rfl)⟩ rfl rfl hl.1 rfl (lv_room (Nat.le_of_ble_eq_true rfl)) dX4_mark_1 ⟨Nat.zero_le _, Nat.zero_le _⟩) ?_
  obtain ⟨hg3, h⟩ := rr_c_some h
  refine rr_if_eq (tgt := 17) hx hb dX4_mark_4 (by decide) hg3 (fun c4 => ?_) (fun c4 => ?_)
  · rw [if_pos c4] at h
    refine lv_aload_n hx hb dX4_mark_17 rfl (lv_at hl 0 rfl) ?_
    refine rr_bipush hx hb dX4_mark_18 (by decide +kernel) ?_
    obtain ⟨v5, hw6, h⟩ := rr_b_some h
    refine rr_allI hD hS hA (va_runV (As := [.int (rr_i (-2))]) (rest := []) ⟨hx, hb, hml, hown, hts⟩ (kX4_refuse l g a ad _ (-2) Ω v5 hw6) (cwV 1 hts gX4_mark_X4_refuse rfl rfl rfl ⟨rfl, hd_X4_refuse⟩ ⟨Nat.le_of_ble_eq_true rfl, Nat.le_of_ble_eq_true rfl⟩) ⟨rr_P_blind, va_recv hK.1 hP (ci := 4) (q0 := 0) rfl rfl, rr_P_pre hK hP hD⟩ rfl rfl hl.1 rfl (lv_room (Nat.le_of_ble_eq_true rfl)) dX4_mark_20 ⟨Nat.zero_le _, Nat.zero_le _⟩) (fun H locs hP hD hS => ?_)
    exact hret _ _ _ _ _ _ h hP hD hS dX4_mark_23
  · rw [if_neg c4] at h
    refine lv_iload_n hx hb dX4_mark_7 rfl (lv_at hl 2 rfl) ?_
    obtain ⟨hg7, h⟩ := rr_c_some h
    refine rr_if_lt (tgt := 17) hx hb dX4_mark_8 (by decide) hg7 (fun c8 => ?_) (fun c8 => ?_)
    · rw [if_pos c8] at h
      refine lv_aload_n hx hb dX4_mark_17 rfl (lv_at hl 0 rfl) ?_
      refine rr_bipush hx hb dX4_mark_18 (by decide +kernel) ?_
      obtain ⟨v9, hw10, h⟩ := rr_b_some h
      refine rr_allI hD hS hA (va_runV (As := [.int (rr_i (-2))]) (rest := []) ⟨hx, hb, hml, hown, hts⟩ (kX4_refuse l g a ad _ (-2) Ω v9 hw10) (cwV 1 hts gX4_mark_X4_refuse rfl rfl rfl ⟨rfl, hd_X4_refuse⟩ ⟨Nat.le_of_ble_eq_true rfl, Nat.le_of_ble_eq_true rfl⟩) ⟨rr_P_blind, va_recv hK.1 hP (ci := 4) (q0 := 0) rfl rfl, rr_P_pre hK hP hD⟩ rfl rfl hl.1 rfl (lv_room (Nat.le_of_ble_eq_true rfl)) dX4_mark_20 ⟨Nat.zero_le _, Nat.zero_le _⟩) (fun H locs hP hD hS => ?_)
      exact hret _ _ _ _ _ _ h hP hD hS dX4_mark_23
    · rw [if_neg c8] at h
      refine lv_iload_n hx hb dX4_mark_11 rfl (lv_at hl 2 rfl) ?_
      refine rr_bipush hx hb dX4_mark_12 (by decide +kernel) ?_
      refine rr_icmp_lt (tgt := 24) hx hb dX4_mark_14 (by decide) hg7 (by decide) (fun c11 => ?_) (fun c11 => ?_)
      · rw [if_pos c11] at h
        refine lv_aload_n hx hb dX4_mark_24 rfl (lv_at hl 0 rfl) ?_
        refine va_get (D := g.1) (ci := 4) (v := .ref (ad 0)) (C := RX4) (T := TX4) (N := 7) hx hb hts hinX4 hown hK.1 hP 0 rfl rfl 0 (by decide) hk_0 (fun _ h9 => h9) rfl dX4_mark_25 ?_
        refine va_get (D := g.1) (ci := 1) (v := .ref (ad 8)) (C := RX1) (T := TX1) (N := 8) hx hb hts hinX1 hown hK.1 hP 1 rfl rfl 0 (by decide) hk_1 (fun _ h9 => h9) rfl dX4_mark_28 ?_
        refine lv_iload_n hx hb dX4_mark_31 rfl (lv_at hl 1 rfl) ?_
        obtain ⟨v12, hw13, h⟩ := rr_b_some h
        refine rr_callI (va_runV (As := [.int (rr_i x1)]) (rest := []) ⟨hx, hb, hml, hown, hts⟩ (kX3_findHost l g (fun k => ad (8 + k)) x1 (Ω 0) v12 hw13) (cwV 1 hts gX4_mark_X3_findHost rfl rfl rfl ⟨rfl, hd_X3_findHost⟩ ⟨Nat.le_of_ble_eq_true rfl, Nat.le_of_ble_eq_true rfl⟩) ⟨rr_R_blind, va_recv hK.1 (hP.sub (ws' := rr_wS g (fun k => ad (8 + k)) (Ω 0)) [9, 10, 11, 12] rfl) (ci := 3) (q0 := 0) rfl rfl, rr_R_pre hK (hP.sub (ws' := rr_wS g (fun k => ad (8 + k)) (Ω 0)) [9, 10, 11, 12] rfl)⟩ rfl rfl hl.1 rfl (lv_room (Nat.le_of_ble_eq_true rfl)) dX4_mark_32 ⟨Nat.zero_le _, Nat.zero_le _⟩) ?_
        refine lv_istore_n (lv' := [(3, .int (rr_i v12)), (0, .ref a), (1, .int (rr_i x1)), (2, .int (rr_i x2))]) hx hb dX4_mark_35 rfl hl (by decide) rfl (fun ls hl => ?_)
        refine lv_iload_n hx hb dX4_mark_36 rfl (lv_at hl 0 rfl) ?_
        obtain ⟨hg14, h⟩ := rr_c_some h
        refine rr_if_ge (tgt := 49) hx hb dX4_mark_37 (by decide) hg14 (fun c15 => ?_) (fun c15 => ?_)
        · rw [if_pos c15] at h
          refine lv_aload_n hx hb dX4_mark_49 rfl (lv_at hl 1 rfl) ?_
          refine va_get (D := g.1) (ci := 4) (v := .ref (ad 0)) (C := RX4) (T := TX4) (N := 7) hx hb hts hinX4 hown hK.1 hP 0 rfl rfl 0 (by decide) hk_0 (fun _ h9 => h9) rfl dX4_mark_50 ?_
          refine lv_iload_n hx hb dX4_mark_53 rfl (lv_at hl 0 rfl) ?_
          refine lv_iload_n hx hb dX4_mark_54 rfl (lv_at hl 3 rfl) ?_
          obtain ⟨v16, hw17, h⟩ := rr_b_some h
          refine rr_callI (va_runV (As := [.int (rr_i v12), .int (rr_i x2)]) (rest := []) ⟨hx, hb, hml, hown, hts⟩ (kX1_placeOfMark l g ad v12 x2 (Ω 0) v16 hw17) (cwV 2 hts gX4_mark_X1_placeOfMark rfl rfl rfl ⟨rfl, hd_X1_placeOfMark⟩ ⟨Nat.le_of_ble_eq_true rfl, Nat.le_of_ble_eq_true rfl⟩) ⟨rr_R_blind, va_recv hK.1 (hP.sub (ws' := rr_wR g ad (Ω 0)) [1, 2, 3, 4, 5, 6, 7, 8, 9, 10, 11, 12] rfl) (ci := 1) (q0 := 0) rfl rfl, rr_R_pre hK (hP.sub (ws' := rr_wR g ad (Ω 0)) [1, 2, 3, 4, 5, 6, 7, 8, 9, 10, 11, 12] rfl)⟩ rfl rfl hl.1 rfl (lv_room (Nat.le_of_ble_eq_true rfl)) dX4_mark_55 ⟨Nat.zero_le _, Nat.zero_le _⟩) ?_
          exact hret _ _ _ _ _ _ h hP hD hS dX4_mark_58
        · rw [if_neg c15] at h
          refine lv_aload_n hx hb dX4_mark_40 rfl (lv_at hl 1 rfl) ?_
          refine rr_bipush hx hb dX4_mark_41 (by decide +kernel) ?_
          obtain ⟨v18, hw19, h⟩ := rr_b_some h
          refine rr_allI hD hS hA (va_runV (As := [.int (rr_i (-3))]) (rest := []) ⟨hx, hb, hml, hown, hts⟩ (kX4_refuse l g a ad _ (-3) Ω v18 hw19) (cwV 1 hts gX4_mark_X4_refuse rfl rfl rfl ⟨rfl, hd_X4_refuse⟩ ⟨Nat.le_of_ble_eq_true rfl, Nat.le_of_ble_eq_true rfl⟩) ⟨rr_P_blind, va_recv hK.1 hP (ci := 4) (q0 := 0) rfl rfl, rr_P_pre hK hP hD⟩ rfl rfl hl.1 rfl (lv_room (Nat.le_of_ble_eq_true rfl)) dX4_mark_43 ⟨Nat.zero_le _, Nat.zero_le _⟩) (fun H locs hP hD hS => ?_)
          refine lv_goto (tgt := 58) hx hb dX4_mark_46 (by decide) ?_
          exact hret _ _ _ _ _ _ h hP hD hS dX4_mark_58
      · rw [if_neg c11] at h
        refine lv_aload_n hx hb dX4_mark_17 rfl (lv_at hl 0 rfl) ?_
        refine rr_bipush hx hb dX4_mark_18 (by decide +kernel) ?_
        obtain ⟨v20, hw21, h⟩ := rr_b_some h
        refine rr_allI hD hS hA (va_runV (As := [.int (rr_i (-2))]) (rest := []) ⟨hx, hb, hml, hown, hts⟩ (kX4_refuse l g a ad _ (-2) Ω v20 hw21) (cwV 1 hts gX4_mark_X4_refuse rfl rfl rfl ⟨rfl, hd_X4_refuse⟩ ⟨Nat.le_of_ble_eq_true rfl, Nat.le_of_ble_eq_true rfl⟩) ⟨rr_P_blind, va_recv hK.1 hP (ci := 4) (q0 := 0) rfl rfl, rr_P_pre hK hP hD⟩ rfl rfl hl.1 rfl (lv_room (Nat.le_of_ble_eq_true rfl)) dX4_mark_20 ⟨Nat.zero_le _, Nat.zero_le _⟩) (fun H locs hP hD hS => ?_)
        exact hret _ _ _ _ _ _ h hP hD hS dX4_mark_23
-- RoomRing.at
abbrev rm_X4_at : Room := { frames := 1, cells := 0, slots := 0, locals := 21 }
theorem hd_X4_at : yX4_at.cls ≠ "java/lang/invoke/MethodHandle" ∧ yX4_at.cls ≠ "java/lang/invoke/VarHandle" ∧ (parseMethodDescriptor yX4_at.desc).map (fun d => d.parameters.length) = some 1 := by decide +kernel
set_option maxHeartbeats 4000000 in
set_option maxRecDepth 100000 in
theorem kX4_at (l : Launch) (g : rr_G) (a : Nat) (ad : Nat → Nat) (sz : Nat) (x1 : Int) (Ω : (Nat → rr_T)) (out : (Int × (Nat → rr_T))) (h : M4_at x1 Ω = some out) : Met l yX4_at wsX4_at rm_X4_at (rr_P g [.ref a, .int (rr_i x1)] (rr_wC g a ad Ω) sz) (rr_Qi g out.1 (rr_wC g a ad out.2) (va_A (rr_wC g a ad Ω) sz)) 0 0 (va_A (rr_wC g a ad Ω) sz) := by
  refine rr_rwI (cc := cX4_at) (maxL := 2) (fun Ω => rr_wC g a ad Ω) Ω out (by decide) rfl (Nat.le_of_ble_eq_true rfl) ?_
  intro p e s m ar below meth c Q ls A hx hb hml hown hts hK hA hP hD hS hret hl
  have hP : va_P g.1 vwCl (rr_wC g a ad Ω) s.heap := hP
  have hD : va_D A (rr_wC g a ad Ω) := hD
  have hown : s.vm.findClass RX4 = some m.cls := hown
  have hl : lv_has ls 2 [(0, .ref a), (1, .int (rr_i x1))] := hl
  have hinX1 : ∀ w ∈ u_ws RX1 TX1 8, w ∈ wsX4_at := by decide +kernel
  have hinX4 : ∀ w ∈ u_ws RX4 TX4 7, w ∈ wsX4_at := by decide +kernel
  have hk_0 : (Cond.fieldLink RX4 12 "RoomRing" "now" "LRoomRing$Ring;").before ar s = true := hts _ (List.mem_of_getElem? (i := 1) (by decide +kernel))
  have hk_1 : (Cond.fieldLink RX4 58 "RoomRing$Ring" "stock" "LRoomRing$Stock;").before ar s = true := hts _ (List.mem_of_getElem? (i := 2) (by decide +kernel))
  have hk_2 : (Cond.fieldLink RX4 74 "RoomRing$Ring" "owners" "[I").before ar s = true := hts _ (List.mem_of_getElem? (i := 3) (by decide +kernel))
  unfold M4_at at h
  refine lv_iload_n hx hb dX4_at_0 rfl (lv_at hl 1 rfl) ?_
  obtain ⟨hg1, h⟩ := rr_c_some h
  refine rr_if_lt (tgt := 10) hx hb dX4_at_1 (by decide) hg1 (fun c2 => ?_) (fun c2 => ?_)
  · rw [if_pos c2] at h
    refine lv_aload_n hx hb dX4_at_10 rfl (lv_at hl 0 rfl) ?_
    refine rr_bipush hx hb dX4_at_11 (by decide +kernel) ?_
    obtain ⟨v3, hw4, h⟩ := rr_b_some h
    refine rr_allI hD hS hA (va_runV (As := [.int (rr_i (-2))]) (rest := []) ⟨hx, hb, hml, hown, hts⟩ (kX4_refuse l g a ad _ (-2) Ω v3 hw4) (cwV 1 hts gX4_at_X4_refuse rfl rfl rfl ⟨rfl, hd_X4_refuse⟩ ⟨Nat.le_of_ble_eq_true rfl, Nat.le_of_ble_eq_true rfl⟩) ⟨rr_P_blind, va_recv hK.1 hP (ci := 4) (q0 := 0) rfl rfl, rr_P_pre hK hP hD⟩ rfl rfl hl.1 rfl (lv_room (Nat.le_of_ble_eq_true rfl)) dX4_at_13 ⟨Nat.zero_le _, Nat.zero_le _⟩) (fun H locs hP hD hS => ?_)
    exact hret _ _ _ _ _ _ h hP hD hS dX4_at_16
  · rw [if_neg c2] at h
    refine lv_iload_n hx hb dX4_at_4 rfl (lv_at hl 1 rfl) ?_
    refine rr_bipush hx hb dX4_at_5 (by decide +kernel) ?_
    refine rr_icmp_lt (tgt := 17) hx hb dX4_at_7 (by decide) hg1 (by decide) (fun c5 => ?_) (fun c5 => ?_)
    · rw [if_pos c5] at h
      refine lv_aload_n hx hb dX4_at_17 rfl (lv_at hl 0 rfl) ?_
      refine va_get (D := g.1) (ci := 4) (v := .ref (ad 0)) (C := RX4) (T := TX4) (N := 7) hx hb hts hinX4 hown hK.1 hP 0 rfl rfl 0 (by decide) hk_0 (fun _ h9 => h9) rfl dX4_at_18 ?_
      refine va_get (D := g.1) (ci := 1) (v := .ref (ad 8)) (C := RX1) (T := TX1) (N := 8) hx hb hts hinX1 hown hK.1 hP 1 rfl rfl 0 (by decide) hk_1 (fun _ h9 => h9) rfl dX4_at_21 ?_
      refine lv_aload_n hx hb dX4_at_24 rfl (lv_at hl 0 rfl) ?_
      refine va_get (D := g.1) (ci := 4) (v := .ref (ad 0)) (C := RX4) (T := TX4) (N := 7) hx hb hts hinX4 hown hK.1 hP 0 rfl rfl 0 (by decide) hk_0 (fun _ h9 => h9) rfl dX4_at_25 ?_
      refine va_get (D := g.1) (ci := 1) (v := .ref (ad 1)) (C := RX1) (T := TX1) (N := 8) hx hb hts hinX1 hown hK.1 hP 1 rfl rfl 1 (by decide) hk_2 (fun _ h9 => h9) rfl dX4_at_28 ?_
      refine lv_iload_n hx hb dX4_at_31 rfl (lv_at hl 1 rfl) ?_
      obtain ⟨hg6, h⟩ := rr_c_some h
      refine rr_iald (f := ((Ω 0) 7)) (N := 101) hx hb hK hP 2 rfl rfl (by decide) hg6 dX4_at_32 ?_
      obtain ⟨v7, hw8, h⟩ := rr_b_some h
      refine rr_callI (va_runV (As := [.int (rr_i ((Ω 0) 7 x1))]) (rest := []) ⟨hx, hb, hml, hown, hts⟩ (kX3_nameOf l g (fun k => ad (8 + k)) ((Ω 0) 7 x1) (Ω 0) v7 hw8) (cwV 1 hts gX4_at_X3_nameOf rfl rfl rfl ⟨rfl, hd_X3_nameOf⟩ ⟨Nat.le_of_ble_eq_true rfl, Nat.le_of_ble_eq_true rfl⟩) ⟨rr_R_blind, va_recv hK.1 (hP.sub (ws' := rr_wS g (fun k => ad (8 + k)) (Ω 0)) [9, 10, 11, 12] rfl) (ci := 3) (q0 := 0) rfl rfl, rr_R_pre hK (hP.sub (ws' := rr_wS g (fun k => ad (8 + k)) (Ω 0)) [9, 10, 11, 12] rfl)⟩ rfl rfl hl.1 rfl (lv_room (Nat.le_of_ble_eq_true rfl)) dX4_at_33 ⟨Nat.zero_le _, Nat.zero_le _⟩) ?_
      exact hret _ _ _ _ _ _ h hP hD hS dX4_at_36
    · rw [if_neg c5] at h
      refine lv_aload_n hx hb dX4_at_10 rfl (lv_at hl 0 rfl) ?_
      refine rr_bipush hx hb dX4_at_11 (by decide +kernel) ?_
      obtain ⟨v9, hw10, h⟩ := rr_b_some h
      refine rr_allI hD hS hA (va_runV (As := [.int (rr_i (-2))]) (rest := []) ⟨hx, hb, hml, hown, hts⟩ (kX4_refuse l g a ad _ (-2) Ω v9 hw10) (cwV 1 hts gX4_at_X4_refuse rfl rfl rfl ⟨rfl, hd_X4_refuse⟩ ⟨Nat.le_of_ble_eq_true rfl, Nat.le_of_ble_eq_true rfl⟩) ⟨rr_P_blind, va_recv hK.1 hP (ci := 4) (q0 := 0) rfl rfl, rr_P_pre hK hP hD⟩ rfl rfl hl.1 rfl (lv_room (Nat.le_of_ble_eq_true rfl)) dX4_at_13 ⟨Nat.zero_le _, Nat.zero_le _⟩) (fun H locs hP hD hS => ?_)
      exact hret _ _ _ _ _ _ h hP hD hS dX4_at_16
-- RoomRing.name
abbrev rm_X4_name : Room := { frames := 1, cells := 0, slots := 0, locals := 21 }
theorem hd_X4_name : yX4_name.cls ≠ "java/lang/invoke/MethodHandle" ∧ yX4_name.cls ≠ "java/lang/invoke/VarHandle" ∧ (parseMethodDescriptor yX4_name.desc).map (fun d => d.parameters.length) = some 1 := by decide +kernel
set_option maxHeartbeats 4000000 in
set_option maxRecDepth 100000 in
theorem kX4_name (l : Launch) (g : rr_G) (a : Nat) (ad : Nat → Nat) (sz : Nat) (x1 : Int) (Ω : (Nat → rr_T)) (out : (Int × (Nat → rr_T))) (h : M4_name x1 Ω = some out) : Met l yX4_name wsX4_name rm_X4_name (rr_P g [.ref a, .int (rr_i x1)] (rr_wC g a ad Ω) sz) (rr_Qi g out.1 (rr_wC g a ad out.2) (va_A (rr_wC g a ad Ω) sz)) 0 0 (va_A (rr_wC g a ad Ω) sz) := by
  refine rr_rwI (cc := cX4_name) (maxL := 2) (fun Ω => rr_wC g a ad Ω) Ω out (by decide) rfl (Nat.le_of_ble_eq_true rfl) ?_
  intro p e s m ar below meth c Q ls A hx hb hml hown hts hK hA hP hD hS hret hl
  have hP : va_P g.1 vwCl (rr_wC g a ad Ω) s.heap := hP
  have hD : va_D A (rr_wC g a ad Ω) := hD
  have hown : s.vm.findClass RX4 = some m.cls := hown
  have hl : lv_has ls 2 [(0, .ref a), (1, .int (rr_i x1))] := hl
  have hinX1 : ∀ w ∈ u_ws RX1 TX1 8, w ∈ wsX4_name := by decide +kernel
  have hinX4 : ∀ w ∈ u_ws RX4 TX4 7, w ∈ wsX4_name := by decide +kernel
  have hk_0 : (Cond.fieldLink RX4 12 "RoomRing" "now" "LRoomRing$Ring;").before ar s = true := hts _ (List.mem_of_getElem? (i := 1) (by decide +kernel))
  have hk_1 : (Cond.fieldLink RX4 58 "RoomRing$Ring" "stock" "LRoomRing$Stock;").before ar s = true := hts _ (List.mem_of_getElem? (i := 2) (by decide +kernel))
  unfold M4_name at h
  refine lv_iload_n hx hb dX4_name_0 rfl (lv_at hl 1 rfl) ?_
  obtain ⟨hg1, h⟩ := rr_c_some h
  refine rr_if_ge (tgt := 13) hx hb dX4_name_1 (by decide) hg1 (fun c2 => ?_) (fun c2 => ?_)
  · rw [if_pos c2] at h
    refine lv_aload_n hx hb dX4_name_13 rfl (lv_at hl 0 rfl) ?_
    refine va_get (D := g.1) (ci := 4) (v := .ref (ad 0)) (C := RX4) (T := TX4) (N := 7) hx hb hts hinX4 hown hK.1 hP 0 rfl rfl 0 (by decide) hk_0 (fun _ h9 => h9) rfl dX4_name_14 ?_
    refine va_get (D := g.1) (ci := 1) (v := .ref (ad 8)) (C := RX1) (T := TX1) (N := 8) hx hb hts hinX1 hown hK.1 hP 1 rfl rfl 0 (by decide) hk_1 (fun _ h9 => h9) rfl dX4_name_17 ?_
    refine lv_iload_n hx hb dX4_name_20 rfl (lv_at hl 1 rfl) ?_
    obtain ⟨v3, hw4, h⟩ := rr_b_some h
    refine rr_callI (va_runV (As := [.int (rr_i x1)]) (rest := []) ⟨hx, hb, hml, hown, hts⟩ (kX3_nameOf l g (fun k => ad (8 + k)) x1 (Ω 0) v3 hw4) (cwV 1 hts gX4_name_X3_nameOf rfl rfl rfl ⟨rfl, hd_X3_nameOf⟩ ⟨Nat.le_of_ble_eq_true rfl, Nat.le_of_ble_eq_true rfl⟩) ⟨rr_R_blind, va_recv hK.1 (hP.sub (ws' := rr_wS g (fun k => ad (8 + k)) (Ω 0)) [9, 10, 11, 12] rfl) (ci := 3) (q0 := 0) rfl rfl, rr_R_pre hK (hP.sub (ws' := rr_wS g (fun k => ad (8 + k)) (Ω 0)) [9, 10, 11, 12] rfl)⟩ rfl rfl hl.1 rfl (lv_room (Nat.le_of_ble_eq_true rfl)) dX4_name_21 ⟨Nat.zero_le _, Nat.zero_le _⟩) ?_
    exact hret _ _ _ _ _ _ h hP hD hS dX4_name_24
  · rw [if_neg c2] at h
    refine lv_aload_n hx hb dX4_name_4 rfl (lv_at hl 0 rfl) ?_
    refine rr_bipush hx hb dX4_name_5 (by decide +kernel) ?_
    obtain ⟨v5, hw6, h⟩ := rr_b_some h
    refine rr_allI hD hS hA (va_runV (As := [.int (rr_i (-2))]) (rest := []) ⟨hx, hb, hml, hown, hts⟩ (kX4_refuse l g a ad _ (-2) Ω v5 hw6) (cwV 1 hts gX4_name_X4_refuse rfl rfl rfl ⟨rfl, hd_X4_refuse⟩ ⟨Nat.le_of_ble_eq_true rfl, Nat.le_of_ble_eq_true rfl⟩) ⟨rr_P_blind, va_recv hK.1 hP (ci := 4) (q0 := 0) rfl rfl, rr_P_pre hK hP hD⟩ rfl rfl hl.1 rfl (lv_room (Nat.le_of_ble_eq_true rfl)) dX4_name_7 ⟨Nat.zero_le _, Nat.zero_le _⟩) (fun H locs hP hD hS => ?_)
    refine lv_goto (tgt := 24) hx hb dX4_name_10 (by decide) ?_
    exact hret _ _ _ _ _ _ h hP hD hS dX4_name_24
-- RoomRing.share
abbrev rm_X4_share : Room := { frames := 2, cells := 0, slots := 0, locals := 45 }
theorem hd_X4_share : yX4_share.cls ≠ "java/lang/invoke/MethodHandle" ∧ yX4_share.cls ≠ "java/lang/invoke/VarHandle" ∧ (parseMethodDescriptor yX4_share.desc).map (fun d => d.parameters.length) = some 1 := by decide +kernel
set_option maxHeartbeats 4000000 in
set_option maxRecDepth 100000 in
theorem kX4_share (l : Launch) (g : rr_G) (a : Nat) (ad : Nat → Nat) (sz : Nat) (x1 : Int) (Ω : (Nat → rr_T)) (out : (Int × (Nat → rr_T))) (h : M4_share x1 Ω = some out) : Met l yX4_share wsX4_share rm_X4_share (rr_P g [.ref a, .int (rr_i x1)] (rr_wC g a ad Ω) sz) (rr_Qi g out.1 (rr_wC g a ad out.2) (va_A (rr_wC g a ad Ω) sz)) 0 0 (va_A (rr_wC g a ad Ω) sz) := by
  refine rr_rwI (cc := cX4_share) (maxL := 3) (fun Ω => rr_wC g a ad Ω) Ω out (by decide) rfl (Nat.le_of_ble_eq_true rfl) ?_
  intro p e s m ar below meth c Q ls A hx hb hml hown hts hK hA hP hD hS hret hl
  have hP : va_P g.1 vwCl (rr_wC g a ad Ω) s.heap := hP
  have hD : va_D A (rr_wC g a ad Ω) := hD
  have hown : s.vm.findClass RX4 = some m.cls := hown
  have hl : lv_has ls 3 [(0, .ref a), (1, .int (rr_i x1))] := hl
  have hinX1 : ∀ w ∈ u_ws RX1 TX1 8, w ∈ wsX4_share := by decide +kernel
  have hinX4 : ∀ w ∈ u_ws RX4 TX4 7, w ∈ wsX4_share := by decide +kernel
  have hk_0 : (Cond.fieldLink RX4 12 "RoomRing" "now" "LRoomRing$Ring;").before ar s = true := hts _ (List.mem_of_getElem? (i := 1) (by decide +kernel))
  have hk_1 : (Cond.fieldLink RX4 58 "RoomRing$Ring" "stock" "LRoomRing$Stock;").before ar s = true := hts _ (List.mem_of_getElem? (i := 2) (by decide +kernel))
  unfold M4_share at h
  refine lv_iload_n hx hb dX4_share_0 rfl (lv_at hl 1 rfl) ?_
  obtain ⟨v1, hw2, h⟩ := rr_b_some h
  refine rr_callI (va_runS (As := [.int (rr_i x1)]) (rest := []) ⟨hx, hb, hml, hown, hts⟩ (kX4_isName l g x1 v1 hw2) (va_cwS 1 hts gX4_share_X4_isName rfl rfl rfl hd_X4_isName ⟨Nat.le_of_ble_eq_true rfl, Nat.le_of_ble_eq_true rfl⟩) ⟨rr_R_blind, rr_R_pre hK (hP.sub (ws' := ([] : va_W)) [] rfl)⟩ rfl rfl hl.1 rfl (lv_room (Nat.le_of_ble_eq_true rfl)) dX4_share_1 ⟨Nat.zero_le _, Nat.zero_le _⟩) ?_
  obtain ⟨hg3, h⟩ := rr_c_some h
  refine rr_if_ne (tgt := 14) hx hb dX4_share_4 (by decide) hg3 (fun c4 => ?_) (fun c4 => ?_)
  · rw [if_neg c4] at h
    refine lv_aload_n hx hb dX4_share_14 rfl (lv_at hl 0 rfl) ?_
    refine va_get (D := g.1) (ci := 4) (v := .ref (ad 0)) (C := RX4) (T := TX4) (N := 7) hx hb hts hinX4 hown hK.1 hP 0 rfl rfl 0 (by decide) hk_0 (fun _ h9 => h9) rfl dX4_share_15 ?_
    refine va_get (D := g.1) (ci := 1) (v := .ref (ad 8)) (C := RX1) (T := TX1) (N := 8) hx hb hts hinX1 hown hK.1 hP 1 rfl rfl 0 (by decide) hk_1 (fun _ h9 => h9) rfl dX4_share_18 ?_
    refine lv_iload_n hx hb dX4_share_21 rfl (lv_at hl 1 rfl) ?_
    obtain ⟨v5, hw6, h⟩ := rr_b_some h
    refine rr_callI (va_runV (As := [.int (rr_i x1)]) (rest := []) ⟨hx, hb, hml, hown, hts⟩ (kX3_findHost l g (fun k => ad (8 + k)) x1 (Ω 0) v5 hw6) (cwV 1 hts gX4_share_X3_findHost rfl rfl rfl ⟨rfl, hd_X3_findHost⟩ ⟨Nat.le_of_ble_eq_true rfl, Nat.le_of_ble_eq_true rfl⟩) ⟨rr_R_blind, va_recv hK.1 (hP.sub (ws' := rr_wS g (fun k => ad (8 + k)) (Ω 0)) [9, 10, 11, 12] rfl) (ci := 3) (q0 := 0) rfl rfl, rr_R_pre hK (hP.sub (ws' := rr_wS g (fun k => ad (8 + k)) (Ω 0)) [9, 10, 11, 12] rfl)⟩ rfl rfl hl.1 rfl (lv_room (Nat.le_of_ble_eq_true rfl)) dX4_share_22 ⟨Nat.zero_le _, Nat.zero_le _⟩) ?_
    refine lv_istore_n (lv' := [(2, .int (rr_i v5)), (0, .ref a), (1, .int (rr_i x1))]) hx hb dX4_share_25 rfl hl (by decide) rfl (fun ls hl => ?_)
    refine lv_iload_n hx hb dX4_share_26 rfl (lv_at hl 0 rfl) ?_
    obtain ⟨hg7, h⟩ := rr_c_some h
    refine rr_if_ge (tgt := 39) hx hb dX4_share_27 (by decide) hg7 (fun c8 => ?_) (fun c8 => ?_)
    · rw [if_pos c8] at h
      refine lv_aload_n hx hb dX4_share_39 rfl (lv_at hl 1 rfl) ?_
      refine va_get (D := g.1) (ci := 4) (v := .ref (ad 0)) (C := RX4) (T := TX4) (N := 7) hx hb hts hinX4 hown hK.1 hP 0 rfl rfl 0 (by decide) hk_0 (fun _ h9 => h9) rfl dX4_share_40 ?_
      refine lv_iload_n hx hb dX4_share_43 rfl (lv_at hl 0 rfl) ?_
      obtain ⟨v9, hw10, h⟩ := rr_b_some h
      refine rr_callI (va_runV (As := [.int (rr_i v5)]) (rest := []) ⟨hx, hb, hml, hown, hts⟩ (kX1_placesLeadingTo l g ad v5 (Ω 0) v9 hw10) (cwV 1 hts gX4_share_X1_placesLeadingTo rfl rfl rfl ⟨rfl, hd_X1_placesLeadingTo⟩ ⟨Nat.le_of_ble_eq_true rfl, Nat.le_of_ble_eq_true rfl⟩) ⟨rr_R_blind, va_recv hK.1 (hP.sub (ws' := rr_wR g ad (Ω 0)) [1, 2, 3, 4, 5, 6, 7, 8, 9, 10, 11, 12] rfl) (ci := 1) (q0 := 0) rfl rfl, rr_R_pre hK (hP.sub (ws' := rr_wR g ad (Ω 0)) [1, 2, 3, 4, 5, 6, 7, 8, 9, 10, 11, 12] rfl)⟩ rfl rfl hl.1 rfl (lv_room (Nat.le_of_ble_eq_true rfl)) dX4_share_44 ⟨Nat.zero_le _, Nat.zero_le _⟩) ?_
      exact hret _ _ _ _ _ _ h hP hD hS dX4_share_47
    · rw [if_neg c8] at h
      refine lv_aload_n hx hb dX4_share_30 rfl (lv_at hl 1 rfl) ?_
      refine rr_bipush hx hb dX4_share_31 (by decide +kernel) ?_
      obtain ⟨v11, hw12, h⟩ := rr_b_some h
      refine rr_allI hD hS hA (va_runV (As := [.int (rr_i (-3))]) (rest := []) ⟨hx, hb, hml, hown, hts⟩ (kX4_refuse l g a ad _ (-3) Ω v11 hw12) (cwV 1 hts gX4_share_X4_refuse rfl rfl rfl ⟨rfl, hd_X4_refuse⟩ ⟨Nat.le_of_ble_eq_true rfl, Nat.le_of_ble_eq_true rfl⟩) ⟨rr_P_blind, va_recv hK.1 hP (ci := 4) (q0 := 0) rfl rfl, rr_P_pre hK hP hD⟩ rfl rfl hl.1 rfl (lv_room (Nat.le_of_ble_eq_true rfl)) dX4_share_33 ⟨Nat.zero_le _, Nat.zero_le _⟩) (fun H locs hP hD hS => ?_)
      refine lv_goto (tgt := 47) hx hb dX4_share_36 (by decide) ?_
      exact hret _ _ _ _ _ _ h hP hD hS dX4_share_47
  · rw [if_pos c4] at h
    refine lv_aload_n hx hb dX4_share_7 rfl (lv_at hl 0 rfl) ?_
    refine rr_bipush hx hb dX4_share_8 (by decide +kernel) ?_
    obtain ⟨v13, hw14, h⟩ := rr_b_some h
    refine rr_allI hD hS hA (va_runV (As := [.int (rr_i (-2))]) (rest := []) ⟨hx, hb, hml, hown, hts⟩ (kX4_refuse l g a ad _ (-2) Ω v13 hw14) (cwV 1 hts gX4_share_X4_refuse rfl rfl rfl ⟨rfl, hd_X4_refuse⟩ ⟨Nat.le_of_ble_eq_true rfl, Nat.le_of_ble_eq_true rfl⟩) ⟨rr_P_blind, va_recv hK.1 hP (ci := 4) (q0 := 0) rfl rfl, rr_P_pre hK hP hD⟩ rfl rfl hl.1 rfl (lv_room (Nat.le_of_ble_eq_true rfl)) dX4_share_10 ⟨Nat.zero_le _, Nat.zero_le _⟩) (fun H locs hP hD hS => ?_)
    exact hret _ _ _ _ _ _ h hP hD hS dX4_share_13
-- RoomRing.has
abbrev rm_X4_has : Room := { frames := 1, cells := 0, slots := 0, locals := 22 }
theorem hd_X4_has : yX4_has.cls ≠ "java/lang/invoke/MethodHandle" ∧ yX4_has.cls ≠ "java/lang/invoke/VarHandle" ∧ (parseMethodDescriptor yX4_has.desc).map (fun d => d.parameters.length) = some 1 := by decide +kernel
set_option maxHeartbeats 4000000 in
set_option maxRecDepth 100000 in
theorem kX4_has (l : Launch) (g : rr_G) (a : Nat) (ad : Nat → Nat) (sz : Nat) (x1 : Int) (Ω : (Nat → rr_T)) (out : (Int × (Nat → rr_T))) (h : M4_has x1 Ω = some out) : Met l yX4_has wsX4_has rm_X4_has (rr_P g [.ref a, .int (rr_i x1)] (rr_wC g a ad Ω) sz) (rr_Qi g out.1 (rr_wC g a ad out.2) (va_A (rr_wC g a ad Ω) sz)) 0 0 (va_A (rr_wC g a ad Ω) sz) := by
  refine rr_rwI (cc := cX4_has) (maxL := 3) (fun Ω => rr_wC g a ad Ω) Ω out (by decide) rfl (Nat.le_of_ble_eq_true rfl) ?_
  intro p e s m ar below meth c Q ls A hx hb hml hown hts hK hA hP hD hS hret hl
  have hP : va_P g.1 vwCl (rr_wC g a ad Ω) s.heap := hP
  have hD : va_D A (rr_wC g a ad Ω) := hD
  have hown : s.vm.findClass RX4 = some m.cls := hown
  have hl : lv_has ls 3 [(0, .ref a), (1, .int (rr_i x1))] := hl
  have hinX1 : ∀ w ∈ u_ws RX1 TX1 8, w ∈ wsX4_has := by decide +kernel
  have hinX4 : ∀ w ∈ u_ws RX4 TX4 7, w ∈ wsX4_has := by decide +kernel
  have hk_0 : (Cond.fieldLink RX4 12 "RoomRing" "now" "LRoomRing$Ring;").before ar s = true := hts _ (List.mem_of_getElem? (i := 1) (by decide +kernel))
  have hk_1 : (Cond.fieldLink RX4 58 "RoomRing$Ring" "stock" "LRoomRing$Stock;").before ar s = true := hts _ (List.mem_of_getElem? (i := 2) (by decide +kernel))
  have hk_2 : (Cond.fieldLink RX4 90 "RoomRing$Ring" "keyHosts" "[I").before ar s = true := hts _ (List.mem_of_getElem? (i := 3) (by decide +kernel))
  unfold M4_has at h
  refine lv_iload_n hx hb dX4_has_0 rfl (lv_at hl 1 rfl) ?_
  obtain ⟨v1, hw2, h⟩ := rr_b_some h
  refine rr_callI (va_runS (As := [.int (rr_i x1)]) (rest := []) ⟨hx, hb, hml, hown, hts⟩ (kX4_isKey l g x1 v1 hw2) (va_cwS 1 hts gX4_has_X4_isKey rfl rfl rfl hd_X4_isKey ⟨Nat.le_of_ble_eq_true rfl, Nat.le_of_ble_eq_true rfl⟩) ⟨rr_R_blind, rr_R_pre hK (hP.sub (ws' := ([] : va_W)) [] rfl)⟩ rfl rfl hl.1 rfl (lv_room (Nat.le_of_ble_eq_true rfl)) dX4_has_1 ⟨Nat.zero_le _, Nat.zero_le _⟩) ?_
  obtain ⟨hg3, h⟩ := rr_c_some h
  refine rr_if_ne (tgt := 14) hx hb dX4_has_4 (by decide) hg3 (fun c4 => ?_) (fun c4 => ?_)
  · rw [if_neg c4] at h
    refine lv_aload_n hx hb dX4_has_14 rfl (lv_at hl 0 rfl) ?_
    refine va_get (D := g.1) (ci := 4) (v := .ref (ad 0)) (C := RX4) (T := TX4) (N := 7) hx hb hts hinX4 hown hK.1 hP 0 rfl rfl 0 (by decide) hk_0 (fun _ h9 => h9) rfl dX4_has_15 ?_
    refine va_get (D := g.1) (ci := 1) (v := .ref (ad 8)) (C := RX1) (T := TX1) (N := 8) hx hb hts hinX1 hown hK.1 hP 1 rfl rfl 0 (by decide) hk_1 (fun _ h9 => h9) rfl dX4_has_18 ?_
    refine lv_iload_n hx hb dX4_has_21 rfl (lv_at hl 1 rfl) ?_
    obtain ⟨v5, hw6, h⟩ := rr_b_some h
    refine rr_callI (va_runV (As := [.int (rr_i x1)]) (rest := []) ⟨hx, hb, hml, hown, hts⟩ (kX3_findKey l g (fun k => ad (8 + k)) x1 (Ω 0) v5 hw6) (cwV 1 hts gX4_has_X3_findKey rfl rfl rfl ⟨rfl, hd_X3_findKey⟩ ⟨Nat.le_of_ble_eq_true rfl, Nat.le_of_ble_eq_true rfl⟩) ⟨rr_R_blind, va_recv hK.1 (hP.sub (ws' := rr_wS g (fun k => ad (8 + k)) (Ω 0)) [9, 10, 11, 12] rfl) (ci := 3) (q0 := 0) rfl rfl, rr_R_pre hK (hP.sub (ws' := rr_wS g (fun k => ad (8 + k)) (Ω 0)) [9, 10, 11, 12] rfl)⟩ rfl rfl hl.1 rfl (lv_room (Nat.le_of_ble_eq_true rfl)) dX4_has_22 ⟨Nat.zero_le _, Nat.zero_le _⟩) ?_
    refine lv_istore_n (lv' := [(2, .int (rr_i v5)), (0, .ref a), (1, .int (rr_i x1))]) hx hb dX4_has_25 rfl hl (by decide) rfl (fun ls hl => ?_)
    refine lv_iload_n hx hb dX4_has_26 rfl (lv_at hl 0 rfl) ?_
    obtain ⟨hg7, h⟩ := rr_c_some h
    refine rr_if_ge (tgt := 39) hx hb dX4_has_27 (by decide) hg7 (fun c8 => ?_) (fun c8 => ?_)
    · rw [if_pos c8] at h
      refine lv_aload_n hx hb dX4_has_39 rfl (lv_at hl 1 rfl) ?_
      refine va_get (D := g.1) (ci := 4) (v := .ref (ad 0)) (C := RX4) (T := TX4) (N := 7) hx hb hts hinX4 hown hK.1 hP 0 rfl rfl 0 (by decide) hk_0 (fun _ h9 => h9) rfl dX4_has_40 ?_
      refine va_get (D := g.1) (ci := 1) (v := .ref (ad 8)) (C := RX1) (T := TX1) (N := 8) hx hb hts hinX1 hown hK.1 hP 1 rfl rfl 0 (by decide) hk_1 (fun _ h9 => h9) rfl dX4_has_43 ?_
      refine lv_aload_n hx hb dX4_has_46 rfl (lv_at hl 1 rfl) ?_
      refine va_get (D := g.1) (ci := 4) (v := .ref (ad 0)) (C := RX4) (T := TX4) (N := 7) hx hb hts hinX4 hown hK.1 hP 0 rfl rfl 0 (by decide) hk_0 (fun _ h9 => h9) rfl dX4_has_47 ?_
      refine va_get (D := g.1) (ci := 1) (v := .ref (ad 5)) (C := RX1) (T := TX1) (N := 8) hx hb hts hinX1 hown hK.1 hP 1 rfl rfl 5 (by decide) hk_2 (fun _ h9 => h9) rfl dX4_has_50 ?_
      refine lv_iload_n hx hb dX4_has_53 rfl (lv_at hl 0 rfl) ?_
      obtain ⟨hg9, h⟩ := rr_c_some h
      refine rr_iald (f := ((Ω 0) 11)) (N := 40) hx hb hK hP 6 rfl rfl (by decide) hg9 dX4_has_54 ?_
      obtain ⟨v10, hw11, h⟩ := rr_b_some h
      refine rr_callI (va_runV (As := [.int (rr_i ((Ω 0) 11 v5))]) (rest := []) ⟨hx, hb, hml, hown, hts⟩ (kX3_nameOf l g (fun k => ad (8 + k)) ((Ω 0) 11 v5) (Ω 0) v10 hw11) (cwV 1 hts gX4_has_X3_nameOf rfl rfl rfl ⟨rfl, hd_X3_nameOf⟩ ⟨Nat.le_of_ble_eq_true rfl, Nat.le_of_ble_eq_true rfl⟩) ⟨rr_R_blind, va_recv hK.1 (hP.sub (ws' := rr_wS g (fun k => ad (8 + k)) (Ω 0)) [9, 10, 11, 12] rfl) (ci := 3) (q0 := 0) rfl rfl, rr_R_pre hK (hP.sub (ws' := rr_wS g (fun k => ad (8 + k)) (Ω 0)) [9, 10, 11, 12] rfl)⟩ rfl rfl hl.1 rfl (lv_room (Nat.le_of_ble_eq_true rfl)) dX4_has_55 ⟨Nat.zero_le _, Nat.zero_le _⟩) ?_
      exact hret _ _ _ _ _ _ h hP hD hS dX4_has_58
    · rw [if_neg c8] at h
      refine lv_aload_n hx hb dX4_has_30 rfl (lv_at hl 1 rfl) ?_
      refine rr_bipush hx hb dX4_has_31 (by decide +kernel) ?_
      obtain ⟨v12, hw13, h⟩ := rr_b_some h
      refine rr_allI hD hS hA (va_runV (As := [.int (rr_i (-3))]) (rest := []) ⟨hx, hb, hml, hown, hts⟩ (kX4_refuse l g a ad _ (-3) Ω v12 hw13) (cwV 1 hts gX4_has_X4_refuse rfl rfl rfl ⟨rfl, hd_X4_refuse⟩ ⟨Nat.le_of_ble_eq_true rfl, Nat.le_of_ble_eq_true rfl⟩) ⟨rr_P_blind, va_recv hK.1 hP (ci := 4) (q0 := 0) rfl rfl, rr_P_pre hK hP hD⟩ rfl rfl hl.1 rfl (lv_room (Nat.le_of_ble_eq_true rfl)) dX4_has_33 ⟨Nat.zero_le _, Nat.zero_le _⟩) (fun H locs hP hD hS => ?_)
      refine lv_goto (tgt := 58) hx hb dX4_has_36 (by decide) ?_
      exact hret _ _ _ _ _ _ h hP hD hS dX4_has_58
  · rw [if_pos c4] at h
    refine lv_aload_n hx hb dX4_has_7 rfl (lv_at hl 0 rfl) ?_
    refine rr_bipush hx hb dX4_has_8 (by decide +kernel) ?_
    obtain ⟨v14, hw15, h⟩ := rr_b_some h
    refine rr_allI hD hS hA (va_runV (As := [.int (rr_i (-2))]) (rest := []) ⟨hx, hb, hml, hown, hts⟩ (kX4_refuse l g a ad _ (-2) Ω v14 hw15) (cwV 1 hts gX4_has_X4_refuse rfl rfl rfl ⟨rfl, hd_X4_refuse⟩ ⟨Nat.le_of_ble_eq_true rfl, Nat.le_of_ble_eq_true rfl⟩) ⟨rr_P_blind, va_recv hK.1 hP (ci := 4) (q0 := 0) rfl rfl, rr_P_pre hK hP hD⟩ rfl rfl hl.1 rfl (lv_room (Nat.le_of_ble_eq_true rfl)) dX4_has_10 ⟨Nat.zero_le _, Nat.zero_le _⟩) (fun H locs hP hD hS => ?_)
    exact hret _ _ _ _ _ _ h hP hD hS dX4_has_13
-- RoomRing.about
abbrev rm_X4_about : Room := { frames := 2, cells := 0, slots := 0, locals := 43 }
theorem hd_X4_about : yX4_about.cls ≠ "java/lang/invoke/MethodHandle" ∧ yX4_about.cls ≠ "java/lang/invoke/VarHandle" ∧ (parseMethodDescriptor yX4_about.desc).map (fun d => d.parameters.length) = some 2 := by decide +kernel
set_option maxHeartbeats 4000000 in
set_option maxRecDepth 100000 in
theorem kX4_about (l : Launch) (g : rr_G) (a : Nat) (ad : Nat → Nat) (sz : Nat) (x1 : Int) (x2 : Int) (Ω : (Nat → rr_T)) (out : (Int × (Nat → rr_T))) (h : M4_about x1 x2 Ω = some out) : Met l yX4_about wsX4_about rm_X4_about (rr_P g [.ref a, .int (rr_i x1), .int (rr_i x2)] (rr_wC g a ad Ω) sz) (rr_Qi g out.1 (rr_wC g a ad out.2) (va_A (rr_wC g a ad Ω) sz)) 0 0 (va_A (rr_wC g a ad Ω) sz) := by
  refine rr_rwI (cc := cX4_about) (maxL := 4) (fun Ω => rr_wC g a ad Ω) Ω out (by decide) rfl (Nat.le_of_ble_eq_true rfl) ?_
  intro p e s m ar below meth c Q ls A hx hb hml hown hts hK hA hP hD hS hret hl
  have hP : va_P g.1 vwCl (rr_wC g a ad Ω) s.heap := hP
  have hD : va_D A (rr_wC g a ad Ω) := hD
  have hown : s.vm.findClass RX4 = some m.cls := hown
  have hl : lv_has ls 4 [(0, .ref a), (1, .int (rr_i x1)), (2, .int (rr_i x2))] := hl
  have hinX1 : ∀ w ∈ u_ws RX1 TX1 8, w ∈ wsX4_about := by decide +kernel
  have hinX4 : ∀ w ∈ u_ws RX4 TX4 7, w ∈ wsX4_about := by decide +kernel
  have hk_0 : (Cond.fieldLink RX4 12 "RoomRing" "now" "LRoomRing$Ring;").before ar s = true := hts _ (List.mem_of_getElem? (i := 1) (by decide +kernel))
  have hk_1 : (Cond.fieldLink RX4 58 "RoomRing$Ring" "stock" "LRoomRing$Stock;").before ar s = true := hts _ (List.mem_of_getElem? (i := 2) (by decide +kernel))
  unfold M4_about at h
  refine lv_iload_n hx hb dX4_about_0 rfl (lv_at hl 1 rfl) ?_
  obtain ⟨v1, hw2, h⟩ := rr_b_some h
  refine rr_callI (va_runS (As := [.int (rr_i x1)]) (rest := []) ⟨hx, hb, hml, hown, hts⟩ (kX4_isKey l g x1 v1 hw2) (va_cwS 1 hts gX4_about_X4_isKey rfl rfl rfl hd_X4_isKey ⟨Nat.le_of_ble_eq_true rfl, Nat.le_of_ble_eq_true rfl⟩) ⟨rr_R_blind, rr_R_pre hK (hP.sub (ws' := ([] : va_W)) [] rfl)⟩ rfl rfl hl.1 rfl (lv_room (Nat.le_of_ble_eq_true rfl)) dX4_about_1 ⟨Nat.zero_le _, Nat.zero_le _⟩) ?_
  obtain ⟨hg3, h⟩ := rr_c_some h
  refine rr_if_eq (tgt := 16) hx hb dX4_about_4 (by decide) hg3 (fun c4 => ?_) (fun c4 => ?_)
  · rw [if_pos c4] at h
    refine lv_aload_n hx hb dX4_about_16 rfl (lv_at hl 0 rfl) ?_
    refine rr_bipush hx hb dX4_about_17 (by decide +kernel) ?_
    obtain ⟨v5, hw6, h⟩ := rr_b_some h
    refine rr_allI hD hS hA (va_runV (As := [.int (rr_i (-2))]) (rest := []) ⟨hx, hb, hml, hown, hts⟩ (kX4_refuse l g a ad _ (-2) Ω v5 hw6) (cwV 1 hts gX4_about_X4_refuse rfl rfl rfl ⟨rfl, hd_X4_refuse⟩ ⟨Nat.le_of_ble_eq_true rfl, Nat.le_of_ble_eq_true rfl⟩) ⟨rr_P_blind, va_recv hK.1 hP (ci := 4) (q0 := 0) rfl rfl, rr_P_pre hK hP hD⟩ rfl rfl hl.1 rfl (lv_room (Nat.le_of_ble_eq_true rfl)) dX4_about_19 ⟨Nat.zero_le _, Nat.zero_le _⟩) (fun H locs hP hD hS => ?_)
    exact hret _ _ _ _ _ _ h hP hD hS dX4_about_22
  · rw [if_neg c4] at h
    refine lv_iload_n hx hb dX4_about_7 rfl (lv_at hl 2 rfl) ?_
    obtain ⟨hg7, h⟩ := rr_c_some h
    refine rr_if_lt (tgt := 16) hx hb dX4_about_8 (by decide) hg7 (fun c8 => ?_) (fun c8 => ?_)
    · rw [if_pos c8] at h
      refine lv_aload_n hx hb dX4_about_16 rfl (lv_at hl 0 rfl) ?_
      refine rr_bipush hx hb dX4_about_17 (by decide +kernel) ?_
      obtain ⟨v9, hw10, h⟩ := rr_b_some h
      refine rr_allI hD hS hA (va_runV (As := [.int (rr_i (-2))]) (rest := []) ⟨hx, hb, hml, hown, hts⟩ (kX4_refuse l g a ad _ (-2) Ω v9 hw10) (cwV 1 hts gX4_about_X4_refuse rfl rfl rfl ⟨rfl, hd_X4_refuse⟩ ⟨Nat.le_of_ble_eq_true rfl, Nat.le_of_ble_eq_true rfl⟩) ⟨rr_P_blind, va_recv hK.1 hP (ci := 4) (q0 := 0) rfl rfl, rr_P_pre hK hP hD⟩ rfl rfl hl.1 rfl (lv_room (Nat.le_of_ble_eq_true rfl)) dX4_about_19 ⟨Nat.zero_le _, Nat.zero_le _⟩) (fun H locs hP hD hS => ?_)
      exact hret _ _ _ _ _ _ h hP hD hS dX4_about_22
    · rw [if_neg c8] at h
      refine lv_iload_n hx hb dX4_about_11 rfl (lv_at hl 2 rfl) ?_
      refine rr_iconst hx hb dX4_about_12 ?_
      refine rr_icmp_lt (tgt := 23) hx hb dX4_about_13 (by decide) hg7 (by decide) (fun c11 => ?_) (fun c11 => ?_)
      · rw [if_pos c11] at h
        refine lv_aload_n hx hb dX4_about_23 rfl (lv_at hl 0 rfl) ?_
        refine va_get (D := g.1) (ci := 4) (v := .ref (ad 0)) (C := RX4) (T := TX4) (N := 7) hx hb hts hinX4 hown hK.1 hP 0 rfl rfl 0 (by decide) hk_0 (fun _ h9 => h9) rfl dX4_about_24 ?_
        refine va_get (D := g.1) (ci := 1) (v := .ref (ad 8)) (C := RX1) (T := TX1) (N := 8) hx hb hts hinX1 hown hK.1 hP 1 rfl rfl 0 (by decide) hk_1 (fun _ h9 => h9) rfl dX4_about_27 ?_
        refine lv_iload_n hx hb dX4_about_30 rfl (lv_at hl 1 rfl) ?_
        obtain ⟨v12, hw13, h⟩ := rr_b_some h
        refine rr_callI (va_runV (As := [.int (rr_i x1)]) (rest := []) ⟨hx, hb, hml, hown, hts⟩ (kX3_findKey l g (fun k => ad (8 + k)) x1 (Ω 0) v12 hw13) (cwV 1 hts gX4_about_X3_findKey rfl rfl rfl ⟨rfl, hd_X3_findKey⟩ ⟨Nat.le_of_ble_eq_true rfl, Nat.le_of_ble_eq_true rfl⟩) ⟨rr_R_blind, va_recv hK.1 (hP.sub (ws' := rr_wS g (fun k => ad (8 + k)) (Ω 0)) [9, 10, 11, 12] rfl) (ci := 3) (q0 := 0) rfl rfl, rr_R_pre hK (hP.sub (ws' := rr_wS g (fun k => ad (8 + k)) (Ω 0)) [9, 10, 11, 12] rfl)⟩ rfl rfl hl.1 rfl (lv_room (Nat.le_of_ble_eq_true rfl)) dX4_about_31 ⟨Nat.zero_le _, Nat.zero_le _⟩) ?_
        refine lv_istore_n (lv' := [(3, .int (rr_i v12)), (0, .ref a), (1, .int (rr_i x1)), (2, .int (rr_i x2))]) hx hb dX4_about_34 rfl hl (by decide) rfl (fun ls hl => ?_)
        refine lv_iload_n hx hb dX4_about_35 rfl (lv_at hl 0 rfl) ?_
        obtain ⟨hg14, h⟩ := rr_c_some h
        refine rr_if_ge (tgt := 48) hx hb dX4_about_36 (by decide) hg14 (fun c15 => ?_) (fun c15 => ?_)
        · rw [if_pos c15] at h
          refine lv_aload_n hx hb dX4_about_48 rfl (lv_at hl 1 rfl) ?_
          refine va_get (D := g.1) (ci := 4) (v := .ref (ad 0)) (C := RX4) (T := TX4) (N := 7) hx hb hts hinX4 hown hK.1 hP 0 rfl rfl 0 (by decide) hk_0 (fun _ h9 => h9) rfl dX4_about_49 ?_
          refine lv_iload_n hx hb dX4_about_52 rfl (lv_at hl 0 rfl) ?_
          refine lv_iload_n hx hb dX4_about_53 rfl (lv_at hl 3 rfl) ?_
          obtain ⟨v16, hw17, h⟩ := rr_b_some h
          refine rr_callI (va_runV (As := [.int (rr_i v12), .int (rr_i x2)]) (rest := []) ⟨hx, hb, hml, hown, hts⟩ (kX1_keyFact l g ad v12 x2 (Ω 0) v16 hw17) (cwV 2 hts gX4_about_X1_keyFact rfl rfl rfl ⟨rfl, hd_X1_keyFact⟩ ⟨Nat.le_of_ble_eq_true rfl, Nat.le_of_ble_eq_true rfl⟩) ⟨rr_R_blind, va_recv hK.1 (hP.sub (ws' := rr_wR g ad (Ω 0)) [1, 2, 3, 4, 5, 6, 7, 8, 9, 10, 11, 12] rfl) (ci := 1) (q0 := 0) rfl rfl, rr_R_pre hK (hP.sub (ws' := rr_wR g ad (Ω 0)) [1, 2, 3, 4, 5, 6, 7, 8, 9, 10, 11, 12] rfl)⟩ rfl rfl hl.1 rfl (lv_room (Nat.le_of_ble_eq_true rfl)) dX4_about_54 ⟨Nat.zero_le _, Nat.zero_le _⟩) ?_
          exact hret _ _ _ _ _ _ h hP hD hS dX4_about_57
        · rw [if_neg c15] at h
          refine lv_aload_n hx hb dX4_about_39 rfl (lv_at hl 1 rfl) ?_
          refine rr_bipush hx hb dX4_about_40 (by decide +kernel) ?_
          obtain ⟨v18, hw19, h⟩ := rr_b_some h
          refine rr_allI hD hS hA (va_runV (As := [.int (rr_i (-3))]) (rest := []) ⟨hx, hb, hml, hown, hts⟩ (kX4_refuse l g a ad _ (-3) Ω v18 hw19) (cwV 1 hts gX4_about_X4_refuse rfl rfl rfl ⟨rfl, hd_X4_refuse⟩ ⟨Nat.le_of_ble_eq_true rfl, Nat.le_of_ble_eq_true rfl⟩) ⟨rr_P_blind, va_recv hK.1 hP (ci := 4) (q0 := 0) rfl rfl, rr_P_pre hK hP hD⟩ rfl rfl hl.1 rfl (lv_room (Nat.le_of_ble_eq_true rfl)) dX4_about_42 ⟨Nat.zero_le _, Nat.zero_le _⟩) (fun H locs hP hD hS => ?_)
          refine lv_goto (tgt := 57) hx hb dX4_about_45 (by decide) ?_
          exact hret _ _ _ _ _ _ h hP hD hS dX4_about_57
      · rw [if_neg c11] at h
        refine lv_aload_n hx hb dX4_about_16 rfl (lv_at hl 0 rfl) ?_
        refine rr_bipush hx hb dX4_about_17 (by decide +kernel) ?_
        obtain ⟨v20, hw21, h⟩ := rr_b_some h
        refine rr_allI hD hS hA (va_runV (As := [.int (rr_i (-2))]) (rest := []) ⟨hx, hb, hml, hown, hts⟩ (kX4_refuse l g a ad _ (-2) Ω v20 hw21) (cwV 1 hts gX4_about_X4_refuse rfl rfl rfl ⟨rfl, hd_X4_refuse⟩ ⟨Nat.le_of_ble_eq_true rfl, Nat.le_of_ble_eq_true rfl⟩) ⟨rr_P_blind, va_recv hK.1 hP (ci := 4) (q0 := 0) rfl rfl, rr_P_pre hK hP hD⟩ rfl rfl hl.1 rfl (lv_room (Nat.le_of_ble_eq_true rfl)) dX4_about_19 ⟨Nat.zero_le _, Nat.zero_le _⟩) (fun H locs hP hD hS => ?_)
        exact hret _ _ _ _ _ _ h hP hD hS dX4_about_22
-- RoomRing.tryOne
abbrev rm_X4_tryOne : Room := { frames := 4, cells := 0, slots := 0, locals := 88 }
theorem hd_X4_tryOne : yX4_tryOne.cls ≠ "java/lang/invoke/MethodHandle" ∧ yX4_tryOne.cls ≠ "java/lang/invoke/VarHandle" ∧ (parseMethodDescriptor yX4_tryOne.desc).map (fun d => d.parameters.length) = some 2 := by decide +kernel
set_option maxHeartbeats 4000000 in
set_option maxRecDepth 100000 in
theorem kX4_tryOne (l : Launch) (g : rr_G) (a : Nat) (ad : Nat → Nat) (sz : Nat) (x1 : Int) (x2 : Int) (Ω : (Nat → rr_T)) (out : (Int × (Nat → rr_T))) (h : M4_tryOne x1 x2 Ω = some out) : Met l yX4_tryOne wsX4_tryOne rm_X4_tryOne (rr_P g [.ref a, .int (rr_i x1), .int (rr_i x2)] (rr_wC g a ad Ω) sz) (rr_Qi g out.1 (rr_wC g a ad out.2) (va_A (rr_wC g a ad Ω) sz)) 0 0 (va_A (rr_wC g a ad Ω) sz) := by
  refine rr_rwI (cc := cX4_tryOne) (maxL := 4) (fun Ω => rr_wC g a ad Ω) Ω out (by decide) rfl (Nat.le_of_ble_eq_true rfl) ?_
  intro p e s m ar below meth c Q ls A hx hb hml hown hts hK hA hP hD hS hret hl
  have hP : va_P g.1 vwCl (rr_wC g a ad Ω) s.heap := hP
  have hD : va_D A (rr_wC g a ad Ω) := hD
  have hown : s.vm.findClass RX4 = some m.cls := hown
  have hl : lv_has ls 4 [(0, .ref a), (1, .int (rr_i x1)), (2, .int (rr_i x2))] := hl
  have hinX1 : ∀ w ∈ u_ws RX1 TX1 8, w ∈ wsX4_tryOne := by decide +kernel
  have hinX4 : ∀ w ∈ u_ws RX4 TX4 7, w ∈ wsX4_tryOne := by decide +kernel
  have hk_0 : (Cond.fieldLink RX4 16 "RoomRing" "draft" "LRoomRing$Ring;").before ar s = true := hts _ (List.mem_of_getElem? (i := 1) (by decide +kernel))
  have hk_1 : (Cond.fieldLink RX4 58 "RoomRing$Ring" "stock" "LRoomRing$Stock;").before ar s = true := hts _ (List.mem_of_getElem? (i := 2) (by decide +kernel))
  have hk_2 : (Cond.fieldLink RX4 12 "RoomRing" "now" "LRoomRing$Ring;").before ar s = true := hts _ (List.mem_of_getElem? (i := 3) (by decide +kernel))
  unfold M4_tryOne at h
  refine lv_aload_n hx hb dX4_tryOne_0 rfl (lv_at hl 0 rfl) ?_
  refine va_get (D := g.1) (ci := 4) (v := .ref (ad 12)) (C := RX4) (T := TX4) (N := 7) hx hb hts hinX4 hown hK.1 hP 0 rfl rfl 1 (by decide) hk_0 (fun _ h9 => h9) rfl dX4_tryOne_1 ?_
  refine va_get (D := g.1) (ci := 1) (v := .ref (ad 20)) (C := RX1) (T := TX1) (N := 8) hx hb hts hinX1 hown hK.1 hP 13 rfl rfl 0 (by decide) hk_1 (fun _ h9 => h9) rfl dX4_tryOne_4 ?_
  refine lv_aload_n hx hb dX4_tryOne_7 rfl (lv_at hl 0 rfl) ?_
  refine va_get (D := g.1) (ci := 4) (v := .ref (ad 0)) (C := RX4) (T := TX4) (N := 7) hx hb hts hinX4 hown hK.1 hP 0 rfl rfl 0 (by decide) hk_2 (fun _ h9 => h9) rfl dX4_tryOne_8 ?_
  refine va_get (D := g.1) (ci := 1) (v := .ref (ad 8)) (C := RX1) (T := TX1) (N := 8) hx hb hts hinX1 hown hK.1 hP 1 rfl rfl 0 (by decide) hk_1 (fun _ h9 => h9) rfl dX4_tryOne_11 ?_
  obtain ⟨v1, hw2, h⟩ := rr_b_some h
  refine rr_partV (wc := rr_wS g (fun k => ad (20 + k)) (Ω 1) ++ rr_wS g (fun k => ad (8 + k)) (Ω 0)) (wr := rr_pick (rr_wC g a ad Ω) [0, 1, 2, 3, 4, 5, 6, 7, 8, 13, 14, 15, 16, 17, 18, 19, 20, 25, 26, 27, 28, 29, 30, 31, 32, 33, 34, 35, 36, 37, 38, 39, 40, 41, 42, 43, 44, 45, 46, 47, 48, 49, 50, 51]) hP hD hS hA [21, 22, 23, 24, 9, 10, 11, 12] [0, 1, 2, 3, 4, 5, 6, 7, 8, 13, 14, 15, 16, 17, 18, 19, 20, 25, 26, 27, 28, 29, 30, 31, 32, 33, 34, 35, 36, 37, 38, 39, 40, 41, 42, 43, 44, 45, 46, 47, 48, 49, 50, 51] rfl rfl (by decide) (by decide) (va_runV (As := [.ref (ad 8)]) (rest := []) ⟨hx, hb, hml, hown, hts⟩ (kX3_copyFrom l g (fun k => ad (20 + k)) (fun k => ad (8 + k)) _ (Ω 1) (Ω 0) v1 hw2) (cwV 1 hts gX4_tryOne_X3_copyFrom rfl rfl rfl ⟨rfl, hd_X3_copyFrom⟩ ⟨Nat.le_of_ble_eq_true rfl, Nat.le_of_ble_eq_true rfl⟩) ⟨rr_P_blind, va_recv hK.1 (hP.sub (ws' := rr_wS g (fun k => ad (20 + k)) (Ω 1) ++ rr_wS g (fun k => ad (8 + k)) (Ω 0)) [21, 22, 23, 24, 9, 10, 11, 12] rfl) (ci := 3) (q0 := 0) rfl rfl, rr_P_pre hK (hP.sub (ws' := rr_wS g (fun k => ad (20 + k)) (Ω 1) ++ rr_wS g (fun k => ad (8 + k)) (Ω 0)) [21, 22, 23, 24, 9, 10, 11, 12] rfl) (hD.sub (ws' := rr_wS g (fun k => ad (20 + k)) (Ω 1) ++ rr_wS g (fun k => ad (8 + k)) (Ω 0)) [21, 22, 23, 24, 9, 10, 11, 12] (by decide) rfl)⟩ rfl rfl hl.1 rfl (lv_room (Nat.le_of_ble_eq_true rfl)) dX4_tryOne_14 ⟨Nat.zero_le _, Nat.zero_le _⟩) (fun H locs hP hD hS => ?_)
  have hP := hP.sub (ws' := rr_wC g a ad (rr_z Ω 1 (rr_m 7 v1 (Ω 1)))) [0, 1, 2, 3, 4, 5, 6, 7, 8, 48, 49, 50, 51, 9, 10, 11, 12, 13, 14, 15, 16, 44, 45, 46, 47, 17, 18, 19, 20, 21, 22, 23, 24, 25, 26, 27, 28, 29, 30, 31, 32, 33, 34, 35, 36, 37, 38, 39, 40, 41, 42, 43] rfl
  have hD := hD.sub (ws' := rr_wC g a ad (rr_z Ω 1 (rr_m 7 v1 (Ω 1)))) [0, 1, 2, 3, 4, 5, 6, 7, 8, 48, 49, 50, 51, 9, 10, 11, 12, 13, 14, 15, 16, 44, 45, 46, 47, 17, 18, 19, 20, 21, 22, 23, 24, 25, 26, 27, 28, 29, 30, 31, 32, 33, 34, 35, 36, 37, 38, 39, 40, 41, 42, 43] (by decide) rfl
  refine lv_aload_n hx hb dX4_tryOne_17 rfl (lv_at hl 0 rfl) ?_
  refine va_get (D := g.1) (ci := 4) (v := .ref (ad 12)) (C := RX4) (T := TX4) (N := 7) hx hb hts hinX4 hown hK.1 hP 0 rfl rfl 1 (by decide) hk_0 (fun _ h9 => h9) rfl dX4_tryOne_18 ?_
  refine va_get (D := g.1) (ci := 1) (v := .ref (ad 20)) (C := RX1) (T := TX1) (N := 8) hx hb hts hinX1 hown hK.1 hP 13 rfl rfl 0 (by decide) hk_1 (fun _ h9 => h9) rfl dX4_tryOne_21 ?_
  refine lv_iload_n hx hb dX4_tryOne_24 rfl (lv_at hl 1 rfl) ?_
  refine lv_iload_n hx hb dX4_tryOne_25 rfl (lv_at hl 2 rfl) ?_
  refine rr_iconst hx hb dX4_tryOne_26 ?_
  obtain ⟨v3, hw4, h⟩ := rr_b_some h
  refine rr_partI (wc := rr_wS g (fun k => ad (20 + k)) (rr_m 7 v1 (Ω 1))) (wr := rr_pick (rr_wC g a ad (rr_z Ω 1 (rr_m 7 v1 (Ω 1)))) [0, 1, 2, 3, 4, 5, 6, 7, 8, 9, 10, 11, 12, 13, 14, 15, 16, 17, 18, 19, 20, 25, 26, 27, 28, 29, 30, 31, 32, 33, 34, 35, 36, 37, 38, 39, 40, 41, 42, 43, 44, 45, 46, 47, 48, 49, 50, 51]) hP hD hS hA [21, 22, 23, 24] [0, 1, 2, 3, 4, 5, 6, 7, 8, 9, 10, 11, 12, 13, 14, 15, 16, 17, 18, 19, 20, 25, 26, 27, 28, 29, 30, 31, 32, 33, 34, 35, 36, 37, 38, 39, 40, 41, 42, 43, 44, 45, 46, 47, 48, 49, 50, 51] rfl rfl (by decide) (by decide) (va_runV (As := [.int (rr_i x1), .int (rr_i x2), .int (rr_i 0)]) (rest := []) ⟨hx, hb, hml, hown, hts⟩ (kX3_take l g (fun k => ad (20 + k)) _ x1 x2 0 (rr_m 7 v1 (Ω 1)) v3 hw4) (cwV 3 hts gX4_tryOne_X3_take rfl rfl rfl ⟨rfl, hd_X3_take⟩ ⟨Nat.le_of_ble_eq_true rfl, Nat.le_of_ble_eq_true rfl⟩) ⟨rr_P_blind, va_recv hK.1 (hP.sub (ws' := rr_wS g (fun k => ad (20 + k)) (rr_m 7 v1 (Ω 1))) [21, 22, 23, 24] rfl) (ci := 3) (q0 := 0) rfl rfl, rr_P_pre hK (hP.sub (ws' := rr_wS g (fun k => ad (20 + k)) (rr_m 7 v1 (Ω 1))) [21, 22, 23, 24] rfl) (hD.sub (ws' := rr_wS g (fun k => ad (20 + k)) (rr_m 7 v1 (Ω 1))) [21, 22, 23, 24] (by decide) rfl)⟩ rfl rfl hl.1 rfl (lv_room (Nat.le_of_ble_eq_true rfl)) dX4_tryOne_27 ⟨Nat.zero_le _, Nat.zero_le _⟩) (fun H locs hP hD hS => ?_)
  have hP := hP.sub (ws' := rr_wC g a ad (rr_z Ω 1 (rr_m 7 v3.2 (rr_m 7 v1 (Ω 1))))) [0, 1, 2, 3, 4, 5, 6, 7, 8, 9, 10, 11, 12, 13, 14, 15, 16, 17, 18, 19, 20, 48, 49, 50, 51, 21, 22, 23, 24, 25, 26, 27, 28, 29, 30, 31, 32, 33, 34, 35, 36, 37, 38, 39, 40, 41, 42, 43, 44, 45, 46, 47] rfl
  have hD := hD.sub (ws' := rr_wC g a ad (rr_z Ω 1 (rr_m 7 v3.2 (rr_m 7 v1 (Ω 1))))) [0, 1, 2, 3, 4, 5, 6, 7, 8, 9, 10, 11, 12, 13, 14, 15, 16, 17, 18, 19, 20, 48, 49, 50, 51, 21, 22, 23, 24, 25, 26, 27, 28, 29, 30, 31, 32, 33, 34, 35, 36, 37, 38, 39, 40, 41, 42, 43, 44, 45, 46, 47] (by decide) rfl
  refine lv_istore_n (lv' := [(3, .int (rr_i v3.1)), (0, .ref a), (1, .int (rr_i x1)), (2, .int (rr_i x2))]) hx hb dX4_tryOne_30 rfl hl (by decide) rfl (fun ls hl => ?_)
  refine lv_iload_n hx hb dX4_tryOne_31 rfl (lv_at hl 0 rfl) ?_
  obtain ⟨hg5, h⟩ := rr_c_some h
  refine rr_if_ne (tgt := 42) hx hb dX4_tryOne_32 (by decide) hg5 (fun c6 => ?_) (fun c6 => ?_)
  · rw [if_neg c6] at h
    refine lv_iload_n hx hb dX4_tryOne_42 rfl (lv_at hl 0 rfl) ?_
    exact hret _ _ _ _ _ _ h hP hD hS dX4_tryOne_43
  · rw [if_pos c6] at h
    refine lv_aload_n hx hb dX4_tryOne_35 rfl (lv_at hl 1 rfl) ?_
    refine va_get (D := g.1) (ci := 4) (v := .ref (ad 12)) (C := RX4) (T := TX4) (N := 7) hx hb hts hinX4 hown hK.1 hP 0 rfl rfl 1 (by decide) hk_0 (fun _ h9 => h9) rfl dX4_tryOne_36 ?_
    obtain ⟨v7, hw8, h⟩ := rr_b_some h
    refine rr_partV (wc := rr_wR g (fun k => ad (12 + k)) (rr_m 7 v3.2 (rr_m 7 v1 (Ω 1)))) (wr := rr_pick (rr_wC g a ad (rr_z Ω 1 (rr_m 7 v3.2 (rr_m 7 v1 (Ω 1))))) [0, 1, 2, 3, 4, 5, 6, 7, 8, 9, 10, 11, 12, 25, 26, 27, 28, 29, 30, 31, 32, 33, 34, 35, 36, 37, 38, 39, 40, 41, 42, 43, 44, 45, 46, 47, 48, 49, 50, 51]) hP hD hS hA [13, 14, 15, 16, 17, 18, 19, 20, 21, 22, 23, 24] [0, 1, 2, 3, 4, 5, 6, 7, 8, 9, 10, 11, 12, 25, 26, 27, 28, 29, 30, 31, 32, 33, 34, 35, 36, 37, 38, 39, 40, 41, 42, 43, 44, 45, 46, 47, 48, 49, 50, 51] rfl rfl (by decide) (by decide) (va_runV (As := []) (rest := []) ⟨hx, hb, hml, hown, hts⟩ (kX1_lay l g (fun k => ad (12 + k)) _ (rr_m 7 v3.2 (rr_m 7 v1 (Ω 1))) v7 hw8) (cwV 0 hts gX4_tryOne_X1_lay rfl rfl rfl ⟨rfl, hd_X1_lay⟩ ⟨Nat.le_of_ble_eq_true rfl, Nat.le_of_ble_eq_true rfl⟩) ⟨rr_P_blind, va_recv hK.1 (hP.sub (ws' := rr_wR g (fun k => ad (12 + k)) (rr_m 7 v3.2 (rr_m 7 v1 (Ω 1)))) [13, 14, 15, 16, 17, 18, 19, 20, 21, 22, 23, 24] rfl) (ci := 1) (q0 := 0) rfl rfl, rr_P_pre hK (hP.sub (ws' := rr_wR g (fun k => ad (12 + k)) (rr_m 7 v3.2 (rr_m 7 v1 (Ω 1)))) [13, 14, 15, 16, 17, 18, 19, 20, 21, 22, 23, 24] rfl) (hD.sub (ws' := rr_wR g (fun k => ad (12 + k)) (rr_m 7 v3.2 (rr_m 7 v1 (Ω 1)))) [13, 14, 15, 16, 17, 18, 19, 20, 21, 22, 23, 24] (by decide) rfl)⟩ rfl rfl hl.1 rfl (lv_room (Nat.le_of_ble_eq_true rfl)) dX4_tryOne_39 ⟨Nat.zero_le _, Nat.zero_le _⟩) (fun H locs hP hD hS => ?_)
    have hP := hP.sub (ws' := rr_wC g a ad (rr_z Ω 1 v7)) [0, 1, 2, 3, 4, 5, 6, 7, 8, 9, 10, 11, 12, 40, 41, 42, 43, 44, 45, 46, 47, 48, 49, 50, 51, 13, 14, 15, 16, 17, 18, 19, 20, 21, 22, 23, 24, 25, 26, 27, 28, 29, 30, 31, 32, 33, 34, 35, 36, 37, 38, 39] rfl
    have hD := hD.sub (ws' := rr_wC g a ad (rr_z Ω 1 v7)) [0, 1, 2, 3, 4, 5, 6, 7, 8, 9, 10, 11, 12, 40, 41, 42, 43, 44, 45, 46, 47, 48, 49, 50, 51, 13, 14, 15, 16, 17, 18, 19, 20, 21, 22, 23, 24, 25, 26, 27, 28, 29, 30, 31, 32, 33, 34, 35, 36, 37, 38, 39] (by decide) rfl
    refine lv_iload_n hx hb dX4_tryOne_42 rfl (lv_at hl 0 rfl) ?_
    exact hret _ _ _ _ _ _ h hP hD hS dX4_tryOne_43
