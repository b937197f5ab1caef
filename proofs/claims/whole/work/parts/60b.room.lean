-- RoomRing.would
abbrev rm_X4_would : Room := { frames := 5, cells := 0, slots := 0, locals := 111 }
theorem hd_X4_would : yX4_would.cls ≠ "java/lang/invoke/MethodHandle" ∧ yX4_would.cls ≠ "java/lang/invoke/VarHandle" ∧ (parseMethodDescriptor yX4_would.desc).map (fun d => d.parameters.length) = some 1 := by decide +kernel
set_option maxHeartbeats 4000000 in
set_option maxRecDepth 100000 in
theorem kX4_would (l : Launch) (g : rr_G) (a : Nat) (ad : Nat → Nat) (sz : Nat) (x1 : Int) (Ω : (Nat → rr_T)) (out : (Int × (Nat → rr_T))) (h : M4_would x1 Ω = some out) : Met l yX4_would wsX4_would rm_X4_would (rr_P g [.ref a, .int (rr_i x1)] (rr_wC g a ad Ω) sz) (rr_Qi g out.1 (rr_wC g a ad out.2) (va_A (rr_wC g a ad Ω) sz)) 0 0 (va_A (rr_wC g a ad Ω) sz) := by
  refine rr_rwI (cc := cX4_would) (maxL := 3) (fun Ω => rr_wC g a ad Ω) Ω out (by decide) rfl (Nat.le_of_ble_eq_true rfl) ?_
  intro p e s m ar below meth c Q ls A hx hb hml hown hts hK hA hP hD hS hret hl
  have hP : va_P g.1 vwCl (rr_wC g a ad Ω) s.heap := hP
  have hD : va_D A (rr_wC g a ad Ω) := hD
  have hown : s.vm.findClass RX4 = some m.cls := hown
  have hl : lv_has ls 3 [(0, .ref a), (1, .int (rr_i x1))] := hl
  have hinX4 : ∀ w ∈ u_ws RX4 TX4 7, w ∈ wsX4_would := by decide +kernel
  have hk_0 : (Cond.fieldLink RX4 16 "RoomRing" "draft" "LRoomRing$Ring;").before ar s = true := hts _ (List.mem_of_getElem? (i := 1) (by decide +kernel))
  unfold M4_would at h
  refine lv_aload_n hx hb dX4_would_0 rfl (lv_at hl 0 rfl) ?_
  refine rr_bipush hx hb dX4_would_1 (by decide +kernel) ?_
  refine lv_iload_n hx hb dX4_would_3 rfl (lv_at hl 1 rfl) ?_
  obtain ⟨v1, hw2, h⟩ := rr_b_some h
  refine rr_allI hD hS hA (va_runV (As := [.int (rr_i 107), .int (rr_i x1)]) (rest := []) ⟨hx, hb, hml, hown, hts⟩ (kX4_tryOne l g a ad _ 107 x1 Ω v1 hw2) (cwV 2 hts gX4_would_X4_tryOne rfl rfl rfl ⟨rfl, hd_X4_tryOne⟩ ⟨Nat.le_of_ble_eq_true rfl, Nat.le_of_ble_eq_true rfl⟩) ⟨rr_P_blind, va_recv hK.1 hP (ci := 4) (q0 := 0) rfl rfl, rr_P_pre hK hP hD⟩ rfl rfl hl.1 rfl (lv_room (Nat.le_of_ble_eq_true rfl)) dX4_would_4 ⟨Nat.zero_le _, Nat.zero_le _⟩) (fun H locs hP hD hS => ?_)
  refine lv_istore_n (lv' := [(2, .int (rr_i v1.1)), (0, .ref a), (1, .int (rr_i x1))]) hx hb dX4_would_7 rfl hl (by decide) rfl (fun ls hl => ?_)
  refine lv_iload_n hx hb dX4_would_8 rfl (lv_at hl 0 rfl) ?_
  obtain ⟨hg3, h⟩ := rr_c_some h
  refine rr_if_ne (tgt := 23) hx hb dX4_would_9 (by decide) hg3 (fun c4 => ?_) (fun c4 => ?_)
  · rw [if_neg c4] at h
    refine lv_aload_n hx hb dX4_would_23 rfl (lv_at hl 1 rfl) ?_
    refine lv_iload_n hx hb dX4_would_24 rfl (lv_at hl 0 rfl) ?_
    obtain ⟨v5, hw6, h⟩ := rr_b_some h
    refine rr_allI hD hS hA (va_runV (As := [.int (rr_i v1.1)]) (rest := []) ⟨hx, hb, hml, hown, hts⟩ (kX4_refuse l g a ad _ v1.1 v1.2 v5 hw6) (cwV 1 hts gX4_would_X4_refuse rfl rfl rfl ⟨rfl, hd_X4_refuse⟩ ⟨Nat.le_of_ble_eq_true rfl, Nat.le_of_ble_eq_true rfl⟩) ⟨rr_P_blind, va_recv hK.1 hP (ci := 4) (q0 := 0) rfl rfl, rr_P_pre hK hP hD⟩ rfl rfl hl.1 rfl (lv_room (Nat.le_of_ble_eq_true rfl)) dX4_would_25 ⟨Nat.zero_le _, Nat.zero_le _⟩) (fun H locs hP hD hS => ?_)
    exact hret _ _ _ _ _ _ h hP hD hS dX4_would_28
  · rw [if_pos c4] at h
    refine lv_aload_n hx hb dX4_would_12 rfl (lv_at hl 1 rfl) ?_
    refine va_get (D := g.1) (ci := 4) (v := .ref (ad 12)) (C := RX4) (T := TX4) (N := 7) hx hb hts hinX4 hown hK.1 hP 0 rfl rfl 1 (by decide) hk_0 (fun _ h9 => h9) rfl dX4_would_13 ?_
    refine lv_iload_n hx hb dX4_would_16 rfl (lv_at hl 2 rfl) ?_
    obtain ⟨v7, hw8, h⟩ := rr_b_some h
    refine rr_callI (va_runV (As := [.int (rr_i x1)]) (rest := []) ⟨hx, hb, hml, hown, hts⟩ (kX1_hostNameOfKey l g (fun k => ad (12 + k)) x1 (v1.2 1) v7 hw8) (cwV 1 hts gX4_would_X1_hostNameOfKey rfl rfl rfl ⟨rfl, hd_X1_hostNameOfKey⟩ ⟨Nat.le_of_ble_eq_true rfl, Nat.le_of_ble_eq_true rfl⟩) ⟨rr_R_blind, va_recv hK.1 (hP.sub (ws' := rr_wR g (fun k => ad (12 + k)) (v1.2 1)) [13, 14, 15, 16, 17, 18, 19, 20, 21, 22, 23, 24] rfl) (ci := 1) (q0 := 0) rfl rfl, rr_R_pre hK (hP.sub (ws' := rr_wR g (fun k => ad (12 + k)) (v1.2 1)) [13, 14, 15, 16, 17, 18, 19, 20, 21, 22, 23, 24] rfl)⟩ rfl rfl hl.1 rfl (lv_room (Nat.le_of_ble_eq_true rfl)) dX4_would_17 ⟨Nat.zero_le _, Nat.zero_le _⟩) ?_
    refine lv_goto (tgt := 28) hx hb dX4_would_20 (by decide) ?_
    exact hret _ _ _ _ _ _ h hP hD hS dX4_would_28
-- RoomRing.without
abbrev rm_X4_without : Room := { frames := 5, cells := 0, slots := 0, locals := 111 }
theorem hd_X4_without : yX4_without.cls ≠ "java/lang/invoke/MethodHandle" ∧ yX4_without.cls ≠ "java/lang/invoke/VarHandle" ∧ (parseMethodDescriptor yX4_without.desc).map (fun d => d.parameters.length) = some 1 := by decide +kernel
set_option maxHeartbeats 4000000 in
set_option maxRecDepth 100000 in
theorem kX4_without (l : Launch) (g : rr_G) (a : Nat) (ad : Nat → Nat) (sz : Nat) (x1 : Int) (Ω : (Nat → rr_T)) (out : (Int × (Nat → rr_T))) (h : M4_without x1 Ω = some out) : Met l yX4_without wsX4_without rm_X4_without (rr_P g [.ref a, .int (rr_i x1)] (rr_wC g a ad Ω) sz) (rr_Qi g out.1 (rr_wC g a ad out.2) (va_A (rr_wC g a ad Ω) sz)) 0 0 (va_A (rr_wC g a ad Ω) sz) := by
  refine rr_rwI (cc := cX4_without) (maxL := 3) (fun Ω => rr_wC g a ad Ω) Ω out (by decide) rfl (Nat.le_of_ble_eq_true rfl) ?_
  intro p e s m ar below meth c Q ls A hx hb hml hown hts hK hA hP hD hS hret hl
  have hP : va_P g.1 vwCl (rr_wC g a ad Ω) s.heap := hP
  have hD : va_D A (rr_wC g a ad Ω) := hD
  have hown : s.vm.findClass RX4 = some m.cls := hown
  have hl : lv_has ls 3 [(0, .ref a), (1, .int (rr_i x1))] := hl
  have hinX4 : ∀ w ∈ u_ws RX4 TX4 7, w ∈ wsX4_without := by decide +kernel
  have hk_0 : (Cond.fieldLink RX4 16 "RoomRing" "draft" "LRoomRing$Ring;").before ar s = true := hts _ (List.mem_of_getElem? (i := 1) (by decide +kernel))
  have hk_1 : (Cond.fieldLink RX4 12 "RoomRing" "now" "LRoomRing$Ring;").before ar s = true := hts _ (List.mem_of_getElem? (i := 2) (by decide +kernel))
  unfold M4_without at h
  refine lv_aload_n hx hb dX4_without_0 rfl (lv_at hl 0 rfl) ?_
  refine rr_bipush hx hb dX4_without_1 (by decide +kernel) ?_
  refine lv_iload_n hx hb dX4_without_3 rfl (lv_at hl 1 rfl) ?_
  obtain ⟨v1, hw2, h⟩ := rr_b_some h
  refine rr_allI hD hS hA (va_runV (As := [.int (rr_i 103), .int (rr_i x1)]) (rest := []) ⟨hx, hb, hml, hown, hts⟩ (kX4_tryOne l g a ad _ 103 x1 Ω v1 hw2) (cwV 2 hts gX4_without_X4_tryOne rfl rfl rfl ⟨rfl, hd_X4_tryOne⟩ ⟨Nat.le_of_ble_eq_true rfl, Nat.le_of_ble_eq_true rfl⟩) ⟨rr_P_blind, va_recv hK.1 hP (ci := 4) (q0 := 0) rfl rfl, rr_P_pre hK hP hD⟩ rfl rfl hl.1 rfl (lv_room (Nat.le_of_ble_eq_true rfl)) dX4_without_4 ⟨Nat.zero_le _, Nat.zero_le _⟩) (fun H locs hP hD hS => ?_)
  refine lv_istore_n (lv' := [(2, .int (rr_i v1.1)), (0, .ref a), (1, .int (rr_i x1))]) hx hb dX4_without_7 rfl hl (by decide) rfl (fun ls hl => ?_)
  refine lv_iload_n hx hb dX4_without_8 rfl (lv_at hl 0 rfl) ?_
  obtain ⟨hg3, h⟩ := rr_c_some h
  refine rr_if_ne (tgt := 26) hx hb dX4_without_9 (by decide) hg3 (fun c4 => ?_) (fun c4 => ?_)
  · rw [if_neg c4] at h
    refine lv_aload_n hx hb dX4_without_26 rfl (lv_at hl 1 rfl) ?_
    refine lv_iload_n hx hb dX4_without_27 rfl (lv_at hl 0 rfl) ?_
    obtain ⟨v5, hw6, h⟩ := rr_b_some h
    refine rr_allI hD hS hA (va_runV (As := [.int (rr_i v1.1)]) (rest := []) ⟨hx, hb, hml, hown, hts⟩ (kX4_refuse l g a ad _ v1.1 v1.2 v5 hw6) (cwV 1 hts gX4_without_X4_refuse rfl rfl rfl ⟨rfl, hd_X4_refuse⟩ ⟨Nat.le_of_ble_eq_true rfl, Nat.le_of_ble_eq_true rfl⟩) ⟨rr_P_blind, va_recv hK.1 hP (ci := 4) (q0 := 0) rfl rfl, rr_P_pre hK hP hD⟩ rfl rfl hl.1 rfl (lv_room (Nat.le_of_ble_eq_true rfl)) dX4_without_28 ⟨Nat.zero_le _, Nat.zero_le _⟩) (fun H locs hP hD hS => ?_)
    exact hret _ _ _ _ _ _ h hP hD hS dX4_without_31
  · rw [if_pos c4] at h
    refine lv_aload_n hx hb dX4_without_12 rfl (lv_at hl 1 rfl) ?_
    refine va_get (D := g.1) (ci := 4) (v := .ref (ad 12)) (C := RX4) (T := TX4) (N := 7) hx hb hts hinX4 hown hK.1 hP 0 rfl rfl 1 (by decide) hk_0 (fun _ h9 => h9) rfl dX4_without_13 ?_
    refine lv_aload_n hx hb dX4_without_16 rfl (lv_at hl 1 rfl) ?_
    refine va_get (D := g.1) (ci := 4) (v := .ref (ad 0)) (C := RX4) (T := TX4) (N := 7) hx hb hts hinX4 hown hK.1 hP 0 rfl rfl 0 (by decide) hk_1 (fun _ h9 => h9) rfl dX4_without_17 ?_
    obtain ⟨v7, hw8, h⟩ := rr_b_some h
    refine rr_callI (va_runV (As := [.ref (ad 0)]) (rest := []) ⟨hx, hb, hml, hown, hts⟩ (kX1_movedSince l g (fun k => ad (12 + k)) ad (v1.2 1) (v1.2 0) v7 hw8) (cwV 1 hts gX4_without_X1_movedSince rfl rfl rfl ⟨rfl, hd_X1_movedSince⟩ ⟨Nat.le_of_ble_eq_true rfl, Nat.le_of_ble_eq_true rfl⟩) ⟨rr_R_blind, va_recv hK.1 (hP.sub (ws' := rr_wR g (fun k => ad (12 + k)) (v1.2 1) ++ rr_wR g ad (v1.2 0)) [13, 14, 15, 16, 17, 18, 19, 20, 21, 22, 23, 24, 1, 2, 3, 4, 5, 6, 7, 8, 9, 10, 11, 12] rfl) (ci := 1) (q0 := 0) rfl rfl, rr_R_pre hK (hP.sub (ws' := rr_wR g (fun k => ad (12 + k)) (v1.2 1) ++ rr_wR g ad (v1.2 0)) [13, 14, 15, 16, 17, 18, 19, 20, 21, 22, 23, 24, 1, 2, 3, 4, 5, 6, 7, 8, 9, 10, 11, 12] rfl)⟩ rfl rfl hl.1 rfl (lv_room (Nat.le_of_ble_eq_true rfl)) dX4_without_20 ⟨Nat.zero_le _, Nat.zero_le _⟩) ?_
    refine lv_goto (tgt := 31) hx hb dX4_without_23 (by decide) ?_
    exact hret _ _ _ _ _ _ h hP hD hS dX4_without_31
-- RoomRing.count
abbrev rm_X4_count : Room := { frames := 2, cells := 0, slots := 0, locals := 35 }
theorem hd_X4_count : yX4_count.cls ≠ "java/lang/invoke/MethodHandle" ∧ yX4_count.cls ≠ "java/lang/invoke/VarHandle" ∧ (parseMethodDescriptor yX4_count.desc).map (fun d => d.parameters.length) = some 1 := by decide +kernel
set_option maxHeartbeats 4000000 in
set_option maxRecDepth 100000 in
theorem kX4_count (l : Launch) (g : rr_G) (a : Nat) (ad : Nat → Nat) (sz : Nat) (x1 : Int) (Ω : (Nat → rr_T)) (out : (Int × (Nat → rr_T))) (h : M4_count x1 Ω = some out) : Met l yX4_count wsX4_count rm_X4_count (rr_P g [.ref a, .int (rr_i x1)] (rr_wC g a ad Ω) sz) (rr_Qi g out.1 (rr_wC g a ad out.2) (va_A (rr_wC g a ad Ω) sz)) 0 0 (va_A (rr_wC g a ad Ω) sz) := by
  refine rr_rwI (cc := cX4_count) (maxL := 2) (fun Ω => rr_wC g a ad Ω) Ω out (by decide) rfl (Nat.le_of_ble_eq_true rfl) ?_
  intro p e s m ar below meth c Q ls A hx hb hml hown hts hK hA hP hD hS hret hl
  have hP : va_P g.1 vwCl (rr_wC g a ad Ω) s.heap := hP
  have hD : va_D A (rr_wC g a ad Ω) := hD
  have hown : s.vm.findClass RX4 = some m.cls := hown
  have hl : lv_has ls 2 [(0, .ref a), (1, .int (rr_i x1))] := hl
  have hinX1 : ∀ w ∈ u_ws RX1 TX1 8, w ∈ wsX4_count := by decide +kernel
  have hinX3 : ∀ w ∈ u_ws RX3 TX3 7, w ∈ wsX4_count := by decide +kernel
  have hinX4 : ∀ w ∈ u_ws RX4 TX4 7, w ∈ wsX4_count := by decide +kernel
  have hk_0 : (Cond.fieldLink RX4 12 "RoomRing" "now" "LRoomRing$Ring;").before ar s = true := hts _ (List.mem_of_getElem? (i := 1) (by decide +kernel))
  have hk_1 : (Cond.fieldLink RX4 58 "RoomRing$Ring" "stock" "LRoomRing$Stock;").before ar s = true := hts _ (List.mem_of_getElem? (i := 2) (by decide +kernel))
  have hk_2 : (Cond.fieldLink RX4 103 "RoomRing$Stock" "hostCount" "I").before ar s = true := hts _ (List.mem_of_getElem? (i := 3) (by decide +kernel))
  have hk_3 : (Cond.fieldLink RX4 106 "RoomRing$Stock" "keyCount" "I").before ar s = true := hts _ (List.mem_of_getElem? (i := 4) (by decide +kernel))
  have hk_4 : (Cond.fieldLink RX4 109 "RoomRing$Stock" "extraShare" "I").before ar s = true := hts _ (List.mem_of_getElem? (i := 5) (by decide +kernel))
  have hk_5 : (Cond.fieldLink RX4 116 "RoomRing$Stock" "moved" "I").before ar s = true := hts _ (List.mem_of_getElem? (i := 6) (by decide +kernel))
  unfold M4_count at h
  refine lv_iload_n hx hb dX4_count_0 rfl (lv_at hl 1 rfl) ?_
  obtain ⟨hg1, h⟩ := rr_c_some h
  have hv2 : (rr_i x1).toInt = x1 := rr_to_i hg1
  by_cases c3 : x1 = 0
  · rw [if_pos c3] at h
    refine lv_tableIn (off := 51) (tgt := 52) hx hb dX4_count_1 (by rw [hv2, c3]; decide) (by rw [hv2, c3]; decide) (by rw [hv2, c3]; rfl) (by decide) ?_
    refine lv_aload_n hx hb dX4_count_52 rfl (lv_at hl 0 rfl) ?_
    refine va_get (D := g.1) (ci := 4) (v := .ref (ad 0)) (C := RX4) (T := TX4) (N := 7) hx hb hts hinX4 hown hK.1 hP 0 rfl rfl 0 (by decide) hk_0 (fun _ h9 => h9) rfl dX4_count_53 ?_
    refine va_get (D := g.1) (ci := 1) (v := .ref (ad 8)) (C := RX1) (T := TX1) (N := 8) hx hb hts hinX1 hown hK.1 hP 1 rfl rfl 0 (by decide) hk_1 (fun _ h9 => h9) rfl dX4_count_56 ?_
    refine va_get (D := g.1) (ci := 3) (v := .int (rr_i ((Ω 0) 3 0))) (C := RX3) (T := TX3) (N := 7) hx hb hts hinX3 hown hK.1 hP 9 rfl rfl 3 (by decide) hk_2 (fun _ h9 => h9) rfl dX4_count_59 ?_
    exact hret _ _ _ _ _ _ h hP hD hS dX4_count_62
  · rw [if_neg c3] at h
    by_cases c4 : x1 = 1
    · rw [if_pos c4] at h
      refine lv_tableIn (off := 62) (tgt := 63) hx hb dX4_count_1 (by rw [hv2, c4]; decide) (by rw [hv2, c4]; decide) (by rw [hv2, c4]; rfl) (by decide) ?_
      refine lv_aload_n hx hb dX4_count_63 rfl (lv_at hl 0 rfl) ?_
      refine va_get (D := g.1) (ci := 4) (v := .ref (ad 0)) (C := RX4) (T := TX4) (N := 7) hx hb hts hinX4 hown hK.1 hP 0 rfl rfl 0 (by decide) hk_0 (fun _ h9 => h9) rfl dX4_count_64 ?_
      refine va_get (D := g.1) (ci := 1) (v := .ref (ad 8)) (C := RX1) (T := TX1) (N := 8) hx hb hts hinX1 hown hK.1 hP 1 rfl rfl 0 (by decide) hk_1 (fun _ h9 => h9) rfl dX4_count_67 ?_
      refine va_get (D := g.1) (ci := 3) (v := .int (rr_i ((Ω 0) 4 0))) (C := RX3) (T := TX3) (N := 7) hx hb hts hinX3 hown hK.1 hP 9 rfl rfl 4 (by decide) hk_3 (fun _ h9 => h9) rfl dX4_count_70 ?_
      exact hret _ _ _ _ _ _ h hP hD hS dX4_count_73
    · rw [if_neg c4] at h
      by_cases c5 : x1 = 2
      · rw [if_pos c5] at h
        refine lv_tableIn (off := 73) (tgt := 74) hx hb dX4_count_1 (by rw [hv2, c5]; decide) (by rw [hv2, c5]; decide) (by rw [hv2, c5]; rfl) (by decide) ?_
        refine lv_aload_n hx hb dX4_count_74 rfl (lv_at hl 0 rfl) ?_
        refine va_get (D := g.1) (ci := 4) (v := .ref (ad 0)) (C := RX4) (T := TX4) (N := 7) hx hb hts hinX4 hown hK.1 hP 0 rfl rfl 0 (by decide) hk_0 (fun _ h9 => h9) rfl dX4_count_75 ?_
        refine va_get (D := g.1) (ci := 1) (v := .ref (ad 8)) (C := RX1) (T := TX1) (N := 8) hx hb hts hinX1 hown hK.1 hP 1 rfl rfl 0 (by decide) hk_1 (fun _ h9 => h9) rfl dX4_count_78 ?_
        refine va_get (D := g.1) (ci := 3) (v := .int (rr_i ((Ω 0) 5 0))) (C := RX3) (T := TX3) (N := 7) hx hb hts hinX3 hown hK.1 hP 9 rfl rfl 5 (by decide) hk_4 (fun _ h9 => h9) rfl dX4_count_81 ?_
        exact hret _ _ _ _ _ _ h hP hD hS dX4_count_84
      · rw [if_neg c5] at h
        by_cases c6 : x1 = 3
        · rw [if_pos c6] at h
          refine lv_tableIn (off := 84) (tgt := 85) hx hb dX4_count_1 (by rw [hv2, c6]; decide) (by rw [hv2, c6]; decide) (by rw [hv2, c6]; rfl) (by decide) ?_
          refine rr_iconst hx hb dX4_count_85 ?_
          refine lv_aload_n hx hb dX4_count_86 rfl (lv_at hl 0 rfl) ?_
          refine va_get (D := g.1) (ci := 4) (v := .ref (ad 0)) (C := RX4) (T := TX4) (N := 7) hx hb hts hinX4 hown hK.1 hP 0 rfl rfl 0 (by decide) hk_0 (fun _ h9 => h9) rfl dX4_count_87 ?_
          refine va_get (D := g.1) (ci := 1) (v := .ref (ad 8)) (C := RX1) (T := TX1) (N := 8) hx hb hts hinX1 hown hK.1 hP 1 rfl rfl 0 (by decide) hk_1 (fun _ h9 => h9) rfl dX4_count_90 ?_
          obtain ⟨v7, hw8, h⟩ := rr_b_some h
          refine rr_callI (va_runV (As := []) (rest := [.int (rr_i 2)]) ⟨hx, hb, hml, hown, hts⟩ (kX3_allWeights l g (fun k => ad (8 + k)) (Ω 0) v7 hw8) (cwV 0 hts gX4_count_X3_allWeights rfl rfl rfl ⟨rfl, hd_X3_allWeights⟩ ⟨Nat.le_of_ble_eq_true rfl, Nat.le_of_ble_eq_true rfl⟩) ⟨rr_R_blind, va_recv hK.1 (hP.sub (ws' := rr_wS g (fun k => ad (8 + k)) (Ω 0)) [9, 10, 11, 12] rfl) (ci := 3) (q0 := 0) rfl rfl, rr_R_pre hK (hP.sub (ws' := rr_wS g (fun k => ad (8 + k)) (Ω 0)) [9, 10, 11, 12] rfl)⟩ rfl rfl hl.1 rfl (lv_room (Nat.le_of_ble_eq_true rfl)) dX4_count_93 ⟨Nat.zero_le _, Nat.zero_le _⟩) ?_
          refine rr_imul hx hb dX4_count_96 ?_
          exact hret _ _ _ _ _ _ h hP hD hS dX4_count_97
        · rw [if_neg c6] at h
          by_cases c9 : x1 = 4
          · rw [if_pos c9] at h
            refine lv_tableIn (off := 97) (tgt := 98) hx hb dX4_count_1 (by rw [hv2, c9]; decide) (by rw [hv2, c9]; decide) (by rw [hv2, c9]; rfl) (by decide) ?_
            refine lv_aload_n hx hb dX4_count_98 rfl (lv_at hl 0 rfl) ?_
            refine va_get (D := g.1) (ci := 4) (v := .ref (ad 0)) (C := RX4) (T := TX4) (N := 7) hx hb hts hinX4 hown hK.1 hP 0 rfl rfl 0 (by decide) hk_0 (fun _ h9 => h9) rfl dX4_count_99 ?_
            refine va_get (D := g.1) (ci := 1) (v := .ref (ad 8)) (C := RX1) (T := TX1) (N := 8) hx hb hts hinX1 hown hK.1 hP 1 rfl rfl 0 (by decide) hk_1 (fun _ h9 => h9) rfl dX4_count_102 ?_
            refine va_get (D := g.1) (ci := 3) (v := .int (rr_i ((Ω 0) 6 0))) (C := RX3) (T := TX3) (N := 7) hx hb hts hinX3 hown hK.1 hP 9 rfl rfl 6 (by decide) hk_5 (fun _ h9 => h9) rfl dX4_count_105 ?_
            exact hret _ _ _ _ _ _ h hP hD hS dX4_count_108
          · rw [if_neg c9] at h
            by_cases c10 : x1 = 5
            · rw [if_pos c10] at h
              refine lv_tableIn (off := 108) (tgt := 109) hx hb dX4_count_1 (by rw [hv2, c10]; decide) (by rw [hv2, c10]; decide) (by rw [hv2, c10]; rfl) (by decide) ?_
              refine lv_aload_n hx hb dX4_count_109 rfl (lv_at hl 0 rfl) ?_
              refine va_get (D := g.1) (ci := 4) (v := .ref (ad 0)) (C := RX4) (T := TX4) (N := 7) hx hb hts hinX4 hown hK.1 hP 0 rfl rfl 0 (by decide) hk_0 (fun _ h9 => h9) rfl dX4_count_110 ?_
              obtain ⟨v11, hw12, h⟩ := rr_b_some h
              refine rr_callI (va_runV (As := []) (rest := []) ⟨hx, hb, hml, hown, hts⟩ (kX1_fullHosts l g ad (Ω 0) v11 hw12) (cwV 0 hts gX4_count_X1_fullHosts rfl rfl rfl ⟨rfl, hd_X1_fullHosts⟩ ⟨Nat.le_of_ble_eq_true rfl, Nat.le_of_ble_eq_true rfl⟩) ⟨rr_R_blind, va_recv hK.1 (hP.sub (ws' := rr_wR g ad (Ω 0)) [1, 2, 3, 4, 5, 6, 7, 8, 9, 10, 11, 12] rfl) (ci := 1) (q0 := 0) rfl rfl, rr_R_pre hK (hP.sub (ws' := rr_wR g ad (Ω 0)) [1, 2, 3, 4, 5, 6, 7, 8, 9, 10, 11, 12] rfl)⟩ rfl rfl hl.1 rfl (lv_room (Nat.le_of_ble_eq_true rfl)) dX4_count_113 ⟨Nat.zero_le _, Nat.zero_le _⟩) ?_
              exact hret _ _ _ _ _ _ h hP hD hS dX4_count_116
            · rw [if_neg c10] at h
              by_cases c13 : x1 = 6
              · rw [if_pos c13] at h
                refine lv_tableIn (off := 116) (tgt := 117) hx hb dX4_count_1 (by rw [hv2, c13]; decide) (by rw [hv2, c13]; decide) (by rw [hv2, c13]; rfl) (by decide) ?_
                refine lv_aload_n hx hb dX4_count_117 rfl (lv_at hl 0 rfl) ?_
                refine va_get (D := g.1) (ci := 4) (v := .ref (ad 0)) (C := RX4) (T := TX4) (N := 7) hx hb hts hinX4 hown hK.1 hP 0 rfl rfl 0 (by decide) hk_0 (fun _ h9 => h9) rfl dX4_count_118 ?_
                obtain ⟨v14, hw15, h⟩ := rr_b_some h
                refine rr_callI (va_runV (As := []) (rest := []) ⟨hx, hb, hml, hown, hts⟩ (kX1_allPassed l g ad (Ω 0) v14 hw15) (cwV 0 hts gX4_count_X1_allPassed rfl rfl rfl ⟨rfl, hd_X1_allPassed⟩ ⟨Nat.le_of_ble_eq_true rfl, Nat.le_of_ble_eq_true rfl⟩) ⟨rr_R_blind, va_recv hK.1 (hP.sub (ws' := rr_wR g ad (Ω 0)) [1, 2, 3, 4, 5, 6, 7, 8, 9, 10, 11, 12] rfl) (ci := 1) (q0 := 0) rfl rfl, rr_R_pre hK (hP.sub (ws' := rr_wR g ad (Ω 0)) [1, 2, 3, 4, 5, 6, 7, 8, 9, 10, 11, 12] rfl)⟩ rfl rfl hl.1 rfl (lv_room (Nat.le_of_ble_eq_true rfl)) dX4_count_121 ⟨Nat.zero_le _, Nat.zero_le _⟩) ?_
                exact hret _ _ _ _ _ _ h hP hD hS dX4_count_124
              · rw [if_neg c13] at h
                by_cases c16 : x1 = 7
                · rw [if_pos c16] at h
                  refine lv_tableIn (off := 124) (tgt := 125) hx hb dX4_count_1 (by rw [hv2, c16]; decide) (by rw [hv2, c16]; decide) (by rw [hv2, c16]; rfl) (by decide) ?_
                  refine lv_aload_n hx hb dX4_count_125 rfl (lv_at hl 0 rfl) ?_
                  refine va_get (D := g.1) (ci := 4) (v := .ref (ad 0)) (C := RX4) (T := TX4) (N := 7) hx hb hts hinX4 hown hK.1 hP 0 rfl rfl 0 (by decide) hk_0 (fun _ h9 => h9) rfl dX4_count_126 ?_
                  obtain ⟨v17, hw18, h⟩ := rr_b_some h
                  refine rr_callI (va_runV (As := []) (rest := []) ⟨hx, hb, hml, hown, hts⟩ (kX1_mostLoad l g ad (Ω 0) v17 hw18) (cwV 0 hts gX4_count_X1_mostLoad rfl rfl rfl ⟨rfl, hd_X1_mostLoad⟩ ⟨Nat.le_of_ble_eq_true rfl, Nat.le_of_ble_eq_true rfl⟩) ⟨rr_R_blind, va_recv hK.1 (hP.sub (ws' := rr_wR g ad (Ω 0)) [1, 2, 3, 4, 5, 6, 7, 8, 9, 10, 11, 12] rfl) (ci := 1) (q0 := 0) rfl rfl, rr_R_pre hK (hP.sub (ws' := rr_wR g ad (Ω 0)) [1, 2, 3, 4, 5, 6, 7, 8, 9, 10, 11, 12] rfl)⟩ rfl rfl hl.1 rfl (lv_room (Nat.le_of_ble_eq_true rfl)) dX4_count_129 ⟨Nat.zero_le _, Nat.zero_le _⟩) ?_
                  exact hret _ _ _ _ _ _ h hP hD hS dX4_count_132
                · rw [if_neg c16] at h
                  by_cases c19 : x1 = 8
                  · rw [if_pos c19] at h
                    refine lv_tableIn (off := 132) (tgt := 133) hx hb dX4_count_1 (by rw [hv2, c19]; decide) (by rw [hv2, c19]; decide) (by rw [hv2, c19]; rfl) (by decide) ?_
                    refine lv_aload_n hx hb dX4_count_133 rfl (lv_at hl 0 rfl) ?_
                    refine va_get (D := g.1) (ci := 4) (v := .ref (ad 0)) (C := RX4) (T := TX4) (N := 7) hx hb hts hinX4 hown hK.1 hP 0 rfl rfl 0 (by decide) hk_0 (fun _ h9 => h9) rfl dX4_count_134 ?_
                    refine va_get (D := g.1) (ci := 1) (v := .ref (ad 8)) (C := RX1) (T := TX1) (N := 8) hx hb hts hinX1 hown hK.1 hP 1 rfl rfl 0 (by decide) hk_1 (fun _ h9 => h9) rfl dX4_count_137 ?_
                    obtain ⟨v20, hw21, h⟩ := rr_b_some h
                    refine rr_callI (va_runV (As := []) (rest := []) ⟨hx, hb, hml, hown, hts⟩ (kX3_allWeights l g (fun k => ad (8 + k)) (Ω 0) v20 hw21) (cwV 0 hts gX4_count_X3_allWeights rfl rfl rfl ⟨rfl, hd_X3_allWeights⟩ ⟨Nat.le_of_ble_eq_true rfl, Nat.le_of_ble_eq_true rfl⟩) ⟨rr_R_blind, va_recv hK.1 (hP.sub (ws' := rr_wS g (fun k => ad (8 + k)) (Ω 0)) [9, 10, 11, 12] rfl) (ci := 3) (q0 := 0) rfl rfl, rr_R_pre hK (hP.sub (ws' := rr_wS g (fun k => ad (8 + k)) (Ω 0)) [9, 10, 11, 12] rfl)⟩ rfl rfl hl.1 rfl (lv_room (Nat.le_of_ble_eq_true rfl)) dX4_count_140 ⟨Nat.zero_le _, Nat.zero_le _⟩) ?_
                    exact hret _ _ _ _ _ _ h hP hD hS dX4_count_143
                  · rw [if_neg c19] at h
                    by_cases hr24 : x1 < 0 ∨ 8 < x1
                    · refine lv_tableOut (tgt := 144) hx hb dX4_count_1 (by rw [hv2]; exact hr24) (by decide) ?_
                      refine lv_aload_n hx hb dX4_count_144 rfl (lv_at hl 0 rfl) ?_
                      refine rr_bipush hx hb dX4_count_145 (by decide +kernel) ?_
                      obtain ⟨v22, hw23, h⟩ := rr_b_some h
                      refine rr_allI hD hS hA (va_runV (As := [.int (rr_i (-2))]) (rest := []) ⟨hx, hb, hml, hown, hts⟩ (kX4_refuse l g a ad _ (-2) Ω v22 hw23) (cwV 1 hts gX4_count_X4_refuse rfl rfl rfl ⟨rfl, hd_X4_refuse⟩ ⟨Nat.le_of_ble_eq_true rfl, Nat.le_of_ble_eq_true rfl⟩) ⟨rr_P_blind, va_recv hK.1 hP (ci := 4) (q0 := 0) rfl rfl, rr_P_pre hK hP hD⟩ rfl rfl hl.1 rfl (lv_room (Nat.le_of_ble_eq_true rfl)) dX4_count_147 ⟨Nat.zero_le _, Nat.zero_le _⟩) (fun H locs hP hD hS => ?_)
                      exact hret _ _ _ _ _ _ h hP hD hS dX4_count_150
                    · exact absurd (show x1 < 0 ∨ 8 < x1 by omega) hr24
-- RoomRing.type
abbrev rm_X4_type : Room := { frames := 1, cells := 0, slots := 0, locals := 21 }
theorem hd_X4_type : yX4_type.cls ≠ "java/lang/invoke/MethodHandle" ∧ yX4_type.cls ≠ "java/lang/invoke/VarHandle" ∧ (parseMethodDescriptor yX4_type.desc).map (fun d => d.parameters.length) = some 1 := by decide +kernel
set_option maxHeartbeats 4000000 in
set_option maxRecDepth 100000 in
theorem kX4_type (l : Launch) (g : rr_G) (a : Nat) (ad : Nat → Nat) (sz : Nat) (x1 : Int) (Ω : (Nat → rr_T)) (out : (Int × (Nat → rr_T))) (h : M4_type x1 Ω = some out) : Met l yX4_type wsX4_type rm_X4_type (rr_P g [.ref a, .int (rr_i x1)] (rr_wC g a ad Ω) sz) (rr_Qi g out.1 (rr_wC g a ad out.2) (va_A (rr_wC g a ad Ω) sz)) 0 0 (va_A (rr_wC g a ad Ω) sz) := by
  refine rr_rwI (cc := cX4_type) (maxL := 2) (fun Ω => rr_wC g a ad Ω) Ω out (by decide) rfl (Nat.le_of_ble_eq_true rfl) ?_
  intro p e s m ar below meth c Q ls A hx hb hml hown hts hK hA hP hD hS hret hl
  have hP : va_P g.1 vwCl (rr_wC g a ad Ω) s.heap := hP
  have hD : va_D A (rr_wC g a ad Ω) := hD
  have hown : s.vm.findClass RX4 = some m.cls := hown
  have hl : lv_has ls 2 [(0, .ref a), (1, .int (rr_i x1))] := hl
  have hinX2 : ∀ w ∈ u_ws RX2 TX2 10, w ∈ wsX4_type := by decide +kernel
  have hinX4 : ∀ w ∈ u_ws RX4 TX4 7, w ∈ wsX4_type := by decide +kernel
  have hk_0 : (Cond.fieldLink RX4 29 "RoomRing" "script" "LRoomRing$Script;").before ar s = true := hts _ (List.mem_of_getElem? (i := 1) (by decide +kernel))
  have hk_1 : (Cond.fieldLink RX4 131 "RoomRing$Script" "length" "I").before ar s = true := hts _ (List.mem_of_getElem? (i := 2) (by decide +kernel))
  unfold M4_type at h
  refine lv_iload_n hx hb dX4_type_0 rfl (lv_at hl 1 rfl) ?_
  obtain ⟨hg1, h⟩ := rr_c_some h
  refine rr_if_lt (tgt := 10) hx hb dX4_type_1 (by decide) hg1 (fun c2 => ?_) (fun c2 => ?_)
  · rw [if_pos c2] at h
    refine lv_aload_n hx hb dX4_type_10 rfl (lv_at hl 0 rfl) ?_
    refine rr_bipush hx hb dX4_type_11 (by decide +kernel) ?_
    obtain ⟨v3, hw4, h⟩ := rr_b_some h
    refine rr_allI hD hS hA (va_runV (As := [.int (rr_i (-2))]) (rest := []) ⟨hx, hb, hml, hown, hts⟩ (kX4_refuse l g a ad _ (-2) Ω v3 hw4) (cwV 1 hts gX4_type_X4_refuse rfl rfl rfl ⟨rfl, hd_X4_refuse⟩ ⟨Nat.le_of_ble_eq_true rfl, Nat.le_of_ble_eq_true rfl⟩) ⟨rr_P_blind, va_recv hK.1 hP (ci := 4) (q0 := 0) rfl rfl, rr_P_pre hK hP hD⟩ rfl rfl hl.1 rfl (lv_room (Nat.le_of_ble_eq_true rfl)) dX4_type_13 ⟨Nat.zero_le _, Nat.zero_le _⟩) (fun H locs hP hD hS => ?_)
    exact hret _ _ _ _ _ _ h hP hD hS dX4_type_16
  · rw [if_neg c2] at h
    refine lv_iload_n hx hb dX4_type_4 rfl (lv_at hl 1 rfl) ?_
    refine rr_bipush hx hb dX4_type_5 (by decide +kernel) ?_
    refine rr_icmp_le (tgt := 17) hx hb dX4_type_7 (by decide) hg1 (by decide) (fun c5 => ?_) (fun c5 => ?_)
    · rw [if_pos c5] at h
      refine lv_aload_n hx hb dX4_type_17 rfl (lv_at hl 0 rfl) ?_
      refine va_get (D := g.1) (ci := 4) (v := .ref (ad 46)) (C := RX4) (T := TX4) (N := 7) hx hb hts hinX4 hown hK.1 hP 0 rfl rfl 3 (by decide) hk_0 (fun _ h9 => h9) rfl dX4_type_18 ?_
      refine lv_iload_n hx hb dX4_type_21 rfl (lv_at hl 1 rfl) ?_
      obtain ⟨v6, hw7, h⟩ := rr_b_some h
      refine rr_partI (wc := rr_wT g (fun k => ad (46 + k)) (Ω 2)) (wr := rr_pick (rr_wC g a ad Ω) [0, 1, 2, 3, 4, 5, 6, 7, 8, 9, 10, 11, 12, 13, 14, 15, 16, 17, 18, 19, 20, 21, 22, 23, 24, 25, 26, 27, 28, 29, 30, 31, 32, 33, 34, 35, 36, 37, 38, 39, 40, 41, 42, 43, 44, 45, 46]) hP hD hS hA [47, 48, 49, 50, 51] [0, 1, 2, 3, 4, 5, 6, 7, 8, 9, 10, 11, 12, 13, 14, 15, 16, 17, 18, 19, 20, 21, 22, 23, 24, 25, 26, 27, 28, 29, 30, 31, 32, 33, 34, 35, 36, 37, 38, 39, 40, 41, 42, 43, 44, 45, 46] rfl rfl (by decide) (by decide) (va_runV (As := [.int (rr_i x1)]) (rest := []) ⟨hx, hb, hml, hown, hts⟩ (kX2_append l g (fun k => ad (46 + k)) _ x1 (Ω 2) v6 hw7) (cwV 1 hts gX4_type_X2_append rfl rfl rfl ⟨rfl, hd_X2_append⟩ ⟨Nat.le_of_ble_eq_true rfl, Nat.le_of_ble_eq_true rfl⟩) ⟨rr_P_blind, va_recv hK.1 (hP.sub (ws' := rr_wT g (fun k => ad (46 + k)) (Ω 2)) [47, 48, 49, 50, 51] rfl) (ci := 2) (q0 := 0) rfl rfl, rr_P_pre hK (hP.sub (ws' := rr_wT g (fun k => ad (46 + k)) (Ω 2)) [47, 48, 49, 50, 51] rfl) (hD.sub (ws' := rr_wT g (fun k => ad (46 + k)) (Ω 2)) [47, 48, 49, 50, 51] (by decide) rfl)⟩ rfl rfl hl.1 rfl (lv_room (Nat.le_of_ble_eq_true rfl)) dX4_type_22 ⟨Nat.zero_le _, Nat.zero_le _⟩) (fun H locs hP hD hS => ?_)
      have hP := hP.sub (ws' := rr_wC g a ad (rr_z Ω 2 v6.2)) [0, 1, 2, 3, 4, 5, 6, 7, 8, 9, 10, 11, 12, 13, 14, 15, 16, 17, 18, 19, 20, 21, 22, 23, 24, 25, 26, 27, 28, 29, 30, 31, 32, 33, 34, 35, 36, 37, 38, 39, 40, 41, 42, 43, 44, 45, 46, 47, 48, 49, 50, 51] rfl
      have hD := hD.sub (ws' := rr_wC g a ad (rr_z Ω 2 v6.2)) [0, 1, 2, 3, 4, 5, 6, 7, 8, 9, 10, 11, 12, 13, 14, 15, 16, 17, 18, 19, 20, 21, 22, 23, 24, 25, 26, 27, 28, 29, 30, 31, 32, 33, 34, 35, 36, 37, 38, 39, 40, 41, 42, 43, 44, 45, 46, 47, 48, 49, 50, 51] (by decide) rfl
      obtain ⟨hg8, h⟩ := rr_c_some h
      refine rr_if_eq (tgt := 38) hx hb dX4_type_25 (by decide) hg8 (fun c9 => ?_) (fun c9 => ?_)
      · rw [if_pos c9] at h
        refine lv_aload_n hx hb dX4_type_38 rfl (lv_at hl 0 rfl) ?_
        refine rr_bipush hx hb dX4_type_39 (by decide +kernel) ?_
        obtain ⟨v10, hw11, h⟩ := rr_b_some h
        refine rr_allI hD hS hA (va_runV (As := [.int (rr_i (-4))]) (rest := []) ⟨hx, hb, hml, hown, hts⟩ (kX4_refuse l g a ad _ (-4) (rr_z Ω 2 v6.2) v10 hw11) (cwV 1 hts gX4_type_X4_refuse rfl rfl rfl ⟨rfl, hd_X4_refuse⟩ ⟨Nat.le_of_ble_eq_true rfl, Nat.le_of_ble_eq_true rfl⟩) ⟨rr_P_blind, va_recv hK.1 hP (ci := 4) (q0 := 0) rfl rfl, rr_P_pre hK hP hD⟩ rfl rfl hl.1 rfl (lv_room (Nat.le_of_ble_eq_true rfl)) dX4_type_41 ⟨Nat.zero_le _, Nat.zero_le _⟩) (fun H locs hP hD hS => ?_)
        exact hret _ _ _ _ _ _ h hP hD hS dX4_type_44
      · rw [if_neg c9] at h
        refine lv_aload_n hx hb dX4_type_28 rfl (lv_at hl 0 rfl) ?_
        refine va_get (D := g.1) (ci := 4) (v := .ref (ad 46)) (C := RX4) (T := TX4) (N := 7) hx hb hts hinX4 hown hK.1 hP 0 rfl rfl 3 (by decide) hk_0 (fun _ h9 => h9) rfl dX4_type_29 ?_
        refine va_get (D := g.1) (ci := 2) (v := .int (rr_i (v6.2 1 0))) (C := RX2) (T := TX2) (N := 10) hx hb hts hinX2 hown hK.1 hP 47 rfl rfl 1 (by decide) hk_1 (fun _ h9 => h9) rfl dX4_type_32 ?_
        refine lv_goto (tgt := 44) hx hb dX4_type_35 (by decide) ?_
        exact hret _ _ _ _ _ _ h hP hD hS dX4_type_44
    · rw [if_neg c5] at h
      refine lv_aload_n hx hb dX4_type_10 rfl (lv_at hl 0 rfl) ?_
      refine rr_bipush hx hb dX4_type_11 (by decide +kernel) ?_
      obtain ⟨v12, hw13, h⟩ := rr_b_some h
      refine rr_allI hD hS hA (va_runV (As := [.int (rr_i (-2))]) (rest := []) ⟨hx, hb, hml, hown, hts⟩ (kX4_refuse l g a ad _ (-2) Ω v12 hw13) (cwV 1 hts gX4_type_X4_refuse rfl rfl rfl ⟨rfl, hd_X4_refuse⟩ ⟨Nat.le_of_ble_eq_true rfl, Nat.le_of_ble_eq_true rfl⟩) ⟨rr_P_blind, va_recv hK.1 hP (ci := 4) (q0 := 0) rfl rfl, rr_P_pre hK hP hD⟩ rfl rfl hl.1 rfl (lv_room (Nat.le_of_ble_eq_true rfl)) dX4_type_13 ⟨Nat.zero_le _, Nat.zero_le _⟩) (fun H locs hP hD hS => ?_)
      exact hret _ _ _ _ _ _ h hP hD hS dX4_type_16
-- RoomRing.clear
abbrev rm_X4_clear : Room := { frames := 0, cells := 0, slots := 0, locals := 0 }
theorem hd_X4_clear : yX4_clear.cls ≠ "java/lang/invoke/MethodHandle" ∧ yX4_clear.cls ≠ "java/lang/invoke/VarHandle" ∧ (parseMethodDescriptor yX4_clear.desc).map (fun d => d.parameters.length) = some 0 := by decide +kernel
set_option maxHeartbeats 4000000 in
set_option maxRecDepth 100000 in
theorem kX4_clear (l : Launch) (g : rr_G) (a : Nat) (ad : Nat → Nat) (sz : Nat) (Ω : (Nat → rr_T)) (out : (Int × (Nat → rr_T))) (h : M4_clear Ω = some out) : Met l yX4_clear wsX4_clear rm_X4_clear (rr_P g [.ref a] (rr_wC g a ad Ω) sz) (rr_Qi g out.1 (rr_wC g a ad out.2) (va_A (rr_wC g a ad Ω) sz)) 0 0 (va_A (rr_wC g a ad Ω) sz) := by
  refine rr_rwI (cc := cX4_clear) (maxL := 2) (fun Ω => rr_wC g a ad Ω) Ω out (by decide) rfl (Nat.le_of_ble_eq_true rfl) ?_
  intro p e s m ar below meth c Q ls A hx hb hml hown hts hK hA hP hD hS hret hl
  have hP : va_P g.1 vwCl (rr_wC g a ad Ω) s.heap := hP
  have hD : va_D A (rr_wC g a ad Ω) := hD
  have hown : s.vm.findClass RX4 = some m.cls := hown
  have hl : lv_has ls 2 [(0, .ref a)] := hl
  have hinX2 : ∀ w ∈ u_ws RX2 TX2 10, w ∈ wsX4_clear := by decide +kernel
  have hinX4 : ∀ w ∈ u_ws RX4 TX4 7, w ∈ wsX4_clear := by decide +kernel
  have hk_0 : (Cond.fieldLink RX4 29 "RoomRing" "script" "LRoomRing$Script;").before ar s = true := hts _ (List.mem_of_getElem? (i := 1) (by decide +kernel))
  have hk_1 : (Cond.fieldLink RX4 131 "RoomRing$Script" "length" "I").before ar s = true := hts _ (List.mem_of_getElem? (i := 2) (by decide +kernel))
  unfold M4_clear at h
  refine lv_aload_n hx hb dX4_clear_0 rfl (lv_at hl 0 rfl) ?_
  refine va_get (D := g.1) (ci := 4) (v := .ref (ad 46)) (C := RX4) (T := TX4) (N := 7) hx hb hts hinX4 hown hK.1 hP 0 rfl rfl 3 (by decide) hk_0 (fun _ h9 => h9) rfl dX4_clear_1 ?_
  refine va_get (D := g.1) (ci := 2) (v := .int (rr_i ((Ω 2) 1 0))) (C := RX2) (T := TX2) (N := 10) hx hb hts hinX2 hown hK.1 hP 47 rfl rfl 1 (by decide) hk_1 (fun _ h9 => h9) rfl dX4_clear_4 ?_
  refine lv_istore_n (lv' := [(1, .int (rr_i ((Ω 2) 1 0))), (0, .ref a)]) hx hb dX4_clear_7 rfl hl (by decide) rfl (fun ls hl => ?_)
  refine lv_aload_n hx hb dX4_clear_8 rfl (lv_at hl 1 rfl) ?_
  refine va_get (D := g.1) (ci := 4) (v := .ref (ad 46)) (C := RX4) (T := TX4) (N := 7) hx hb hts hinX4 hown hK.1 hP 0 rfl rfl 3 (by decide) hk_0 (fun _ h9 => h9) rfl dX4_clear_9 ?_
  refine rr_iconst hx hb dX4_clear_12 ?_
  refine va_put (D := g.1) (ci := 2) (v := .int (rr_i 0)) (ty := .int) (C := RX2) (T := TX2) (N := 10) hx hb hts hinX2 tyX2 tyX2_ok nmX2 hown hK.1 hP hD hS 47 rfl rfl 1 (by decide) hk_1 (fun _ h9 => h9) rfl (by decide +kernel) rfl rfl (Nat.le_of_ble_eq_true rfl) dX4_clear_13 (fun H locs hP hD hS => ?_)
  have hP : va_P g.1 vwCl (rr_wC g a ad (rr_z Ω 2 (rr_t (Ω 2) 1 0))) H := hP
  have hD : va_D A (rr_wC g a ad (rr_z Ω 2 (rr_t (Ω 2) 1 0))) := hD
  refine lv_iload_n hx hb dX4_clear_16 rfl (lv_at hl 0 rfl) ?_
  exact hret _ _ _ _ _ _ h hP hD hS dX4_clear_17
-- RoomRing.does
abbrev rm_X4_does : Room := { frames := 5, cells := 0, slots := 0, locals := 109 }
theorem hd_X4_does : yX4_does.cls ≠ "java/lang/invoke/MethodHandle" ∧ yX4_does.cls ≠ "java/lang/invoke/VarHandle" ∧ (parseMethodDescriptor yX4_does.desc).map (fun d => d.parameters.length) = some 0 := by decide +kernel
set_option maxHeartbeats 4000000 in
set_option maxRecDepth 100000 in
theorem kX4_does (l : Launch) (g : rr_G) (a : Nat) (ad : Nat → Nat) (sz : Nat) (Ω : (Nat → rr_T)) (out : (Int × (Nat → rr_T))) (h : M4_does Ω = some out) : Met l yX4_does wsX4_does rm_X4_does (rr_P g [.ref a] (rr_wC g a ad Ω) sz) (rr_Qix g out.1 (fun ad => rr_wC g a ad out.2) (va_A (rr_wC g a ad Ω) sz)) 0 0 (va_A (rr_wC g a ad Ω) sz) := by
  refine rr_rwIx (cc := cX4_does) (maxL := 3) (fun ad Ω => rr_wC g a ad Ω) ad Ω out (by decide) rfl (Nat.le_of_ble_eq_true rfl) ?_
  intro p e s m ar below meth c Q ls A hx hb hml hown hts hK hA hP hD hS hret hl
  have hP : va_P g.1 vwCl (rr_wC g a ad Ω) s.heap := hP
  have hD : va_D A (rr_wC g a ad Ω) := hD
  have hown : s.vm.findClass RX4 = some m.cls := hown
  have hl : lv_has ls 3 [(0, .ref a)] := hl
  have hinX1 : ∀ w ∈ u_ws RX1 TX1 8, w ∈ wsX4_does := by decide +kernel
  have hinX2 : ∀ w ∈ u_ws RX2 TX2 10, w ∈ wsX4_does := by decide +kernel
  have hinX4 : ∀ w ∈ u_ws RX4 TX4 7, w ∈ wsX4_does := by decide +kernel
  have hk_0 : (Cond.fieldLink RX4 29 "RoomRing" "script" "LRoomRing$Script;").before ar s = true := hts _ (List.mem_of_getElem? (i := 1) (by decide +kernel))
  have hk_1 : (Cond.fieldLink RX4 16 "RoomRing" "draft" "LRoomRing$Ring;").before ar s = true := hts _ (List.mem_of_getElem? (i := 2) (by decide +kernel))
  have hk_2 : (Cond.fieldLink RX4 58 "RoomRing$Ring" "stock" "LRoomRing$Stock;").before ar s = true := hts _ (List.mem_of_getElem? (i := 3) (by decide +kernel))
  have hk_3 : (Cond.fieldLink RX4 12 "RoomRing" "now" "LRoomRing$Ring;").before ar s = true := hts _ (List.mem_of_getElem? (i := 4) (by decide +kernel))
  have hk_4 : (Cond.fieldLink RX4 141 "RoomRing$Script" "orderCount" "I").before ar s = true := hts _ (List.mem_of_getElem? (i := 5) (by decide +kernel))
  have hk_5 : (Cond.fieldLink RX4 144 "RoomRing$Script" "letters" "[I").before ar s = true := hts _ (List.mem_of_getElem? (i := 6) (by decide +kernel))
  have hk_6 : (Cond.fieldLink RX4 147 "RoomRing$Script" "firsts" "[I").before ar s = true := hts _ (List.mem_of_getElem? (i := 7) (by decide +kernel))
  have hk_7 : (Cond.fieldLink RX4 150 "RoomRing$Script" "seconds" "[I").before ar s = true := hts _ (List.mem_of_getElem? (i := 8) (by decide +kernel))
  unfold M4_does at h
  have hL4_does_37 : ∀ (K : (Nat → rr_T) → Option (Int × (Nat → rr_T))) (n : Nat) (x2 : Int) (Ω : (Nat → rr_T)) (H : Heap) (locs : List Loc) (ls : Array Slot), L4_does_37 K n x2 Ω = some out → va_P g.1 vwCl (rr_wC g a ad Ω) H → va_D A (rr_wC g a ad Ω) → va_S A s.heap H locs → lv_has ls 3 [(0, .ref a), (2, .int (rr_i x2))] → (∀ (τ9 : (Nat → rr_T)) (H : Heap) (locs : List Loc) (ls : Array Slot), K τ9 = some out → va_P g.1 vwCl (rr_wC g a ad τ9) H → va_D A (rr_wC g a ad τ9) → va_S A s.heap H locs → lv_has ls 3 [(0, .ref a)] → W p l e rm_X4_does s m ar below meth c H locs 0 0 Q (F0 m 100 ls [])) → W p l e rm_X4_does s m ar below meth c H locs 0 0 Q (F0 m 37 ls []) := by
    intro K n
    induction n with
    | zero => intro x2 Ω H locs ls h hP hD hS hl hk; cases h
    | succ n ih =>
      intro x2 Ω H locs ls h hP hD hS hl hk
      rw [L4_does_37_s] at h
      refine lv_iload_n hx hb dX4_does_37 rfl (lv_at hl 1 rfl) ?_
      refine lv_aload_n hx hb dX4_does_38 rfl (lv_at hl 0 rfl) ?_
      refine va_get (D := g.1) (ci := 4) (v := .ref (ad 46)) (C := RX4) (T := TX4) (N := 7) hx hb hts hinX4 hown hK.1 hP 0 rfl rfl 3 (by decide) hk_0 (fun _ h9 => h9) rfl dX4_does_39 ?_
      refine va_get (D := g.1) (ci := 2) (v := .int (rr_i ((Ω 2) 5 0))) (C := RX2) (T := TX2) (N := 10) hx hb hts hinX2 hown hK.1 hP 47 rfl rfl 5 (by decide) hk_4 (fun _ h9 => h9) rfl dX4_does_42 ?_
      obtain ⟨hg7, h⟩ := rr_c_some h
      refine rr_icmp_ge (tgt := 100) hx hb dX4_does_45 (by decide) hg7.1 hg7.2 (fun c8 => ?_) (fun c8 => ?_)
      · rw [if_pos c8] at h
        exact hk Ω _ _ ls h hP hD hS (lv_sub hl [0] rfl)
      · rw [if_neg c8] at h
        refine lv_aload_n hx hb dX4_does_48 rfl (lv_at hl 0 rfl) ?_
        refine va_get (D := g.1) (ci := 4) (v := .ref (ad 12)) (C := RX4) (T := TX4) (N := 7) hx hb hts hinX4 hown hK.1 hP 0 rfl rfl 1 (by decide) hk_1 (fun _ h9 => h9) rfl dX4_does_49 ?_
        refine va_get (D := g.1) (ci := 1) (v := .ref (ad 20)) (C := RX1) (T := TX1) (N := 8) hx hb hts hinX1 hown hK.1 hP 13 rfl rfl 0 (by decide) hk_2 (fun _ h9 => h9) rfl dX4_does_52 ?_
        refine lv_aload_n hx hb dX4_does_55 rfl (lv_at hl 0 rfl) ?_
        refine va_get (D := g.1) (ci := 4) (v := .ref (ad 46)) (C := RX4) (T := TX4) (N := 7) hx hb hts hinX4 hown hK.1 hP 0 rfl rfl 3 (by decide) hk_0 (fun _ h9 => h9) rfl dX4_does_56 ?_
        refine va_get (D := g.1) (ci := 2) (v := .ref (ad 48)) (C := RX2) (T := TX2) (N := 10) hx hb hts hinX2 hown hK.1 hP 47 rfl rfl 2 (by decide) hk_5 (fun _ h9 => h9) rfl dX4_does_59 ?_
        refine lv_iload_n hx hb dX4_does_62 rfl (lv_at hl 1 rfl) ?_
        obtain ⟨hg9, h⟩ := rr_c_some h
        refine rr_iald (f := ((Ω 2) 2)) (N := 40) hx hb hK hP 49 rfl rfl (by decide) hg9 dX4_does_63 ?_
        refine lv_aload_n hx hb dX4_does_64 rfl (lv_at hl 0 rfl) ?_
        refine va_get (D := g.1) (ci := 4) (v := .ref (ad 46)) (C := RX4) (T := TX4) (N := 7) hx hb hts hinX4 hown hK.1 hP 0 rfl rfl 3 (by decide) hk_0 (fun _ h9 => h9) rfl dX4_does_65 ?_
        refine va_get (D := g.1) (ci := 2) (v := .ref (ad 49)) (C := RX2) (T := TX2) (N := 10) hx hb hts hinX2 hown hK.1 hP 47 rfl rfl 3 (by decide) hk_6 (fun _ h9 => h9) rfl dX4_does_68 ?_
        refine lv_iload_n hx hb dX4_does_71 rfl (lv_at hl 1 rfl) ?_
        refine rr_iald (f := ((Ω 2) 3)) (N := 40) hx hb hK hP 50 rfl rfl (by decide) hg9 dX4_does_72 ?_
        refine lv_aload_n hx hb dX4_does_73 rfl (lv_at hl 0 rfl) ?_
        refine va_get (D := g.1) (ci := 4) (v := .ref (ad 46)) (C := RX4) (T := TX4) (N := 7) hx hb hts hinX4 hown hK.1 hP 0 rfl rfl 3 (by decide) hk_0 (fun _ h9 => h9) rfl dX4_does_74 ?_
        refine va_get (D := g.1) (ci := 2) (v := .ref (ad 50)) (C := RX2) (T := TX2) (N := 10) hx hb hts hinX2 hown hK.1 hP 47 rfl rfl 4 (by decide) hk_7 (fun _ h9 => h9) rfl dX4_does_77 ?_
        refine lv_iload_n hx hb dX4_does_80 rfl (lv_at hl 1 rfl) ?_
        refine rr_iald (f := ((Ω 2) 4)) (N := 40) hx hb hK hP 51 rfl rfl (by decide) hg9 dX4_does_81 ?_
        obtain ⟨v10, hw11, h⟩ := rr_b_some h
        refine rr_partI (wc := rr_wS g (fun k => ad (20 + k)) (Ω 1)) (wr := rr_pick (rr_wC g a ad Ω) [0, 1, 2, 3, 4, 5, 6, 7, 8, 9, 10, 11, 12, 13, 14, 15, 16, 17, 18, 19, 20, 25, 26, 27, 28, 29, 30, 31, 32, 33, 34, 35, 36, 37, 38, 39, 40, 41, 42, 43, 44, 45, 46, 47, 48, 49, 50, 51]) hP hD hS hA [21, 22, 23, 24] [0, 1, 2, 3, 4, 5, 6, 7, 8, 9, 10, 11, 12, 13, 14, 15, 16, 17, 18, 19, 20, 25, 26, 27, 28, 29, 30, 31, 32, 33, 34, 35, 36, 37, 38, 39, 40, 41, 42, 43, 44, 45, 46, 47, 48, 49, 50, 51] rfl rfl (by decide) (by decide) (va_runV (As := [.int (rr_i ((Ω 2) 2 x2)), .int (rr_i ((Ω 2) 3 x2)), .int (rr_i ((Ω 2) 4 x2))]) (rest := []) ⟨hx, hb, hml, hown, hts⟩ (kX3_take l g (fun k => ad (20 + k)) _ ((Ω 2) 2 x2) ((Ω 2) 3 x2) ((Ω 2) 4 x2) (Ω 1) v10 hw11) (cwV 3 hts gX4_does_X3_take rfl rfl rfl ⟨rfl, hd_X3_take⟩ ⟨Nat.le_of_ble_eq_true rfl, Nat.le_of_ble_eq_true rfl⟩) ⟨rr_P_blind, va_recv hK.1 (hP.sub (ws' := rr_wS g (fun k => ad (20 + k)) (Ω 1)) [21, 22, 23, 24] rfl) (ci := 3) (q0 := 0) rfl rfl, rr_P_pre hK (hP.sub (ws' := rr_wS g (fun k => ad (20 + k)) (Ω 1)) [21, 22, 23, 24] rfl) (hD.sub (ws' := rr_wS g (fun k => ad (20 + k)) (Ω 1)) [21, 22, 23, 24] (by decide) rfl)⟩ rfl rfl hl.1 rfl (lv_room (Nat.le_of_ble_eq_true rfl)) dX4_does_82 ⟨Nat.zero_le _, Nat.zero_le _⟩) (fun H locs hP hD hS => ?_)
        have hP := hP.sub (ws' := rr_wC g a ad (rr_z Ω 1 (rr_m 7 v10.2 (Ω 1)))) [0, 1, 2, 3, 4, 5, 6, 7, 8, 9, 10, 11, 12, 13, 14, 15, 16, 17, 18, 19, 20, 48, 49, 50, 51, 21, 22, 23, 24, 25, 26, 27, 28, 29, 30, 31, 32, 33, 34, 35, 36, 37, 38, 39, 40, 41, 42, 43, 44, 45, 46, 47] rfl
        have hD := hD.sub (ws' := rr_wC g a ad (rr_z Ω 1 (rr_m 7 v10.2 (Ω 1)))) [0, 1, 2, 3, 4, 5, 6, 7, 8, 9, 10, 11, 12, 13, 14, 15, 16, 17, 18, 19, 20, 48, 49, 50, 51, 21, 22, 23, 24, 25, 26, 27, 28, 29, 30, 31, 32, 33, 34, 35, 36, 37, 38, 39, 40, 41, 42, 43, 44, 45, 46, 47] (by decide) rfl
        obtain ⟨hg12, h⟩ := rr_c_some h
        refine rr_if_eq (tgt := 94) hx hb dX4_does_85 (by decide) hg12 (fun c13 => ?_) (fun c13 => ?_)
        · rw [if_pos c13] at h
          refine rr_iinc (k := 1) (a := x2) (lv' := [(2, .int (rr_i (x2 + 1))), (0, .ref a)]) hx hb dX4_does_94 hl rfl (by decide) rfl (fun ls hl => ?_)
          refine lv_goto (tgt := 37) hx hb dX4_does_97 (by decide) ?_
          exact ih (x2 + 1) (rr_z Ω 1 (rr_m 7 v10.2 (Ω 1))) _ _ ls h hP hD hS (lv_sub hl [1, 0] rfl) hk
        · rw [if_neg c13] at h
          refine rr_sipush hx hb dX4_does_88 (by decide +kernel) ?_
          refine lv_iload_n hx hb dX4_does_91 rfl (lv_at hl 1 rfl) ?_
          refine rr_isub hx hb dX4_does_92 ?_
          exact hret _ _ _ _ _ _ _ h hP hD hS dX4_does_93
  refine lv_aload_n hx hb dX4_does_0 rfl (lv_at hl 0 rfl) ?_
  refine va_get (D := g.1) (ci := 4) (v := .ref (ad 46)) (C := RX4) (T := TX4) (N := 7) hx hb hts hinX4 hown hK.1 hP 0 rfl rfl 3 (by decide) hk_0 (fun _ h9 => h9) rfl dX4_does_1 ?_
  obtain ⟨v1, hw2, h⟩ := rr_b_some h
  refine rr_partI (wc := rr_wT g (fun k => ad (46 + k)) (Ω 2)) (wr := rr_pick (rr_wC g a ad Ω) [0, 1, 2, 3, 4, 5, 6, 7, 8, 9, 10, 11, 12, 13, 14, 15, 16, 17, 18, 19, 20, 21, 22, 23, 24, 25, 26, 27, 28, 29, 30, 31, 32, 33, 34, 35, 36, 37, 38, 39, 40, 41, 42, 43, 44, 45, 46]) hP hD hS hA [47, 48, 49, 50, 51] [0, 1, 2, 3, 4, 5, 6, 7, 8, 9, 10, 11, 12, 13, 14, 15, 16, 17, 18, 19, 20, 21, 22, 23, 24, 25, 26, 27, 28, 29, 30, 31, 32, 33, 34, 35, 36, 37, 38, 39, 40, 41, 42, 43, 44, 45, 46] rfl rfl (by decide) (by decide) (va_runV (As := []) (rest := []) ⟨hx, hb, hml, hown, hts⟩ (kX2_read l g (fun k => ad (46 + k)) _ (Ω 2) v1 hw2) (cwV 0 hts gX4_does_X2_read rfl rfl rfl ⟨rfl, hd_X2_read⟩ ⟨Nat.le_of_ble_eq_true rfl, Nat.le_of_ble_eq_true rfl⟩) ⟨rr_P_blind, va_recv hK.1 (hP.sub (ws' := rr_wT g (fun k => ad (46 + k)) (Ω 2)) [47, 48, 49, 50, 51] rfl) (ci := 2) (q0 := 0) rfl rfl, rr_P_pre hK (hP.sub (ws' := rr_wT g (fun k => ad (46 + k)) (Ω 2)) [47, 48, 49, 50, 51] rfl) (hD.sub (ws' := rr_wT g (fun k => ad (46 + k)) (Ω 2)) [47, 48, 49, 50, 51] (by decide) rfl)⟩ rfl rfl hl.1 rfl (lv_room (Nat.le_of_ble_eq_true rfl)) dX4_does_4 ⟨Nat.zero_le _, Nat.zero_le _⟩) (fun H locs hP hD hS => ?_)
  have hP := hP.sub (ws' := rr_wC g a ad (rr_z Ω 2 v1.2)) [0, 1, 2, 3, 4, 5, 6, 7, 8, 9, 10, 11, 12, 13, 14, 15, 16, 17, 18, 19, 20, 21, 22, 23, 24, 25, 26, 27, 28, 29, 30, 31, 32, 33, 34, 35, 36, 37, 38, 39, 40, 41, 42, 43, 44, 45, 46, 47, 48, 49, 50, 51] rfl
  have hD := hD.sub (ws' := rr_wC g a ad (rr_z Ω 2 v1.2)) [0, 1, 2, 3, 4, 5, 6, 7, 8, 9, 10, 11, 12, 13, 14, 15, 16, 17, 18, 19, 20, 21, 22, 23, 24, 25, 26, 27, 28, 29, 30, 31, 32, 33, 34, 35, 36, 37, 38, 39, 40, 41, 42, 43, 44, 45, 46, 47, 48, 49, 50, 51] (by decide) rfl
  refine lv_istore_n (lv' := [(1, .int (rr_i v1.1)), (0, .ref a)]) hx hb dX4_does_7 rfl hl (by decide) rfl (fun ls hl => ?_)
  refine lv_iload_n hx hb dX4_does_8 rfl (lv_at hl 0 rfl) ?_
  refine rr_iconst hx hb dX4_does_9 ?_
  obtain ⟨hg3, h⟩ := rr_c_some h
  refine rr_icmp_eq (tgt := 18) hx hb dX4_does_10 (by decide) hg3 (by decide) (fun c4 => ?_) (fun c4 => ?_)
  · rw [if_pos c4] at h
    refine lv_aload_n hx hb dX4_does_18 rfl (lv_at hl 1 rfl) ?_
    refine va_get (D := g.1) (ci := 4) (v := .ref (ad 12)) (C := RX4) (T := TX4) (N := 7) hx hb hts hinX4 hown hK.1 hP 0 rfl rfl 1 (by decide) hk_1 (fun _ h9 => h9) rfl dX4_does_19 ?_
    refine va_get (D := g.1) (ci := 1) (v := .ref (ad 20)) (C := RX1) (T := TX1) (N := 8) hx hb hts hinX1 hown hK.1 hP 13 rfl rfl 0 (by decide) hk_2 (fun _ h9 => h9) rfl dX4_does_22 ?_
    refine lv_aload_n hx hb dX4_does_25 rfl (lv_at hl 1 rfl) ?_
    refine va_get (D := g.1) (ci := 4) (v := .ref (ad 0)) (C := RX4) (T := TX4) (N := 7) hx hb hts hinX4 hown hK.1 hP 0 rfl rfl 0 (by decide) hk_3 (fun _ h9 => h9) rfl dX4_does_26 ?_
    refine va_get (D := g.1) (ci := 1) (v := .ref (ad 8)) (C := RX1) (T := TX1) (N := 8) hx hb hts hinX1 hown hK.1 hP 1 rfl rfl 0 (by decide) hk_2 (fun _ h9 => h9) rfl dX4_does_29 ?_
    obtain ⟨v5, hw6, h⟩ := rr_b_some h
    refine rr_partV (wc := rr_wS g (fun k => ad (20 + k)) (Ω 1) ++ rr_wS g (fun k => ad (8 + k)) (Ω 0)) (wr := rr_pick (rr_wC g a ad (rr_z Ω 2 v1.2)) [0, 1, 2, 3, 4, 5, 6, 7, 8, 13, 14, 15, 16, 17, 18, 19, 20, 25, 26, 27, 28, 29, 30, 31, 32, 33, 34, 35, 36, 37, 38, 39, 40, 41, 42, 43, 44, 45, 46, 47, 48, 49, 50, 51]) hP hD hS hA [21, 22, 23, 24, 9, 10, 11, 12] [0, 1, 2, 3, 4, 5, 6, 7, 8, 13, 14, 15, 16, 17, 18, 19, 20, 25, 26, 27, 28, 29, 30, 31, 32, 33, 34, 35, 36, 37, 38, 39, 40, 41, 42, 43, 44, 45, 46, 47, 48, 49, 50, 51] rfl rfl (by decide) (by decide) (va_runV (As := [.ref (ad 8)]) (rest := []) ⟨hx, hb, hml, hown, hts⟩ (kX3_copyFrom l g (fun k => ad (20 + k)) (fun k => ad (8 + k)) _ (Ω 1) (Ω 0) v5 hw6) (cwV 1 hts gX4_does_X3_copyFrom rfl rfl rfl ⟨rfl, hd_X3_copyFrom⟩ ⟨Nat.le_of_ble_eq_true rfl, Nat.le_of_ble_eq_true rfl⟩) ⟨rr_P_blind, va_recv hK.1 (hP.sub (ws' := rr_wS g (fun k => ad (20 + k)) (Ω 1) ++ rr_wS g (fun k => ad (8 + k)) (Ω 0)) [21, 22, 23, 24, 9, 10, 11, 12] rfl) (ci := 3) (q0 := 0) rfl rfl, rr_P_pre hK (hP.sub (ws' := rr_wS g (fun k => ad (20 + k)) (Ω 1) ++ rr_wS g (fun k => ad (8 + k)) (Ω 0)) [21, 22, 23, 24, 9, 10, 11, 12] rfl) (hD.sub (ws' := rr_wS g (fun k => ad (20 + k)) (Ω 1) ++ rr_wS g (fun k => ad (8 + k)) (Ω 0)) [21, 22, 23, 24, 9, 10, 11, 12] (by decide) rfl)⟩ rfl rfl hl.1 rfl (lv_room (Nat.le_of_ble_eq_true rfl)) dX4_does_32 ⟨Nat.zero_le _, Nat.zero_le _⟩) (fun H locs hP hD hS => ?_)
    have hP := hP.sub (ws' := rr_wC g a ad (rr_z (rr_z Ω 1 (rr_m 7 v5 (Ω 1))) 2 v1.2)) [0, 1, 2, 3, 4, 5, 6, 7, 8, 48, 49, 50, 51, 9, 10, 11, 12, 13, 14, 15, 16, 44, 45, 46, 47, 17, 18, 19, 20, 21, 22, 23, 24, 25, 26, 27, 28, 29, 30, 31, 32, 33, 34, 35, 36, 37, 38, 39, 40, 41, 42, 43] rfl
    have hD := hD.sub (ws' := rr_wC g a ad (rr_z (rr_z Ω 1 (rr_m 7 v5 (Ω 1))) 2 v1.2)) [0, 1, 2, 3, 4, 5, 6, 7, 8, 48, 49, 50, 51, 9, 10, 11, 12, 13, 14, 15, 16, 44, 45, 46, 47, 17, 18, 19, 20, 21, 22, 23, 24, 25, 26, 27, 28, 29, 30, 31, 32, 33, 34, 35, 36, 37, 38, 39, 40, 41, 42, 43] (by decide) rfl
    refine rr_iconst hx hb dX4_does_35 ?_
    refine lv_istore_n (lv' := [(2, .int (rr_i 0)), (1, .int (rr_i v1.1)), (0, .ref a)]) hx hb dX4_does_36 rfl hl (by decide) rfl (fun ls hl => ?_)
    refine hL4_does_37 _ 1000 0 (rr_z (rr_z Ω 1 (rr_m 7 v5 (Ω 1))) 2 v1.2) _ _ ls h hP hD hS (lv_sub hl [2, 0] rfl) (fun σ_37 H locs ls h hP hD hS hl => ?_)
    refine lv_aload_n hx hb dX4_does_100 rfl (lv_at hl 0 rfl) ?_
    obtain ⟨v14, hw15, h⟩ := rr_b_some h
    refine rr_allVx hD hS hA (va_runV (As := []) (rest := []) ⟨hx, hb, hml, hown, hts⟩ (kX4_keepDraft l g a ad _ σ_37 v14 hw15) (cwV 0 hts gX4_does_X4_keepDraft rfl rfl rfl ⟨rfl, hd_X4_keepDraft⟩ ⟨Nat.le_of_ble_eq_true rfl, Nat.le_of_ble_eq_true rfl⟩) ⟨rr_P_blind, va_recv hK.1 hP (ci := 4) (q0 := 0) rfl rfl, rr_P_pre hK hP hD⟩ rfl rfl hl.1 rfl (lv_room (Nat.le_of_ble_eq_true rfl)) dX4_does_101 ⟨Nat.zero_le _, Nat.zero_le _⟩) (fun ad H locs hP hD hS => ?_)
    refine lv_aload_n hx hb dX4_does_104 rfl (lv_at hl 0 rfl) ?_
    refine va_get (D := g.1) (ci := 4) (v := .ref (ad 46)) (C := RX4) (T := TX4) (N := 7) hx hb hts hinX4 hown hK.1 hP 0 rfl rfl 3 (by decide) hk_0 (fun _ h9 => h9) rfl dX4_does_105 ?_
    refine va_get (D := g.1) (ci := 2) (v := .int (rr_i ((v14 2) 5 0))) (C := RX2) (T := TX2) (N := 10) hx hb hts hinX2 hown hK.1 hP 47 rfl rfl 5 (by decide) hk_4 (fun _ h9 => h9) rfl dX4_does_108 ?_
    exact hret _ _ _ _ _ _ _ h hP hD hS dX4_does_111
  · rw [if_neg c4] at h
    refine rr_bipush hx hb dX4_does_13 (by decide +kernel) ?_
    refine lv_iload_n hx hb dX4_does_15 rfl (lv_at hl 0 rfl) ?_
    refine rr_isub hx hb dX4_does_16 ?_
    exact hret _ _ _ _ _ _ _ h hP hD hS dX4_does_17
-- RoomRing.back
abbrev rm_X4_back : Room := { frames := 4, cells := 0, slots := 0, locals := 88 }
theorem hd_X4_back : yX4_back.cls ≠ "java/lang/invoke/MethodHandle" ∧ yX4_back.cls ≠ "java/lang/invoke/VarHandle" ∧ (parseMethodDescriptor yX4_back.desc).map (fun d => d.parameters.length) = some 0 := by decide +kernel
set_option maxHeartbeats 4000000 in
set_option maxRecDepth 100000 in
theorem kX4_back (l : Launch) (g : rr_G) (a : Nat) (ad : Nat → Nat) (sz : Nat) (Ω : (Nat → rr_T)) (out : (Int × (Nat → rr_T))) (h : M4_back Ω = some out) : Met l yX4_back wsX4_back rm_X4_back (rr_P g [.ref a] (rr_wC g a ad Ω) sz) (rr_Qi g out.1 (rr_wC g a ad out.2) (va_A (rr_wC g a ad Ω) sz)) 0 0 (va_A (rr_wC g a ad Ω) sz) := by
  refine rr_rwI (cc := cX4_back) (maxL := 1) (fun Ω => rr_wC g a ad Ω) Ω out (by decide) rfl (Nat.le_of_ble_eq_true rfl) ?_
  intro p e s m ar below meth c Q ls A hx hb hml hown hts hK hA hP hD hS hret hl
  have hP : va_P g.1 vwCl (rr_wC g a ad Ω) s.heap := hP
  have hD : va_D A (rr_wC g a ad Ω) := hD
  have hown : s.vm.findClass RX4 = some m.cls := hown
  have hl : lv_has ls 1 [(0, .ref a)] := hl
  have hinX0 : ∀ w ∈ u_ws RX0 TX0 2, w ∈ wsX4_back := by decide +kernel
  have hinX1 : ∀ w ∈ u_ws RX1 TX1 8, w ∈ wsX4_back := by decide +kernel
  have hinX4 : ∀ w ∈ u_ws RX4 TX4 7, w ∈ wsX4_back := by decide +kernel
  have hk_0 : (Cond.fieldLink RX4 22 "RoomRing" "history" "LRoomRing$History;").before ar s = true := hts _ (List.mem_of_getElem? (i := 1) (by decide +kernel))
  have hk_1 : (Cond.fieldLink RX4 159 "RoomRing$History" "size" "I").before ar s = true := hts _ (List.mem_of_getElem? (i := 2) (by decide +kernel))
  have hk_2 : (Cond.fieldLink RX4 12 "RoomRing" "now" "LRoomRing$Ring;").before ar s = true := hts _ (List.mem_of_getElem? (i := 3) (by decide +kernel))
  have hk_3 : (Cond.fieldLink RX4 58 "RoomRing$Ring" "stock" "LRoomRing$Stock;").before ar s = true := hts _ (List.mem_of_getElem? (i := 4) (by decide +kernel))
  unfold M4_back at h
  refine lv_aload_n hx hb dX4_back_0 rfl (lv_at hl 0 rfl) ?_
  refine va_get (D := g.1) (ci := 4) (v := .ref (ad 24)) (C := RX4) (T := TX4) (N := 7) hx hb hts hinX4 hown hK.1 hP 0 rfl rfl 2 (by decide) hk_0 (fun _ h9 => h9) rfl dX4_back_1 ?_
  refine va_get (D := g.1) (ci := 0) (v := .int (rr_i ((Ω 9) 0 0))) (C := RX0) (T := TX0) (N := 2) hx hb hts hinX0 hown hK.1 hP 25 rfl rfl 1 (by decide) hk_1 (fun _ h9 => h9) rfl dX4_back_4 ?_
  obtain ⟨hg1, h⟩ := rr_c_some h
  refine rr_if_ne (tgt := 17) hx hb dX4_back_7 (by decide) hg1 (fun c2 => ?_) (fun c2 => ?_)
  · rw [if_neg c2] at h
    refine lv_aload_n hx hb dX4_back_17 rfl (lv_at hl 0 rfl) ?_
    refine va_get (D := g.1) (ci := 4) (v := .ref (ad 24)) (C := RX4) (T := TX4) (N := 7) hx hb hts hinX4 hown hK.1 hP 0 rfl rfl 2 (by decide) hk_0 (fun _ h9 => h9) rfl dX4_back_18 ?_
    refine lv_aload_n hx hb dX4_back_21 rfl (lv_at hl 0 rfl) ?_
    refine va_get (D := g.1) (ci := 4) (v := .ref (ad 0)) (C := RX4) (T := TX4) (N := 7) hx hb hts hinX4 hown hK.1 hP 0 rfl rfl 0 (by decide) hk_2 (fun _ h9 => h9) rfl dX4_back_22 ?_
    refine va_get (D := g.1) (ci := 1) (v := .ref (ad 8)) (C := RX1) (T := TX1) (N := 8) hx hb hts hinX1 hown hK.1 hP 1 rfl rfl 0 (by decide) hk_3 (fun _ h9 => h9) rfl dX4_back_25 ?_
    obtain ⟨v3, hw4, h⟩ := rr_b_some h
    refine rr_partV (wc := rr_wH g (ad 24) (fun k => ad (25 + k)) Ω ++ rr_wS g (fun k => ad (8 + k)) (Ω 0)) (wr := rr_pick (rr_wC g a ad Ω) [0, 1, 2, 3, 4, 5, 6, 7, 8, 13, 14, 15, 16, 17, 18, 19, 20, 21, 22, 23, 24, 47, 48, 49, 50, 51]) hP hD hS hA [25, 26, 27, 28, 29, 30, 31, 32, 33, 34, 35, 36, 37, 38, 39, 40, 41, 42, 43, 44, 45, 46, 9, 10, 11, 12] [0, 1, 2, 3, 4, 5, 6, 7, 8, 13, 14, 15, 16, 17, 18, 19, 20, 21, 22, 23, 24, 47, 48, 49, 50, 51] rfl rfl (by decide) (by decide) (va_runV (As := [.ref (ad 8)]) (rest := []) ⟨hx, hb, hml, hown, hts⟩ (kX0_takeBack l g (ad 24) (fun k => ad (25 + k)) (fun k => ad (8 + k)) _ Ω (Ω 0) v3 hw4) (cwV 1 hts gX4_back_X0_takeBack rfl rfl rfl ⟨rfl, hd_X0_takeBack⟩ ⟨Nat.le_of_ble_eq_true rfl, Nat.le_of_ble_eq_true rfl⟩) ⟨rr_P_blind, va_recv hK.1 (hP.sub (ws' := rr_wH g (ad 24) (fun k => ad (25 + k)) Ω ++ rr_wS g (fun k => ad (8 + k)) (Ω 0)) [25, 26, 27, 28, 29, 30, 31, 32, 33, 34, 35, 36, 37, 38, 39, 40, 41, 42, 43, 44, 45, 46, 9, 10, 11, 12] rfl) (ci := 0) (q0 := 0) rfl rfl, rr_P_pre hK (hP.sub (ws' := rr_wH g (ad 24) (fun k => ad (25 + k)) Ω ++ rr_wS g (fun k => ad (8 + k)) (Ω 0)) [25, 26, 27, 28, 29, 30, 31, 32, 33, 34, 35, 36, 37, 38, 39, 40, 41, 42, 43, 44, 45, 46, 9, 10, 11, 12] rfl) (hD.sub (ws' := rr_wH g (ad 24) (fun k => ad (25 + k)) Ω ++ rr_wS g (fun k => ad (8 + k)) (Ω 0)) [25, 26, 27, 28, 29, 30, 31, 32, 33, 34, 35, 36, 37, 38, 39, 40, 41, 42, 43, 44, 45, 46, 9, 10, 11, 12] (by decide) rfl)⟩ rfl rfl hl.1 rfl (lv_room (Nat.le_of_ble_eq_true rfl)) dX4_back_28 ⟨Nat.zero_le _, Nat.zero_le _⟩) (fun H locs hP hD hS => ?_)
    have hP := hP.sub (ws' := rr_wC g a ad (rr_z (rr_z (rr_z (rr_z (rr_z (rr_z (rr_z Ω 0 (rr_m 7 v3.2 (Ω 0))) 4 (v3.1 4)) 5 (v3.1 5)) 6 (v3.1 6)) 7 (v3.1 7)) 8 (v3.1 8)) 9 (v3.1 9))) [0, 1, 2, 3, 4, 5, 6, 7, 8, 48, 49, 50, 51, 9, 10, 11, 12, 13, 14, 15, 16, 17, 18, 19, 20, 26, 27, 28, 29, 30, 31, 32, 33, 34, 35, 36, 37, 38, 39, 40, 41, 42, 43, 44, 45, 46, 47, 21, 22, 23, 24, 25] rfl
    have hD := hD.sub (ws' := rr_wC g a ad (rr_z (rr_z (rr_z (rr_z (rr_z (rr_z (rr_z Ω 0 (rr_m 7 v3.2 (Ω 0))) 4 (v3.1 4)) 5 (v3.1 5)) 6 (v3.1 6)) 7 (v3.1 7)) 8 (v3.1 8)) 9 (v3.1 9))) [0, 1, 2, 3, 4, 5, 6, 7, 8, 48, 49, 50, 51, 9, 10, 11, 12, 13, 14, 15, 16, 17, 18, 19, 20, 26, 27, 28, 29, 30, 31, 32, 33, 34, 35, 36, 37, 38, 39, 40, 41, 42, 43, 44, 45, 46, 47, 21, 22, 23, 24, 25] (by decide) rfl
    refine lv_aload_n hx hb dX4_back_31 rfl (lv_at hl 0 rfl) ?_
    refine va_get (D := g.1) (ci := 4) (v := .ref (ad 0)) (C := RX4) (T := TX4) (N := 7) hx hb hts hinX4 hown hK.1 hP 0 rfl rfl 0 (by decide) hk_2 (fun _ h9 => h9) rfl dX4_back_32 ?_
    obtain ⟨v5, hw6, h⟩ := rr_b_some h
    refine rr_partV (wc := rr_wR g ad (rr_m 7 v3.2 (Ω 0))) (wr := rr_pick (rr_wC g a ad (rr_z (rr_z (rr_z (rr_z (rr_z (rr_z (rr_z Ω 0 (rr_m 7 v3.2 (Ω 0))) 4 (v3.1 4)) 5 (v3.1 5)) 6 (v3.1 6)) 7 (v3.1 7)) 8 (v3.1 8)) 9 (v3.1 9))) [0, 13, 14, 15, 16, 17, 18, 19, 20, 21, 22, 23, 24, 25, 26, 27, 28, 29, 30, 31, 32, 33, 34, 35, 36, 37, 38, 39, 40, 41, 42, 43, 44, 45, 46, 47, 48, 49, 50, 51]) hP hD hS hA [1, 2, 3, 4, 5, 6, 7, 8, 9, 10, 11, 12] [0, 13, 14, 15, 16, 17, 18, 19, 20, 21, 22, 23, 24, 25, 26, 27, 28, 29, 30, 31, 32, 33, 34, 35, 36, 37, 38, 39, 40, 41, 42, 43, 44, 45, 46, 47, 48, 49, 50, 51] rfl rfl (by decide) (by decide) (va_runV (As := []) (rest := []) ⟨hx, hb, hml, hown, hts⟩ (kX1_lay l g ad _ (rr_m 7 v3.2 (Ω 0)) v5 hw6) (cwV 0 hts gX4_back_X1_lay rfl rfl rfl ⟨rfl, hd_X1_lay⟩ ⟨Nat.le_of_ble_eq_true rfl, Nat.le_of_ble_eq_true rfl⟩) ⟨rr_P_blind, va_recv hK.1 (hP.sub (ws' := rr_wR g ad (rr_m 7 v3.2 (Ω 0))) [1, 2, 3, 4, 5, 6, 7, 8, 9, 10, 11, 12] rfl) (ci := 1) (q0 := 0) rfl rfl, rr_P_pre hK (hP.sub (ws' := rr_wR g ad (rr_m 7 v3.2 (Ω 0))) [1, 2, 3, 4, 5, 6, 7, 8, 9, 10, 11, 12] rfl) (hD.sub (ws' := rr_wR g ad (rr_m 7 v3.2 (Ω 0))) [1, 2, 3, 4, 5, 6, 7, 8, 9, 10, 11, 12] (by decide) rfl)⟩ rfl rfl hl.1 rfl (lv_room (Nat.le_of_ble_eq_true rfl)) dX4_back_35 ⟨Nat.zero_le _, Nat.zero_le _⟩) (fun H locs hP hD hS => ?_)
    have hP := hP.sub (ws' := rr_wC g a ad (rr_z (rr_z (rr_z (rr_z (rr_z (rr_z (rr_z Ω 0 v5) 4 (v3.1 4)) 5 (v3.1 5)) 6 (v3.1 6)) 7 (v3.1 7)) 8 (v3.1 8)) 9 (v3.1 9))) [0, 40, 41, 42, 43, 44, 45, 46, 47, 48, 49, 50, 51, 1, 2, 3, 4, 5, 6, 7, 8, 9, 10, 11, 12, 13, 14, 15, 16, 17, 18, 19, 20, 21, 22, 23, 24, 25, 26, 27, 28, 29, 30, 31, 32, 33, 34, 35, 36, 37, 38, 39] rfl
    have hD := hD.sub (ws' := rr_wC g a ad (rr_z (rr_z (rr_z (rr_z (rr_z (rr_z (rr_z Ω 0 v5) 4 (v3.1 4)) 5 (v3.1 5)) 6 (v3.1 6)) 7 (v3.1 7)) 8 (v3.1 8)) 9 (v3.1 9))) [0, 40, 41, 42, 43, 44, 45, 46, 47, 48, 49, 50, 51, 1, 2, 3, 4, 5, 6, 7, 8, 9, 10, 11, 12, 13, 14, 15, 16, 17, 18, 19, 20, 21, 22, 23, 24, 25, 26, 27, 28, 29, 30, 31, 32, 33, 34, 35, 36, 37, 38, 39] (by decide) rfl
    refine lv_aload_n hx hb dX4_back_38 rfl (lv_at hl 0 rfl) ?_
    refine va_get (D := g.1) (ci := 4) (v := .ref (ad 24)) (C := RX4) (T := TX4) (N := 7) hx hb hts hinX4 hown hK.1 hP 0 rfl rfl 2 (by decide) hk_0 (fun _ h9 => h9) rfl dX4_back_39 ?_
    refine va_get (D := g.1) (ci := 0) (v := .int (rr_i ((v3.1 9) 0 0))) (C := RX0) (T := TX0) (N := 2) hx hb hts hinX0 hown hK.1 hP 25 rfl rfl 1 (by decide) hk_1 (fun _ h9 => h9) rfl dX4_back_42 ?_
    exact hret _ _ _ _ _ _ h hP hD hS dX4_back_45
  · rw [if_pos c2] at h
    refine lv_aload_n hx hb dX4_back_10 rfl (lv_at hl 0 rfl) ?_
    refine rr_bipush hx hb dX4_back_11 (by decide +kernel) ?_
    obtain ⟨v7, hw8, h⟩ := rr_b_some h
    refine rr_allI hD hS hA (va_runV (As := [.int (rr_i (-3))]) (rest := []) ⟨hx, hb, hml, hown, hts⟩ (kX4_refuse l g a ad _ (-3) Ω v7 hw8) (cwV 1 hts gX4_back_X4_refuse rfl rfl rfl ⟨rfl, hd_X4_refuse⟩ ⟨Nat.le_of_ble_eq_true rfl, Nat.le_of_ble_eq_true rfl⟩) ⟨rr_P_blind, va_recv hK.1 hP (ci := 4) (q0 := 0) rfl rfl, rr_P_pre hK hP hD⟩ rfl rfl hl.1 rfl (lv_room (Nat.le_of_ble_eq_true rfl)) dX4_back_13 ⟨Nat.zero_le _, Nat.zero_le _⟩) (fun H locs hP hD hS => ?_)
    exact hret _ _ _ _ _ _ h hP hD hS dX4_back_16
-- RoomRing.told
abbrev rm_X4_told : Room := { frames := 1, cells := 0, slots := 0, locals := 21 }
theorem hd_X4_told : yX4_told.cls ≠ "java/lang/invoke/MethodHandle" ∧ yX4_told.cls ≠ "java/lang/invoke/VarHandle" ∧ (parseMethodDescriptor yX4_told.desc).map (fun d => d.parameters.length) = some 1 := by decide +kernel
set_option maxHeartbeats 4000000 in
set_option maxRecDepth 100000 in
theorem kX4_told (l : Launch) (g : rr_G) (a : Nat) (ad : Nat → Nat) (sz : Nat) (x1 : Int) (Ω : (Nat → rr_T)) (out : (Int × (Nat → rr_T))) (h : M4_told x1 Ω = some out) : Met l yX4_told wsX4_told rm_X4_told (rr_P g [.ref a, .int (rr_i x1)] (rr_wC g a ad Ω) sz) (rr_Qi g out.1 (rr_wC g a ad out.2) (va_A (rr_wC g a ad Ω) sz)) 0 0 (va_A (rr_wC g a ad Ω) sz) := by
  refine rr_rwI (cc := cX4_told) (maxL := 2) (fun Ω => rr_wC g a ad Ω) Ω out (by decide) rfl (Nat.le_of_ble_eq_true rfl) ?_
  intro p e s m ar below meth c Q ls A hx hb hml hown hts hK hA hP hD hS hret hl
  have hP : va_P g.1 vwCl (rr_wC g a ad Ω) s.heap := hP
  have hD : va_D A (rr_wC g a ad Ω) := hD
  have hown : s.vm.findClass RX4 = some m.cls := hown
  have hl : lv_has ls 2 [(0, .ref a), (1, .int (rr_i x1))] := hl
  have hinX0 : ∀ w ∈ u_ws RX0 TX0 2, w ∈ wsX4_told := by decide +kernel
  have hinX2 : ∀ w ∈ u_ws RX2 TX2 10, w ∈ wsX4_told := by decide +kernel
  have hinX4 : ∀ w ∈ u_ws RX4 TX4 7, w ∈ wsX4_told := by decide +kernel
  have hk_0 : (Cond.fieldLink RX4 33 "RoomRing" "refusedBad" "I").before ar s = true := hts _ (List.mem_of_getElem? (i := 1) (by decide +kernel))
  have hk_1 : (Cond.fieldLink RX4 37 "RoomRing" "refusedNo" "I").before ar s = true := hts _ (List.mem_of_getElem? (i := 2) (by decide +kernel))
  have hk_2 : (Cond.fieldLink RX4 40 "RoomRing" "refusedFull" "I").before ar s = true := hts _ (List.mem_of_getElem? (i := 3) (by decide +kernel))
  have hk_3 : (Cond.fieldLink RX4 29 "RoomRing" "script" "LRoomRing$Script;").before ar s = true := hts _ (List.mem_of_getElem? (i := 4) (by decide +kernel))
  have hk_4 : (Cond.fieldLink RX4 131 "RoomRing$Script" "length" "I").before ar s = true := hts _ (List.mem_of_getElem? (i := 5) (by decide +kernel))
  have hk_5 : (Cond.fieldLink RX4 22 "RoomRing" "history" "LRoomRing$History;").before ar s = true := hts _ (List.mem_of_getElem? (i := 6) (by decide +kernel))
  have hk_6 : (Cond.fieldLink RX4 159 "RoomRing$History" "size" "I").before ar s = true := hts _ (List.mem_of_getElem? (i := 7) (by decide +kernel))
  unfold M4_told at h
  refine lv_iload_n hx hb dX4_told_0 rfl (lv_at hl 1 rfl) ?_
  obtain ⟨hg1, h⟩ := rr_c_some h
  have hv2 : (rr_i x1).toInt = x1 := rr_to_i hg1
  by_cases c3 : x1 = 0
  · rw [if_pos c3] at h
    refine lv_tableIn (off := 35) (tgt := 36) hx hb dX4_told_1 (by rw [hv2, c3]; decide) (by rw [hv2, c3]; decide) (by rw [hv2, c3]; rfl) (by decide) ?_
    refine lv_aload_n hx hb dX4_told_36 rfl (lv_at hl 0 rfl) ?_
    refine va_get (D := g.1) (ci := 4) (v := .int (rr_i ((Ω 3) 0 0))) (C := RX4) (T := TX4) (N := 7) hx hb hts hinX4 hown hK.1 hP 0 rfl rfl 4 (by decide) hk_0 (fun _ h9 => h9) rfl dX4_told_37 ?_
    exact hret _ _ _ _ _ _ h hP hD hS dX4_told_40
  · rw [if_neg c3] at h
    by_cases c4 : x1 = 1
    · rw [if_pos c4] at h
      refine lv_tableIn (off := 40) (tgt := 41) hx hb dX4_told_1 (by rw [hv2, c4]; decide) (by rw [hv2, c4]; decide) (by rw [hv2, c4]; rfl) (by decide) ?_
      refine lv_aload_n hx hb dX4_told_41 rfl (lv_at hl 0 rfl) ?_
      refine va_get (D := g.1) (ci := 4) (v := .int (rr_i ((Ω 3) 1 0))) (C := RX4) (T := TX4) (N := 7) hx hb hts hinX4 hown hK.1 hP 0 rfl rfl 5 (by decide) hk_1 (fun _ h9 => h9) rfl dX4_told_42 ?_
      exact hret _ _ _ _ _ _ h hP hD hS dX4_told_45
    · rw [if_neg c4] at h
      by_cases c5 : x1 = 2
      · rw [if_pos c5] at h
        refine lv_tableIn (off := 45) (tgt := 46) hx hb dX4_told_1 (by rw [hv2, c5]; decide) (by rw [hv2, c5]; decide) (by rw [hv2, c5]; rfl) (by decide) ?_
        refine lv_aload_n hx hb dX4_told_46 rfl (lv_at hl 0 rfl) ?_
        refine va_get (D := g.1) (ci := 4) (v := .int (rr_i ((Ω 3) 2 0))) (C := RX4) (T := TX4) (N := 7) hx hb hts hinX4 hown hK.1 hP 0 rfl rfl 6 (by decide) hk_2 (fun _ h9 => h9) rfl dX4_told_47 ?_
        exact hret _ _ _ _ _ _ h hP hD hS dX4_told_50
      · rw [if_neg c5] at h
        by_cases c6 : x1 = 3
        · rw [if_pos c6] at h
          refine lv_tableIn (off := 50) (tgt := 51) hx hb dX4_told_1 (by rw [hv2, c6]; decide) (by rw [hv2, c6]; decide) (by rw [hv2, c6]; rfl) (by decide) ?_
          refine lv_aload_n hx hb dX4_told_51 rfl (lv_at hl 0 rfl) ?_
          refine va_get (D := g.1) (ci := 4) (v := .ref (ad 46)) (C := RX4) (T := TX4) (N := 7) hx hb hts hinX4 hown hK.1 hP 0 rfl rfl 3 (by decide) hk_3 (fun _ h9 => h9) rfl dX4_told_52 ?_
          refine va_get (D := g.1) (ci := 2) (v := .int (rr_i ((Ω 2) 1 0))) (C := RX2) (T := TX2) (N := 10) hx hb hts hinX2 hown hK.1 hP 47 rfl rfl 1 (by decide) hk_4 (fun _ h9 => h9) rfl dX4_told_55 ?_
          exact hret _ _ _ _ _ _ h hP hD hS dX4_told_58
        · rw [if_neg c6] at h
          by_cases c7 : x1 = 4
          · rw [if_pos c7] at h
            refine lv_tableIn (off := 58) (tgt := 59) hx hb dX4_told_1 (by rw [hv2, c7]; decide) (by rw [hv2, c7]; decide) (by rw [hv2, c7]; rfl) (by decide) ?_
            refine lv_aload_n hx hb dX4_told_59 rfl (lv_at hl 0 rfl) ?_
            refine va_get (D := g.1) (ci := 4) (v := .ref (ad 24)) (C := RX4) (T := TX4) (N := 7) hx hb hts hinX4 hown hK.1 hP 0 rfl rfl 2 (by decide) hk_5 (fun _ h9 => h9) rfl dX4_told_60 ?_
            refine va_get (D := g.1) (ci := 0) (v := .int (rr_i ((Ω 9) 0 0))) (C := RX0) (T := TX0) (N := 2) hx hb hts hinX0 hown hK.1 hP 25 rfl rfl 1 (by decide) hk_6 (fun _ h9 => h9) rfl dX4_told_63 ?_
            exact hret _ _ _ _ _ _ h hP hD hS dX4_told_66
          · rw [if_neg c7] at h
            by_cases hr10 : x1 < 0 ∨ 4 < x1
            · refine lv_tableOut (tgt := 67) hx hb dX4_told_1 (by rw [hv2]; exact hr10) (by decide) ?_
              refine lv_aload_n hx hb dX4_told_67 rfl (lv_at hl 0 rfl) ?_
              refine rr_bipush hx hb dX4_told_68 (by decide +kernel) ?_
              obtain ⟨v8, hw9, h⟩ := rr_b_some h
              refine rr_allI hD hS hA (va_runV (As := [.int (rr_i (-2))]) (rest := []) ⟨hx, hb, hml, hown, hts⟩ (kX4_refuse l g a ad _ (-2) Ω v8 hw9) (cwV 1 hts gX4_told_X4_refuse rfl rfl rfl ⟨rfl, hd_X4_refuse⟩ ⟨Nat.le_of_ble_eq_true rfl, Nat.le_of_ble_eq_true rfl⟩) ⟨rr_P_blind, va_recv hK.1 hP (ci := 4) (q0 := 0) rfl rfl, rr_P_pre hK hP hD⟩ rfl rfl hl.1 rfl (lv_room (Nat.le_of_ble_eq_true rfl)) dX4_told_70 ⟨Nat.zero_le _, Nat.zero_le _⟩) (fun H locs hP hD hS => ?_)
              exact hret _ _ _ _ _ _ h hP hD hS dX4_told_73
            · exact absurd (show x1 < 0 ∨ 4 < x1 by omega) hr10
-- RoomRing.digestHosts
abbrev rm_X4_digestHosts : Room := { frames := 2, cells := 0, slots := 0, locals := 46 }
theorem hd_X4_digestHosts : yX4_digestHosts.cls ≠ "java/lang/invoke/MethodHandle" ∧ yX4_digestHosts.cls ≠ "java/lang/invoke/VarHandle" ∧ (parseMethodDescriptor yX4_digestHosts.desc).map (fun d => d.parameters.length) = some 1 := by decide +kernel
set_option maxHeartbeats 4000000 in
set_option maxRecDepth 100000 in
theorem kX4_digestHosts (l : Launch) (g : rr_G) (a : Nat) (ad : Nat → Nat) (x1 : Int) (Ω : (Nat → rr_T)) (out : Int) (h : M4_digestHosts x1 Ω = some out) : Met l yX4_digestHosts wsX4_digestHosts rm_X4_digestHosts (rr_R g [.ref a, .long (rr_l x1)] (rr_wC g a ad Ω)) (vp_Sl (fun x => x = rr_l out)) 0 0 (fun _ => False) := by
  refine rr_roL (cc := cX4_digestHosts) (maxL := 7) (by decide) rfl (Nat.le_of_ble_eq_true rfl) ?_
  intro p e s m ar below meth c Q ls hx hb hml hown hts hK hP hret hl
  have hown : s.vm.findClass RX4 = some m.cls := hown
  have hl : lv_has ls 7 [(0, .ref a), (1, .long (rr_l x1))] := hl
  have hinX1 : ∀ w ∈ u_ws RX1 TX1 8, w ∈ wsX4_digestHosts := by decide +kernel
  have hinX3 : ∀ w ∈ u_ws RX3 TX3 7, w ∈ wsX4_digestHosts := by decide +kernel
  have hinX4 : ∀ w ∈ u_ws RX4 TX4 7, w ∈ wsX4_digestHosts := by decide +kernel
  have hk_0 : (Cond.fieldLink RX4 12 "RoomRing" "now" "LRoomRing$Ring;").before ar s = true := hts _ (List.mem_of_getElem? (i := 1) (by decide +kernel))
  have hk_1 : (Cond.fieldLink RX4 58 "RoomRing$Ring" "stock" "LRoomRing$Stock;").before ar s = true := hts _ (List.mem_of_getElem? (i := 2) (by decide +kernel))
  have hk_2 : (Cond.fieldLink RX4 103 "RoomRing$Stock" "hostCount" "I").before ar s = true := hts _ (List.mem_of_getElem? (i := 3) (by decide +kernel))
  have hk_3 : (Cond.constantLong RX4 170 (rr_l 31)).before ar s = true := hts _ (List.mem_of_getElem? (i := 4) (by decide +kernel))
  have hk_4 : (Cond.fieldLink RX4 188 "RoomRing$Stock" "names" "[I").before ar s = true := hts _ (List.mem_of_getElem? (i := 5) (by decide +kernel))
  unfold M4_digestHosts at h
  have hL4_digestHosts_44 : ∀ (x5 : Int) (K : Int → Option Int) (n : Nat) (x3 : Int) (x6 : Int) (ls : Array Slot), L4_digestHosts_44 Ω x5 K n x3 x6 = some out → lv_has ls 7 [(0, .ref a), (3, .long (rr_l x3)), (5, .int (rr_i x5)), (6, .int (rr_i x6))] → (∀ (z3 : Int) (ls : Array Slot), K z3 = some out → lv_has ls 7 [(0, .ref a), (3, .long (rr_l z3)), (5, .int (rr_i x5))] → W p l e rm_X4_digestHosts s m ar below meth c s.heap [] 0 0 Q (F0 m 75 ls [])) → W p l e rm_X4_digestHosts s m ar below meth c s.heap [] 0 0 Q (F0 m 44 ls []) := by
    intro x5 K n
    induction n with
    | zero => intro x3 x6 ls h hl hk; cases h
    | succ n ih =>
      intro x3 x6 ls h hl hk
      rw [L4_digestHosts_44_s] at h
      refine lv_iload hx hb dX4_digestHosts_44 (lv_at hl 3 rfl) ?_
      refine rr_iconst hx hb dX4_digestHosts_46 ?_
      obtain ⟨hg5, h⟩ := rr_c_some h
      refine rr_icmp_ge (tgt := 75) hx hb dX4_digestHosts_47 (by decide) hg5 (by decide) (fun c6 => ?_) (fun c6 => ?_)
      · rw [if_pos c6] at h
        exact hk x3 ls h (lv_sub hl [0, 1, 2] rfl)
      · rw [if_neg c6] at h
        refine rr_ldc2 (n := 31) hx hb hown hk_3 dX4_digestHosts_50 ?_
        refine lv_lload_n hx hb dX4_digestHosts_53 rfl (lv_at hl 1 rfl) ?_
        refine rr_lmul hx hb dX4_digestHosts_54 ?_
        refine lv_aload_n hx hb dX4_digestHosts_55 rfl (lv_at hl 0 rfl) ?_
        refine va_get (D := g.1) (ci := 4) (v := .ref (ad 0)) (C := RX4) (T := TX4) (N := 7) hx hb hts hinX4 hown hK.1 hP 0 rfl rfl 0 (by decide) hk_0 (fun _ h9 => h9) rfl dX4_digestHosts_56 ?_
        refine lv_iload hx hb dX4_digestHosts_59 (lv_at hl 2 rfl) ?_
        refine lv_iload hx hb dX4_digestHosts_61 (lv_at hl 3 rfl) ?_
        obtain ⟨v7, hw8, h⟩ := rr_b_some h
        refine rr_callI (va_runV (As := [.int (rr_i x5), .int (rr_i x6)]) (rest := [.long (rr_l (31 * x3))]) ⟨hx, hb, hml, hown, hts⟩ (kX1_hostFact l g ad x5 x6 (Ω 0) v7 hw8) (cwV 2 hts gX4_digestHosts_X1_hostFact rfl rfl rfl ⟨rfl, hd_X1_hostFact⟩ ⟨Nat.le_of_ble_eq_true rfl, Nat.le_of_ble_eq_true rfl⟩) ⟨rr_R_blind, va_recv hK.1 (hP.sub (ws' := rr_wR g ad (Ω 0)) [1, 2, 3, 4, 5, 6, 7, 8, 9, 10, 11, 12] rfl) (ci := 1) (q0 := 0) rfl rfl, rr_R_pre hK (hP.sub (ws' := rr_wR g ad (Ω 0)) [1, 2, 3, 4, 5, 6, 7, 8, 9, 10, 11, 12] rfl)⟩ rfl rfl hl.1 rfl (lv_room (Nat.le_of_ble_eq_true rfl)) dX4_digestHosts_63 ⟨Nat.zero_le _, Nat.zero_le _⟩) ?_
        obtain ⟨hg9, h⟩ := rr_c_some h
        refine rr_i2l hx hb dX4_digestHosts_66 hg9 ?_
        refine rr_ladd hx hb dX4_digestHosts_67 ?_
        refine lv_lstore_n (lv' := [(3, .long (rr_l ((31 * x3) + v7))), (0, .ref a), (5, .int (rr_i x5)), (6, .int (rr_i x6))]) hx hb dX4_digestHosts_68 rfl hl (by decide) rfl (fun ls hl => ?_)
        refine rr_iinc (k := 3) (a := x6) (lv' := [(6, .int (rr_i (x6 + 1))), (3, .long (rr_l ((31 * x3) + v7))), (0, .ref a), (5, .int (rr_i x5))]) hx hb dX4_digestHosts_69 hl rfl (by decide) rfl (fun ls hl => ?_)
        refine lv_goto (tgt := 44) hx hb dX4_digestHosts_72 (by decide) ?_
        exact ih ((31 * x3) + v7) (x6 + 1) ls h (lv_sub hl [2, 1, 3, 0] rfl) hk
  have hL4_digestHosts_5 : ∀ (K : Int → Option Int) (n : Nat) (x3 : Int) (x5 : Int) (ls : Array Slot), L4_digestHosts_5 Ω K n x3 x5 = some out → lv_has ls 7 [(0, .ref a), (3, .long (rr_l x3)), (5, .int (rr_i x5))] → (∀ (z3 : Int) (ls : Array Slot), K z3 = some out → lv_has ls 7 [(3, .long (rr_l z3))] → W p l e rm_X4_digestHosts s m ar below meth c s.heap [] 0 0 Q (F0 m 81 ls [])) → W p l e rm_X4_digestHosts s m ar below meth c s.heap [] 0 0 Q (F0 m 5 ls []) := by
    intro K n
    induction n with
    | zero => intro x3 x5 ls h hl hk; cases h
    | succ n ih =>
      intro x3 x5 ls h hl hk
      rw [L4_digestHosts_5_s] at h
      refine lv_iload hx hb dX4_digestHosts_5 (lv_at hl 2 rfl) ?_
      refine lv_aload_n hx hb dX4_digestHosts_7 rfl (lv_at hl 0 rfl) ?_
      refine va_get (D := g.1) (ci := 4) (v := .ref (ad 0)) (C := RX4) (T := TX4) (N := 7) hx hb hts hinX4 hown hK.1 hP 0 rfl rfl 0 (by decide) hk_0 (fun _ h9 => h9) rfl dX4_digestHosts_8 ?_
      refine va_get (D := g.1) (ci := 1) (v := .ref (ad 8)) (C := RX1) (T := TX1) (N := 8) hx hb hts hinX1 hown hK.1 hP 1 rfl rfl 0 (by decide) hk_1 (fun _ h9 => h9) rfl dX4_digestHosts_11 ?_
      refine va_get (D := g.1) (ci := 3) (v := .int (rr_i ((Ω 0) 3 0))) (C := RX3) (T := TX3) (N := 7) hx hb hts hinX3 hown hK.1 hP 9 rfl rfl 3 (by decide) hk_2 (fun _ h9 => h9) rfl dX4_digestHosts_14 ?_
      obtain ⟨hg1, h⟩ := rr_c_some h
      refine rr_icmp_ge (tgt := 81) hx hb dX4_digestHosts_17 (by decide) hg1.1 hg1.2 (fun c2 => ?_) (fun c2 => ?_)
      · rw [if_pos c2] at h
        exact hk x3 ls h (lv_sub hl [1] rfl)
      · rw [if_neg c2] at h
        refine rr_ldc2 (n := 31) hx hb hown hk_3 dX4_digestHosts_20 ?_
        refine lv_lload_n hx hb dX4_digestHosts_23 rfl (lv_at hl 1 rfl) ?_
        refine rr_lmul hx hb dX4_digestHosts_24 ?_
        refine lv_aload_n hx hb dX4_digestHosts_25 rfl (lv_at hl 0 rfl) ?_
        refine va_get (D := g.1) (ci := 4) (v := .ref (ad 0)) (C := RX4) (T := TX4) (N := 7) hx hb hts hinX4 hown hK.1 hP 0 rfl rfl 0 (by decide) hk_0 (fun _ h9 => h9) rfl dX4_digestHosts_26 ?_
        refine va_get (D := g.1) (ci := 1) (v := .ref (ad 8)) (C := RX1) (T := TX1) (N := 8) hx hb hts hinX1 hown hK.1 hP 1 rfl rfl 0 (by decide) hk_1 (fun _ h9 => h9) rfl dX4_digestHosts_29 ?_
        refine va_get (D := g.1) (ci := 3) (v := .ref (ad 9)) (C := RX3) (T := TX3) (N := 7) hx hb hts hinX3 hown hK.1 hP 9 rfl rfl 0 (by decide) hk_4 (fun _ h9 => h9) rfl dX4_digestHosts_32 ?_
        refine lv_iload hx hb dX4_digestHosts_35 (lv_at hl 2 rfl) ?_
        obtain ⟨hg3, h⟩ := rr_c_some h
        refine rr_iald (f := ((Ω 0) 0)) (N := 6) hx hb hK hP 10 rfl rfl (by decide) hg3 dX4_digestHosts_37 ?_
        obtain ⟨hg4, h⟩ := rr_c_some h
        refine rr_i2l hx hb dX4_digestHosts_38 hg4 ?_
        refine rr_ladd hx hb dX4_digestHosts_39 ?_
        refine lv_lstore_n (lv' := [(3, .long (rr_l ((31 * x3) + ((Ω 0) 0 x5)))), (0, .ref a), (5, .int (rr_i x5))]) hx hb dX4_digestHosts_40 rfl hl (by decide) rfl (fun ls hl => ?_)
        refine rr_iconst hx hb dX4_digestHosts_41 ?_
        refine lv_istore (lv' := [(6, .int (rr_i 0)), (3, .long (rr_l ((31 * x3) + ((Ω 0) 0 x5)))), (0, .ref a), (5, .int (rr_i x5))]) hx hb dX4_digestHosts_42 hl (by decide) rfl (fun ls hl => ?_)
        refine hL4_digestHosts_44 x5 _ 1000 ((31 * x3) + ((Ω 0) 0 x5)) 0 ls h (lv_sub hl [2, 1, 3, 0] rfl) (fun y3_44 ls h hl => ?_)
        refine rr_iinc (k := 2) (a := x5) (lv' := [(5, .int (rr_i (x5 + 1))), (0, .ref a), (3, .long (rr_l y3_44))]) hx hb dX4_digestHosts_75 hl rfl (by decide) rfl (fun ls hl => ?_)
        refine lv_goto (tgt := 5) hx hb dX4_digestHosts_78 (by decide) ?_
        exact ih y3_44 (x5 + 1) ls h (lv_sub hl [1, 2, 0] rfl) hk
  refine lv_lload_n hx hb dX4_digestHosts_0 rfl (lv_at hl 1 rfl) ?_
  refine lv_lstore_n (lv' := [(3, .long (rr_l x1)), (0, .ref a), (1, .long (rr_l x1))]) hx hb dX4_digestHosts_1 rfl hl (by decide) rfl (fun ls hl => ?_)
  refine rr_iconst hx hb dX4_digestHosts_2 ?_
  refine lv_istore (lv' := [(5, .int (rr_i 0)), (3, .long (rr_l x1)), (0, .ref a), (1, .long (rr_l x1))]) hx hb dX4_digestHosts_3 hl (by decide) rfl (fun ls hl => ?_)
  refine hL4_digestHosts_5 _ 1000 x1 0 ls h (lv_sub hl [2, 1, 0] rfl) (fun y3_5 ls h hl => ?_)
  refine lv_lload_n hx hb dX4_digestHosts_81 rfl (lv_at hl 0 rfl) ?_
  exact hret _ _ _ h dX4_digestHosts_82
-- RoomRing.digestKeys
abbrev rm_X4_digestKeys : Room := { frames := 2, cells := 0, slots := 0, locals := 43 }
theorem hd_X4_digestKeys : yX4_digestKeys.cls ≠ "java/lang/invoke/MethodHandle" ∧ yX4_digestKeys.cls ≠ "java/lang/invoke/VarHandle" ∧ (parseMethodDescriptor yX4_digestKeys.desc).map (fun d => d.parameters.length) = some 1 := by decide +kernel
set_option maxHeartbeats 4000000 in
set_option maxRecDepth 100000 in
theorem kX4_digestKeys (l : Launch) (g : rr_G) (a : Nat) (ad : Nat → Nat) (x1 : Int) (Ω : (Nat → rr_T)) (out : Int) (h : M4_digestKeys x1 Ω = some out) : Met l yX4_digestKeys wsX4_digestKeys rm_X4_digestKeys (rr_R g [.ref a, .long (rr_l x1)] (rr_wC g a ad Ω)) (vp_Sl (fun x => x = rr_l out)) 0 0 (fun _ => False) := by
  refine rr_roL (cc := cX4_digestKeys) (maxL := 7) (by decide) rfl (Nat.le_of_ble_eq_true rfl) ?_
  intro p e s m ar below meth c Q ls hx hb hml hown hts hK hP hret hl
  have hown : s.vm.findClass RX4 = some m.cls := hown
  have hl : lv_has ls 7 [(0, .ref a), (1, .long (rr_l x1))] := hl
  have hinX1 : ∀ w ∈ u_ws RX1 TX1 8, w ∈ wsX4_digestKeys := by decide +kernel
  have hinX3 : ∀ w ∈ u_ws RX3 TX3 7, w ∈ wsX4_digestKeys := by decide +kernel
  have hinX4 : ∀ w ∈ u_ws RX4 TX4 7, w ∈ wsX4_digestKeys := by decide +kernel
  have hk_0 : (Cond.fieldLink RX4 12 "RoomRing" "now" "LRoomRing$Ring;").before ar s = true := hts _ (List.mem_of_getElem? (i := 1) (by decide +kernel))
  have hk_1 : (Cond.fieldLink RX4 58 "RoomRing$Ring" "stock" "LRoomRing$Stock;").before ar s = true := hts _ (List.mem_of_getElem? (i := 2) (by decide +kernel))
  have hk_2 : (Cond.fieldLink RX4 106 "RoomRing$Stock" "keyCount" "I").before ar s = true := hts _ (List.mem_of_getElem? (i := 3) (by decide +kernel))
  have hk_3 : (Cond.constantLong RX4 170 (rr_l 31)).before ar s = true := hts _ (List.mem_of_getElem? (i := 4) (by decide +kernel))
  have hk_4 : (Cond.fieldLink RX4 191 "RoomRing$Stock" "keys" "[I").before ar s = true := hts _ (List.mem_of_getElem? (i := 5) (by decide +kernel))
  have hk_5 : (Cond.fieldLink RX4 90 "RoomRing$Ring" "keyHosts" "[I").before ar s = true := hts _ (List.mem_of_getElem? (i := 6) (by decide +kernel))
  unfold M4_digestKeys at h
  have hL4_digestKeys_72 : ∀ (x5 : Int) (K : Int → Option Int) (n : Nat) (x3 : Int) (x6 : Int) (ls : Array Slot), L4_digestKeys_72 Ω x5 K n x3 x6 = some out → lv_has ls 7 [(0, .ref a), (3, .long (rr_l x3)), (5, .int (rr_i x5)), (6, .int (rr_i x6))] → (∀ (z3 : Int) (ls : Array Slot), K z3 = some out → lv_has ls 7 [(0, .ref a), (3, .long (rr_l z3)), (5, .int (rr_i x5))] → W p l e rm_X4_digestKeys s m ar below meth c s.heap [] 0 0 Q (F0 m 103 ls [])) → W p l e rm_X4_digestKeys s m ar below meth c s.heap [] 0 0 Q (F0 m 72 ls []) := by
    intro x5 K n
    induction n with
    | zero => intro x3 x6 ls h hl hk; cases h
    | succ n ih =>
      intro x3 x6 ls h hl hk
      rw [L4_digestKeys_72_s] at h
      refine lv_iload hx hb dX4_digestKeys_72 (lv_at hl 3 rfl) ?_
      refine rr_iconst hx hb dX4_digestKeys_74 ?_
      obtain ⟨hg8, h⟩ := rr_c_some h
      refine rr_icmp_ge (tgt := 103) hx hb dX4_digestKeys_75 (by decide) hg8 (by decide) (fun c9 => ?_) (fun c9 => ?_)
      · rw [if_pos c9] at h
        exact hk x3 ls h (lv_sub hl [0, 1, 2] rfl)
      · rw [if_neg c9] at h
        refine rr_ldc2 (n := 31) hx hb hown hk_3 dX4_digestKeys_78 ?_
        refine lv_lload_n hx hb dX4_digestKeys_81 rfl (lv_at hl 1 rfl) ?_
        refine rr_lmul hx hb dX4_digestKeys_82 ?_
        refine lv_aload_n hx hb dX4_digestKeys_83 rfl (lv_at hl 0 rfl) ?_
        refine va_get (D := g.1) (ci := 4) (v := .ref (ad 0)) (C := RX4) (T := TX4) (N := 7) hx hb hts hinX4 hown hK.1 hP 0 rfl rfl 0 (by decide) hk_0 (fun _ h9 => h9) rfl dX4_digestKeys_84 ?_
        refine lv_iload hx hb dX4_digestKeys_87 (lv_at hl 2 rfl) ?_
        refine lv_iload hx hb dX4_digestKeys_89 (lv_at hl 3 rfl) ?_
        obtain ⟨v10, hw11, h⟩ := rr_b_some h
        refine rr_callI (va_runV (As := [.int (rr_i x5), .int (rr_i x6)]) (rest := [.long (rr_l (31 * x3))]) ⟨hx, hb, hml, hown, hts⟩ (kX1_keyFact l g ad x5 x6 (Ω 0) v10 hw11) (cwV 2 hts gX4_digestKeys_X1_keyFact rfl rfl rfl ⟨rfl, hd_X1_keyFact⟩ ⟨Nat.le_of_ble_eq_true rfl, Nat.le_of_ble_eq_true rfl⟩) ⟨rr_R_blind, va_recv hK.1 (hP.sub (ws' := rr_wR g ad (Ω 0)) [1, 2, 3, 4, 5, 6, 7, 8, 9, 10, 11, 12] rfl) (ci := 1) (q0 := 0) rfl rfl, rr_R_pre hK (hP.sub (ws' := rr_wR g ad (Ω 0)) [1, 2, 3, 4, 5, 6, 7, 8, 9, 10, 11, 12] rfl)⟩ rfl rfl hl.1 rfl (lv_room (Nat.le_of_ble_eq_true rfl)) dX4_digestKeys_91 ⟨Nat.zero_le _, Nat.zero_le _⟩) ?_
        obtain ⟨hg12, h⟩ := rr_c_some h
        refine rr_i2l hx hb dX4_digestKeys_94 hg12 ?_
        refine rr_ladd hx hb dX4_digestKeys_95 ?_
        refine lv_lstore_n (lv' := [(3, .long (rr_l ((31 * x3) + v10))), (0, .ref a), (5, .int (rr_i x5)), (6, .int (rr_i x6))]) hx hb dX4_digestKeys_96 rfl hl (by decide) rfl (fun ls hl => ?_)
        refine rr_iinc (k := 3) (a := x6) (lv' := [(6, .int (rr_i (x6 + 1))), (3, .long (rr_l ((31 * x3) + v10))), (0, .ref a), (5, .int (rr_i x5))]) hx hb dX4_digestKeys_97 hl rfl (by decide) rfl (fun ls hl => ?_)
        refine lv_goto (tgt := 72) hx hb dX4_digestKeys_100 (by decide) ?_
        exact ih ((31 * x3) + v10) (x6 + 1) ls h (lv_sub hl [2, 1, 3, 0] rfl) hk
  have hL4_digestKeys_5 : ∀ (K : Int → Option Int) (n : Nat) (x3 : Int) (x5 : Int) (ls : Array Slot), L4_digestKeys_5 Ω K n x3 x5 = some out → lv_has ls 7 [(0, .ref a), (3, .long (rr_l x3)), (5, .int (rr_i x5))] → (∀ (z3 : Int) (ls : Array Slot), K z3 = some out → lv_has ls 7 [(3, .long (rr_l z3))] → W p l e rm_X4_digestKeys s m ar below meth c s.heap [] 0 0 Q (F0 m 109 ls [])) → W p l e rm_X4_digestKeys s m ar below meth c s.heap [] 0 0 Q (F0 m 5 ls []) := by
    intro K n
    induction n with
    | zero => intro x3 x5 ls h hl hk; cases h
    | succ n ih =>
      intro x3 x5 ls h hl hk
      rw [L4_digestKeys_5_s] at h
      refine lv_iload hx hb dX4_digestKeys_5 (lv_at hl 2 rfl) ?_
      refine lv_aload_n hx hb dX4_digestKeys_7 rfl (lv_at hl 0 rfl) ?_
      refine va_get (D := g.1) (ci := 4) (v := .ref (ad 0)) (C := RX4) (T := TX4) (N := 7) hx hb hts hinX4 hown hK.1 hP 0 rfl rfl 0 (by decide) hk_0 (fun _ h9 => h9) rfl dX4_digestKeys_8 ?_
      refine va_get (D := g.1) (ci := 1) (v := .ref (ad 8)) (C := RX1) (T := TX1) (N := 8) hx hb hts hinX1 hown hK.1 hP 1 rfl rfl 0 (by decide) hk_1 (fun _ h9 => h9) rfl dX4_digestKeys_11 ?_
      refine va_get (D := g.1) (ci := 3) (v := .int (rr_i ((Ω 0) 4 0))) (C := RX3) (T := TX3) (N := 7) hx hb hts hinX3 hown hK.1 hP 9 rfl rfl 4 (by decide) hk_2 (fun _ h9 => h9) rfl dX4_digestKeys_14 ?_
      obtain ⟨hg1, h⟩ := rr_c_some h
      refine rr_icmp_ge (tgt := 109) hx hb dX4_digestKeys_17 (by decide) hg1.1 hg1.2 (fun c2 => ?_) (fun c2 => ?_)
      · rw [if_pos c2] at h
        exact hk x3 ls h (lv_sub hl [1] rfl)
      · rw [if_neg c2] at h
        refine rr_ldc2 (n := 31) hx hb hown hk_3 dX4_digestKeys_20 ?_
        refine lv_lload_n hx hb dX4_digestKeys_23 rfl (lv_at hl 1 rfl) ?_
        refine rr_lmul hx hb dX4_digestKeys_24 ?_
        refine lv_aload_n hx hb dX4_digestKeys_25 rfl (lv_at hl 0 rfl) ?_
        refine va_get (D := g.1) (ci := 4) (v := .ref (ad 0)) (C := RX4) (T := TX4) (N := 7) hx hb hts hinX4 hown hK.1 hP 0 rfl rfl 0 (by decide) hk_0 (fun _ h9 => h9) rfl dX4_digestKeys_26 ?_
        refine va_get (D := g.1) (ci := 1) (v := .ref (ad 8)) (C := RX1) (T := TX1) (N := 8) hx hb hts hinX1 hown hK.1 hP 1 rfl rfl 0 (by decide) hk_1 (fun _ h9 => h9) rfl dX4_digestKeys_29 ?_
        refine va_get (D := g.1) (ci := 3) (v := .ref (ad 11)) (C := RX3) (T := TX3) (N := 7) hx hb hts hinX3 hown hK.1 hP 9 rfl rfl 2 (by decide) hk_4 (fun _ h9 => h9) rfl dX4_digestKeys_32 ?_
        refine lv_iload hx hb dX4_digestKeys_35 (lv_at hl 2 rfl) ?_
        obtain ⟨hg3, h⟩ := rr_c_some h
        refine rr_iald (f := ((Ω 0) 2)) (N := 40) hx hb hK hP 12 rfl rfl (by decide) hg3 dX4_digestKeys_37 ?_
        obtain ⟨hg4, h⟩ := rr_c_some h
        refine rr_i2l hx hb dX4_digestKeys_38 hg4 ?_
        refine rr_ladd hx hb dX4_digestKeys_39 ?_
        refine lv_lstore_n (lv' := [(3, .long (rr_l ((31 * x3) + ((Ω 0) 2 x5)))), (0, .ref a), (5, .int (rr_i x5))]) hx hb dX4_digestKeys_40 rfl hl (by decide) rfl (fun ls hl => ?_)
        refine rr_ldc2 (n := 31) hx hb hown hk_3 dX4_digestKeys_41 ?_
        refine lv_lload_n hx hb dX4_digestKeys_44 rfl (lv_at hl 0 rfl) ?_
        refine rr_lmul hx hb dX4_digestKeys_45 ?_
        refine lv_aload_n hx hb dX4_digestKeys_46 rfl (lv_at hl 1 rfl) ?_
        refine va_get (D := g.1) (ci := 4) (v := .ref (ad 0)) (C := RX4) (T := TX4) (N := 7) hx hb hts hinX4 hown hK.1 hP 0 rfl rfl 0 (by decide) hk_0 (fun _ h9 => h9) rfl dX4_digestKeys_47 ?_
        refine va_get (D := g.1) (ci := 1) (v := .ref (ad 8)) (C := RX1) (T := TX1) (N := 8) hx hb hts hinX1 hown hK.1 hP 1 rfl rfl 0 (by decide) hk_1 (fun _ h9 => h9) rfl dX4_digestKeys_50 ?_
        refine lv_aload_n hx hb dX4_digestKeys_53 rfl (lv_at hl 1 rfl) ?_
        refine va_get (D := g.1) (ci := 4) (v := .ref (ad 0)) (C := RX4) (T := TX4) (N := 7) hx hb hts hinX4 hown hK.1 hP 0 rfl rfl 0 (by decide) hk_0 (fun _ h9 => h9) rfl dX4_digestKeys_54 ?_
        refine va_get (D := g.1) (ci := 1) (v := .ref (ad 5)) (C := RX1) (T := TX1) (N := 8) hx hb hts hinX1 hown hK.1 hP 1 rfl rfl 5 (by decide) hk_5 (fun _ h9 => h9) rfl dX4_digestKeys_57 ?_
        refine lv_iload hx hb dX4_digestKeys_60 (lv_at hl 2 rfl) ?_
        refine rr_iald (f := ((Ω 0) 11)) (N := 40) hx hb hK hP 6 rfl rfl (by decide) hg3 dX4_digestKeys_62 ?_
        obtain ⟨v5, hw6, h⟩ := rr_b_some h
        refine rr_callI (va_runV (As := [.int (rr_i ((Ω 0) 11 x5))]) (rest := [.long (rr_l (31 * ((31 * x3) + ((Ω 0) 2 x5))))]) ⟨hx, hb, hml, hown, hts⟩ (kX3_nameOf l g (fun k => ad (8 + k)) ((Ω 0) 11 x5) (Ω 0) v5 hw6) (cwV 1 hts gX4_digestKeys_X3_nameOf rfl rfl rfl ⟨rfl, hd_X3_nameOf⟩ ⟨Nat.le_of_ble_eq_true rfl, Nat.le_of_ble_eq_true rfl⟩) ⟨rr_R_blind, va_recv hK.1 (hP.sub (ws' := rr_wS g (fun k => ad (8 + k)) (Ω 0)) [9, 10, 11, 12] rfl) (ci := 3) (q0 := 0) rfl rfl, rr_R_pre hK (hP.sub (ws' := rr_wS g (fun k => ad (8 + k)) (Ω 0)) [9, 10, 11, 12] rfl)⟩ rfl rfl hl.1 rfl (lv_room (Nat.le_of_ble_eq_true rfl)) dX4_digestKeys_63 ⟨Nat.zero_le _, Nat.zero_le _⟩) ?_
        obtain ⟨hg7, h⟩ := rr_c_some h
        refine rr_i2l hx hb dX4_digestKeys_66 hg7 ?_
        refine rr_ladd hx hb dX4_digestKeys_67 ?_
        refine lv_lstore_n (lv' := [(3, .long (rr_l ((31 * ((31 * x3) + ((Ω 0) 2 x5))) + v5))), (0, .ref a), (5, .int (rr_i x5))]) hx hb dX4_digestKeys_68 rfl hl (by decide) rfl (fun ls hl => ?_)
        refine rr_iconst hx hb dX4_digestKeys_69 ?_
        refine lv_istore (lv' := [(6, .int (rr_i 0)), (3, .long (rr_l ((31 * ((31 * x3) + ((Ω 0) 2 x5))) + v5))), (0, .ref a), (5, .int (rr_i x5))]) hx hb dX4_digestKeys_70 hl (by decide) rfl (fun ls hl => ?_)
        refine hL4_digestKeys_72 x5 _ 1000 ((31 * ((31 * x3) + ((Ω 0) 2 x5))) + v5) 0 ls h (lv_sub hl [2, 1, 3, 0] rfl) (fun y3_72 ls h hl => ?_)
        refine rr_iinc (k := 2) (a := x5) (lv' := [(5, .int (rr_i (x5 + 1))), (0, .ref a), (3, .long (rr_l y3_72))]) hx hb dX4_digestKeys_103 hl rfl (by decide) rfl (fun ls hl => ?_)
        refine lv_goto (tgt := 5) hx hb dX4_digestKeys_106 (by decide) ?_
        exact ih y3_72 (x5 + 1) ls h (lv_sub hl [1, 2, 0] rfl) hk
  refine lv_lload_n hx hb dX4_digestKeys_0 rfl (lv_at hl 1 rfl) ?_
  refine lv_lstore_n (lv' := [(3, .long (rr_l x1)), (0, .ref a), (1, .long (rr_l x1))]) hx hb dX4_digestKeys_1 rfl hl (by decide) rfl (fun ls hl => ?_)
  refine rr_iconst hx hb dX4_digestKeys_2 ?_
  refine lv_istore (lv' := [(5, .int (rr_i 0)), (3, .long (rr_l x1)), (0, .ref a), (1, .long (rr_l x1))]) hx hb dX4_digestKeys_3 hl (by decide) rfl (fun ls hl => ?_)
  refine hL4_digestKeys_5 _ 1000 x1 0 ls h (lv_sub hl [2, 1, 0] rfl) (fun y3_5 ls h hl => ?_)
  refine lv_lload_n hx hb dX4_digestKeys_109 rfl (lv_at hl 0 rfl) ?_
  exact hret _ _ _ h dX4_digestKeys_110
-- RoomRing.digest
abbrev rm_X4_digest : Room := { frames := 3, cells := 0, slots := 0, locals := 72 }
theorem hd_X4_digest : yX4_digest.cls ≠ "java/lang/invoke/MethodHandle" ∧ yX4_digest.cls ≠ "java/lang/invoke/VarHandle" ∧ (parseMethodDescriptor yX4_digest.desc).map (fun d => d.parameters.length) = some 0 := by decide +kernel
set_option maxHeartbeats 4000000 in
set_option maxRecDepth 100000 in
theorem kX4_digest (l : Launch) (g : rr_G) (a : Nat) (ad : Nat → Nat) (sz : Nat) (Ω : (Nat → rr_T)) (out : (Int × (Nat → rr_T))) (h : M4_digest Ω = some out) : Met l yX4_digest wsX4_digest rm_X4_digest (rr_P g [.ref a] (rr_wC g a ad Ω) sz) (rr_Ql g out.1 (rr_wC g a ad out.2) (va_A (rr_wC g a ad Ω) sz)) 0 0 (va_A (rr_wC g a ad Ω) sz) := by
  refine rr_rwL (cc := cX4_digest) (maxL := 4) (fun Ω => rr_wC g a ad Ω) Ω out (by decide) rfl (Nat.le_of_ble_eq_true rfl) ?_
  intro p e s m ar below meth c Q ls A hx hb hml hown hts hK hA hP hD hS hret hl
  have hP : va_P g.1 vwCl (rr_wC g a ad Ω) s.heap := hP
  have hD : va_D A (rr_wC g a ad Ω) := hD
  have hown : s.vm.findClass RX4 = some m.cls := hown
  have hl : lv_has ls 4 [(0, .ref a)] := hl
  have hk_0 : (Cond.constantLong RX4 168 (rr_l 2820)).before ar s = true := hts _ (List.mem_of_getElem? (i := 1) (by decide +kernel))
  have hk_1 : (Cond.constantLong RX4 170 (rr_l 31)).before ar s = true := hts _ (List.mem_of_getElem? (i := 2) (by decide +kernel))
  unfold M4_digest at h
  have hL4_digest_6 : ∀ (K : Int → (Nat → rr_T) → Option (Int × (Nat → rr_T))) (n : Nat) (x1 : Int) (x3 : Int) (Ω : (Nat → rr_T)) (H : Heap) (locs : List Loc) (ls : Array Slot), L4_digest_6 K n x1 x3 Ω = some out → va_P g.1 vwCl (rr_wC g a ad Ω) H → va_D A (rr_wC g a ad Ω) → va_S A s.heap H locs → lv_has ls 4 [(0, .ref a), (1, .long (rr_l x1)), (3, .int (rr_i x3))] → (∀ (z1 : Int) (τ9 : (Nat → rr_T)) (H : Heap) (locs : List Loc) (ls : Array Slot), K z1 τ9 = some out → va_P g.1 vwCl (rr_wC g a ad τ9) H → va_D A (rr_wC g a ad τ9) → va_S A s.heap H locs → lv_has ls 4 [(0, .ref a), (1, .long (rr_l z1))] → W p l e rm_X4_digest s m ar below meth c H locs 0 0 Q (F0 m 30 ls [])) → W p l e rm_X4_digest s m ar below meth c H locs 0 0 Q (F0 m 6 ls []) := by
    intro K n
    induction n with
    | zero => intro x1 x3 Ω H locs ls h hP hD hS hl hk; cases h
    | succ n ih =>
      intro x1 x3 Ω H locs ls h hP hD hS hl hk
      rw [L4_digest_6_s] at h
      refine lv_iload_n hx hb dX4_digest_6 rfl (lv_at hl 2 rfl) ?_
      refine rr_iconst hx hb dX4_digest_7 ?_
      obtain ⟨hg1, h⟩ := rr_c_some h
      refine rr_icmp_ge (tgt := 30) hx hb dX4_digest_8 (by decide) hg1 (by decide) (fun c2 => ?_) (fun c2 => ?_)
      · rw [if_pos c2] at h
        exact hk x1 Ω _ _ ls h hP hD hS (lv_sub hl [0, 1] rfl)
      · rw [if_neg c2] at h
        refine rr_ldc2 (n := 31) hx hb hown hk_1 dX4_digest_11 ?_
        refine lv_lload_n hx hb dX4_digest_14 rfl (lv_at hl 1 rfl) ?_
        refine rr_lmul hx hb dX4_digest_15 ?_
        refine lv_aload_n hx hb dX4_digest_16 rfl (lv_at hl 0 rfl) ?_
        refine lv_iload_n hx hb dX4_digest_17 rfl (lv_at hl 2 rfl) ?_
        obtain ⟨v3, hw4, h⟩ := rr_b_some h
        refine rr_allI hD hS hA (va_runV (As := [.int (rr_i x3)]) (rest := [.long (rr_l (31 * x1))]) ⟨hx, hb, hml, hown, hts⟩ (kX4_told l g a ad _ x3 Ω v3 hw4) (cwV 1 hts gX4_digest_X4_told rfl rfl rfl ⟨rfl, hd_X4_told⟩ ⟨Nat.le_of_ble_eq_true rfl, Nat.le_of_ble_eq_true rfl⟩) ⟨rr_P_blind, va_recv hK.1 hP (ci := 4) (q0 := 0) rfl rfl, rr_P_pre hK hP hD⟩ rfl rfl hl.1 rfl (lv_room (Nat.le_of_ble_eq_true rfl)) dX4_digest_18 ⟨Nat.zero_le _, Nat.zero_le _⟩) (fun H locs hP hD hS => ?_)
        obtain ⟨hg5, h⟩ := rr_c_some h
        refine rr_i2l hx hb dX4_digest_21 hg5 ?_
        refine rr_ladd hx hb dX4_digest_22 ?_
        refine lv_lstore_n (lv' := [(1, .long (rr_l ((31 * x1) + v3.1))), (0, .ref a), (3, .int (rr_i x3))]) hx hb dX4_digest_23 rfl hl (by decide) rfl (fun ls hl => ?_)
        refine rr_iinc (k := 2) (a := x3) (lv' := [(3, .int (rr_i (x3 + 1))), (1, .long (rr_l ((31 * x1) + v3.1))), (0, .ref a)]) hx hb dX4_digest_24 hl rfl (by decide) rfl (fun ls hl => ?_)
        refine lv_goto (tgt := 6) hx hb dX4_digest_27 (by decide) ?_
        exact ih ((31 * x1) + v3.1) (x3 + 1) v3.2 _ _ ls h hP hD hS (lv_sub hl [2, 1, 0] rfl) hk
  have hL4_digest_32 : ∀ (K : Int → (Nat → rr_T) → Option (Int × (Nat → rr_T))) (n : Nat) (x1 : Int) (x3 : Int) (Ω : (Nat → rr_T)) (H : Heap) (locs : List Loc) (ls : Array Slot), L4_digest_32 K n x1 x3 Ω = some out → va_P g.1 vwCl (rr_wC g a ad Ω) H → va_D A (rr_wC g a ad Ω) → va_S A s.heap H locs → lv_has ls 4 [(0, .ref a), (1, .long (rr_l x1)), (3, .int (rr_i x3))] → (∀ (z1 : Int) (τ9 : (Nat → rr_T)) (H : Heap) (locs : List Loc) (ls : Array Slot), K z1 τ9 = some out → va_P g.1 vwCl (rr_wC g a ad τ9) H → va_D A (rr_wC g a ad τ9) → va_S A s.heap H locs → lv_has ls 4 [(0, .ref a), (1, .long (rr_l z1))] → W p l e rm_X4_digest s m ar below meth c H locs 0 0 Q (F0 m 57 ls [])) → W p l e rm_X4_digest s m ar below meth c H locs 0 0 Q (F0 m 32 ls []) := by
    intro K n
    induction n with
    | zero => intro x1 x3 Ω H locs ls h hP hD hS hl hk; cases h
    | succ n ih =>
      intro x1 x3 Ω H locs ls h hP hD hS hl hk
      rw [L4_digest_32_s] at h
      refine lv_iload_n hx hb dX4_digest_32 rfl (lv_at hl 2 rfl) ?_
      refine rr_bipush hx hb dX4_digest_33 (by decide +kernel) ?_
      obtain ⟨hg6, h⟩ := rr_c_some h
      refine rr_icmp_ge (tgt := 57) hx hb dX4_digest_35 (by decide) hg6 (by decide) (fun c7 => ?_) (fun c7 => ?_)
      · rw [if_pos c7] at h
        exact hk x1 Ω _ _ ls h hP hD hS (lv_sub hl [0, 1] rfl)
      · rw [if_neg c7] at h
        refine rr_ldc2 (n := 31) hx hb hown hk_1 dX4_digest_38 ?_
        refine lv_lload_n hx hb dX4_digest_41 rfl (lv_at hl 1 rfl) ?_
        refine rr_lmul hx hb dX4_digest_42 ?_
        refine lv_aload_n hx hb dX4_digest_43 rfl (lv_at hl 0 rfl) ?_
        refine lv_iload_n hx hb dX4_digest_44 rfl (lv_at hl 2 rfl) ?_
        obtain ⟨v8, hw9, h⟩ := rr_b_some h
        refine rr_allI hD hS hA (va_runV (As := [.int (rr_i x3)]) (rest := [.long (rr_l (31 * x1))]) ⟨hx, hb, hml, hown, hts⟩ (kX4_count l g a ad _ x3 Ω v8 hw9) (cwV 1 hts gX4_digest_X4_count rfl rfl rfl ⟨rfl, hd_X4_count⟩ ⟨Nat.le_of_ble_eq_true rfl, Nat.le_of_ble_eq_true rfl⟩) ⟨rr_P_blind, va_recv hK.1 hP (ci := 4) (q0 := 0) rfl rfl, rr_P_pre hK hP hD⟩ rfl rfl hl.1 rfl (lv_room (Nat.le_of_ble_eq_true rfl)) dX4_digest_45 ⟨Nat.zero_le _, Nat.zero_le _⟩) (fun H locs hP hD hS => ?_)
        obtain ⟨hg10, h⟩ := rr_c_some h
        refine rr_i2l hx hb dX4_digest_48 hg10 ?_
        refine rr_ladd hx hb dX4_digest_49 ?_
        refine lv_lstore_n (lv' := [(1, .long (rr_l ((31 * x1) + v8.1))), (0, .ref a), (3, .int (rr_i x3))]) hx hb dX4_digest_50 rfl hl (by decide) rfl (fun ls hl => ?_)
        refine rr_iinc (k := 2) (a := x3) (lv' := [(3, .int (rr_i (x3 + 1))), (1, .long (rr_l ((31 * x1) + v8.1))), (0, .ref a)]) hx hb dX4_digest_51 hl rfl (by decide) rfl (fun ls hl => ?_)
        refine lv_goto (tgt := 32) hx hb dX4_digest_54 (by decide) ?_
        exact ih ((31 * x1) + v8.1) (x3 + 1) v8.2 _ _ ls h hP hD hS (lv_sub hl [2, 1, 0] rfl) hk
  have hL4_digest_59 : ∀ (K : Int → (Nat → rr_T) → Option (Int × (Nat → rr_T))) (n : Nat) (x1 : Int) (x3 : Int) (Ω : (Nat → rr_T)) (H : Heap) (locs : List Loc) (ls : Array Slot), L4_digest_59 K n x1 x3 Ω = some out → va_P g.1 vwCl (rr_wC g a ad Ω) H → va_D A (rr_wC g a ad Ω) → va_S A s.heap H locs → lv_has ls 4 [(0, .ref a), (1, .long (rr_l x1)), (3, .int (rr_i x3))] → (∀ (z1 : Int) (τ9 : (Nat → rr_T)) (H : Heap) (locs : List Loc) (ls : Array Slot), K z1 τ9 = some out → va_P g.1 vwCl (rr_wC g a ad τ9) H → va_D A (rr_wC g a ad τ9) → va_S A s.heap H locs → lv_has ls 4 [(0, .ref a), (1, .long (rr_l z1))] → W p l e rm_X4_digest s m ar below meth c H locs 0 0 Q (F0 m 84 ls [])) → W p l e rm_X4_digest s m ar below meth c H locs 0 0 Q (F0 m 59 ls []) := by
    intro K n
    induction n with
    | zero => intro x1 x3 Ω H locs ls h hP hD hS hl hk; cases h
    | succ n ih =>
      intro x1 x3 Ω H locs ls h hP hD hS hl hk
      rw [L4_digest_59_s] at h
      refine lv_iload_n hx hb dX4_digest_59 rfl (lv_at hl 2 rfl) ?_
      refine rr_bipush hx hb dX4_digest_60 (by decide +kernel) ?_
      obtain ⟨hg11, h⟩ := rr_c_some h
      refine rr_icmp_ge (tgt := 84) hx hb dX4_digest_62 (by decide) hg11 (by decide) (fun c12 => ?_) (fun c12 => ?_)
      · rw [if_pos c12] at h
        exact hk x1 Ω _ _ ls h hP hD hS (lv_sub hl [0, 1] rfl)
      · rw [if_neg c12] at h
        refine rr_ldc2 (n := 31) hx hb hown hk_1 dX4_digest_65 ?_
        refine lv_lload_n hx hb dX4_digest_68 rfl (lv_at hl 1 rfl) ?_
        refine rr_lmul hx hb dX4_digest_69 ?_
        refine lv_aload_n hx hb dX4_digest_70 rfl (lv_at hl 0 rfl) ?_
        refine lv_iload_n hx hb dX4_digest_71 rfl (lv_at hl 2 rfl) ?_
        obtain ⟨v13, hw14, h⟩ := rr_b_some h
        refine rr_allI hD hS hA (va_runV (As := [.int (rr_i x3)]) (rest := [.long (rr_l (31 * x1))]) ⟨hx, hb, hml, hown, hts⟩ (kX4_at l g a ad _ x3 Ω v13 hw14) (cwV 1 hts gX4_digest_X4_at rfl rfl rfl ⟨rfl, hd_X4_at⟩ ⟨Nat.le_of_ble_eq_true rfl, Nat.le_of_ble_eq_true rfl⟩) ⟨rr_P_blind, va_recv hK.1 hP (ci := 4) (q0 := 0) rfl rfl, rr_P_pre hK hP hD⟩ rfl rfl hl.1 rfl (lv_room (Nat.le_of_ble_eq_true rfl)) dX4_digest_72 ⟨Nat.zero_le _, Nat.zero_le _⟩) (fun H locs hP hD hS => ?_)
        obtain ⟨hg15, h⟩ := rr_c_some h
        refine rr_i2l hx hb dX4_digest_75 hg15 ?_
        refine rr_ladd hx hb dX4_digest_76 ?_
        refine lv_lstore_n (lv' := [(1, .long (rr_l ((31 * x1) + v13.1))), (0, .ref a), (3, .int (rr_i x3))]) hx hb dX4_digest_77 rfl hl (by decide) rfl (fun ls hl => ?_)
        refine rr_iinc (k := 2) (a := x3) (lv' := [(3, .int (rr_i (x3 + 1))), (1, .long (rr_l ((31 * x1) + v13.1))), (0, .ref a)]) hx hb dX4_digest_78 hl rfl (by decide) rfl (fun ls hl => ?_)
        refine lv_goto (tgt := 59) hx hb dX4_digest_81 (by decide) ?_
        exact ih ((31 * x1) + v13.1) (x3 + 1) v13.2 _ _ ls h hP hD hS (lv_sub hl [2, 1, 0] rfl) hk
  refine rr_ldc2 (n := 2820) hx hb hown hk_0 dX4_digest_0 ?_
  refine lv_lstore_n (lv' := [(1, .long (rr_l 2820)), (0, .ref a)]) hx hb dX4_digest_3 rfl hl (by decide) rfl (fun ls hl => ?_)
  refine rr_iconst hx hb dX4_digest_4 ?_
  refine lv_istore_n (lv' := [(3, .int (rr_i 0)), (1, .long (rr_l 2820)), (0, .ref a)]) hx hb dX4_digest_5 rfl hl (by decide) rfl (fun ls hl => ?_)
  refine hL4_digest_6 _ 1000 2820 0 Ω _ _ ls h hP hD hS (lv_sub hl [2, 1, 0] rfl) (fun y1_6 σ_6 H locs ls h hP hD hS hl => ?_)
  refine rr_iconst hx hb dX4_digest_30 ?_
  refine lv_istore_n (lv' := [(3, .int (rr_i 0)), (0, .ref a), (1, .long (rr_l y1_6))]) hx hb dX4_digest_31 rfl hl (by decide) rfl (fun ls hl => ?_)
  refine hL4_digest_32 _ 1000 y1_6 0 σ_6 _ _ ls h hP hD hS (lv_sub hl [1, 2, 0] rfl) (fun y1_32 σ_32 H locs ls h hP hD hS hl => ?_)
  refine rr_iconst hx hb dX4_digest_57 ?_
  refine lv_istore_n (lv' := [(3, .int (rr_i 0)), (0, .ref a), (1, .long (rr_l y1_32))]) hx hb dX4_digest_58 rfl hl (by decide) rfl (fun ls hl => ?_)
  refine hL4_digest_59 _ 1000 y1_32 0 σ_32 _ _ ls h hP hD hS (lv_sub hl [1, 2, 0] rfl) (fun y1_59 σ_59 H locs ls h hP hD hS hl => ?_)
  refine lv_aload_n hx hb dX4_digest_84 rfl (lv_at hl 0 rfl) ?_
  refine lv_aload_n hx hb dX4_digest_85 rfl (lv_at hl 0 rfl) ?_
  refine lv_lload_n hx hb dX4_digest_86 rfl (lv_at hl 1 rfl) ?_
  obtain ⟨v16, hw17, h⟩ := rr_b_some h
  refine rr_callL (va_runV (As := [.long (rr_l y1_59)]) (rest := [.ref a]) ⟨hx, hb, hml, hown, hts⟩ (kX4_digestHosts l g a ad y1_59 σ_59 v16 hw17) (cwV 1 hts gX4_digest_X4_digestHosts rfl rfl rfl ⟨rfl, hd_X4_digestHosts⟩ ⟨Nat.le_of_ble_eq_true rfl, Nat.le_of_ble_eq_true rfl⟩) ⟨rr_R_blind, va_recv hK.1 hP (ci := 4) (q0 := 0) rfl rfl, rr_R_pre hK hP⟩ rfl rfl hl.1 rfl (lv_room (Nat.le_of_ble_eq_true rfl)) dX4_digest_87 ⟨Nat.zero_le _, Nat.zero_le _⟩) ?_
  obtain ⟨v18, hw19, h⟩ := rr_b_some h
  refine rr_callL (va_runV (As := [.long (rr_l v16)]) (rest := []) ⟨hx, hb, hml, hown, hts⟩ (kX4_digestKeys l g a ad v16 σ_59 v18 hw19) (cwV 1 hts gX4_digest_X4_digestKeys rfl rfl rfl ⟨rfl, hd_X4_digestKeys⟩ ⟨Nat.le_of_ble_eq_true rfl, Nat.le_of_ble_eq_true rfl⟩) ⟨rr_R_blind, va_recv hK.1 hP (ci := 4) (q0 := 0) rfl rfl, rr_R_pre hK hP⟩ rfl rfl hl.1 rfl (lv_room (Nat.le_of_ble_eq_true rfl)) dX4_digest_90 ⟨Nat.zero_le _, Nat.zero_le _⟩) ?_
  exact hret _ _ _ _ _ _ h hP hD hS dX4_digest_93
