-- RoomRingModel.ends
abbrev rm_X5_ends : Room := { frames := 5, cells := 0, slots := 0, locals := 112 }
theorem hd_X5_ends : yX5_ends.cls ≠ "java/lang/invoke/MethodHandle" ∧ yX5_ends.cls ≠ "java/lang/invoke/VarHandle" ∧ (parseMethodDescriptor yX5_ends.desc).map (fun d => d.parameters.length) = some 1 := by decide +kernel
set_option maxHeartbeats 4000000 in
set_option maxRecDepth 100000 in
theorem kX5_ends (l : Launch) (g : rr_G) (ad : Nat → Nat) (sz : Nat) (hh : Int) (x1 : Int) (σ : rr_T) (out : (Int × rr_T)) (h : M5_ends x1 σ = some out) : Met l yX5_ends wsX5_ends rm_X5_ends (rr_P g [.ref (ad 0), .int (rr_i x1)] (rr_wM g ad σ hh) sz) (rr_Qi g out.1 (rr_wM g ad out.2 hh) (va_A (rr_wM g ad σ hh) sz)) 0 0 (va_A (rr_wM g ad σ hh) sz) := by
  refine rr_rwI (cc := cX5_ends) (maxL := 2) (fun σ => rr_wM g ad σ hh) σ out (by decide) rfl (Nat.le_of_ble_eq_true rfl) ?_
  intro p e s m ar below meth c Q ls A hx hb hml hown hts hK hA hP hD hS hret hl
  have hP : va_P g.1 vwCl (rr_wM g ad σ hh) s.heap := hP
  have hD : va_D A (rr_wM g ad σ hh) := hD
  have hown : s.vm.findClass RX5 = some m.cls := hown
  have hl : lv_has ls 2 [(0, .ref (ad 0)), (1, .int (rr_i x1))] := hl
  have hinX5 : ∀ w ∈ u_ws RX5 TX5 19, w ∈ wsX5_ends := by decide +kernel
  have hk_0 : (Cond.fieldLink RX5 7 "RoomRingModel" "now" "[I").before ar s = true := hts _ (List.mem_of_getElem? (i := 1) (by decide +kernel))
  unfold M5_ends at h
  refine lv_iload_n hx hb dX5_ends_0 rfl (lv_at hl 1 rfl) ?_
  obtain ⟨hg1, h⟩ := rr_c_some h
  refine rr_if_eq (tgt := 10) hx hb dX5_ends_1 (by decide) hg1 (fun c2 => ?_) (fun c2 => ?_)
  · rw [if_pos c2] at h
    refine lv_aload_n hx hb dX5_ends_10 rfl (lv_at hl 0 rfl) ?_
    obtain ⟨v3, hw4, h⟩ := rr_b_some h
    refine rr_allV hD hS hA (va_runV (As := []) (rest := []) ⟨hx, hb, hml, hown, hts⟩ (kX5_push l g ad _ hh σ v3 hw4) (cwV 0 hts gX5_ends_X5_push rfl rfl rfl ⟨rfl, hd_X5_push⟩ ⟨Nat.le_of_ble_eq_true rfl, Nat.le_of_ble_eq_true rfl⟩) ⟨rr_P_blind, va_recv hK.1 hP (ci := 5) (q0 := 0) rfl rfl, rr_P_pre hK hP hD⟩ rfl rfl hl.1 rfl (lv_room (Nat.le_of_ble_eq_true rfl)) dX5_ends_11 ⟨Nat.zero_le _, Nat.zero_le _⟩) (fun H locs hP hD hS => ?_)
    refine lv_aload_n hx hb dX5_ends_14 rfl (lv_at hl 0 rfl) ?_
    refine va_get (D := g.1) (ci := 5) (v := .ref (ad 1)) (C := RX5) (T := TX5) (N := 19) hx hb hts hinX5 hown hK.1 hP 0 rfl rfl 0 (by decide) hk_0 (fun _ h9 => h9) rfl dX5_ends_15 ?_
    refine rr_sipush hx hb dX5_ends_18 (by decide +kernel) ?_
    refine rr_iald (f := (v3 0)) (N := 143) hx hb hK hP 1 rfl rfl (by decide) (by decide) dX5_ends_21 ?_
    exact hret _ _ _ _ _ _ h hP hD hS dX5_ends_22
  · rw [if_neg c2] at h
    refine lv_aload_n hx hb dX5_ends_4 rfl (lv_at hl 0 rfl) ?_
    refine lv_iload_n hx hb dX5_ends_5 rfl (lv_at hl 1 rfl) ?_
    obtain ⟨v5, hw6, h⟩ := rr_b_some h
    refine rr_allI hD hS hA (va_runV (As := [.int (rr_i x1)]) (rest := []) ⟨hx, hb, hml, hown, hts⟩ (kX5_refuses l g ad _ hh x1 σ v5 hw6) (cwV 1 hts gX5_ends_X5_refuses rfl rfl rfl ⟨rfl, hd_X5_refuses⟩ ⟨Nat.le_of_ble_eq_true rfl, Nat.le_of_ble_eq_true rfl⟩) ⟨rr_P_blind, va_recv hK.1 hP (ci := 5) (q0 := 0) rfl rfl, rr_P_pre hK hP hD⟩ rfl rfl hl.1 rfl (lv_room (Nat.le_of_ble_eq_true rfl)) dX5_ends_6 ⟨Nat.zero_le _, Nat.zero_le _⟩) (fun H locs hP hD hS => ?_)
    exact hret _ _ _ _ _ _ h hP hD hS dX5_ends_9
-- RoomRingModel.back
abbrev rm_X5_back : Room := { frames := 4, cells := 0, slots := 0, locals := 91 }
theorem hd_X5_back : yX5_back.cls ≠ "java/lang/invoke/MethodHandle" ∧ yX5_back.cls ≠ "java/lang/invoke/VarHandle" ∧ (parseMethodDescriptor yX5_back.desc).map (fun d => d.parameters.length) = some 0 := by decide +kernel
set_option maxHeartbeats 4000000 in
set_option maxRecDepth 100000 in
theorem kX5_back (l : Launch) (g : rr_G) (ad : Nat → Nat) (sz : Nat) (hh : Int) (σ : rr_T) (out : (Int × rr_T)) (h : M5_back σ = some out) : Met l yX5_back wsX5_back rm_X5_back (rr_P g [.ref (ad 0)] (rr_wM g ad σ hh) sz) (rr_Qi g out.1 (rr_wM g ad out.2 hh) (va_A (rr_wM g ad σ hh) sz)) 0 0 (va_A (rr_wM g ad σ hh) sz) := by
  refine rr_rwI (cc := cX5_back) (maxL := 2) (fun σ => rr_wM g ad σ hh) σ out (by decide) rfl (Nat.le_of_ble_eq_true rfl) ?_
  intro p e s m ar below meth c Q ls A hx hb hml hown hts hK hA hP hD hS hret hl
  have hP : va_P g.1 vwCl (rr_wM g ad σ hh) s.heap := hP
  have hD : va_D A (rr_wM g ad σ hh) := hD
  have hown : s.vm.findClass RX5 = some m.cls := hown
  have hl : lv_has ls 2 [(0, .ref (ad 0))] := hl
  have hinX5 : ∀ w ∈ u_ws RX5 TX5 19, w ∈ wsX5_back := by decide +kernel
  have hk_0 : (Cond.fieldLink RX5 78 "RoomRingModel" "pasts" "I").before ar s = true := hts _ (List.mem_of_getElem? (i := 1) (by decide +kernel))
  have hk_1 : (Cond.fieldLink RX5 7 "RoomRingModel" "now" "[I").before ar s = true := hts _ (List.mem_of_getElem? (i := 2) (by decide +kernel))
  have hk_2 : (Cond.fieldLink RX5 16 "RoomRingModel" "past" "[I").before ar s = true := hts _ (List.mem_of_getElem? (i := 3) (by decide +kernel))
  unfold M5_back at h
  have hL5_back_26 : ∀ (K : rr_T → Option (Int × rr_T)) (n : Nat) (x1 : Int) (σ : rr_T) (H : Heap) (locs : List Loc) (ls : Array Slot), L5_back_26 K n x1 σ = some out → va_P g.1 vwCl (rr_wM g ad σ hh) H → va_D A (rr_wM g ad σ hh) → va_S A s.heap H locs → lv_has ls 2 [(0, .ref (ad 0)), (1, .int (rr_i x1))] → (∀ (τ9 : rr_T) (H : Heap) (locs : List Loc) (ls : Array Slot), K τ9 = some out → va_P g.1 vwCl (rr_wM g ad τ9 hh) H → va_D A (rr_wM g ad τ9 hh) → va_S A s.heap H locs → lv_has ls 2 [(0, .ref (ad 0))] → W p l e rm_X5_back s m ar below meth c H locs 0 0 Q (F0 m 60 ls [])) → W p l e rm_X5_back s m ar below meth c H locs 0 0 Q (F0 m 26 ls []) := by
    intro K n
    induction n with
    | zero => intro x1 σ H locs ls h hP hD hS hl hk; cases h
    | succ n ih =>
      intro x1 σ H locs ls h hP hD hS hl hk
      rw [L5_back_26_s] at h
      refine lv_iload_n hx hb dX5_back_26 rfl (lv_at hl 1 rfl) ?_
      refine rr_sipush hx hb dX5_back_27 (by decide +kernel) ?_
      obtain ⟨hg3, h⟩ := rr_c_some h
      refine rr_icmp_ge (tgt := 60) hx hb dX5_back_30 (by decide) hg3 (by decide) (fun c4 => ?_) (fun c4 => ?_)
      · rw [if_pos c4] at h
        exact hk σ _ _ ls h hP hD hS (lv_sub hl [0] rfl)
      · rw [if_neg c4] at h
        refine lv_aload_n hx hb dX5_back_33 rfl (lv_at hl 0 rfl) ?_
        refine va_get (D := g.1) (ci := 5) (v := .ref (ad 1)) (C := RX5) (T := TX5) (N := 19) hx hb hts hinX5 hown hK.1 hP 0 rfl rfl 0 (by decide) hk_1 (fun _ h9 => h9) rfl dX5_back_34 ?_
        refine lv_iload_n hx hb dX5_back_37 rfl (lv_at hl 1 rfl) ?_
        refine lv_aload_n hx hb dX5_back_38 rfl (lv_at hl 0 rfl) ?_
        refine va_get (D := g.1) (ci := 5) (v := .ref (ad 3)) (C := RX5) (T := TX5) (N := 19) hx hb hts hinX5 hown hK.1 hP 0 rfl rfl 2 (by decide) hk_2 (fun _ h9 => h9) rfl dX5_back_39 ?_
        refine rr_sipush hx hb dX5_back_42 (by decide +kernel) ?_
        refine lv_aload_n hx hb dX5_back_45 rfl (lv_at hl 0 rfl) ?_
        refine va_get (D := g.1) (ci := 5) (v := .int (rr_i (σ 3 0))) (C := RX5) (T := TX5) (N := 19) hx hb hts hinX5 hown hK.1 hP 0 rfl rfl 3 (by decide) hk_0 (fun _ h9 => h9) rfl dX5_back_46 ?_
        refine rr_imul hx hb dX5_back_49 ?_
        refine lv_iload_n hx hb dX5_back_50 rfl (lv_at hl 1 rfl) ?_
        refine rr_iadd hx hb dX5_back_51 ?_
        obtain ⟨hg5, h⟩ := rr_c_some h
        refine rr_iald (f := (σ 2)) (N := 715) hx hb hK hP 3 rfl rfl (by decide) hg5 dX5_back_52 ?_
        obtain ⟨hg6, h⟩ := rr_c_some h
        refine rr_iast (f := (σ 0)) (N := 143) hx hb hK hP hD hS 1 rfl rfl (by decide) hg6 dX5_back_53 (fun H locs hP hD hS => ?_)
        have hP : va_P g.1 vwCl (rr_wM g ad (rr_s σ 0 x1 (σ 2 ((143 * (σ 3 0)) + x1))) hh) H := hP
        have hD : va_D A (rr_wM g ad (rr_s σ 0 x1 (σ 2 ((143 * (σ 3 0)) + x1))) hh) := hD
        refine rr_iinc (k := 1) (a := x1) (lv' := [(1, .int (rr_i (x1 + 1))), (0, .ref (ad 0))]) hx hb dX5_back_54 hl rfl (by decide) rfl (fun ls hl => ?_)
        refine lv_goto (tgt := 26) hx hb dX5_back_57 (by decide) ?_
        exact ih (x1 + 1) (rr_s σ 0 x1 (σ 2 ((143 * (σ 3 0)) + x1))) _ _ ls h hP hD hS (lv_sub hl [1, 0] rfl) hk
  refine lv_aload_n hx hb dX5_back_0 rfl (lv_at hl 0 rfl) ?_
  refine va_get (D := g.1) (ci := 5) (v := .int (rr_i (σ 3 0))) (C := RX5) (T := TX5) (N := 19) hx hb hts hinX5 hown hK.1 hP 0 rfl rfl 3 (by decide) hk_0 (fun _ h9 => h9) rfl dX5_back_1 ?_
  obtain ⟨hg1, h⟩ := rr_c_some h
  refine rr_if_ne (tgt := 14) hx hb dX5_back_4 (by decide) hg1 (fun c2 => ?_) (fun c2 => ?_)
  · rw [if_neg c2] at h
    refine lv_aload_n hx hb dX5_back_14 rfl (lv_at hl 0 rfl) ?_
    refine lv_dup hx hb dX5_back_15 rfl ?_
    refine va_get (D := g.1) (ci := 5) (v := .int (rr_i (σ 3 0))) (C := RX5) (T := TX5) (N := 19) hx hb hts hinX5 hown hK.1 hP 0 rfl rfl 3 (by decide) hk_0 (fun _ h9 => h9) rfl dX5_back_16 ?_
    refine rr_iconst hx hb dX5_back_19 ?_
    refine rr_isub hx hb dX5_back_20 ?_
    refine va_put (D := g.1) (ci := 5) (v := .int (rr_i ((σ 3 0) - 1))) (ty := .int) (C := RX5) (T := TX5) (N := 19) hx hb hts hinX5 tyX5 tyX5_ok nmX5 hown hK.1 hP hD hS 0 rfl rfl 3 (by decide) hk_0 (fun _ h9 => h9) rfl (by decide +kernel) rfl rfl (Nat.le_of_ble_eq_true rfl) dX5_back_21 (fun H locs hP hD hS => ?_)
    have hP : va_P g.1 vwCl (rr_wM g ad (rr_t σ 3 ((σ 3 0) - 1)) hh) H := hP
    have hD : va_D A (rr_wM g ad (rr_t σ 3 ((σ 3 0) - 1)) hh) := hD
    refine rr_iconst hx hb dX5_back_24 ?_
    refine lv_istore_n (lv' := [(1, .int (rr_i 0)), (0, .ref (ad 0))]) hx hb dX5_back_25 rfl hl (by decide) rfl (fun ls hl => ?_)
    refine hL5_back_26 _ 1000 0 (rr_t σ 3 ((σ 3 0) - 1)) _ _ ls h hP hD hS (lv_sub hl [1, 0] rfl) (fun σ_26 H locs ls h hP hD hS hl => ?_)
    refine lv_aload_n hx hb dX5_back_60 rfl (lv_at hl 0 rfl) ?_
    obtain ⟨v7, hw8, h⟩ := rr_b_some h
    refine rr_allV hD hS hA (va_runV (As := []) (rest := []) ⟨hx, hb, hml, hown, hts⟩ (kX5_lay l g ad _ hh σ_26 v7 hw8) (cwV 0 hts gX5_back_X5_lay rfl rfl rfl ⟨rfl, hd_X5_lay⟩ ⟨Nat.le_of_ble_eq_true rfl, Nat.le_of_ble_eq_true rfl⟩) ⟨rr_P_blind, va_recv hK.1 hP (ci := 5) (q0 := 0) rfl rfl, rr_P_pre hK hP hD⟩ rfl rfl hl.1 rfl (lv_room (Nat.le_of_ble_eq_true rfl)) dX5_back_61 ⟨Nat.zero_le _, Nat.zero_le _⟩) (fun H locs hP hD hS => ?_)
    refine lv_aload_n hx hb dX5_back_64 rfl (lv_at hl 0 rfl) ?_
    refine va_get (D := g.1) (ci := 5) (v := .int (rr_i (v7 3 0))) (C := RX5) (T := TX5) (N := 19) hx hb hts hinX5 hown hK.1 hP 0 rfl rfl 3 (by decide) hk_0 (fun _ h9 => h9) rfl dX5_back_65 ?_
    exact hret _ _ _ _ _ _ h hP hD hS dX5_back_68
  · rw [if_pos c2] at h
    refine lv_aload_n hx hb dX5_back_7 rfl (lv_at hl 0 rfl) ?_
    refine rr_bipush hx hb dX5_back_8 (by decide +kernel) ?_
    obtain ⟨v9, hw10, h⟩ := rr_b_some h
    refine rr_allI hD hS hA (va_runV (As := [.int (rr_i (-3))]) (rest := []) ⟨hx, hb, hml, hown, hts⟩ (kX5_refuses l g ad _ hh (-3) σ v9 hw10) (cwV 1 hts gX5_back_X5_refuses rfl rfl rfl ⟨rfl, hd_X5_refuses⟩ ⟨Nat.le_of_ble_eq_true rfl, Nat.le_of_ble_eq_true rfl⟩) ⟨rr_P_blind, va_recv hK.1 hP (ci := 5) (q0 := 0) rfl rfl, rr_P_pre hK hP hD⟩ rfl rfl hl.1 rfl (lv_room (Nat.le_of_ble_eq_true rfl)) dX5_back_10 ⟨Nat.zero_le _, Nat.zero_le _⟩) (fun H locs hP hD hS => ?_)
    exact hret _ _ _ _ _ _ h hP hD hS dX5_back_13
-- RoomRingModel.isName
abbrev rm_X5_isName : Room := { frames := 1, cells := 0, slots := 0, locals := 22 }
theorem hd_X5_isName : yX5_isName.cls ≠ "java/lang/invoke/MethodHandle" ∧ yX5_isName.cls ≠ "java/lang/invoke/VarHandle" ∧ (parseMethodDescriptor yX5_isName.desc).map (fun d => d.parameters.length) = some 1 := by decide +kernel
set_option maxHeartbeats 4000000 in
set_option maxRecDepth 100000 in
theorem kX5_isName (l : Launch) (g : rr_G) (x0 : Int) (out : Int) (h : M5_isName x0 = some out) : Met l yX5_isName wsX5_isName rm_X5_isName (rr_R g [.int (rr_i x0)] (([] : va_W))) (vp_Si (fun x => x = rr_i out)) 0 0 (fun _ => False) := by
  refine rr_roZ (cc := cX5_isName) (maxL := 1) (by decide) rfl (Nat.le_of_ble_eq_true rfl) ?_
  intro p e s m ar below meth c Q ls hx hb hml hown hts hK hP hret hl
  have hown : s.vm.findClass RX5 = some m.cls := hown
  have hl : lv_has ls 1 [(0, .int (rr_i x0))] := hl
  unfold M5_isName at h
  refine lv_iload_n hx hb dX5_isName_0 rfl (lv_at hl 0 rfl) ?_
  refine rr_iconst hx hb dX5_isName_1 ?_
  refine rr_bipush hx hb dX5_isName_2 (by decide +kernel) ?_
  obtain ⟨v1, hw2, h⟩ := rr_b_some h
  refine rr_callI (va_runS (As := [.int (rr_i x0), .int (rr_i 0), .int (rr_i 99)]) (rest := []) ⟨hx, hb, hml, hown, hts⟩ (kX5_in l g x0 0 99 v1 hw2) (va_cwS 3 hts gX5_isName_X5_in rfl rfl rfl hd_X5_in ⟨Nat.le_of_ble_eq_true rfl, Nat.le_of_ble_eq_true rfl⟩) ⟨rr_R_blind, rr_R_pre hK hP⟩ rfl rfl hl.1 rfl (lv_room (Nat.le_of_ble_eq_true rfl)) dX5_isName_4 ⟨Nat.zero_le _, Nat.zero_le _⟩) ?_
  obtain ⟨hg3, h⟩ := rr_c_some h
  exact hret _ _ _ h hg3 dX5_isName_7
-- RoomRingModel.isHost
abbrev rm_X5_isHost : Room := { frames := 0, cells := 0, slots := 0, locals := 0 }
theorem hd_X5_isHost : yX5_isHost.cls ≠ "java/lang/invoke/MethodHandle" ∧ yX5_isHost.cls ≠ "java/lang/invoke/VarHandle" ∧ (parseMethodDescriptor yX5_isHost.desc).map (fun d => d.parameters.length) = some 1 := by decide +kernel
set_option maxHeartbeats 4000000 in
set_option maxRecDepth 100000 in
theorem kX5_isHost (l : Launch) (g : rr_G) (ad : Nat → Nat) (hh : Int) (x1 : Int) (σ : rr_T) (out : Int) (h : M5_isHost x1 σ = some out) : Met l yX5_isHost wsX5_isHost rm_X5_isHost (rr_R g [.ref (ad 0), .int (rr_i x1)] (rr_wM g ad σ hh)) (vp_Si (fun x => x = rr_i out)) 0 0 (fun _ => False) := by
  refine rr_roZ (cc := cX5_isHost) (maxL := 2) (by decide) rfl (Nat.le_of_ble_eq_true rfl) ?_
  intro p e s m ar below meth c Q ls hx hb hml hown hts hK hP hret hl
  have hown : s.vm.findClass RX5 = some m.cls := hown
  have hl : lv_has ls 2 [(0, .ref (ad 0)), (1, .int (rr_i x1))] := hl
  have hinX5 : ∀ w ∈ u_ws RX5 TX5 19, w ∈ wsX5_isHost := by decide +kernel
  have hk_0 : (Cond.fieldLink RX5 7 "RoomRingModel" "now" "[I").before ar s = true := hts _ (List.mem_of_getElem? (i := 1) (by decide +kernel))
  unfold M5_isHost at h
  refine lv_aload_n hx hb dX5_isHost_0 rfl (lv_at hl 0 rfl) ?_
  refine va_get (D := g.1) (ci := 5) (v := .ref (ad 1)) (C := RX5) (T := TX5) (N := 19) hx hb hts hinX5 hown hK.1 hP 0 rfl rfl 0 (by decide) hk_0 (fun _ h9 => h9) rfl dX5_isHost_1 ?_
  refine lv_iload_n hx hb dX5_isHost_4 rfl (lv_at hl 1 rfl) ?_
  obtain ⟨hg1, h⟩ := rr_c_some h
  refine rr_iald (f := (σ 0)) (N := 143) hx hb hK hP 1 rfl rfl (by decide) hg1 dX5_isHost_5 ?_
  obtain ⟨hg2, h⟩ := rr_c_some h
  refine rr_if_le (tgt := 13) hx hb dX5_isHost_6 (by decide) hg2 (fun c3 => ?_) (fun c3 => ?_)
  · rw [if_pos c3] at h
    refine rr_iconst hx hb dX5_isHost_13 ?_
    exact hret _ _ _ h (by decide) dX5_isHost_14
  · rw [if_neg c3] at h
    refine rr_iconst hx hb dX5_isHost_9 ?_
    refine lv_goto (tgt := 14) hx hb dX5_isHost_10 (by decide) ?_
    exact hret _ _ _ h (by decide) dX5_isHost_14
-- RoomRingModel.hostMany
abbrev rm_X5_hostMany : Room := { frames := 1, cells := 0, slots := 0, locals := 21 }
theorem hd_X5_hostMany : yX5_hostMany.cls ≠ "java/lang/invoke/MethodHandle" ∧ yX5_hostMany.cls ≠ "java/lang/invoke/VarHandle" ∧ (parseMethodDescriptor yX5_hostMany.desc).map (fun d => d.parameters.length) = some 0 := by decide +kernel
set_option maxHeartbeats 4000000 in
set_option maxRecDepth 100000 in
theorem kX5_hostMany (l : Launch) (g : rr_G) (ad : Nat → Nat) (hh : Int) (σ : rr_T) (out : Int) (h : M5_hostMany σ = some out) : Met l yX5_hostMany wsX5_hostMany rm_X5_hostMany (rr_R g [.ref (ad 0)] (rr_wM g ad σ hh)) (vp_Si (fun x => x = rr_i out)) 0 0 (fun _ => False) := by
  refine rr_roI (cc := cX5_hostMany) (maxL := 3) (by decide) rfl (Nat.le_of_ble_eq_true rfl) ?_
  intro p e s m ar below meth c Q ls hx hb hml hown hts hK hP hret hl
  have hown : s.vm.findClass RX5 = some m.cls := hown
  have hl : lv_has ls 3 [(0, .ref (ad 0))] := hl
  unfold M5_hostMany at h
  have hL5_hostMany_4 : ∀ (K : Int → Option Int) (n : Nat) (x1 : Int) (x2 : Int) (ls : Array Slot), L5_hostMany_4 σ K n x1 x2 = some out → lv_has ls 3 [(0, .ref (ad 0)), (1, .int (rr_i x1)), (2, .int (rr_i x2))] → (∀ (z1 : Int) (ls : Array Slot), K z1 = some out → lv_has ls 3 [(1, .int (rr_i z1))] → W p l e rm_X5_hostMany s m ar below meth c s.heap [] 0 0 Q (F0 m 32 ls [])) → W p l e rm_X5_hostMany s m ar below meth c s.heap [] 0 0 Q (F0 m 4 ls []) := by
    intro K n
    induction n with
    | zero => intro x1 x2 ls h hl hk; cases h
    | succ n ih =>
      intro x1 x2 ls h hl hk
      rw [L5_hostMany_4_s] at h
      refine lv_iload_n hx hb dX5_hostMany_4 rfl (lv_at hl 2 rfl) ?_
      refine rr_bipush hx hb dX5_hostMany_5 (by decide +kernel) ?_
      obtain ⟨hg1, h⟩ := rr_c_some h
      refine rr_icmp_ge (tgt := 32) hx hb dX5_hostMany_7 (by decide) hg1 (by decide) (fun c2 => ?_) (fun c2 => ?_)
      · rw [if_pos c2] at h
        exact hk x1 ls h (lv_sub hl [1] rfl)
      · rw [if_neg c2] at h
        refine lv_iload_n hx hb dX5_hostMany_10 rfl (lv_at hl 1 rfl) ?_
        refine lv_aload_n hx hb dX5_hostMany_11 rfl (lv_at hl 0 rfl) ?_
        refine lv_iload_n hx hb dX5_hostMany_12 rfl (lv_at hl 2 rfl) ?_
        obtain ⟨v3, hw4, h⟩ := rr_b_some h
        refine rr_callI (va_runV (As := [.int (rr_i x2)]) (rest := [.int (rr_i x1)]) ⟨hx, hb, hml, hown, hts⟩ (kX5_isHost l g ad hh x2 σ v3 hw4) (cwV 1 hts gX5_hostMany_X5_isHost rfl rfl rfl ⟨rfl, hd_X5_isHost⟩ ⟨Nat.le_of_ble_eq_true rfl, Nat.le_of_ble_eq_true rfl⟩) ⟨rr_R_blind, va_recv hK.1 hP (ci := 5) (q0 := 0) rfl rfl, rr_R_pre hK hP⟩ rfl rfl hl.1 rfl (lv_room (Nat.le_of_ble_eq_true rfl)) dX5_hostMany_13 ⟨Nat.zero_le _, Nat.zero_le _⟩) ?_
        obtain ⟨hg5, h⟩ := rr_c_some h
        refine rr_if_eq (tgt := 23) hx hb dX5_hostMany_16 (by decide) hg5 (fun c6 => ?_) (fun c6 => ?_)
        · rw [if_pos c6] at h
          refine rr_iconst hx hb dX5_hostMany_23 ?_
          refine rr_iadd hx hb dX5_hostMany_24 ?_
          refine lv_istore_n (lv' := [(1, .int (rr_i (x1 + 0))), (0, .ref (ad 0)), (2, .int (rr_i x2))]) hx hb dX5_hostMany_25 rfl hl (by decide) rfl (fun ls hl => ?_)
          refine rr_iinc (k := 2) (a := x2) (lv' := [(2, .int (rr_i (x2 + 1))), (1, .int (rr_i (x1 + 0))), (0, .ref (ad 0))]) hx hb dX5_hostMany_26 hl rfl (by decide) rfl (fun ls hl => ?_)
          refine lv_goto (tgt := 4) hx hb dX5_hostMany_29 (by decide) ?_
          exact ih (x1 + 0) (x2 + 1) ls h (lv_sub hl [2, 1, 0] rfl) hk
        · rw [if_neg c6] at h
          refine rr_iconst hx hb dX5_hostMany_19 ?_
          refine lv_goto (tgt := 24) hx hb dX5_hostMany_20 (by decide) ?_
          refine rr_iadd hx hb dX5_hostMany_24 ?_
          refine lv_istore_n (lv' := [(1, .int (rr_i (x1 + 1))), (0, .ref (ad 0)), (2, .int (rr_i x2))]) hx hb dX5_hostMany_25 rfl hl (by decide) rfl (fun ls hl => ?_)
          refine rr_iinc (k := 2) (a := x2) (lv' := [(2, .int (rr_i (x2 + 1))), (1, .int (rr_i (x1 + 1))), (0, .ref (ad 0))]) hx hb dX5_hostMany_26 hl rfl (by decide) rfl (fun ls hl => ?_)
          refine lv_goto (tgt := 4) hx hb dX5_hostMany_29 (by decide) ?_
          exact ih (x1 + 1) (x2 + 1) ls h (lv_sub hl [2, 1, 0] rfl) hk
  refine rr_iconst hx hb dX5_hostMany_0 ?_
  refine lv_istore_n (lv' := [(1, .int (rr_i 0)), (0, .ref (ad 0))]) hx hb dX5_hostMany_1 rfl hl (by decide) rfl (fun ls hl => ?_)
  refine rr_iconst hx hb dX5_hostMany_2 ?_
  refine lv_istore_n (lv' := [(2, .int (rr_i 0)), (1, .int (rr_i 0)), (0, .ref (ad 0))]) hx hb dX5_hostMany_3 rfl hl (by decide) rfl (fun ls hl => ?_)
  refine hL5_hostMany_4 _ 1000 0 0 ls h (lv_sub hl [2, 1, 0] rfl) (fun y1_4 ls h hl => ?_)
  refine lv_iload_n hx hb dX5_hostMany_32 rfl (lv_at hl 0 rfl) ?_
  exact hret _ _ _ h dX5_hostMany_33
-- RoomRingModel.isKey
abbrev rm_X5_isKey : Room := { frames := 1, cells := 0, slots := 0, locals := 22 }
theorem hd_X5_isKey : yX5_isKey.cls ≠ "java/lang/invoke/MethodHandle" ∧ yX5_isKey.cls ≠ "java/lang/invoke/VarHandle" ∧ (parseMethodDescriptor yX5_isKey.desc).map (fun d => d.parameters.length) = some 1 := by decide +kernel
set_option maxHeartbeats 4000000 in
set_option maxRecDepth 100000 in
theorem kX5_isKey (l : Launch) (g : rr_G) (x0 : Int) (out : Int) (h : M5_isKey x0 = some out) : Met l yX5_isKey wsX5_isKey rm_X5_isKey (rr_R g [.int (rr_i x0)] (([] : va_W))) (vp_Si (fun x => x = rr_i out)) 0 0 (fun _ => False) := by
  refine rr_roZ (cc := cX5_isKey) (maxL := 1) (by decide) rfl (Nat.le_of_ble_eq_true rfl) ?_
  intro p e s m ar below meth c Q ls hx hb hml hown hts hK hP hret hl
  have hown : s.vm.findClass RX5 = some m.cls := hown
  have hl : lv_has ls 1 [(0, .int (rr_i x0))] := hl
  unfold M5_isKey at h
  refine lv_iload_n hx hb dX5_isKey_0 rfl (lv_at hl 0 rfl) ?_
  refine rr_iconst hx hb dX5_isKey_1 ?_
  refine rr_sipush hx hb dX5_isKey_2 (by decide +kernel) ?_
  obtain ⟨v1, hw2, h⟩ := rr_b_some h
  refine rr_callI (va_runS (As := [.int (rr_i x0), .int (rr_i 0), .int (rr_i 999)]) (rest := []) ⟨hx, hb, hml, hown, hts⟩ (kX5_in l g x0 0 999 v1 hw2) (va_cwS 3 hts gX5_isKey_X5_in rfl rfl rfl hd_X5_in ⟨Nat.le_of_ble_eq_true rfl, Nat.le_of_ble_eq_true rfl⟩) ⟨rr_R_blind, rr_R_pre hK hP⟩ rfl rfl hl.1 rfl (lv_room (Nat.le_of_ble_eq_true rfl)) dX5_isKey_5 ⟨Nat.zero_le _, Nat.zero_le _⟩) ?_
  obtain ⟨hg3, h⟩ := rr_c_some h
  exact hret _ _ _ h hg3 dX5_isKey_8
-- RoomRingModel.rowOf
abbrev rm_X5_rowOf : Room := { frames := 0, cells := 0, slots := 0, locals := 0 }
theorem hd_X5_rowOf : yX5_rowOf.cls ≠ "java/lang/invoke/MethodHandle" ∧ yX5_rowOf.cls ≠ "java/lang/invoke/VarHandle" ∧ (parseMethodDescriptor yX5_rowOf.desc).map (fun d => d.parameters.length) = some 1 := by decide +kernel
set_option maxHeartbeats 4000000 in
set_option maxRecDepth 100000 in
theorem kX5_rowOf (l : Launch) (g : rr_G) (ad : Nat → Nat) (hh : Int) (x1 : Int) (σ : rr_T) (out : Int) (h : M5_rowOf x1 σ = some out) : Met l yX5_rowOf wsX5_rowOf rm_X5_rowOf (rr_R g [.ref (ad 0), .int (rr_i x1)] (rr_wM g ad σ hh)) (vp_Si (fun x => x = rr_i out)) 0 0 (fun _ => False) := by
  refine rr_roI (cc := cX5_rowOf) (maxL := 4) (by decide) rfl (Nat.le_of_ble_eq_true rfl) ?_
  intro p e s m ar below meth c Q ls hx hb hml hown hts hK hP hret hl
  have hown : s.vm.findClass RX5 = some m.cls := hown
  have hl : lv_has ls 4 [(0, .ref (ad 0)), (1, .int (rr_i x1))] := hl
  have hinX5 : ∀ w ∈ u_ws RX5 TX5 19, w ∈ wsX5_rowOf := by decide +kernel
  have hk_0 : (Cond.fieldLink RX5 7 "RoomRingModel" "now" "[I").before ar s = true := hts _ (List.mem_of_getElem? (i := 1) (by decide +kernel))
  unfold M5_rowOf at h
  have hL5_rowOf_4 : ∀ (x1 : Int) (K : Int → Option Int) (n : Nat) (x2 : Int) (x3 : Int) (ls : Array Slot), L5_rowOf_4 σ x1 K n x2 x3 = some out → lv_has ls 4 [(0, .ref (ad 0)), (1, .int (rr_i x1)), (2, .int (rr_i x2)), (3, .int (rr_i x3))] → (∀ (z2 : Int) (ls : Array Slot), K z2 = some out → lv_has ls 4 [(2, .int (rr_i z2))] → W p l e rm_X5_rowOf s m ar below meth c s.heap [] 0 0 Q (F0 m 41 ls [])) → W p l e rm_X5_rowOf s m ar below meth c s.heap [] 0 0 Q (F0 m 4 ls []) := by
    intro x1 K n
    induction n with
    | zero => intro x2 x3 ls h hl hk; cases h
    | succ n ih =>
      intro x2 x3 ls h hl hk
      rw [L5_rowOf_4_s] at h
      refine lv_iload_n hx hb dX5_rowOf_4 rfl (lv_at hl 3 rfl) ?_
      refine lv_aload_n hx hb dX5_rowOf_5 rfl (lv_at hl 0 rfl) ?_
      refine va_get (D := g.1) (ci := 5) (v := .ref (ad 1)) (C := RX5) (T := TX5) (N := 19) hx hb hts hinX5 hown hK.1 hP 0 rfl rfl 0 (by decide) hk_0 (fun _ h9 => h9) rfl dX5_rowOf_6 ?_
      refine rr_sipush hx hb dX5_rowOf_9 (by decide +kernel) ?_
      refine rr_iald (f := (σ 0)) (N := 143) hx hb hK hP 1 rfl rfl (by decide) (by decide) dX5_rowOf_12 ?_
      obtain ⟨hg1, h⟩ := rr_c_some h
      refine rr_icmp_ge (tgt := 41) hx hb dX5_rowOf_13 (by decide) hg1.1 hg1.2 (fun c2 => ?_) (fun c2 => ?_)
      · rw [if_pos c2] at h
        exact hk x2 ls h (lv_sub hl [2] rfl)
      · rw [if_neg c2] at h
        refine lv_aload_n hx hb dX5_rowOf_16 rfl (lv_at hl 0 rfl) ?_
        refine va_get (D := g.1) (ci := 5) (v := .ref (ad 1)) (C := RX5) (T := TX5) (N := 19) hx hb hts hinX5 hown hK.1 hP 0 rfl rfl 0 (by decide) hk_0 (fun _ h9 => h9) rfl dX5_rowOf_17 ?_
        refine rr_bipush hx hb dX5_rowOf_20 (by decide +kernel) ?_
        refine lv_iload_n hx hb dX5_rowOf_22 rfl (lv_at hl 3 rfl) ?_
        refine rr_iadd hx hb dX5_rowOf_23 ?_
        obtain ⟨hg3, h⟩ := rr_c_some h
        refine rr_iald (f := (σ 0)) (N := 143) hx hb hK hP 1 rfl rfl (by decide) hg3 dX5_rowOf_24 ?_
        refine lv_iload_n hx hb dX5_rowOf_25 rfl (lv_at hl 1 rfl) ?_
        obtain ⟨hg4, h⟩ := rr_c_some h
        refine rr_icmp_ne (tgt := 33) hx hb dX5_rowOf_26 (by decide) hg4.1 hg4.2 (fun c5 => ?_) (fun c5 => ?_)
        · rw [if_neg c5] at h
          refine lv_iload_n hx hb dX5_rowOf_33 rfl (lv_at hl 2 rfl) ?_
          refine lv_istore_n (lv' := [(2, .int (rr_i x2)), (0, .ref (ad 0)), (1, .int (rr_i x1)), (3, .int (rr_i x3))]) hx hb dX5_rowOf_34 rfl hl (by decide) rfl (fun ls hl => ?_)
          refine rr_iinc (k := 3) (a := x3) (lv' := [(3, .int (rr_i (x3 + 1))), (2, .int (rr_i x2)), (0, .ref (ad 0)), (1, .int (rr_i x1))]) hx hb dX5_rowOf_35 hl rfl (by decide) rfl (fun ls hl => ?_)
          refine lv_goto (tgt := 4) hx hb dX5_rowOf_38 (by decide) ?_
          exact ih x2 (x3 + 1) ls h (lv_sub hl [2, 3, 1, 0] rfl) hk
        · rw [if_pos c5] at h
          refine lv_iload_n hx hb dX5_rowOf_29 rfl (lv_at hl 3 rfl) ?_
          refine lv_goto (tgt := 34) hx hb dX5_rowOf_30 (by decide) ?_
          refine lv_istore_n (lv' := [(2, .int (rr_i x3)), (0, .ref (ad 0)), (1, .int (rr_i x1)), (3, .int (rr_i x3))]) hx hb dX5_rowOf_34 rfl hl (by decide) rfl (fun ls hl => ?_)
          refine rr_iinc (k := 3) (a := x3) (lv' := [(3, .int (rr_i (x3 + 1))), (2, .int (rr_i x3)), (0, .ref (ad 0)), (1, .int (rr_i x1))]) hx hb dX5_rowOf_35 hl rfl (by decide) rfl (fun ls hl => ?_)
          refine lv_goto (tgt := 4) hx hb dX5_rowOf_38 (by decide) ?_
          exact ih x3 (x3 + 1) ls h (lv_sub hl [2, 3, 1, 0] rfl) hk
  refine rr_iconst hx hb dX5_rowOf_0 ?_
  refine lv_istore_n (lv' := [(2, .int (rr_i (-1))), (0, .ref (ad 0)), (1, .int (rr_i x1))]) hx hb dX5_rowOf_1 rfl hl (by decide) rfl (fun ls hl => ?_)
  refine rr_iconst hx hb dX5_rowOf_2 ?_
  refine lv_istore_n (lv' := [(3, .int (rr_i 0)), (2, .int (rr_i (-1))), (0, .ref (ad 0)), (1, .int (rr_i x1))]) hx hb dX5_rowOf_3 rfl hl (by decide) rfl (fun ls hl => ?_)
  refine hL5_rowOf_4 x1 _ 1000 (-1) 0 ls h (lv_sub hl [2, 3, 1, 0] rfl) (fun y2_4 ls h hl => ?_)
  refine lv_iload_n hx hb dX5_rowOf_41 rfl (lv_at hl 0 rfl) ?_
  exact hret _ _ _ h dX5_rowOf_42
-- RoomRingModel.doHost
abbrev rm_X5_doHost : Room := { frames := 2, cells := 0, slots := 0, locals := 43 }
theorem hd_X5_doHost : yX5_doHost.cls ≠ "java/lang/invoke/MethodHandle" ∧ yX5_doHost.cls ≠ "java/lang/invoke/VarHandle" ∧ (parseMethodDescriptor yX5_doHost.desc).map (fun d => d.parameters.length) = some 2 := by decide +kernel
set_option maxHeartbeats 4000000 in
set_option maxRecDepth 100000 in
theorem kX5_doHost (l : Launch) (g : rr_G) (ad : Nat → Nat) (sz : Nat) (hh : Int) (x1 : Int) (x2 : Int) (σ : rr_T) (out : (Int × rr_T)) (h : M5_doHost x1 x2 σ = some out) : Met l yX5_doHost wsX5_doHost rm_X5_doHost (rr_P g [.ref (ad 0), .int (rr_i x1), .int (rr_i x2)] (rr_wM g ad σ hh) sz) (rr_Qi g out.1 (rr_wM g ad out.2 hh) (va_A (rr_wM g ad σ hh) sz)) 0 0 (va_A (rr_wM g ad σ hh) sz) := by
  refine rr_rwI (cc := cX5_doHost) (maxL := 3) (fun σ => rr_wM g ad σ hh) σ out (by decide) rfl (Nat.le_of_ble_eq_true rfl) ?_
  intro p e s m ar below meth c Q ls A hx hb hml hown hts hK hA hP hD hS hret hl
  have hP : va_P g.1 vwCl (rr_wM g ad σ hh) s.heap := hP
  have hD : va_D A (rr_wM g ad σ hh) := hD
  have hown : s.vm.findClass RX5 = some m.cls := hown
  have hl : lv_has ls 3 [(0, .ref (ad 0)), (1, .int (rr_i x1)), (2, .int (rr_i x2))] := hl
  have hinX5 : ∀ w ∈ u_ws RX5 TX5 19, w ∈ wsX5_doHost := by decide +kernel
  have hk_0 : (Cond.fieldLink RX5 7 "RoomRingModel" "now" "[I").before ar s = true := hts _ (List.mem_of_getElem? (i := 1) (by decide +kernel))
  unfold M5_doHost at h
  refine lv_iload_n hx hb dX5_doHost_0 rfl (lv_at hl 1 rfl) ?_
  obtain ⟨v1, hw2, h⟩ := rr_b_some h
  refine rr_callI (va_runS (As := [.int (rr_i x1)]) (rest := []) ⟨hx, hb, hml, hown, hts⟩ (kX5_isName l g x1 v1 hw2) (va_cwS 1 hts gX5_doHost_X5_isName rfl rfl rfl hd_X5_isName ⟨Nat.le_of_ble_eq_true rfl, Nat.le_of_ble_eq_true rfl⟩) ⟨rr_R_blind, rr_R_pre hK (hP.sub (ws' := ([] : va_W)) [] rfl)⟩ rfl rfl hl.1 rfl (lv_room (Nat.le_of_ble_eq_true rfl)) dX5_doHost_1 ⟨Nat.zero_le _, Nat.zero_le _⟩) ?_
  obtain ⟨hg3, h⟩ := rr_c_some h
  refine rr_if_eq (tgt := 16) hx hb dX5_doHost_4 (by decide) hg3 (fun c4 => ?_) (fun c4 => ?_)
  · rw [if_pos c4] at h
    refine rr_bipush hx hb dX5_doHost_16 (by decide +kernel) ?_
    exact hret _ _ _ _ _ _ h hP hD hS dX5_doHost_18
  · rw [if_neg c4] at h
    refine lv_iload_n hx hb dX5_doHost_7 rfl (lv_at hl 2 rfl) ?_
    refine rr_iconst hx hb dX5_doHost_8 ?_
    refine rr_iconst hx hb dX5_doHost_9 ?_
    obtain ⟨v5, hw6, h⟩ := rr_b_some h
    refine rr_callI (va_runS (As := [.int (rr_i x2), .int (rr_i 1), .int (rr_i 4)]) (rest := []) ⟨hx, hb, hml, hown, hts⟩ (kX5_in l g x2 1 4 v5 hw6) (va_cwS 3 hts gX5_doHost_X5_in rfl rfl rfl hd_X5_in ⟨Nat.le_of_ble_eq_true rfl, Nat.le_of_ble_eq_true rfl⟩) ⟨rr_R_blind, rr_R_pre hK (hP.sub (ws' := ([] : va_W)) [] rfl)⟩ rfl rfl hl.1 rfl (lv_room (Nat.le_of_ble_eq_true rfl)) dX5_doHost_10 ⟨Nat.zero_le _, Nat.zero_le _⟩) ?_
    obtain ⟨hg7, h⟩ := rr_c_some h
    refine rr_if_ne (tgt := 19) hx hb dX5_doHost_13 (by decide) hg7 (fun c8 => ?_) (fun c8 => ?_)
    · rw [if_neg c8] at h
      refine lv_aload_n hx hb dX5_doHost_19 rfl (lv_at hl 0 rfl) ?_
      refine lv_iload_n hx hb dX5_doHost_20 rfl (lv_at hl 1 rfl) ?_
      obtain ⟨v9, hw10, h⟩ := rr_b_some h
      refine rr_callI (va_runV (As := [.int (rr_i x1)]) (rest := []) ⟨hx, hb, hml, hown, hts⟩ (kX5_isHost l g ad hh x1 σ v9 hw10) (cwV 1 hts gX5_doHost_X5_isHost rfl rfl rfl ⟨rfl, hd_X5_isHost⟩ ⟨Nat.le_of_ble_eq_true rfl, Nat.le_of_ble_eq_true rfl⟩) ⟨rr_R_blind, va_recv hK.1 hP (ci := 5) (q0 := 0) rfl rfl, rr_R_pre hK hP⟩ rfl rfl hl.1 rfl (lv_room (Nat.le_of_ble_eq_true rfl)) dX5_doHost_21 ⟨Nat.zero_le _, Nat.zero_le _⟩) ?_
      obtain ⟨hg11, h⟩ := rr_c_some h
      refine rr_if_eq (tgt := 30) hx hb dX5_doHost_24 (by decide) hg11 (fun c12 => ?_) (fun c12 => ?_)
      · rw [if_pos c12] at h
        refine lv_aload_n hx hb dX5_doHost_30 rfl (lv_at hl 0 rfl) ?_
        obtain ⟨v13, hw14, h⟩ := rr_b_some h
        refine rr_callI (va_runV (As := []) (rest := []) ⟨hx, hb, hml, hown, hts⟩ (kX5_hostMany l g ad hh σ v13 hw14) (cwV 0 hts gX5_doHost_X5_hostMany rfl rfl rfl ⟨rfl, hd_X5_hostMany⟩ ⟨Nat.le_of_ble_eq_true rfl, Nat.le_of_ble_eq_true rfl⟩) ⟨rr_R_blind, va_recv hK.1 hP (ci := 5) (q0 := 0) rfl rfl, rr_R_pre hK hP⟩ rfl rfl hl.1 rfl (lv_room (Nat.le_of_ble_eq_true rfl)) dX5_doHost_31 ⟨Nat.zero_le _, Nat.zero_le _⟩) ?_
        refine rr_bipush hx hb dX5_doHost_34 (by decide +kernel) ?_
        obtain ⟨hg15, h⟩ := rr_c_some h
        refine rr_icmp_ne (tgt := 42) hx hb dX5_doHost_36 (by decide) hg15 (by decide) (fun c16 => ?_) (fun c16 => ?_)
        · rw [if_neg c16] at h
          refine lv_aload_n hx hb dX5_doHost_42 rfl (lv_at hl 0 rfl) ?_
          refine va_get (D := g.1) (ci := 5) (v := .ref (ad 1)) (C := RX5) (T := TX5) (N := 19) hx hb hts hinX5 hown hK.1 hP 0 rfl rfl 0 (by decide) hk_0 (fun _ h9 => h9) rfl dX5_doHost_43 ?_
          refine lv_iload_n hx hb dX5_doHost_46 rfl (lv_at hl 1 rfl) ?_
          refine lv_iload_n hx hb dX5_doHost_47 rfl (lv_at hl 2 rfl) ?_
          obtain ⟨hg17, h⟩ := rr_c_some h
          refine rr_iast (f := (σ 0)) (N := 143) hx hb hK hP hD hS 1 rfl rfl (by decide) hg17 dX5_doHost_48 (fun H locs hP hD hS => ?_)
          have hP : va_P g.1 vwCl (rr_wM g ad (rr_s σ 0 x1 x2) hh) H := hP
          have hD : va_D A (rr_wM g ad (rr_s σ 0 x1 x2) hh) := hD
          refine rr_iconst hx hb dX5_doHost_49 ?_
          exact hret _ _ _ _ _ _ h hP hD hS dX5_doHost_50
        · rw [if_pos c16] at h
          refine rr_bipush hx hb dX5_doHost_39 (by decide +kernel) ?_
          exact hret _ _ _ _ _ _ h hP hD hS dX5_doHost_41
      · rw [if_neg c12] at h
        refine rr_bipush hx hb dX5_doHost_27 (by decide +kernel) ?_
        exact hret _ _ _ _ _ _ h hP hD hS dX5_doHost_29
    · rw [if_pos c8] at h
      refine rr_bipush hx hb dX5_doHost_16 (by decide +kernel) ?_
      exact hret _ _ _ _ _ _ h hP hD hS dX5_doHost_18
-- RoomRingModel.doWeighs
abbrev rm_X5_doWeighs : Room := { frames := 2, cells := 0, slots := 0, locals := 42 }
theorem hd_X5_doWeighs : yX5_doWeighs.cls ≠ "java/lang/invoke/MethodHandle" ∧ yX5_doWeighs.cls ≠ "java/lang/invoke/VarHandle" ∧ (parseMethodDescriptor yX5_doWeighs.desc).map (fun d => d.parameters.length) = some 2 := by decide +kernel
set_option maxHeartbeats 4000000 in
set_option maxRecDepth 100000 in
theorem kX5_doWeighs (l : Launch) (g : rr_G) (ad : Nat → Nat) (sz : Nat) (hh : Int) (x1 : Int) (x2 : Int) (σ : rr_T) (out : (Int × rr_T)) (h : M5_doWeighs x1 x2 σ = some out) : Met l yX5_doWeighs wsX5_doWeighs rm_X5_doWeighs (rr_P g [.ref (ad 0), .int (rr_i x1), .int (rr_i x2)] (rr_wM g ad σ hh) sz) (rr_Qi g out.1 (rr_wM g ad out.2 hh) (va_A (rr_wM g ad σ hh) sz)) 0 0 (va_A (rr_wM g ad σ hh) sz) := by
  refine rr_rwI (cc := cX5_doWeighs) (maxL := 3) (fun σ => rr_wM g ad σ hh) σ out (by decide) rfl (Nat.le_of_ble_eq_true rfl) ?_
  intro p e s m ar below meth c Q ls A hx hb hml hown hts hK hA hP hD hS hret hl
  have hP : va_P g.1 vwCl (rr_wM g ad σ hh) s.heap := hP
  have hD : va_D A (rr_wM g ad σ hh) := hD
  have hown : s.vm.findClass RX5 = some m.cls := hown
  have hl : lv_has ls 3 [(0, .ref (ad 0)), (1, .int (rr_i x1)), (2, .int (rr_i x2))] := hl
  have hinX5 : ∀ w ∈ u_ws RX5 TX5 19, w ∈ wsX5_doWeighs := by decide +kernel
  have hk_0 : (Cond.fieldLink RX5 7 "RoomRingModel" "now" "[I").before ar s = true := hts _ (List.mem_of_getElem? (i := 1) (by decide +kernel))
  unfold M5_doWeighs at h
  refine lv_iload_n hx hb dX5_doWeighs_0 rfl (lv_at hl 1 rfl) ?_
  obtain ⟨v1, hw2, h⟩ := rr_b_some h
  refine rr_callI (va_runS (As := [.int (rr_i x1)]) (rest := []) ⟨hx, hb, hml, hown, hts⟩ (kX5_isName l g x1 v1 hw2) (va_cwS 1 hts gX5_doWeighs_X5_isName rfl rfl rfl hd_X5_isName ⟨Nat.le_of_ble_eq_true rfl, Nat.le_of_ble_eq_true rfl⟩) ⟨rr_R_blind, rr_R_pre hK (hP.sub (ws' := ([] : va_W)) [] rfl)⟩ rfl rfl hl.1 rfl (lv_room (Nat.le_of_ble_eq_true rfl)) dX5_doWeighs_1 ⟨Nat.zero_le _, Nat.zero_le _⟩) ?_
  obtain ⟨hg3, h⟩ := rr_c_some h
  refine rr_if_eq (tgt := 16) hx hb dX5_doWeighs_4 (by decide) hg3 (fun c4 => ?_) (fun c4 => ?_)
  · rw [if_pos c4] at h
    refine rr_bipush hx hb dX5_doWeighs_16 (by decide +kernel) ?_
    exact hret _ _ _ _ _ _ h hP hD hS dX5_doWeighs_18
  · rw [if_neg c4] at h
    refine lv_iload_n hx hb dX5_doWeighs_7 rfl (lv_at hl 2 rfl) ?_
    refine rr_iconst hx hb dX5_doWeighs_8 ?_
    refine rr_iconst hx hb dX5_doWeighs_9 ?_
    obtain ⟨v5, hw6, h⟩ := rr_b_some h
    refine rr_callI (va_runS (As := [.int (rr_i x2), .int (rr_i 1), .int (rr_i 4)]) (rest := []) ⟨hx, hb, hml, hown, hts⟩ (kX5_in l g x2 1 4 v5 hw6) (va_cwS 3 hts gX5_doWeighs_X5_in rfl rfl rfl hd_X5_in ⟨Nat.le_of_ble_eq_true rfl, Nat.le_of_ble_eq_true rfl⟩) ⟨rr_R_blind, rr_R_pre hK (hP.sub (ws' := ([] : va_W)) [] rfl)⟩ rfl rfl hl.1 rfl (lv_room (Nat.le_of_ble_eq_true rfl)) dX5_doWeighs_10 ⟨Nat.zero_le _, Nat.zero_le _⟩) ?_
    obtain ⟨hg7, h⟩ := rr_c_some h
    refine rr_if_ne (tgt := 19) hx hb dX5_doWeighs_13 (by decide) hg7 (fun c8 => ?_) (fun c8 => ?_)
    · rw [if_neg c8] at h
      refine lv_aload_n hx hb dX5_doWeighs_19 rfl (lv_at hl 0 rfl) ?_
      refine lv_iload_n hx hb dX5_doWeighs_20 rfl (lv_at hl 1 rfl) ?_
      obtain ⟨v9, hw10, h⟩ := rr_b_some h
      refine rr_callI (va_runV (As := [.int (rr_i x1)]) (rest := []) ⟨hx, hb, hml, hown, hts⟩ (kX5_isHost l g ad hh x1 σ v9 hw10) (cwV 1 hts gX5_doWeighs_X5_isHost rfl rfl rfl ⟨rfl, hd_X5_isHost⟩ ⟨Nat.le_of_ble_eq_true rfl, Nat.le_of_ble_eq_true rfl⟩) ⟨rr_R_blind, va_recv hK.1 hP (ci := 5) (q0 := 0) rfl rfl, rr_R_pre hK hP⟩ rfl rfl hl.1 rfl (lv_room (Nat.le_of_ble_eq_true rfl)) dX5_doWeighs_21 ⟨Nat.zero_le _, Nat.zero_le _⟩) ?_
      obtain ⟨hg11, h⟩ := rr_c_some h
      refine rr_if_ne (tgt := 30) hx hb dX5_doWeighs_24 (by decide) hg11 (fun c12 => ?_) (fun c12 => ?_)
      · rw [if_neg c12] at h
        refine lv_aload_n hx hb dX5_doWeighs_30 rfl (lv_at hl 0 rfl) ?_
        refine va_get (D := g.1) (ci := 5) (v := .ref (ad 1)) (C := RX5) (T := TX5) (N := 19) hx hb hts hinX5 hown hK.1 hP 0 rfl rfl 0 (by decide) hk_0 (fun _ h9 => h9) rfl dX5_doWeighs_31 ?_
        refine lv_iload_n hx hb dX5_doWeighs_34 rfl (lv_at hl 1 rfl) ?_
        refine lv_iload_n hx hb dX5_doWeighs_35 rfl (lv_at hl 2 rfl) ?_
        obtain ⟨hg13, h⟩ := rr_c_some h
        refine rr_iast (f := (σ 0)) (N := 143) hx hb hK hP hD hS 1 rfl rfl (by decide) hg13 dX5_doWeighs_36 (fun H locs hP hD hS => ?_)
        have hP : va_P g.1 vwCl (rr_wM g ad (rr_s σ 0 x1 x2) hh) H := hP
        have hD : va_D A (rr_wM g ad (rr_s σ 0 x1 x2) hh) := hD
        refine rr_iconst hx hb dX5_doWeighs_37 ?_
        exact hret _ _ _ _ _ _ h hP hD hS dX5_doWeighs_38
      · rw [if_pos c12] at h
        refine rr_bipush hx hb dX5_doWeighs_27 (by decide +kernel) ?_
        exact hret _ _ _ _ _ _ h hP hD hS dX5_doWeighs_29
    · rw [if_pos c8] at h
      refine rr_bipush hx hb dX5_doWeighs_16 (by decide +kernel) ?_
      exact hret _ _ _ _ _ _ h hP hD hS dX5_doWeighs_18
-- RoomRingModel.doGoes
abbrev rm_X5_doGoes : Room := { frames := 2, cells := 0, slots := 0, locals := 42 }
theorem hd_X5_doGoes : yX5_doGoes.cls ≠ "java/lang/invoke/MethodHandle" ∧ yX5_doGoes.cls ≠ "java/lang/invoke/VarHandle" ∧ (parseMethodDescriptor yX5_doGoes.desc).map (fun d => d.parameters.length) = some 1 := by decide +kernel
set_option maxHeartbeats 4000000 in
set_option maxRecDepth 100000 in
theorem kX5_doGoes (l : Launch) (g : rr_G) (ad : Nat → Nat) (sz : Nat) (hh : Int) (x1 : Int) (σ : rr_T) (out : (Int × rr_T)) (h : M5_doGoes x1 σ = some out) : Met l yX5_doGoes wsX5_doGoes rm_X5_doGoes (rr_P g [.ref (ad 0), .int (rr_i x1)] (rr_wM g ad σ hh) sz) (rr_Qi g out.1 (rr_wM g ad out.2 hh) (va_A (rr_wM g ad σ hh) sz)) 0 0 (va_A (rr_wM g ad σ hh) sz) := by
  refine rr_rwI (cc := cX5_doGoes) (maxL := 2) (fun σ => rr_wM g ad σ hh) σ out (by decide) rfl (Nat.le_of_ble_eq_true rfl) ?_
  intro p e s m ar below meth c Q ls A hx hb hml hown hts hK hA hP hD hS hret hl
  have hP : va_P g.1 vwCl (rr_wM g ad σ hh) s.heap := hP
  have hD : va_D A (rr_wM g ad σ hh) := hD
  have hown : s.vm.findClass RX5 = some m.cls := hown
  have hl : lv_has ls 2 [(0, .ref (ad 0)), (1, .int (rr_i x1))] := hl
  have hinX5 : ∀ w ∈ u_ws RX5 TX5 19, w ∈ wsX5_doGoes := by decide +kernel
  have hk_0 : (Cond.fieldLink RX5 7 "RoomRingModel" "now" "[I").before ar s = true := hts _ (List.mem_of_getElem? (i := 1) (by decide +kernel))
  unfold M5_doGoes at h
  refine lv_iload_n hx hb dX5_doGoes_0 rfl (lv_at hl 1 rfl) ?_
  obtain ⟨v1, hw2, h⟩ := rr_b_some h
  refine rr_callI (va_runS (As := [.int (rr_i x1)]) (rest := []) ⟨hx, hb, hml, hown, hts⟩ (kX5_isName l g x1 v1 hw2) (va_cwS 1 hts gX5_doGoes_X5_isName rfl rfl rfl hd_X5_isName ⟨Nat.le_of_ble_eq_true rfl, Nat.le_of_ble_eq_true rfl⟩) ⟨rr_R_blind, rr_R_pre hK (hP.sub (ws' := ([] : va_W)) [] rfl)⟩ rfl rfl hl.1 rfl (lv_room (Nat.le_of_ble_eq_true rfl)) dX5_doGoes_1 ⟨Nat.zero_le _, Nat.zero_le _⟩) ?_
  obtain ⟨hg3, h⟩ := rr_c_some h
  refine rr_if_ne (tgt := 10) hx hb dX5_doGoes_4 (by decide) hg3 (fun c4 => ?_) (fun c4 => ?_)
  · rw [if_neg c4] at h
    refine lv_aload_n hx hb dX5_doGoes_10 rfl (lv_at hl 0 rfl) ?_
    refine lv_iload_n hx hb dX5_doGoes_11 rfl (lv_at hl 1 rfl) ?_
    obtain ⟨v5, hw6, h⟩ := rr_b_some h
    refine rr_callI (va_runV (As := [.int (rr_i x1)]) (rest := []) ⟨hx, hb, hml, hown, hts⟩ (kX5_isHost l g ad hh x1 σ v5 hw6) (cwV 1 hts gX5_doGoes_X5_isHost rfl rfl rfl ⟨rfl, hd_X5_isHost⟩ ⟨Nat.le_of_ble_eq_true rfl, Nat.le_of_ble_eq_true rfl⟩) ⟨rr_R_blind, va_recv hK.1 hP (ci := 5) (q0 := 0) rfl rfl, rr_R_pre hK hP⟩ rfl rfl hl.1 rfl (lv_room (Nat.le_of_ble_eq_true rfl)) dX5_doGoes_12 ⟨Nat.zero_le _, Nat.zero_le _⟩) ?_
    obtain ⟨hg7, h⟩ := rr_c_some h
    refine rr_if_ne (tgt := 21) hx hb dX5_doGoes_15 (by decide) hg7 (fun c8 => ?_) (fun c8 => ?_)
    · rw [if_neg c8] at h
      refine lv_aload_n hx hb dX5_doGoes_21 rfl (lv_at hl 0 rfl) ?_
      refine va_get (D := g.1) (ci := 5) (v := .ref (ad 1)) (C := RX5) (T := TX5) (N := 19) hx hb hts hinX5 hown hK.1 hP 0 rfl rfl 0 (by decide) hk_0 (fun _ h9 => h9) rfl dX5_doGoes_22 ?_
      refine lv_iload_n hx hb dX5_doGoes_25 rfl (lv_at hl 1 rfl) ?_
      refine rr_iconst hx hb dX5_doGoes_26 ?_
      obtain ⟨hg9, h⟩ := rr_c_some h
      refine rr_iast (f := (σ 0)) (N := 143) hx hb hK hP hD hS 1 rfl rfl (by decide) hg9 dX5_doGoes_27 (fun H locs hP hD hS => ?_)
      have hP : va_P g.1 vwCl (rr_wM g ad (rr_s σ 0 x1 0) hh) H := hP
      have hD : va_D A (rr_wM g ad (rr_s σ 0 x1 0) hh) := hD
      refine rr_iconst hx hb dX5_doGoes_28 ?_
      exact hret _ _ _ _ _ _ h hP hD hS dX5_doGoes_29
    · rw [if_pos c8] at h
      refine rr_bipush hx hb dX5_doGoes_18 (by decide +kernel) ?_
      exact hret _ _ _ _ _ _ h hP hD hS dX5_doGoes_20
  · rw [if_pos c4] at h
    refine rr_bipush hx hb dX5_doGoes_7 (by decide +kernel) ?_
    exact hret _ _ _ _ _ _ h hP hD hS dX5_doGoes_9
-- RoomRingModel.mayCome
abbrev rm_X5_mayCome : Room := { frames := 2, cells := 0, slots := 0, locals := 42 }
theorem hd_X5_mayCome : yX5_mayCome.cls ≠ "java/lang/invoke/MethodHandle" ∧ yX5_mayCome.cls ≠ "java/lang/invoke/VarHandle" ∧ (parseMethodDescriptor yX5_mayCome.desc).map (fun d => d.parameters.length) = some 1 := by decide +kernel
set_option maxHeartbeats 4000000 in
set_option maxRecDepth 100000 in
theorem kX5_mayCome (l : Launch) (g : rr_G) (ad : Nat → Nat) (hh : Int) (x1 : Int) (σ : rr_T) (out : Int) (h : M5_mayCome x1 σ = some out) : Met l yX5_mayCome wsX5_mayCome rm_X5_mayCome (rr_R g [.ref (ad 0), .int (rr_i x1)] (rr_wM g ad σ hh)) (vp_Si (fun x => x = rr_i out)) 0 0 (fun _ => False) := by
  refine rr_roI (cc := cX5_mayCome) (maxL := 2) (by decide) rfl (Nat.le_of_ble_eq_true rfl) ?_
  intro p e s m ar below meth c Q ls hx hb hml hown hts hK hP hret hl
  have hown : s.vm.findClass RX5 = some m.cls := hown
  have hl : lv_has ls 2 [(0, .ref (ad 0)), (1, .int (rr_i x1))] := hl
  have hinX5 : ∀ w ∈ u_ws RX5 TX5 19, w ∈ wsX5_mayCome := by decide +kernel
  have hk_0 : (Cond.fieldLink RX5 7 "RoomRingModel" "now" "[I").before ar s = true := hts _ (List.mem_of_getElem? (i := 1) (by decide +kernel))
  unfold M5_mayCome at h
  refine lv_iload_n hx hb dX5_mayCome_0 rfl (lv_at hl 1 rfl) ?_
  obtain ⟨v1, hw2, h⟩ := rr_b_some h
  refine rr_callI (va_runS (As := [.int (rr_i x1)]) (rest := []) ⟨hx, hb, hml, hown, hts⟩ (kX5_isKey l g x1 v1 hw2) (va_cwS 1 hts gX5_mayCome_X5_isKey rfl rfl rfl hd_X5_isKey ⟨Nat.le_of_ble_eq_true rfl, Nat.le_of_ble_eq_true rfl⟩) ⟨rr_R_blind, rr_R_pre hK (hP.sub (ws' := ([] : va_W)) [] rfl)⟩ rfl rfl hl.1 rfl (lv_room (Nat.le_of_ble_eq_true rfl)) dX5_mayCome_1 ⟨Nat.zero_le _, Nat.zero_le _⟩) ?_
  obtain ⟨hg3, h⟩ := rr_c_some h
  refine rr_if_ne (tgt := 10) hx hb dX5_mayCome_4 (by decide) hg3 (fun c4 => ?_) (fun c4 => ?_)
  · rw [if_neg c4] at h
    refine lv_aload_n hx hb dX5_mayCome_10 rfl (lv_at hl 0 rfl) ?_
    refine lv_iload_n hx hb dX5_mayCome_11 rfl (lv_at hl 1 rfl) ?_
    obtain ⟨v5, hw6, h⟩ := rr_b_some h
    refine rr_callI (va_runV (As := [.int (rr_i x1)]) (rest := []) ⟨hx, hb, hml, hown, hts⟩ (kX5_rowOf l g ad hh x1 σ v5 hw6) (cwV 1 hts gX5_mayCome_X5_rowOf rfl rfl rfl ⟨rfl, hd_X5_rowOf⟩ ⟨Nat.le_of_ble_eq_true rfl, Nat.le_of_ble_eq_true rfl⟩) ⟨rr_R_blind, va_recv hK.1 hP (ci := 5) (q0 := 0) rfl rfl, rr_R_pre hK hP⟩ rfl rfl hl.1 rfl (lv_room (Nat.le_of_ble_eq_true rfl)) dX5_mayCome_12 ⟨Nat.zero_le _, Nat.zero_le _⟩) ?_
    refine rr_iconst hx hb dX5_mayCome_15 ?_
    obtain ⟨hg7, h⟩ := rr_c_some h
    refine rr_icmp_eq (tgt := 24) hx hb dX5_mayCome_16 (by decide) hg7 (by decide) (fun c8 => ?_) (fun c8 => ?_)
    · rw [if_pos c8] at h
      refine lv_aload_n hx hb dX5_mayCome_24 rfl (lv_at hl 0 rfl) ?_
      refine va_get (D := g.1) (ci := 5) (v := .ref (ad 1)) (C := RX5) (T := TX5) (N := 19) hx hb hts hinX5 hown hK.1 hP 0 rfl rfl 0 (by decide) hk_0 (fun _ h9 => h9) rfl dX5_mayCome_25 ?_
      refine rr_sipush hx hb dX5_mayCome_28 (by decide +kernel) ?_
      refine rr_iald (f := (σ 0)) (N := 143) hx hb hK hP 1 rfl rfl (by decide) (by decide) dX5_mayCome_31 ?_
      refine rr_bipush hx hb dX5_mayCome_32 (by decide +kernel) ?_
      obtain ⟨hg9, h⟩ := rr_c_some h
      refine rr_icmp_ne (tgt := 42) hx hb dX5_mayCome_34 (by decide) hg9 (by decide) (fun c10 => ?_) (fun c10 => ?_)
      · rw [if_neg c10] at h
        refine rr_iconst hx hb dX5_mayCome_42 ?_
        exact hret _ _ _ h dX5_mayCome_43
      · rw [if_pos c10] at h
        refine rr_bipush hx hb dX5_mayCome_37 (by decide +kernel) ?_
        refine lv_goto (tgt := 43) hx hb dX5_mayCome_39 (by decide) ?_
        exact hret _ _ _ h dX5_mayCome_43
    · rw [if_neg c8] at h
      refine rr_bipush hx hb dX5_mayCome_19 (by decide +kernel) ?_
      refine lv_goto (tgt := 43) hx hb dX5_mayCome_21 (by decide) ?_
      exact hret _ _ _ h dX5_mayCome_43
  · rw [if_pos c4] at h
    refine rr_bipush hx hb dX5_mayCome_7 (by decide +kernel) ?_
    exact hret _ _ _ h dX5_mayCome_9
-- RoomRingModel.doKey
abbrev rm_X5_doKey : Room := { frames := 3, cells := 0, slots := 0, locals := 63 }
theorem hd_X5_doKey : yX5_doKey.cls ≠ "java/lang/invoke/MethodHandle" ∧ yX5_doKey.cls ≠ "java/lang/invoke/VarHandle" ∧ (parseMethodDescriptor yX5_doKey.desc).map (fun d => d.parameters.length) = some 1 := by decide +kernel
set_option maxHeartbeats 4000000 in
set_option maxRecDepth 100000 in
theorem kX5_doKey (l : Launch) (g : rr_G) (ad : Nat → Nat) (sz : Nat) (hh : Int) (x1 : Int) (σ : rr_T) (out : (Int × rr_T)) (h : M5_doKey x1 σ = some out) : Met l yX5_doKey wsX5_doKey rm_X5_doKey (rr_P g [.ref (ad 0), .int (rr_i x1)] (rr_wM g ad σ hh) sz) (rr_Qi g out.1 (rr_wM g ad out.2 hh) (va_A (rr_wM g ad σ hh) sz)) 0 0 (va_A (rr_wM g ad σ hh) sz) := by
  refine rr_rwI (cc := cX5_doKey) (maxL := 4) (fun σ => rr_wM g ad σ hh) σ out (by decide) rfl (Nat.le_of_ble_eq_true rfl) ?_
  intro p e s m ar below meth c Q ls A hx hb hml hown hts hK hA hP hD hS hret hl
  have hP : va_P g.1 vwCl (rr_wM g ad σ hh) s.heap := hP
  have hD : va_D A (rr_wM g ad σ hh) := hD
  have hown : s.vm.findClass RX5 = some m.cls := hown
  have hl : lv_has ls 4 [(0, .ref (ad 0)), (1, .int (rr_i x1))] := hl
  have hinX5 : ∀ w ∈ u_ws RX5 TX5 19, w ∈ wsX5_doKey := by decide +kernel
  have hk_0 : (Cond.fieldLink RX5 7 "RoomRingModel" "now" "[I").before ar s = true := hts _ (List.mem_of_getElem? (i := 1) (by decide +kernel))
  unfold M5_doKey at h
  have hL5_doKey_21 : ∀ (x1 : Int) (K : Int → rr_T → Option (Int × rr_T)) (n : Nat) (x3 : Int) (σ : rr_T) (H : Heap) (locs : List Loc) (ls : Array Slot), L5_doKey_21 x1 K n x3 σ = some out → va_P g.1 vwCl (rr_wM g ad σ hh) H → va_D A (rr_wM g ad σ hh) → va_S A s.heap H locs → lv_has ls 4 [(0, .ref (ad 0)), (1, .int (rr_i x1)), (3, .int (rr_i x3))] → (∀ (z3 : Int) (τ9 : rr_T) (H : Heap) (locs : List Loc) (ls : Array Slot), K z3 τ9 = some out → va_P g.1 vwCl (rr_wM g ad τ9 hh) H → va_D A (rr_wM g ad τ9 hh) → va_S A s.heap H locs → lv_has ls 4 [(0, .ref (ad 0)), (1, .int (rr_i x1)), (3, .int (rr_i z3))] → W p l e rm_X5_doKey s m ar below meth c H locs 0 0 Q (F0 m 66 ls [])) → W p l e rm_X5_doKey s m ar below meth c H locs 0 0 Q (F0 m 21 ls []) := by
    intro x1 K n
    induction n with
    | zero => intro x3 σ H locs ls h hP hD hS hl hk; cases h
    | succ n ih =>
      intro x3 σ H locs ls h hP hD hS hl hk
      rw [L5_doKey_21_s] at h
      refine lv_iload_n hx hb dX5_doKey_21 rfl (lv_at hl 2 rfl) ?_
      obtain ⟨hg5, h⟩ := rr_c_some h
      refine rr_if_le (tgt := 66) hx hb dX5_doKey_22 (by decide) hg5 (fun c6 => ?_) (fun c6 => ?_)
      · rw [if_pos c6] at h
        exact hk x3 σ _ _ ls h hP hD hS (lv_sub hl [0, 1, 2] rfl)
      · rw [if_neg c6] at h
        refine lv_aload_n hx hb dX5_doKey_25 rfl (lv_at hl 0 rfl) ?_
        refine va_get (D := g.1) (ci := 5) (v := .ref (ad 1)) (C := RX5) (T := TX5) (N := 19) hx hb hts hinX5 hown hK.1 hP 0 rfl rfl 0 (by decide) hk_0 (fun _ h9 => h9) rfl dX5_doKey_26 ?_
        refine rr_bipush hx hb dX5_doKey_29 (by decide +kernel) ?_
        refine lv_iload_n hx hb dX5_doKey_31 rfl (lv_at hl 2 rfl) ?_
        refine rr_iadd hx hb dX5_doKey_32 ?_
        refine rr_iconst hx hb dX5_doKey_33 ?_
        refine rr_isub hx hb dX5_doKey_34 ?_
        obtain ⟨hg7, h⟩ := rr_c_some h
        refine rr_iald (f := (σ 0)) (N := 143) hx hb hK hP 1 rfl rfl (by decide) hg7 dX5_doKey_35 ?_
        refine lv_iload_n hx hb dX5_doKey_36 rfl (lv_at hl 1 rfl) ?_
        obtain ⟨hg8, h⟩ := rr_c_some h
        refine rr_icmp_le (tgt := 66) hx hb dX5_doKey_37 (by decide) hg8.1 hg8.2 (fun c9 => ?_) (fun c9 => ?_)
        · rw [if_pos c9] at h
          exact hk x3 σ _ _ ls h hP hD hS (lv_sub hl [0, 1, 2] rfl)
        · rw [if_neg c9] at h
          refine lv_aload_n hx hb dX5_doKey_40 rfl (lv_at hl 0 rfl) ?_
          refine va_get (D := g.1) (ci := 5) (v := .ref (ad 1)) (C := RX5) (T := TX5) (N := 19) hx hb hts hinX5 hown hK.1 hP 0 rfl rfl 0 (by decide) hk_0 (fun _ h9 => h9) rfl dX5_doKey_41 ?_
          refine rr_bipush hx hb dX5_doKey_44 (by decide +kernel) ?_
          refine lv_iload_n hx hb dX5_doKey_46 rfl (lv_at hl 2 rfl) ?_
          refine rr_iadd hx hb dX5_doKey_47 ?_
          refine lv_aload_n hx hb dX5_doKey_48 rfl (lv_at hl 0 rfl) ?_
          refine va_get (D := g.1) (ci := 5) (v := .ref (ad 1)) (C := RX5) (T := TX5) (N := 19) hx hb hts hinX5 hown hK.1 hP 0 rfl rfl 0 (by decide) hk_0 (fun _ h9 => h9) rfl dX5_doKey_49 ?_
          refine rr_bipush hx hb dX5_doKey_52 (by decide +kernel) ?_
          refine lv_iload_n hx hb dX5_doKey_54 rfl (lv_at hl 2 rfl) ?_
          refine rr_iadd hx hb dX5_doKey_55 ?_
          refine rr_iconst hx hb dX5_doKey_56 ?_
          refine rr_isub hx hb dX5_doKey_57 ?_
          refine rr_iald (f := (σ 0)) (N := 143) hx hb hK hP 1 rfl rfl (by decide) hg7 dX5_doKey_58 ?_
          obtain ⟨hg10, h⟩ := rr_c_some h
          refine rr_iast (f := (σ 0)) (N := 143) hx hb hK hP hD hS 1 rfl rfl (by decide) hg10 dX5_doKey_59 (fun H locs hP hD hS => ?_)
          have hP : va_P g.1 vwCl (rr_wM g ad (rr_s σ 0 (100 + x3) (σ 0 ((100 + x3) - 1))) hh) H := hP
          have hD : va_D A (rr_wM g ad (rr_s σ 0 (100 + x3) (σ 0 ((100 + x3) - 1))) hh) := hD
          refine rr_iinc (k := 2) (a := x3) (lv' := [(3, .int (rr_i (x3 + (-1)))), (0, .ref (ad 0)), (1, .int (rr_i x1))]) hx hb dX5_doKey_60 hl rfl (by decide) rfl (fun ls hl => ?_)
          refine lv_goto (tgt := 21) hx hb dX5_doKey_63 (by decide) ?_
          exact ih (x3 + (-1)) (rr_s σ 0 (100 + x3) (σ 0 ((100 + x3) - 1))) _ _ ls h hP hD hS (lv_sub hl [1, 2, 0] rfl) hk
  refine lv_aload_n hx hb dX5_doKey_0 rfl (lv_at hl 0 rfl) ?_
  refine lv_iload_n hx hb dX5_doKey_1 rfl (lv_at hl 1 rfl) ?_
  obtain ⟨v1, hw2, h⟩ := rr_b_some h
  refine rr_callI (va_runV (As := [.int (rr_i x1)]) (rest := []) ⟨hx, hb, hml, hown, hts⟩ (kX5_mayCome l g ad hh x1 σ v1 hw2) (cwV 1 hts gX5_doKey_X5_mayCome rfl rfl rfl ⟨rfl, hd_X5_mayCome⟩ ⟨Nat.le_of_ble_eq_true rfl, Nat.le_of_ble_eq_true rfl⟩) ⟨rr_R_blind, va_recv hK.1 hP (ci := 5) (q0 := 0) rfl rfl, rr_R_pre hK hP⟩ rfl rfl hl.1 rfl (lv_room (Nat.le_of_ble_eq_true rfl)) dX5_doKey_2 ⟨Nat.zero_le _, Nat.zero_le _⟩) ?_
  refine lv_istore_n (lv' := [(2, .int (rr_i v1)), (0, .ref (ad 0)), (1, .int (rr_i x1))]) hx hb dX5_doKey_5 rfl hl (by decide) rfl (fun ls hl => ?_)
  refine lv_iload_n hx hb dX5_doKey_6 rfl (lv_at hl 0 rfl) ?_
  obtain ⟨hg3, h⟩ := rr_c_some h
  refine rr_if_eq (tgt := 12) hx hb dX5_doKey_7 (by decide) hg3 (fun c4 => ?_) (fun c4 => ?_)
  · rw [if_pos c4] at h
    refine lv_aload_n hx hb dX5_doKey_12 rfl (lv_at hl 1 rfl) ?_
    refine va_get (D := g.1) (ci := 5) (v := .ref (ad 1)) (C := RX5) (T := TX5) (N := 19) hx hb hts hinX5 hown hK.1 hP 0 rfl rfl 0 (by decide) hk_0 (fun _ h9 => h9) rfl dX5_doKey_13 ?_
    refine rr_sipush hx hb dX5_doKey_16 (by decide +kernel) ?_
    refine rr_iald (f := (σ 0)) (N := 143) hx hb hK hP 1 rfl rfl (by decide) (by decide) dX5_doKey_19 ?_
    refine lv_istore_n (lv' := [(3, .int (rr_i (σ 0 140))), (2, .int (rr_i v1)), (0, .ref (ad 0)), (1, .int (rr_i x1))]) hx hb dX5_doKey_20 rfl hl (by decide) rfl (fun ls hl => ?_)
    refine hL5_doKey_21 x1 _ 1000 (σ 0 140) σ _ _ ls h hP hD hS (lv_sub hl [2, 3, 0] rfl) (fun y3_21 σ_21 H locs ls h hP hD hS hl => ?_)
    refine lv_aload_n hx hb dX5_doKey_66 rfl (lv_at hl 0 rfl) ?_
    refine va_get (D := g.1) (ci := 5) (v := .ref (ad 1)) (C := RX5) (T := TX5) (N := 19) hx hb hts hinX5 hown hK.1 hP 0 rfl rfl 0 (by decide) hk_0 (fun _ h9 => h9) rfl dX5_doKey_67 ?_
    refine rr_bipush hx hb dX5_doKey_70 (by decide +kernel) ?_
    refine lv_iload_n hx hb dX5_doKey_72 rfl (lv_at hl 2 rfl) ?_
    refine rr_iadd hx hb dX5_doKey_73 ?_
    refine lv_iload_n hx hb dX5_doKey_74 rfl (lv_at hl 1 rfl) ?_
    obtain ⟨hg11, h⟩ := rr_c_some h
    refine rr_iast (f := (σ_21 0)) (N := 143) hx hb hK hP hD hS 1 rfl rfl (by decide) hg11 dX5_doKey_75 (fun H locs hP hD hS => ?_)
    have hP : va_P g.1 vwCl (rr_wM g ad (rr_s σ_21 0 (100 + y3_21) x1) hh) H := hP
    have hD : va_D A (rr_wM g ad (rr_s σ_21 0 (100 + y3_21) x1) hh) := hD
    refine lv_aload_n hx hb dX5_doKey_76 rfl (lv_at hl 0 rfl) ?_
    refine va_get (D := g.1) (ci := 5) (v := .ref (ad 1)) (C := RX5) (T := TX5) (N := 19) hx hb hts hinX5 hown hK.1 hP 0 rfl rfl 0 (by decide) hk_0 (fun _ h9 => h9) rfl dX5_doKey_77 ?_
    refine rr_sipush hx hb dX5_doKey_80 (by decide +kernel) ?_
    refine lv_dup2_11 hx hb dX5_doKey_83 rfl rfl ?_
    refine rr_iald (f := (rr_u (σ_21 0) (100 + y3_21) x1)) (N := 143) hx hb hK hP 1 rfl rfl (by decide) (by decide) dX5_doKey_84 ?_
    refine rr_iconst hx hb dX5_doKey_85 ?_
    refine rr_iadd hx hb dX5_doKey_86 ?_
    refine rr_iast (f := (rr_u (σ_21 0) (100 + y3_21) x1)) (N := 143) hx hb hK hP hD hS 1 rfl rfl (by decide) (by decide) dX5_doKey_87 (fun H locs hP hD hS => ?_)
    have hP : va_P g.1 vwCl (rr_wM g ad (rr_s (rr_s σ_21 0 (100 + y3_21) x1) 0 140 ((rr_u (σ_21 0) (100 + y3_21) x1 140) + 1)) hh) H := hP
    have hD : va_D A (rr_wM g ad (rr_s (rr_s σ_21 0 (100 + y3_21) x1) 0 140 ((rr_u (σ_21 0) (100 + y3_21) x1 140) + 1)) hh) := hD
    refine rr_iconst hx hb dX5_doKey_88 ?_
    exact hret _ _ _ _ _ _ h hP hD hS dX5_doKey_89
  · rw [if_neg c4] at h
    refine lv_iload_n hx hb dX5_doKey_10 rfl (lv_at hl 0 rfl) ?_
    exact hret _ _ _ _ _ _ h hP hD hS dX5_doKey_11
-- RoomRingModel.doDrops
abbrev rm_X5_doDrops : Room := { frames := 2, cells := 0, slots := 0, locals := 42 }
theorem hd_X5_doDrops : yX5_doDrops.cls ≠ "java/lang/invoke/MethodHandle" ∧ yX5_doDrops.cls ≠ "java/lang/invoke/VarHandle" ∧ (parseMethodDescriptor yX5_doDrops.desc).map (fun d => d.parameters.length) = some 1 := by decide +kernel
set_option maxHeartbeats 4000000 in
set_option maxRecDepth 100000 in
theorem kX5_doDrops (l : Launch) (g : rr_G) (ad : Nat → Nat) (sz : Nat) (hh : Int) (x1 : Int) (σ : rr_T) (out : (Int × rr_T)) (h : M5_doDrops x1 σ = some out) : Met l yX5_doDrops wsX5_doDrops rm_X5_doDrops (rr_P g [.ref (ad 0), .int (rr_i x1)] (rr_wM g ad σ hh) sz) (rr_Qi g out.1 (rr_wM g ad out.2 hh) (va_A (rr_wM g ad σ hh) sz)) 0 0 (va_A (rr_wM g ad σ hh) sz) := by
  refine rr_rwI (cc := cX5_doDrops) (maxL := 4) (fun σ => rr_wM g ad σ hh) σ out (by decide) rfl (Nat.le_of_ble_eq_true rfl) ?_
  intro p e s m ar below meth c Q ls A hx hb hml hown hts hK hA hP hD hS hret hl
  have hP : va_P g.1 vwCl (rr_wM g ad σ hh) s.heap := hP
  have hD : va_D A (rr_wM g ad σ hh) := hD
  have hown : s.vm.findClass RX5 = some m.cls := hown
  have hl : lv_has ls 4 [(0, .ref (ad 0)), (1, .int (rr_i x1))] := hl
  have hinX5 : ∀ w ∈ u_ws RX5 TX5 19, w ∈ wsX5_doDrops := by decide +kernel
  have hk_0 : (Cond.fieldLink RX5 7 "RoomRingModel" "now" "[I").before ar s = true := hts _ (List.mem_of_getElem? (i := 1) (by decide +kernel))
  unfold M5_doDrops at h
  have hL5_doDrops_38 : ∀ (K : rr_T → Option (Int × rr_T)) (n : Nat) (x3 : Int) (σ : rr_T) (H : Heap) (locs : List Loc) (ls : Array Slot), L5_doDrops_38 K n x3 σ = some out → va_P g.1 vwCl (rr_wM g ad σ hh) H → va_D A (rr_wM g ad σ hh) → va_S A s.heap H locs → lv_has ls 4 [(0, .ref (ad 0)), (3, .int (rr_i x3))] → (∀ (τ9 : rr_T) (H : Heap) (locs : List Loc) (ls : Array Slot), K τ9 = some out → va_P g.1 vwCl (rr_wM g ad τ9 hh) H → va_D A (rr_wM g ad τ9 hh) → va_S A s.heap H locs → lv_has ls 4 [] → W p l e rm_X5_doDrops s m ar below meth c H locs 0 0 Q (F0 m 76 ls [])) → W p l e rm_X5_doDrops s m ar below meth c H locs 0 0 Q (F0 m 38 ls []) := by
    intro K n
    induction n with
    | zero => intro x3 σ H locs ls h hP hD hS hl hk; cases h
    | succ n ih =>
      intro x3 σ H locs ls h hP hD hS hl hk
      rw [L5_doDrops_38_s] at h
      refine lv_iload_n hx hb dX5_doDrops_38 rfl (lv_at hl 1 rfl) ?_
      refine lv_aload_n hx hb dX5_doDrops_39 rfl (lv_at hl 0 rfl) ?_
      refine va_get (D := g.1) (ci := 5) (v := .ref (ad 1)) (C := RX5) (T := TX5) (N := 19) hx hb hts hinX5 hown hK.1 hP 0 rfl rfl 0 (by decide) hk_0 (fun _ h9 => h9) rfl dX5_doDrops_40 ?_
      refine rr_sipush hx hb dX5_doDrops_43 (by decide +kernel) ?_
      refine rr_iald (f := (σ 0)) (N := 143) hx hb hK hP 1 rfl rfl (by decide) (by decide) dX5_doDrops_46 ?_
      obtain ⟨hg9, h⟩ := rr_c_some h
      refine rr_icmp_ge (tgt := 76) hx hb dX5_doDrops_47 (by decide) hg9.1 hg9.2 (fun c10 => ?_) (fun c10 => ?_)
      · rw [if_pos c10] at h
        exact hk σ _ _ ls h hP hD hS (lv_sub hl [] rfl)
      · rw [if_neg c10] at h
        refine lv_aload_n hx hb dX5_doDrops_50 rfl (lv_at hl 0 rfl) ?_
        refine va_get (D := g.1) (ci := 5) (v := .ref (ad 1)) (C := RX5) (T := TX5) (N := 19) hx hb hts hinX5 hown hK.1 hP 0 rfl rfl 0 (by decide) hk_0 (fun _ h9 => h9) rfl dX5_doDrops_51 ?_
        refine rr_bipush hx hb dX5_doDrops_54 (by decide +kernel) ?_
        refine lv_iload_n hx hb dX5_doDrops_56 rfl (lv_at hl 1 rfl) ?_
        refine rr_iadd hx hb dX5_doDrops_57 ?_
        refine lv_aload_n hx hb dX5_doDrops_58 rfl (lv_at hl 0 rfl) ?_
        refine va_get (D := g.1) (ci := 5) (v := .ref (ad 1)) (C := RX5) (T := TX5) (N := 19) hx hb hts hinX5 hown hK.1 hP 0 rfl rfl 0 (by decide) hk_0 (fun _ h9 => h9) rfl dX5_doDrops_59 ?_
        refine rr_bipush hx hb dX5_doDrops_62 (by decide +kernel) ?_
        refine lv_iload_n hx hb dX5_doDrops_64 rfl (lv_at hl 1 rfl) ?_
        refine rr_iadd hx hb dX5_doDrops_65 ?_
        refine rr_iconst hx hb dX5_doDrops_66 ?_
        refine rr_iadd hx hb dX5_doDrops_67 ?_
        obtain ⟨hg11, h⟩ := rr_c_some h
        refine rr_iald (f := (σ 0)) (N := 143) hx hb hK hP 1 rfl rfl (by decide) hg11 dX5_doDrops_68 ?_
        obtain ⟨hg12, h⟩ := rr_c_some h
        refine rr_iast (f := (σ 0)) (N := 143) hx hb hK hP hD hS 1 rfl rfl (by decide) hg12 dX5_doDrops_69 (fun H locs hP hD hS => ?_)
        have hP : va_P g.1 vwCl (rr_wM g ad (rr_s σ 0 (100 + x3) (σ 0 ((100 + x3) + 1))) hh) H := hP
        have hD : va_D A (rr_wM g ad (rr_s σ 0 (100 + x3) (σ 0 ((100 + x3) + 1))) hh) := hD
        refine rr_iinc (k := 1) (a := x3) (lv' := [(3, .int (rr_i (x3 + 1))), (0, .ref (ad 0))]) hx hb dX5_doDrops_70 hl rfl (by decide) rfl (fun ls hl => ?_)
        refine lv_goto (tgt := 38) hx hb dX5_doDrops_73 (by decide) ?_
        exact ih (x3 + 1) (rr_s σ 0 (100 + x3) (σ 0 ((100 + x3) + 1))) _ _ ls h hP hD hS (lv_sub hl [1, 0] rfl) hk
  refine lv_iload_n hx hb dX5_doDrops_0 rfl (lv_at hl 1 rfl) ?_
  obtain ⟨v1, hw2, h⟩ := rr_b_some h
  refine rr_callI (va_runS (As := [.int (rr_i x1)]) (rest := []) ⟨hx, hb, hml, hown, hts⟩ (kX5_isKey l g x1 v1 hw2) (va_cwS 1 hts gX5_doDrops_X5_isKey rfl rfl rfl hd_X5_isKey ⟨Nat.le_of_ble_eq_true rfl, Nat.le_of_ble_eq_true rfl⟩) ⟨rr_R_blind, rr_R_pre hK (hP.sub (ws' := ([] : va_W)) [] rfl)⟩ rfl rfl hl.1 rfl (lv_room (Nat.le_of_ble_eq_true rfl)) dX5_doDrops_1 ⟨Nat.zero_le _, Nat.zero_le _⟩) ?_
  obtain ⟨hg3, h⟩ := rr_c_some h
  refine rr_if_ne (tgt := 10) hx hb dX5_doDrops_4 (by decide) hg3 (fun c4 => ?_) (fun c4 => ?_)
  · rw [if_neg c4] at h
    refine lv_aload_n hx hb dX5_doDrops_10 rfl (lv_at hl 0 rfl) ?_
    refine lv_iload_n hx hb dX5_doDrops_11 rfl (lv_at hl 1 rfl) ?_
    obtain ⟨v5, hw6, h⟩ := rr_b_some h
    refine rr_callI (va_runV (As := [.int (rr_i x1)]) (rest := []) ⟨hx, hb, hml, hown, hts⟩ (kX5_rowOf l g ad hh x1 σ v5 hw6) (cwV 1 hts gX5_doDrops_X5_rowOf rfl rfl rfl ⟨rfl, hd_X5_rowOf⟩ ⟨Nat.le_of_ble_eq_true rfl, Nat.le_of_ble_eq_true rfl⟩) ⟨rr_R_blind, va_recv hK.1 hP (ci := 5) (q0 := 0) rfl rfl, rr_R_pre hK hP⟩ rfl rfl hl.1 rfl (lv_room (Nat.le_of_ble_eq_true rfl)) dX5_doDrops_12 ⟨Nat.zero_le _, Nat.zero_le _⟩) ?_
    refine lv_istore_n (lv' := [(2, .int (rr_i v5)), (0, .ref (ad 0)), (1, .int (rr_i x1))]) hx hb dX5_doDrops_15 rfl hl (by decide) rfl (fun ls hl => ?_)
    refine lv_iload_n hx hb dX5_doDrops_16 rfl (lv_at hl 0 rfl) ?_
    refine rr_iconst hx hb dX5_doDrops_17 ?_
    obtain ⟨hg7, h⟩ := rr_c_some h
    refine rr_icmp_ne (tgt := 24) hx hb dX5_doDrops_18 (by decide) hg7 (by decide) (fun c8 => ?_) (fun c8 => ?_)
    · rw [if_neg c8] at h
      refine lv_aload_n hx hb dX5_doDrops_24 rfl (lv_at hl 1 rfl) ?_
      refine va_get (D := g.1) (ci := 5) (v := .ref (ad 1)) (C := RX5) (T := TX5) (N := 19) hx hb hts hinX5 hown hK.1 hP 0 rfl rfl 0 (by decide) hk_0 (fun _ h9 => h9) rfl dX5_doDrops_25 ?_
      refine rr_sipush hx hb dX5_doDrops_28 (by decide +kernel) ?_
      refine lv_dup2_11 hx hb dX5_doDrops_31 rfl rfl ?_
      refine rr_iald (f := (σ 0)) (N := 143) hx hb hK hP 1 rfl rfl (by decide) (by decide) dX5_doDrops_32 ?_
      refine rr_iconst hx hb dX5_doDrops_33 ?_
      refine rr_isub hx hb dX5_doDrops_34 ?_
      refine rr_iast (f := (σ 0)) (N := 143) hx hb hK hP hD hS 1 rfl rfl (by decide) (by decide) dX5_doDrops_35 (fun H locs hP hD hS => ?_)
      have hP : va_P g.1 vwCl (rr_wM g ad (rr_s σ 0 140 ((σ 0 140) - 1)) hh) H := hP
      have hD : va_D A (rr_wM g ad (rr_s σ 0 140 ((σ 0 140) - 1)) hh) := hD
      refine lv_iload_n hx hb dX5_doDrops_36 rfl (lv_at hl 0 rfl) ?_
      refine lv_istore_n (lv' := [(3, .int (rr_i v5)), (2, .int (rr_i v5)), (0, .ref (ad 0)), (1, .int (rr_i x1))]) hx hb dX5_doDrops_37 rfl hl (by decide) rfl (fun ls hl => ?_)
      refine hL5_doDrops_38 _ 1000 v5 (rr_s σ 0 140 ((σ 0 140) - 1)) _ _ ls h hP hD hS (lv_sub hl [2, 0] rfl) (fun σ_38 H locs ls h hP hD hS hl => ?_)
      refine rr_iconst hx hb dX5_doDrops_76 ?_
      exact hret _ _ _ _ _ _ h hP hD hS dX5_doDrops_77
    · rw [if_pos c8] at h
      refine rr_bipush hx hb dX5_doDrops_21 (by decide +kernel) ?_
      exact hret _ _ _ _ _ _ h hP hD hS dX5_doDrops_23
  · rw [if_pos c4] at h
    refine rr_bipush hx hb dX5_doDrops_7 (by decide +kernel) ?_
    exact hret _ _ _ _ _ _ h hP hD hS dX5_doDrops_9
-- RoomRingModel.doExtra
abbrev rm_X5_doExtra : Room := { frames := 1, cells := 0, slots := 0, locals := 22 }
theorem hd_X5_doExtra : yX5_doExtra.cls ≠ "java/lang/invoke/MethodHandle" ∧ yX5_doExtra.cls ≠ "java/lang/invoke/VarHandle" ∧ (parseMethodDescriptor yX5_doExtra.desc).map (fun d => d.parameters.length) = some 1 := by decide +kernel
set_option maxHeartbeats 4000000 in
set_option maxRecDepth 100000 in
theorem kX5_doExtra (l : Launch) (g : rr_G) (ad : Nat → Nat) (sz : Nat) (hh : Int) (x1 : Int) (σ : rr_T) (out : (Int × rr_T)) (h : M5_doExtra x1 σ = some out) : Met l yX5_doExtra wsX5_doExtra rm_X5_doExtra (rr_P g [.ref (ad 0), .int (rr_i x1)] (rr_wM g ad σ hh) sz) (rr_Qi g out.1 (rr_wM g ad out.2 hh) (va_A (rr_wM g ad σ hh) sz)) 0 0 (va_A (rr_wM g ad σ hh) sz) := by
  refine rr_rwI (cc := cX5_doExtra) (maxL := 2) (fun σ => rr_wM g ad σ hh) σ out (by decide) rfl (Nat.le_of_ble_eq_true rfl) ?_
  intro p e s m ar below meth c Q ls A hx hb hml hown hts hK hA hP hD hS hret hl
  have hP : va_P g.1 vwCl (rr_wM g ad σ hh) s.heap := hP
  have hD : va_D A (rr_wM g ad σ hh) := hD
  have hown : s.vm.findClass RX5 = some m.cls := hown
  have hl : lv_has ls 2 [(0, .ref (ad 0)), (1, .int (rr_i x1))] := hl
  have hinX5 : ∀ w ∈ u_ws RX5 TX5 19, w ∈ wsX5_doExtra := by decide +kernel
  have hk_0 : (Cond.fieldLink RX5 7 "RoomRingModel" "now" "[I").before ar s = true := hts _ (List.mem_of_getElem? (i := 1) (by decide +kernel))
  unfold M5_doExtra at h
  refine lv_iload_n hx hb dX5_doExtra_0 rfl (lv_at hl 1 rfl) ?_
  refine rr_iconst hx hb dX5_doExtra_1 ?_
  refine rr_sipush hx hb dX5_doExtra_2 (by decide +kernel) ?_
  obtain ⟨v1, hw2, h⟩ := rr_b_some h
  refine rr_callI (va_runS (As := [.int (rr_i x1), .int (rr_i 0), .int (rr_i 200)]) (rest := []) ⟨hx, hb, hml, hown, hts⟩ (kX5_in l g x1 0 200 v1 hw2) (va_cwS 3 hts gX5_doExtra_X5_in rfl rfl rfl hd_X5_in ⟨Nat.le_of_ble_eq_true rfl, Nat.le_of_ble_eq_true rfl⟩) ⟨rr_R_blind, rr_R_pre hK (hP.sub (ws' := ([] : va_W)) [] rfl)⟩ rfl rfl hl.1 rfl (lv_room (Nat.le_of_ble_eq_true rfl)) dX5_doExtra_5 ⟨Nat.zero_le _, Nat.zero_le _⟩) ?_
  obtain ⟨hg3, h⟩ := rr_c_some h
  refine rr_if_ne (tgt := 14) hx hb dX5_doExtra_8 (by decide) hg3 (fun c4 => ?_) (fun c4 => ?_)
  · rw [if_neg c4] at h
    refine lv_aload_n hx hb dX5_doExtra_14 rfl (lv_at hl 0 rfl) ?_
    refine va_get (D := g.1) (ci := 5) (v := .ref (ad 1)) (C := RX5) (T := TX5) (N := 19) hx hb hts hinX5 hown hK.1 hP 0 rfl rfl 0 (by decide) hk_0 (fun _ h9 => h9) rfl dX5_doExtra_15 ?_
    refine rr_sipush hx hb dX5_doExtra_18 (by decide +kernel) ?_
    refine lv_iload_n hx hb dX5_doExtra_21 rfl (lv_at hl 1 rfl) ?_
    refine rr_iast (f := (σ 0)) (N := 143) hx hb hK hP hD hS 1 rfl rfl (by decide) (by decide) dX5_doExtra_22 (fun H locs hP hD hS => ?_)
    have hP : va_P g.1 vwCl (rr_wM g ad (rr_s σ 0 141 x1) hh) H := hP
    have hD : va_D A (rr_wM g ad (rr_s σ 0 141 x1) hh) := hD
    refine rr_iconst hx hb dX5_doExtra_23 ?_
    exact hret _ _ _ _ _ _ h hP hD hS dX5_doExtra_24
  · rw [if_pos c4] at h
    refine rr_bipush hx hb dX5_doExtra_11 (by decide +kernel) ?_
    exact hret _ _ _ _ _ _ h hP hD hS dX5_doExtra_13
-- RoomRingModel.host
abbrev rm_X5_host : Room := { frames := 6, cells := 0, slots := 0, locals := 133 }
theorem hd_X5_host : yX5_host.cls ≠ "java/lang/invoke/MethodHandle" ∧ yX5_host.cls ≠ "java/lang/invoke/VarHandle" ∧ (parseMethodDescriptor yX5_host.desc).map (fun d => d.parameters.length) = some 2 := by decide +kernel
set_option maxHeartbeats 4000000 in
set_option maxRecDepth 100000 in
theorem kX5_host (l : Launch) (g : rr_G) (ad : Nat → Nat) (sz : Nat) (hh : Int) (x1 : Int) (x2 : Int) (σ : rr_T) (out : (Int × rr_T)) (h : M5_host x1 x2 σ = some out) : Met l yX5_host wsX5_host rm_X5_host (rr_P g [.ref (ad 0), .int (rr_i x1), .int (rr_i x2)] (rr_wM g ad σ hh) sz) (rr_Qi g out.1 (rr_wM g ad out.2 hh) (va_A (rr_wM g ad σ hh) sz)) 0 0 (va_A (rr_wM g ad σ hh) sz) := by
  refine rr_rwI (cc := cX5_host) (maxL := 3) (fun σ => rr_wM g ad σ hh) σ out (by decide) rfl (Nat.le_of_ble_eq_true rfl) ?_
  intro p e s m ar below meth c Q ls A hx hb hml hown hts hK hA hP hD hS hret hl
  have hP : va_P g.1 vwCl (rr_wM g ad σ hh) s.heap := hP
  have hD : va_D A (rr_wM g ad σ hh) := hD
  have hown : s.vm.findClass RX5 = some m.cls := hown
  have hl : lv_has ls 3 [(0, .ref (ad 0)), (1, .int (rr_i x1)), (2, .int (rr_i x2))] := hl
  unfold M5_host at h
  refine lv_aload_n hx hb dX5_host_0 rfl (lv_at hl 0 rfl) ?_
  obtain ⟨v1, hw2, h⟩ := rr_b_some h
  refine rr_allV hD hS hA (va_runV (As := []) (rest := []) ⟨hx, hb, hml, hown, hts⟩ (kX5_hold l g ad _ hh σ v1 hw2) (cwV 0 hts gX5_host_X5_hold rfl rfl rfl ⟨rfl, hd_X5_hold⟩ ⟨Nat.le_of_ble_eq_true rfl, Nat.le_of_ble_eq_true rfl⟩) ⟨rr_P_blind, va_recv hK.1 hP (ci := 5) (q0 := 0) rfl rfl, rr_P_pre hK hP hD⟩ rfl rfl hl.1 rfl (lv_room (Nat.le_of_ble_eq_true rfl)) dX5_host_1 ⟨Nat.zero_le _, Nat.zero_le _⟩) (fun H locs hP hD hS => ?_)
  refine lv_aload_n hx hb dX5_host_4 rfl (lv_at hl 0 rfl) ?_
  refine lv_aload_n hx hb dX5_host_5 rfl (lv_at hl 0 rfl) ?_
  refine lv_iload_n hx hb dX5_host_6 rfl (lv_at hl 1 rfl) ?_
  refine lv_iload_n hx hb dX5_host_7 rfl (lv_at hl 2 rfl) ?_
  obtain ⟨v3, hw4, h⟩ := rr_b_some h
  refine rr_allI hD hS hA (va_runV (As := [.int (rr_i x1), .int (rr_i x2)]) (rest := [.ref (ad 0)]) ⟨hx, hb, hml, hown, hts⟩ (kX5_doHost l g ad _ hh x1 x2 v1 v3 hw4) (cwV 2 hts gX5_host_X5_doHost rfl rfl rfl ⟨rfl, hd_X5_doHost⟩ ⟨Nat.le_of_ble_eq_true rfl, Nat.le_of_ble_eq_true rfl⟩) ⟨rr_P_blind, va_recv hK.1 hP (ci := 5) (q0 := 0) rfl rfl, rr_P_pre hK hP hD⟩ rfl rfl hl.1 rfl (lv_room (Nat.le_of_ble_eq_true rfl)) dX5_host_8 ⟨Nat.zero_le _, Nat.zero_le _⟩) (fun H locs hP hD hS => ?_)
  obtain ⟨v5, hw6, h⟩ := rr_b_some h
  refine rr_allI hD hS hA (va_runV (As := [.int (rr_i v3.1)]) (rest := []) ⟨hx, hb, hml, hown, hts⟩ (kX5_ends l g ad _ hh v3.1 v3.2 v5 hw6) (cwV 1 hts gX5_host_X5_ends rfl rfl rfl ⟨rfl, hd_X5_ends⟩ ⟨Nat.le_of_ble_eq_true rfl, Nat.le_of_ble_eq_true rfl⟩) ⟨rr_P_blind, va_recv hK.1 hP (ci := 5) (q0 := 0) rfl rfl, rr_P_pre hK hP hD⟩ rfl rfl hl.1 rfl (lv_room (Nat.le_of_ble_eq_true rfl)) dX5_host_11 ⟨Nat.zero_le _, Nat.zero_le _⟩) (fun H locs hP hD hS => ?_)
  exact hret _ _ _ _ _ _ h hP hD hS dX5_host_14
-- RoomRingModel.weighs
abbrev rm_X5_weighs : Room := { frames := 6, cells := 0, slots := 0, locals := 133 }
theorem hd_X5_weighs : yX5_weighs.cls ≠ "java/lang/invoke/MethodHandle" ∧ yX5_weighs.cls ≠ "java/lang/invoke/VarHandle" ∧ (parseMethodDescriptor yX5_weighs.desc).map (fun d => d.parameters.length) = some 2 := by decide +kernel
set_option maxHeartbeats 4000000 in
set_option maxRecDepth 100000 in
theorem kX5_weighs (l : Launch) (g : rr_G) (ad : Nat → Nat) (sz : Nat) (hh : Int) (x1 : Int) (x2 : Int) (σ : rr_T) (out : (Int × rr_T)) (h : M5_weighs x1 x2 σ = some out) : Met l yX5_weighs wsX5_weighs rm_X5_weighs (rr_P g [.ref (ad 0), .int (rr_i x1), .int (rr_i x2)] (rr_wM g ad σ hh) sz) (rr_Qi g out.1 (rr_wM g ad out.2 hh) (va_A (rr_wM g ad σ hh) sz)) 0 0 (va_A (rr_wM g ad σ hh) sz) := by
  refine rr_rwI (cc := cX5_weighs) (maxL := 3) (fun σ => rr_wM g ad σ hh) σ out (by decide) rfl (Nat.le_of_ble_eq_true rfl) ?_
  intro p e s m ar below meth c Q ls A hx hb hml hown hts hK hA hP hD hS hret hl
  have hP : va_P g.1 vwCl (rr_wM g ad σ hh) s.heap := hP
  have hD : va_D A (rr_wM g ad σ hh) := hD
  have hown : s.vm.findClass RX5 = some m.cls := hown
  have hl : lv_has ls 3 [(0, .ref (ad 0)), (1, .int (rr_i x1)), (2, .int (rr_i x2))] := hl
  unfold M5_weighs at h
  refine lv_aload_n hx hb dX5_weighs_0 rfl (lv_at hl 0 rfl) ?_
  obtain ⟨v1, hw2, h⟩ := rr_b_some h
  refine rr_allV hD hS hA (va_runV (As := []) (rest := []) ⟨hx, hb, hml, hown, hts⟩ (kX5_hold l g ad _ hh σ v1 hw2) (cwV 0 hts gX5_weighs_X5_hold rfl rfl rfl ⟨rfl, hd_X5_hold⟩ ⟨Nat.le_of_ble_eq_true rfl, Nat.le_of_ble_eq_true rfl⟩) ⟨rr_P_blind, va_recv hK.1 hP (ci := 5) (q0 := 0) rfl rfl, rr_P_pre hK hP hD⟩ rfl rfl hl.1 rfl (lv_room (Nat.le_of_ble_eq_true rfl)) dX5_weighs_1 ⟨Nat.zero_le _, Nat.zero_le _⟩) (fun H locs hP hD hS => ?_)
  refine lv_aload_n hx hb dX5_weighs_4 rfl (lv_at hl 0 rfl) ?_
  refine lv_aload_n hx hb dX5_weighs_5 rfl (lv_at hl 0 rfl) ?_
  refine lv_iload_n hx hb dX5_weighs_6 rfl (lv_at hl 1 rfl) ?_
  refine lv_iload_n hx hb dX5_weighs_7 rfl (lv_at hl 2 rfl) ?_
  obtain ⟨v3, hw4, h⟩ := rr_b_some h
  refine rr_allI hD hS hA (va_runV (As := [.int (rr_i x1), .int (rr_i x2)]) (rest := [.ref (ad 0)]) ⟨hx, hb, hml, hown, hts⟩ (kX5_doWeighs l g ad _ hh x1 x2 v1 v3 hw4) (cwV 2 hts gX5_weighs_X5_doWeighs rfl rfl rfl ⟨rfl, hd_X5_doWeighs⟩ ⟨Nat.le_of_ble_eq_true rfl, Nat.le_of_ble_eq_true rfl⟩) ⟨rr_P_blind, va_recv hK.1 hP (ci := 5) (q0 := 0) rfl rfl, rr_P_pre hK hP hD⟩ rfl rfl hl.1 rfl (lv_room (Nat.le_of_ble_eq_true rfl)) dX5_weighs_8 ⟨Nat.zero_le _, Nat.zero_le _⟩) (fun H locs hP hD hS => ?_)
  obtain ⟨v5, hw6, h⟩ := rr_b_some h
  refine rr_allI hD hS hA (va_runV (As := [.int (rr_i v3.1)]) (rest := []) ⟨hx, hb, hml, hown, hts⟩ (kX5_ends l g ad _ hh v3.1 v3.2 v5 hw6) (cwV 1 hts gX5_weighs_X5_ends rfl rfl rfl ⟨rfl, hd_X5_ends⟩ ⟨Nat.le_of_ble_eq_true rfl, Nat.le_of_ble_eq_true rfl⟩) ⟨rr_P_blind, va_recv hK.1 hP (ci := 5) (q0 := 0) rfl rfl, rr_P_pre hK hP hD⟩ rfl rfl hl.1 rfl (lv_room (Nat.le_of_ble_eq_true rfl)) dX5_weighs_11 ⟨Nat.zero_le _, Nat.zero_le _⟩) (fun H locs hP hD hS => ?_)
  exact hret _ _ _ _ _ _ h hP hD hS dX5_weighs_14
-- RoomRingModel.goes
abbrev rm_X5_goes : Room := { frames := 6, cells := 0, slots := 0, locals := 133 }
theorem hd_X5_goes : yX5_goes.cls ≠ "java/lang/invoke/MethodHandle" ∧ yX5_goes.cls ≠ "java/lang/invoke/VarHandle" ∧ (parseMethodDescriptor yX5_goes.desc).map (fun d => d.parameters.length) = some 1 := by decide +kernel
set_option maxHeartbeats 4000000 in
set_option maxRecDepth 100000 in
theorem kX5_goes (l : Launch) (g : rr_G) (ad : Nat → Nat) (sz : Nat) (hh : Int) (x1 : Int) (σ : rr_T) (out : (Int × rr_T)) (h : M5_goes x1 σ = some out) : Met l yX5_goes wsX5_goes rm_X5_goes (rr_P g [.ref (ad 0), .int (rr_i x1)] (rr_wM g ad σ hh) sz) (rr_Qi g out.1 (rr_wM g ad out.2 hh) (va_A (rr_wM g ad σ hh) sz)) 0 0 (va_A (rr_wM g ad σ hh) sz) := by
  refine rr_rwI (cc := cX5_goes) (maxL := 2) (fun σ => rr_wM g ad σ hh) σ out (by decide) rfl (Nat.le_of_ble_eq_true rfl) ?_
  intro p e s m ar below meth c Q ls A hx hb hml hown hts hK hA hP hD hS hret hl
  have hP : va_P g.1 vwCl (rr_wM g ad σ hh) s.heap := hP
  have hD : va_D A (rr_wM g ad σ hh) := hD
  have hown : s.vm.findClass RX5 = some m.cls := hown
  have hl : lv_has ls 2 [(0, .ref (ad 0)), (1, .int (rr_i x1))] := hl
  unfold M5_goes at h
  refine lv_aload_n hx hb dX5_goes_0 rfl (lv_at hl 0 rfl) ?_
  obtain ⟨v1, hw2, h⟩ := rr_b_some h
  refine rr_allV hD hS hA (va_runV (As := []) (rest := []) ⟨hx, hb, hml, hown, hts⟩ (kX5_hold l g ad _ hh σ v1 hw2) (cwV 0 hts gX5_goes_X5_hold rfl rfl rfl ⟨rfl, hd_X5_hold⟩ ⟨Nat.le_of_ble_eq_true rfl, Nat.le_of_ble_eq_true rfl⟩) ⟨rr_P_blind, va_recv hK.1 hP (ci := 5) (q0 := 0) rfl rfl, rr_P_pre hK hP hD⟩ rfl rfl hl.1 rfl (lv_room (Nat.le_of_ble_eq_true rfl)) dX5_goes_1 ⟨Nat.zero_le _, Nat.zero_le _⟩) (fun H locs hP hD hS => ?_)
  refine lv_aload_n hx hb dX5_goes_4 rfl (lv_at hl 0 rfl) ?_
  refine lv_aload_n hx hb dX5_goes_5 rfl (lv_at hl 0 rfl) ?_
  refine lv_iload_n hx hb dX5_goes_6 rfl (lv_at hl 1 rfl) ?_
  obtain ⟨v3, hw4, h⟩ := rr_b_some h
  refine rr_allI hD hS hA (va_runV (As := [.int (rr_i x1)]) (rest := [.ref (ad 0)]) ⟨hx, hb, hml, hown, hts⟩ (kX5_doGoes l g ad _ hh x1 v1 v3 hw4) (cwV 1 hts gX5_goes_X5_doGoes rfl rfl rfl ⟨rfl, hd_X5_doGoes⟩ ⟨Nat.le_of_ble_eq_true rfl, Nat.le_of_ble_eq_true rfl⟩) ⟨rr_P_blind, va_recv hK.1 hP (ci := 5) (q0 := 0) rfl rfl, rr_P_pre hK hP hD⟩ rfl rfl hl.1 rfl (lv_room (Nat.le_of_ble_eq_true rfl)) dX5_goes_7 ⟨Nat.zero_le _, Nat.zero_le _⟩) (fun H locs hP hD hS => ?_)
  obtain ⟨v5, hw6, h⟩ := rr_b_some h
  refine rr_allI hD hS hA (va_runV (As := [.int (rr_i v3.1)]) (rest := []) ⟨hx, hb, hml, hown, hts⟩ (kX5_ends l g ad _ hh v3.1 v3.2 v5 hw6) (cwV 1 hts gX5_goes_X5_ends rfl rfl rfl ⟨rfl, hd_X5_ends⟩ ⟨Nat.le_of_ble_eq_true rfl, Nat.le_of_ble_eq_true rfl⟩) ⟨rr_P_blind, va_recv hK.1 hP (ci := 5) (q0 := 0) rfl rfl, rr_P_pre hK hP hD⟩ rfl rfl hl.1 rfl (lv_room (Nat.le_of_ble_eq_true rfl)) dX5_goes_10 ⟨Nat.zero_le _, Nat.zero_le _⟩) (fun H locs hP hD hS => ?_)
  exact hret _ _ _ _ _ _ h hP hD hS dX5_goes_13
-- RoomRingModel.key
abbrev rm_X5_key : Room := { frames := 5, cells := 0, slots := 0, locals := 112 }
theorem hd_X5_key : yX5_key.cls ≠ "java/lang/invoke/MethodHandle" ∧ yX5_key.cls ≠ "java/lang/invoke/VarHandle" ∧ (parseMethodDescriptor yX5_key.desc).map (fun d => d.parameters.length) = some 1 := by decide +kernel
set_option maxHeartbeats 4000000 in
set_option maxRecDepth 100000 in
theorem kX5_key (l : Launch) (g : rr_G) (ad : Nat → Nat) (sz : Nat) (hh : Int) (x1 : Int) (σ : rr_T) (out : (Int × rr_T)) (h : M5_key x1 σ = some out) : Met l yX5_key wsX5_key rm_X5_key (rr_P g [.ref (ad 0), .int (rr_i x1)] (rr_wM g ad σ hh) sz) (rr_Qi g out.1 (rr_wM g ad out.2 hh) (va_A (rr_wM g ad σ hh) sz)) 0 0 (va_A (rr_wM g ad σ hh) sz) := by
  refine rr_rwI (cc := cX5_key) (maxL := 3) (fun σ => rr_wM g ad σ hh) σ out (by decide) rfl (Nat.le_of_ble_eq_true rfl) ?_
  intro p e s m ar below meth c Q ls A hx hb hml hown hts hK hA hP hD hS hret hl
  have hP : va_P g.1 vwCl (rr_wM g ad σ hh) s.heap := hP
  have hD : va_D A (rr_wM g ad σ hh) := hD
  have hown : s.vm.findClass RX5 = some m.cls := hown
  have hl : lv_has ls 3 [(0, .ref (ad 0)), (1, .int (rr_i x1))] := hl
  have hinX5 : ∀ w ∈ u_ws RX5 TX5 19, w ∈ wsX5_key := by decide +kernel
  have hk_0 : (Cond.fieldLink RX5 25 "RoomRingModel" "keyHost" "[I").before ar s = true := hts _ (List.mem_of_getElem? (i := 1) (by decide +kernel))
  unfold M5_key at h
  refine lv_aload_n hx hb dX5_key_0 rfl (lv_at hl 0 rfl) ?_
  obtain ⟨v1, hw2, h⟩ := rr_b_some h
  refine rr_allV hD hS hA (va_runV (As := []) (rest := []) ⟨hx, hb, hml, hown, hts⟩ (kX5_hold l g ad _ hh σ v1 hw2) (cwV 0 hts gX5_key_X5_hold rfl rfl rfl ⟨rfl, hd_X5_hold⟩ ⟨Nat.le_of_ble_eq_true rfl, Nat.le_of_ble_eq_true rfl⟩) ⟨rr_P_blind, va_recv hK.1 hP (ci := 5) (q0 := 0) rfl rfl, rr_P_pre hK hP hD⟩ rfl rfl hl.1 rfl (lv_room (Nat.le_of_ble_eq_true rfl)) dX5_key_1 ⟨Nat.zero_le _, Nat.zero_le _⟩) (fun H locs hP hD hS => ?_)
  refine lv_aload_n hx hb dX5_key_4 rfl (lv_at hl 0 rfl) ?_
  refine lv_iload_n hx hb dX5_key_5 rfl (lv_at hl 1 rfl) ?_
  obtain ⟨v3, hw4, h⟩ := rr_b_some h
  refine rr_allI hD hS hA (va_runV (As := [.int (rr_i x1)]) (rest := []) ⟨hx, hb, hml, hown, hts⟩ (kX5_doKey l g ad _ hh x1 v1 v3 hw4) (cwV 1 hts gX5_key_X5_doKey rfl rfl rfl ⟨rfl, hd_X5_doKey⟩ ⟨Nat.le_of_ble_eq_true rfl, Nat.le_of_ble_eq_true rfl⟩) ⟨rr_P_blind, va_recv hK.1 hP (ci := 5) (q0 := 0) rfl rfl, rr_P_pre hK hP hD⟩ rfl rfl hl.1 rfl (lv_room (Nat.le_of_ble_eq_true rfl)) dX5_key_6 ⟨Nat.zero_le _, Nat.zero_le _⟩) (fun H locs hP hD hS => ?_)
  refine lv_istore_n (lv' := [(2, .int (rr_i v3.1)), (0, .ref (ad 0)), (1, .int (rr_i x1))]) hx hb dX5_key_9 rfl hl (by decide) rfl (fun ls hl => ?_)
  refine lv_iload_n hx hb dX5_key_10 rfl (lv_at hl 0 rfl) ?_
  obtain ⟨hg5, h⟩ := rr_c_some h
  refine rr_if_eq (tgt := 20) hx hb dX5_key_11 (by decide) hg5 (fun c6 => ?_) (fun c6 => ?_)
  · rw [if_pos c6] at h
    refine lv_aload_n hx hb dX5_key_20 rfl (lv_at hl 1 rfl) ?_
    obtain ⟨v7, hw8, h⟩ := rr_b_some h
    refine rr_allV hD hS hA (va_runV (As := []) (rest := []) ⟨hx, hb, hml, hown, hts⟩ (kX5_push l g ad _ hh v3.2 v7 hw8) (cwV 0 hts gX5_key_X5_push rfl rfl rfl ⟨rfl, hd_X5_push⟩ ⟨Nat.le_of_ble_eq_true rfl, Nat.le_of_ble_eq_true rfl⟩) ⟨rr_P_blind, va_recv hK.1 hP (ci := 5) (q0 := 0) rfl rfl, rr_P_pre hK hP hD⟩ rfl rfl hl.1 rfl (lv_room (Nat.le_of_ble_eq_true rfl)) dX5_key_21 ⟨Nat.zero_le _, Nat.zero_le _⟩) (fun H locs hP hD hS => ?_)
    refine lv_aload_n hx hb dX5_key_24 rfl (lv_at hl 1 rfl) ?_
    refine va_get (D := g.1) (ci := 5) (v := .ref (ad 6)) (C := RX5) (T := TX5) (N := 19) hx hb hts hinX5 hown hK.1 hP 0 rfl rfl 6 (by decide) hk_0 (fun _ h9 => h9) rfl dX5_key_25 ?_
    refine lv_aload_n hx hb dX5_key_28 rfl (lv_at hl 1 rfl) ?_
    refine lv_iload_n hx hb dX5_key_29 rfl (lv_at hl 2 rfl) ?_
    obtain ⟨v9, hw10, h⟩ := rr_b_some h
    refine rr_callI (va_runV (As := [.int (rr_i x1)]) (rest := [.ref (ad 6)]) ⟨hx, hb, hml, hown, hts⟩ (kX5_rowOf l g ad hh x1 v7 v9 hw10) (cwV 1 hts gX5_key_X5_rowOf rfl rfl rfl ⟨rfl, hd_X5_rowOf⟩ ⟨Nat.le_of_ble_eq_true rfl, Nat.le_of_ble_eq_true rfl⟩) ⟨rr_R_blind, va_recv hK.1 hP (ci := 5) (q0 := 0) rfl rfl, rr_R_pre hK hP⟩ rfl rfl hl.1 rfl (lv_room (Nat.le_of_ble_eq_true rfl)) dX5_key_30 ⟨Nat.zero_le _, Nat.zero_le _⟩) ?_
    obtain ⟨hg11, h⟩ := rr_c_some h
    refine rr_iald (f := (v7 6)) (N := 40) hx hb hK hP 6 rfl rfl (by decide) hg11 dX5_key_33 ?_
    exact hret _ _ _ _ _ _ h hP hD hS dX5_key_34
  · rw [if_neg c6] at h
    refine lv_aload_n hx hb dX5_key_14 rfl (lv_at hl 1 rfl) ?_
    refine lv_iload_n hx hb dX5_key_15 rfl (lv_at hl 0 rfl) ?_
    obtain ⟨v12, hw13, h⟩ := rr_b_some h
    refine rr_allI hD hS hA (va_runV (As := [.int (rr_i v3.1)]) (rest := []) ⟨hx, hb, hml, hown, hts⟩ (kX5_refuses l g ad _ hh v3.1 v3.2 v12 hw13) (cwV 1 hts gX5_key_X5_refuses rfl rfl rfl ⟨rfl, hd_X5_refuses⟩ ⟨Nat.le_of_ble_eq_true rfl, Nat.le_of_ble_eq_true rfl⟩) ⟨rr_P_blind, va_recv hK.1 hP (ci := 5) (q0 := 0) rfl rfl, rr_P_pre hK hP hD⟩ rfl rfl hl.1 rfl (lv_room (Nat.le_of_ble_eq_true rfl)) dX5_key_16 ⟨Nat.zero_le _, Nat.zero_le _⟩) (fun H locs hP hD hS => ?_)
    exact hret _ _ _ _ _ _ h hP hD hS dX5_key_19
-- RoomRingModel.drops
abbrev rm_X5_drops : Room := { frames := 6, cells := 0, slots := 0, locals := 133 }
theorem hd_X5_drops : yX5_drops.cls ≠ "java/lang/invoke/MethodHandle" ∧ yX5_drops.cls ≠ "java/lang/invoke/VarHandle" ∧ (parseMethodDescriptor yX5_drops.desc).map (fun d => d.parameters.length) = some 1 := by decide +kernel
set_option maxHeartbeats 4000000 in
set_option maxRecDepth 100000 in
theorem kX5_drops (l : Launch) (g : rr_G) (ad : Nat → Nat) (sz : Nat) (hh : Int) (x1 : Int) (σ : rr_T) (out : (Int × rr_T)) (h : M5_drops x1 σ = some out) : Met l yX5_drops wsX5_drops rm_X5_drops (rr_P g [.ref (ad 0), .int (rr_i x1)] (rr_wM g ad σ hh) sz) (rr_Qi g out.1 (rr_wM g ad out.2 hh) (va_A (rr_wM g ad σ hh) sz)) 0 0 (va_A (rr_wM g ad σ hh) sz) := by
  refine rr_rwI (cc := cX5_drops) (maxL := 2) (fun σ => rr_wM g ad σ hh) σ out (by decide) rfl (Nat.le_of_ble_eq_true rfl) ?_
  intro p e s m ar below meth c Q ls A hx hb hml hown hts hK hA hP hD hS hret hl
  have hP : va_P g.1 vwCl (rr_wM g ad σ hh) s.heap := hP
  have hD : va_D A (rr_wM g ad σ hh) := hD
  have hown : s.vm.findClass RX5 = some m.cls := hown
  have hl : lv_has ls 2 [(0, .ref (ad 0)), (1, .int (rr_i x1))] := hl
  unfold M5_drops at h
  refine lv_aload_n hx hb dX5_drops_0 rfl (lv_at hl 0 rfl) ?_
  obtain ⟨v1, hw2, h⟩ := rr_b_some h
  refine rr_allV hD hS hA (va_runV (As := []) (rest := []) ⟨hx, hb, hml, hown, hts⟩ (kX5_hold l g ad _ hh σ v1 hw2) (cwV 0 hts gX5_drops_X5_hold rfl rfl rfl ⟨rfl, hd_X5_hold⟩ ⟨Nat.le_of_ble_eq_true rfl, Nat.le_of_ble_eq_true rfl⟩) ⟨rr_P_blind, va_recv hK.1 hP (ci := 5) (q0 := 0) rfl rfl, rr_P_pre hK hP hD⟩ rfl rfl hl.1 rfl (lv_room (Nat.le_of_ble_eq_true rfl)) dX5_drops_1 ⟨Nat.zero_le _, Nat.zero_le _⟩) (fun H locs hP hD hS => ?_)
  refine lv_aload_n hx hb dX5_drops_4 rfl (lv_at hl 0 rfl) ?_
  refine lv_aload_n hx hb dX5_drops_5 rfl (lv_at hl 0 rfl) ?_
  refine lv_iload_n hx hb dX5_drops_6 rfl (lv_at hl 1 rfl) ?_
  obtain ⟨v3, hw4, h⟩ := rr_b_some h
  refine rr_allI hD hS hA (va_runV (As := [.int (rr_i x1)]) (rest := [.ref (ad 0)]) ⟨hx, hb, hml, hown, hts⟩ (kX5_doDrops l g ad _ hh x1 v1 v3 hw4) (cwV 1 hts gX5_drops_X5_doDrops rfl rfl rfl ⟨rfl, hd_X5_doDrops⟩ ⟨Nat.le_of_ble_eq_true rfl, Nat.le_of_ble_eq_true rfl⟩) ⟨rr_P_blind, va_recv hK.1 hP (ci := 5) (q0 := 0) rfl rfl, rr_P_pre hK hP hD⟩ rfl rfl hl.1 rfl (lv_room (Nat.le_of_ble_eq_true rfl)) dX5_drops_7 ⟨Nat.zero_le _, Nat.zero_le _⟩) (fun H locs hP hD hS => ?_)
  obtain ⟨v5, hw6, h⟩ := rr_b_some h
  refine rr_allI hD hS hA (va_runV (As := [.int (rr_i v3.1)]) (rest := []) ⟨hx, hb, hml, hown, hts⟩ (kX5_ends l g ad _ hh v3.1 v3.2 v5 hw6) (cwV 1 hts gX5_drops_X5_ends rfl rfl rfl ⟨rfl, hd_X5_ends⟩ ⟨Nat.le_of_ble_eq_true rfl, Nat.le_of_ble_eq_true rfl⟩) ⟨rr_P_blind, va_recv hK.1 hP (ci := 5) (q0 := 0) rfl rfl, rr_P_pre hK hP hD⟩ rfl rfl hl.1 rfl (lv_room (Nat.le_of_ble_eq_true rfl)) dX5_drops_10 ⟨Nat.zero_le _, Nat.zero_le _⟩) (fun H locs hP hD hS => ?_)
  exact hret _ _ _ _ _ _ h hP hD hS dX5_drops_13
-- RoomRingModel.extra
abbrev rm_X5_extra : Room := { frames := 6, cells := 0, slots := 0, locals := 133 }
theorem hd_X5_extra : yX5_extra.cls ≠ "java/lang/invoke/MethodHandle" ∧ yX5_extra.cls ≠ "java/lang/invoke/VarHandle" ∧ (parseMethodDescriptor yX5_extra.desc).map (fun d => d.parameters.length) = some 1 := by decide +kernel
set_option maxHeartbeats 4000000 in
set_option maxRecDepth 100000 in
theorem kX5_extra (l : Launch) (g : rr_G) (ad : Nat → Nat) (sz : Nat) (hh : Int) (x1 : Int) (σ : rr_T) (out : (Int × rr_T)) (h : M5_extra x1 σ = some out) : Met l yX5_extra wsX5_extra rm_X5_extra (rr_P g [.ref (ad 0), .int (rr_i x1)] (rr_wM g ad σ hh) sz) (rr_Qi g out.1 (rr_wM g ad out.2 hh) (va_A (rr_wM g ad σ hh) sz)) 0 0 (va_A (rr_wM g ad σ hh) sz) := by
  refine rr_rwI (cc := cX5_extra) (maxL := 2) (fun σ => rr_wM g ad σ hh) σ out (by decide) rfl (Nat.le_of_ble_eq_true rfl) ?_
  intro p e s m ar below meth c Q ls A hx hb hml hown hts hK hA hP hD hS hret hl
  have hP : va_P g.1 vwCl (rr_wM g ad σ hh) s.heap := hP
  have hD : va_D A (rr_wM g ad σ hh) := hD
  have hown : s.vm.findClass RX5 = some m.cls := hown
  have hl : lv_has ls 2 [(0, .ref (ad 0)), (1, .int (rr_i x1))] := hl
  unfold M5_extra at h
  refine lv_aload_n hx hb dX5_extra_0 rfl (lv_at hl 0 rfl) ?_
  obtain ⟨v1, hw2, h⟩ := rr_b_some h
  refine rr_allV hD hS hA (va_runV (As := []) (rest := []) ⟨hx, hb, hml, hown, hts⟩ (kX5_hold l g ad _ hh σ v1 hw2) (cwV 0 hts gX5_extra_X5_hold rfl rfl rfl ⟨rfl, hd_X5_hold⟩ ⟨Nat.le_of_ble_eq_true rfl, Nat.le_of_ble_eq_true rfl⟩) ⟨rr_P_blind, va_recv hK.1 hP (ci := 5) (q0 := 0) rfl rfl, rr_P_pre hK hP hD⟩ rfl rfl hl.1 rfl (lv_room (Nat.le_of_ble_eq_true rfl)) dX5_extra_1 ⟨Nat.zero_le _, Nat.zero_le _⟩) (fun H locs hP hD hS => ?_)
  refine lv_aload_n hx hb dX5_extra_4 rfl (lv_at hl 0 rfl) ?_
  refine lv_aload_n hx hb dX5_extra_5 rfl (lv_at hl 0 rfl) ?_
  refine lv_iload_n hx hb dX5_extra_6 rfl (lv_at hl 1 rfl) ?_
  obtain ⟨v3, hw4, h⟩ := rr_b_some h
  refine rr_allI hD hS hA (va_runV (As := [.int (rr_i x1)]) (rest := [.ref (ad 0)]) ⟨hx, hb, hml, hown, hts⟩ (kX5_doExtra l g ad _ hh x1 v1 v3 hw4) (cwV 1 hts gX5_extra_X5_doExtra rfl rfl rfl ⟨rfl, hd_X5_doExtra⟩ ⟨Nat.le_of_ble_eq_true rfl, Nat.le_of_ble_eq_true rfl⟩) ⟨rr_P_blind, va_recv hK.1 hP (ci := 5) (q0 := 0) rfl rfl, rr_P_pre hK hP hD⟩ rfl rfl hl.1 rfl (lv_room (Nat.le_of_ble_eq_true rfl)) dX5_extra_7 ⟨Nat.zero_le _, Nat.zero_le _⟩) (fun H locs hP hD hS => ?_)
  obtain ⟨v5, hw6, h⟩ := rr_b_some h
  refine rr_allI hD hS hA (va_runV (As := [.int (rr_i v3.1)]) (rest := []) ⟨hx, hb, hml, hown, hts⟩ (kX5_ends l g ad _ hh v3.1 v3.2 v5 hw6) (cwV 1 hts gX5_extra_X5_ends rfl rfl rfl ⟨rfl, hd_X5_ends⟩ ⟨Nat.le_of_ble_eq_true rfl, Nat.le_of_ble_eq_true rfl⟩) ⟨rr_P_blind, va_recv hK.1 hP (ci := 5) (q0 := 0) rfl rfl, rr_P_pre hK hP hD⟩ rfl rfl hl.1 rfl (lv_room (Nat.le_of_ble_eq_true rfl)) dX5_extra_10 ⟨Nat.zero_le _, Nat.zero_le _⟩) (fun H locs hP hD hS => ?_)
  exact hret _ _ _ _ _ _ h hP hD hS dX5_extra_13
-- RoomRingModel.ofHost
abbrev rm_X5_ofHost : Room := { frames := 2, cells := 0, slots := 0, locals := 45 }
theorem hd_X5_ofHost : yX5_ofHost.cls ≠ "java/lang/invoke/MethodHandle" ∧ yX5_ofHost.cls ≠ "java/lang/invoke/VarHandle" ∧ (parseMethodDescriptor yX5_ofHost.desc).map (fun d => d.parameters.length) = some 2 := by decide +kernel
set_option maxHeartbeats 4000000 in
set_option maxRecDepth 100000 in
theorem kX5_ofHost (l : Launch) (g : rr_G) (ad : Nat → Nat) (hh : Int) (x1 : Int) (x2 : Int) (σ : rr_T) (out : Int) (h : M5_ofHost x1 x2 σ = some out) : Met l yX5_ofHost wsX5_ofHost rm_X5_ofHost (rr_R g [.ref (ad 0), .int (rr_i x1), .int (rr_i x2)] (rr_wM g ad σ hh)) (vp_Si (fun x => x = rr_i out)) 0 0 (fun _ => False) := by
  refine rr_roI (cc := cX5_ofHost) (maxL := 5) (by decide) rfl (Nat.le_of_ble_eq_true rfl) ?_
  intro p e s m ar below meth c Q ls hx hb hml hown hts hK hP hret hl
  have hown : s.vm.findClass RX5 = some m.cls := hown
  have hl : lv_has ls 5 [(0, .ref (ad 0)), (1, .int (rr_i x1)), (2, .int (rr_i x2))] := hl
  have hinX5 : ∀ w ∈ u_ws RX5 TX5 19, w ∈ wsX5_ofHost := by decide +kernel
  have hk_0 : (Cond.fieldLink RX5 7 "RoomRingModel" "now" "[I").before ar s = true := hts _ (List.mem_of_getElem? (i := 1) (by decide +kernel))
  have hk_1 : (Cond.fieldLink RX5 25 "RoomRingModel" "keyHost" "[I").before ar s = true := hts _ (List.mem_of_getElem? (i := 3) (by decide +kernel))
  have hk_2 : (Cond.fieldLink RX5 31 "RoomRingModel" "load" "[I").before ar s = true := hts _ (List.mem_of_getElem? (i := 2) (by decide +kernel))
  unfold M5_ofHost at h
  have hL5_ofHost_45 : ∀ (x1 : Int) (K : Option Int) (n : Nat) (x3 : Int) (x4 : Int) (ls : Array Slot), L5_ofHost_45 σ x1 K n x3 x4 = some out → lv_has ls 5 [(0, .ref (ad 0)), (1, .int (rr_i x1)), (3, .int (rr_i x3)), (4, .int (rr_i x4))] → (∀ (ls : Array Slot), K = some out → lv_has ls 5 [] → W p l e rm_X5_ofHost s m ar below meth c s.heap [] 0 0 Q (F0 m 93 ls [])) → W p l e rm_X5_ofHost s m ar below meth c s.heap [] 0 0 Q (F0 m 45 ls []) := by
    intro x1 K n
    induction n with
    | zero => intro x3 x4 ls h hl hk; cases h
    | succ n ih =>
      intro x3 x4 ls h hl hk
      rw [L5_ofHost_45_s] at h
      refine lv_iload hx hb dX5_ofHost_45 (lv_at hl 3 rfl) ?_
      refine lv_aload_n hx hb dX5_ofHost_47 rfl (lv_at hl 0 rfl) ?_
      refine va_get (D := g.1) (ci := 5) (v := .ref (ad 1)) (C := RX5) (T := TX5) (N := 19) hx hb hts hinX5 hown hK.1 hP 0 rfl rfl 0 (by decide) hk_0 (fun _ h9 => h9) rfl dX5_ofHost_48 ?_
      refine rr_sipush hx hb dX5_ofHost_51 (by decide +kernel) ?_
      refine rr_iald (f := (σ 0)) (N := 143) hx hb hK hP 1 rfl rfl (by decide) (by decide) dX5_ofHost_54 ?_
      obtain ⟨hg3, h⟩ := rr_c_some h
      refine rr_icmp_ge (tgt := 93) hx hb dX5_ofHost_55 (by decide) hg3.1 hg3.2 (fun c4 => ?_) (fun c4 => ?_)
      · rw [if_pos c4] at h
        exact hk ls h (lv_sub hl [] rfl)
      · rw [if_neg c4] at h
        refine lv_aload_n hx hb dX5_ofHost_58 rfl (lv_at hl 0 rfl) ?_
        refine va_get (D := g.1) (ci := 5) (v := .ref (ad 6)) (C := RX5) (T := TX5) (N := 19) hx hb hts hinX5 hown hK.1 hP 0 rfl rfl 6 (by decide) hk_1 (fun _ h9 => h9) rfl dX5_ofHost_59 ?_
        refine lv_iload hx hb dX5_ofHost_62 (lv_at hl 3 rfl) ?_
        obtain ⟨hg5, h⟩ := rr_c_some h
        refine rr_iald (f := (σ 6)) (N := 40) hx hb hK hP 6 rfl rfl (by decide) hg5 dX5_ofHost_64 ?_
        refine lv_iload_n hx hb dX5_ofHost_65 rfl (lv_at hl 1 rfl) ?_
        obtain ⟨hg6, h⟩ := rr_c_some h
        refine rr_icmp_ne (tgt := 87) hx hb dX5_ofHost_66 (by decide) hg6.1 hg6.2 (fun c7 => ?_) (fun c7 => ?_)
        · rw [if_neg c7] at h
          refine rr_iinc (k := 3) (a := x4) (lv' := [(4, .int (rr_i (x4 + 1))), (0, .ref (ad 0)), (1, .int (rr_i x1)), (3, .int (rr_i x3))]) hx hb dX5_ofHost_87 hl rfl (by decide) rfl (fun ls hl => ?_)
          refine lv_goto (tgt := 45) hx hb dX5_ofHost_90 (by decide) ?_
          exact ih x3 (x4 + 1) ls h (lv_sub hl [1, 2, 3, 0] rfl) hk
        · rw [if_pos c7] at h
          refine lv_iload_n hx hb dX5_ofHost_69 rfl (lv_at hl 2 rfl) ?_
          obtain ⟨hg8, h⟩ := rr_c_some h
          refine rr_if_ne (tgt := 84) hx hb dX5_ofHost_70 (by decide) hg8 (fun c9 => ?_) (fun c9 => ?_)
          · rw [if_neg c9] at h
            refine rr_iinc (k := 2) (a := x3) (lv' := [(3, .int (rr_i (x3 + (-1)))), (0, .ref (ad 0)), (1, .int (rr_i x1)), (4, .int (rr_i x4))]) hx hb dX5_ofHost_84 hl rfl (by decide) rfl (fun ls hl => ?_)
            refine rr_iinc (k := 3) (a := x4) (lv' := [(4, .int (rr_i (x4 + 1))), (3, .int (rr_i (x3 + (-1)))), (0, .ref (ad 0)), (1, .int (rr_i x1))]) hx hb dX5_ofHost_87 hl rfl (by decide) rfl (fun ls hl => ?_)
            refine lv_goto (tgt := 45) hx hb dX5_ofHost_90 (by decide) ?_
            exact ih (x3 + (-1)) (x4 + 1) ls h (lv_sub hl [2, 3, 1, 0] rfl) hk
          · rw [if_pos c9] at h
            refine lv_aload_n hx hb dX5_ofHost_73 rfl (lv_at hl 0 rfl) ?_
            refine va_get (D := g.1) (ci := 5) (v := .ref (ad 1)) (C := RX5) (T := TX5) (N := 19) hx hb hts hinX5 hown hK.1 hP 0 rfl rfl 0 (by decide) hk_0 (fun _ h9 => h9) rfl dX5_ofHost_74 ?_
            refine rr_bipush hx hb dX5_ofHost_77 (by decide +kernel) ?_
            refine lv_iload hx hb dX5_ofHost_79 (lv_at hl 3 rfl) ?_
            refine rr_iadd hx hb dX5_ofHost_81 ?_
            obtain ⟨hg10, h⟩ := rr_c_some h
            refine rr_iald (f := (σ 0)) (N := 143) hx hb hK hP 1 rfl rfl (by decide) hg10 dX5_ofHost_82 ?_
            exact hret _ _ _ h dX5_ofHost_83
  refine lv_iload_n hx hb dX5_ofHost_0 rfl (lv_at hl 2 rfl) ?_
  refine rr_iconst hx hb dX5_ofHost_1 ?_
  obtain ⟨hg1, h⟩ := rr_c_some h
  refine rr_icmp_ge (tgt := 38) hx hb dX5_ofHost_2 (by decide) hg1 (by decide) (fun c2 => ?_) (fun c2 => ?_)
  · rw [if_pos c2] at h
    refine lv_iload_n hx hb dX5_ofHost_38 rfl (lv_at hl 2 rfl) ?_
    refine rr_iconst hx hb dX5_ofHost_39 ?_
    refine rr_isub hx hb dX5_ofHost_40 ?_
    refine lv_istore_n (lv' := [(3, .int (rr_i (x2 - 3))), (0, .ref (ad 0)), (1, .int (rr_i x1)), (2, .int (rr_i x2))]) hx hb dX5_ofHost_41 rfl hl (by decide) rfl (fun ls hl => ?_)
    refine rr_iconst hx hb dX5_ofHost_42 ?_
    refine lv_istore (lv' := [(4, .int (rr_i 0)), (3, .int (rr_i (x2 - 3))), (0, .ref (ad 0)), (1, .int (rr_i x1)), (2, .int (rr_i x2))]) hx hb dX5_ofHost_43 hl (by decide) rfl (fun ls hl => ?_)
    refine hL5_ofHost_45 x1 _ 1000 (x2 - 3) 0 ls h (lv_sub hl [2, 3, 1, 0] rfl) (fun ls h hl => ?_)
    refine rr_iconst hx hb dX5_ofHost_93 ?_
    exact hret _ _ _ h dX5_ofHost_94
  · rw [if_neg c2] at h
    refine lv_iload_n hx hb dX5_ofHost_5 rfl (lv_at hl 2 rfl) ?_
    refine rr_if_ne (tgt := 18) hx hb dX5_ofHost_6 (by decide) hg1 (fun c11 => ?_) (fun c11 => ?_)
    · rw [if_neg c11] at h
      refine lv_iload_n hx hb dX5_ofHost_18 rfl (lv_at hl 2 rfl) ?_
      refine rr_iconst hx hb dX5_ofHost_19 ?_
      refine rr_icmp_ne (tgt := 31) hx hb dX5_ofHost_20 (by decide) hg1 (by decide) (fun c12 => ?_) (fun c12 => ?_)
      · rw [if_neg c12] at h
        refine lv_aload_n hx hb dX5_ofHost_31 rfl (lv_at hl 0 rfl) ?_
        refine va_get (D := g.1) (ci := 5) (v := .ref (ad 8)) (C := RX5) (T := TX5) (N := 19) hx hb hts hinX5 hown hK.1 hP 0 rfl rfl 8 (by decide) hk_2 (fun _ h9 => h9) rfl dX5_ofHost_32 ?_
        refine lv_iload_n hx hb dX5_ofHost_35 rfl (lv_at hl 1 rfl) ?_
        obtain ⟨hg13, h⟩ := rr_c_some h
        refine rr_iald (f := (σ 8)) (N := 100) hx hb hK hP 8 rfl rfl (by decide) hg13 dX5_ofHost_36 ?_
        exact hret _ _ _ h dX5_ofHost_37
      · rw [if_pos c12] at h
        refine lv_aload_n hx hb dX5_ofHost_23 rfl (lv_at hl 0 rfl) ?_
        refine lv_iload_n hx hb dX5_ofHost_24 rfl (lv_at hl 1 rfl) ?_
        obtain ⟨v14, hw15, h⟩ := rr_b_some h
        refine rr_callI (va_runV (As := [.int (rr_i x1)]) (rest := []) ⟨hx, hb, hml, hown, hts⟩ (kX5_bound l g ad hh x1 σ v14 hw15) (cwV 1 hts gX5_ofHost_X5_bound rfl rfl rfl ⟨rfl, hd_X5_bound⟩ ⟨Nat.le_of_ble_eq_true rfl, Nat.le_of_ble_eq_true rfl⟩) ⟨rr_R_blind, va_recv hK.1 hP (ci := 5) (q0 := 0) rfl rfl, rr_R_pre hK hP⟩ rfl rfl hl.1 rfl (lv_room (Nat.le_of_ble_eq_true rfl)) dX5_ofHost_25 ⟨Nat.zero_le _, Nat.zero_le _⟩) ?_
        refine lv_goto (tgt := 37) hx hb dX5_ofHost_28 (by decide) ?_
        exact hret _ _ _ h dX5_ofHost_37
    · rw [if_pos c11] at h
      refine lv_aload_n hx hb dX5_ofHost_9 rfl (lv_at hl 0 rfl) ?_
      refine va_get (D := g.1) (ci := 5) (v := .ref (ad 1)) (C := RX5) (T := TX5) (N := 19) hx hb hts hinX5 hown hK.1 hP 0 rfl rfl 0 (by decide) hk_0 (fun _ h9 => h9) rfl dX5_ofHost_10 ?_
      refine lv_iload_n hx hb dX5_ofHost_13 rfl (lv_at hl 1 rfl) ?_
      obtain ⟨hg16, h⟩ := rr_c_some h
      refine rr_iald (f := (σ 0)) (N := 143) hx hb hK hP 1 rfl rfl (by decide) hg16 dX5_ofHost_14 ?_
      refine lv_goto (tgt := 37) hx hb dX5_ofHost_15 (by decide) ?_
      exact hret _ _ _ h dX5_ofHost_37
