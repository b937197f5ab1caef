-- RoomRingModel.doOrder
abbrev rm_X5_doOrder : Room := { frames := 4, cells := 0, slots := 0, locals := 86 }
theorem hd_X5_doOrder : yX5_doOrder.cls ≠ "java/lang/invoke/MethodHandle" ∧ yX5_doOrder.cls ≠ "java/lang/invoke/VarHandle" ∧ (parseMethodDescriptor yX5_doOrder.desc).map (fun d => d.parameters.length) = some 1 := by decide +kernel
set_option maxHeartbeats 4000000 in
set_option maxRecDepth 100000 in
theorem kX5_doOrder (l : Launch) (g : rr_G) (ad : Nat → Nat) (sz : Nat) (hh : Int) (x1 : Int) (σ : rr_T) (out : (Int × rr_T)) (h : M5_doOrder x1 σ = some out) : Met l yX5_doOrder wsX5_doOrder rm_X5_doOrder (rr_P g [.ref (ad 0), .int (rr_i x1)] (rr_wM g ad σ hh) sz) (rr_Qi g out.1 (rr_wM g ad out.2 hh) (va_A (rr_wM g ad σ hh) sz)) 0 0 (va_A (rr_wM g ad σ hh) sz) := by
  refine rr_rwI (cc := cX5_doOrder) (maxL := 4) (fun σ => rr_wM g ad σ hh) σ out (by decide) rfl (Nat.le_of_ble_eq_true rfl) ?_
  intro p e s m ar below meth c Q ls A hx hb hml hown hts hK hA hP hD hS hret hl
  have hP : va_P g.1 vwCl (rr_wM g ad σ hh) s.heap := hP
  have hD : va_D A (rr_wM g ad σ hh) := hD
  have hown : s.vm.findClass RX5 = some m.cls := hown
  have hl : lv_has ls 4 [(0, .ref (ad 0)), (1, .int (rr_i x1))] := hl
  have hinX5 : ∀ w ∈ u_ws RX5 TX5 19, w ∈ wsX5_doOrder := by decide +kernel
  have hk_0 : (Cond.fieldLink RX5 47 "RoomRingModel" "numbers" "[I").before ar s = true := hts _ (List.mem_of_getElem? (i := 1) (by decide +kernel))
  have hk_1 : (Cond.fieldLink RX5 44 "RoomRingModel" "letters" "[I").before ar s = true := hts _ (List.mem_of_getElem? (i := 2) (by decide +kernel))
  unfold M5_doOrder at h
  refine lv_aload_n hx hb dX5_doOrder_0 rfl (lv_at hl 0 rfl) ?_
  refine va_get (D := g.1) (ci := 5) (v := .ref (ad 13)) (C := RX5) (T := TX5) (N := 19) hx hb hts hinX5 hown hK.1 hP 0 rfl rfl 17 (by decide) hk_0 (fun _ h9 => h9) rfl dX5_doOrder_1 ?_
  refine rr_iconst hx hb dX5_doOrder_4 ?_
  refine lv_iload_n hx hb dX5_doOrder_5 rfl (lv_at hl 1 rfl) ?_
  refine rr_imul hx hb dX5_doOrder_6 ?_
  obtain ⟨hg1, h⟩ := rr_c_some h
  refine rr_iald (f := (σ 17)) (N := 80) hx hb hK hP 13 rfl rfl (by decide) hg1 dX5_doOrder_7 ?_
  refine lv_istore_n (lv' := [(2, .int (rr_i (σ 17 (2 * x1)))), (0, .ref (ad 0)), (1, .int (rr_i x1))]) hx hb dX5_doOrder_8 rfl hl (by decide) rfl (fun ls hl => ?_)
  refine lv_aload_n hx hb dX5_doOrder_9 rfl (lv_at hl 1 rfl) ?_
  refine va_get (D := g.1) (ci := 5) (v := .ref (ad 13)) (C := RX5) (T := TX5) (N := 19) hx hb hts hinX5 hown hK.1 hP 0 rfl rfl 17 (by decide) hk_0 (fun _ h9 => h9) rfl dX5_doOrder_10 ?_
  refine rr_iconst hx hb dX5_doOrder_13 ?_
  refine lv_iload_n hx hb dX5_doOrder_14 rfl (lv_at hl 2 rfl) ?_
  refine rr_imul hx hb dX5_doOrder_15 ?_
  refine rr_iconst hx hb dX5_doOrder_16 ?_
  refine rr_iadd hx hb dX5_doOrder_17 ?_
  obtain ⟨hg2, h⟩ := rr_c_some h
  refine rr_iald (f := (σ 17)) (N := 80) hx hb hK hP 13 rfl rfl (by decide) hg2 dX5_doOrder_18 ?_
  refine lv_istore_n (lv' := [(3, .int (rr_i (σ 17 ((2 * x1) + 1)))), (2, .int (rr_i (σ 17 (2 * x1)))), (0, .ref (ad 0)), (1, .int (rr_i x1))]) hx hb dX5_doOrder_19 rfl hl (by decide) rfl (fun ls hl => ?_)
  refine lv_aload_n hx hb dX5_doOrder_20 rfl (lv_at hl 2 rfl) ?_
  refine va_get (D := g.1) (ci := 5) (v := .ref (ad 12)) (C := RX5) (T := TX5) (N := 19) hx hb hts hinX5 hown hK.1 hP 0 rfl rfl 16 (by decide) hk_1 (fun _ h9 => h9) rfl dX5_doOrder_21 ?_
  refine lv_iload_n hx hb dX5_doOrder_24 rfl (lv_at hl 3 rfl) ?_
  obtain ⟨hg3, h⟩ := rr_c_some h
  refine rr_iald (f := (σ 16)) (N := 40) hx hb hK hP 12 rfl rfl (by decide) hg3 dX5_doOrder_25 ?_
  obtain ⟨hg4, h⟩ := rr_c_some h
  have hv5 : (rr_i (σ 16 x1)).toInt = (σ 16 x1) := rr_to_i hg4
  by_cases c6 : (σ 16 x1) = 100
  · rw [if_pos c6] at h
    refine lv_lookup (off := 76) (tgt := 102) hx hb dX5_doOrder_26 (by decide) (by rw [hv5, c6]; decide) (by decide) ?_
    refine lv_aload_n hx hb dX5_doOrder_102 rfl (lv_at hl 2 rfl) ?_
    refine lv_iload_n hx hb dX5_doOrder_103 rfl (lv_at hl 1 rfl) ?_
    obtain ⟨v7, hw8, h⟩ := rr_b_some h
    refine rr_allI hD hS hA (va_runV (As := [.int (rr_i (σ 17 (2 * x1)))]) (rest := []) ⟨hx, hb, hml, hown, hts⟩ (kX5_doDrops l g ad _ hh (σ 17 (2 * x1)) σ v7 hw8) (cwV 1 hts gX5_doOrder_X5_doDrops rfl rfl rfl ⟨rfl, hd_X5_doDrops⟩ ⟨Nat.le_of_ble_eq_true rfl, Nat.le_of_ble_eq_true rfl⟩) ⟨rr_P_blind, va_recv hK.1 hP (ci := 5) (q0 := 0) rfl rfl, rr_P_pre hK hP hD⟩ rfl rfl hl.1 rfl (lv_room (Nat.le_of_ble_eq_true rfl)) dX5_doOrder_104 ⟨Nat.zero_le _, Nat.zero_le _⟩) (fun H locs hP hD hS => ?_)
    exact hret _ _ _ _ _ _ h hP hD hS dX5_doOrder_107
  · rw [if_neg c6] at h
    by_cases c9 : (σ 16 x1) = 103
    · rw [if_pos c9] at h
      refine lv_lookup (off := 64) (tgt := 90) hx hb dX5_doOrder_26 (by decide) (by rw [hv5, c9]; decide) (by decide) ?_
      refine lv_aload_n hx hb dX5_doOrder_90 rfl (lv_at hl 2 rfl) ?_
      refine lv_iload_n hx hb dX5_doOrder_91 rfl (lv_at hl 1 rfl) ?_
      obtain ⟨v10, hw11, h⟩ := rr_b_some h
      refine rr_allI hD hS hA (va_runV (As := [.int (rr_i (σ 17 (2 * x1)))]) (rest := []) ⟨hx, hb, hml, hown, hts⟩ (kX5_doGoes l g ad _ hh (σ 17 (2 * x1)) σ v10 hw11) (cwV 1 hts gX5_doOrder_X5_doGoes rfl rfl rfl ⟨rfl, hd_X5_doGoes⟩ ⟨Nat.le_of_ble_eq_true rfl, Nat.le_of_ble_eq_true rfl⟩) ⟨rr_P_blind, va_recv hK.1 hP (ci := 5) (q0 := 0) rfl rfl, rr_P_pre hK hP hD⟩ rfl rfl hl.1 rfl (lv_room (Nat.le_of_ble_eq_true rfl)) dX5_doOrder_92 ⟨Nat.zero_le _, Nat.zero_le _⟩) (fun H locs hP hD hS => ?_)
      exact hret _ _ _ _ _ _ h hP hD hS dX5_doOrder_95
    · rw [if_neg c9] at h
      by_cases c12 : (σ 16 x1) = 104
      · rw [if_pos c12] at h
        refine lv_lookup (off := 50) (tgt := 76) hx hb dX5_doOrder_26 (by decide) (by rw [hv5, c12]; decide) (by decide) ?_
        refine lv_aload_n hx hb dX5_doOrder_76 rfl (lv_at hl 2 rfl) ?_
        refine lv_iload_n hx hb dX5_doOrder_77 rfl (lv_at hl 1 rfl) ?_
        refine lv_iload_n hx hb dX5_doOrder_78 rfl (lv_at hl 0 rfl) ?_
        obtain ⟨v13, hw14, h⟩ := rr_b_some h
        refine rr_allI hD hS hA (va_runV (As := [.int (rr_i (σ 17 (2 * x1))), .int (rr_i (σ 17 ((2 * x1) + 1)))]) (rest := []) ⟨hx, hb, hml, hown, hts⟩ (kX5_doHost l g ad _ hh (σ 17 (2 * x1)) (σ 17 ((2 * x1) + 1)) σ v13 hw14) (cwV 2 hts gX5_doOrder_X5_doHost rfl rfl rfl ⟨rfl, hd_X5_doHost⟩ ⟨Nat.le_of_ble_eq_true rfl, Nat.le_of_ble_eq_true rfl⟩) ⟨rr_P_blind, va_recv hK.1 hP (ci := 5) (q0 := 0) rfl rfl, rr_P_pre hK hP hD⟩ rfl rfl hl.1 rfl (lv_room (Nat.le_of_ble_eq_true rfl)) dX5_doOrder_79 ⟨Nat.zero_le _, Nat.zero_le _⟩) (fun H locs hP hD hS => ?_)
        exact hret _ _ _ _ _ _ h hP hD hS dX5_doOrder_82
      · rw [if_neg c12] at h
        by_cases c15 : (σ 16 x1) = 107
        · rw [if_pos c15] at h
          refine lv_lookup (off := 70) (tgt := 96) hx hb dX5_doOrder_26 (by decide) (by rw [hv5, c15]; decide) (by decide) ?_
          refine lv_aload_n hx hb dX5_doOrder_96 rfl (lv_at hl 2 rfl) ?_
          refine lv_iload_n hx hb dX5_doOrder_97 rfl (lv_at hl 1 rfl) ?_
          obtain ⟨v16, hw17, h⟩ := rr_b_some h
          refine rr_allI hD hS hA (va_runV (As := [.int (rr_i (σ 17 (2 * x1)))]) (rest := []) ⟨hx, hb, hml, hown, hts⟩ (kX5_doKey l g ad _ hh (σ 17 (2 * x1)) σ v16 hw17) (cwV 1 hts gX5_doOrder_X5_doKey rfl rfl rfl ⟨rfl, hd_X5_doKey⟩ ⟨Nat.le_of_ble_eq_true rfl, Nat.le_of_ble_eq_true rfl⟩) ⟨rr_P_blind, va_recv hK.1 hP (ci := 5) (q0 := 0) rfl rfl, rr_P_pre hK hP hD⟩ rfl rfl hl.1 rfl (lv_room (Nat.le_of_ble_eq_true rfl)) dX5_doOrder_98 ⟨Nat.zero_le _, Nat.zero_le _⟩) (fun H locs hP hD hS => ?_)
          exact hret _ _ _ _ _ _ h hP hD hS dX5_doOrder_101
        · rw [if_neg c15] at h
          by_cases c18 : (σ 16 x1) = 119
          · rw [if_pos c18] at h
            refine lv_lookup (off := 57) (tgt := 83) hx hb dX5_doOrder_26 (by decide) (by rw [hv5, c18]; decide) (by decide) ?_
            refine lv_aload_n hx hb dX5_doOrder_83 rfl (lv_at hl 2 rfl) ?_
            refine lv_iload_n hx hb dX5_doOrder_84 rfl (lv_at hl 1 rfl) ?_
            refine lv_iload_n hx hb dX5_doOrder_85 rfl (lv_at hl 0 rfl) ?_
            obtain ⟨v19, hw20, h⟩ := rr_b_some h
            refine rr_allI hD hS hA (va_runV (As := [.int (rr_i (σ 17 (2 * x1))), .int (rr_i (σ 17 ((2 * x1) + 1)))]) (rest := []) ⟨hx, hb, hml, hown, hts⟩ (kX5_doWeighs l g ad _ hh (σ 17 (2 * x1)) (σ 17 ((2 * x1) + 1)) σ v19 hw20) (cwV 2 hts gX5_doOrder_X5_doWeighs rfl rfl rfl ⟨rfl, hd_X5_doWeighs⟩ ⟨Nat.le_of_ble_eq_true rfl, Nat.le_of_ble_eq_true rfl⟩) ⟨rr_P_blind, va_recv hK.1 hP (ci := 5) (q0 := 0) rfl rfl, rr_P_pre hK hP hD⟩ rfl rfl hl.1 rfl (lv_room (Nat.le_of_ble_eq_true rfl)) dX5_doOrder_86 ⟨Nat.zero_le _, Nat.zero_le _⟩) (fun H locs hP hD hS => ?_)
            exact hret _ _ _ _ _ _ h hP hD hS dX5_doOrder_89
          · rw [if_neg c18] at h
            refine lv_lookup (off := 82) (tgt := 108) hx hb dX5_doOrder_26 (by decide) (by rw [hv5]; simp [Op.lookupswitch.offset, Ne.symm c6, Ne.symm c9, Ne.symm c12, Ne.symm c15, Ne.symm c18]) (by decide) ?_
            refine lv_aload_n hx hb dX5_doOrder_108 rfl (lv_at hl 2 rfl) ?_
            refine lv_iload_n hx hb dX5_doOrder_109 rfl (lv_at hl 1 rfl) ?_
            obtain ⟨v21, hw22, h⟩ := rr_b_some h
            refine rr_allI hD hS hA (va_runV (As := [.int (rr_i (σ 17 (2 * x1)))]) (rest := []) ⟨hx, hb, hml, hown, hts⟩ (kX5_doExtra l g ad _ hh (σ 17 (2 * x1)) σ v21 hw22) (cwV 1 hts gX5_doOrder_X5_doExtra rfl rfl rfl ⟨rfl, hd_X5_doExtra⟩ ⟨Nat.le_of_ble_eq_true rfl, Nat.le_of_ble_eq_true rfl⟩) ⟨rr_P_blind, va_recv hK.1 hP (ci := 5) (q0 := 0) rfl rfl, rr_P_pre hK hP hD⟩ rfl rfl hl.1 rfl (lv_room (Nat.le_of_ble_eq_true rfl)) dX5_doOrder_110 ⟨Nat.zero_le _, Nat.zero_le _⟩) (fun H locs hP hD hS => ?_)
            exact hret _ _ _ _ _ _ h hP hD hS dX5_doOrder_113
-- RoomRingModel.does
abbrev rm_X5_does : Room := { frames := 5, cells := 0, slots := 0, locals := 112 }
theorem hd_X5_does : yX5_does.cls ≠ "java/lang/invoke/MethodHandle" ∧ yX5_does.cls ≠ "java/lang/invoke/VarHandle" ∧ (parseMethodDescriptor yX5_does.desc).map (fun d => d.parameters.length) = some 0 := by decide +kernel
set_option maxHeartbeats 4000000 in
set_option maxRecDepth 100000 in
theorem kX5_does (l : Launch) (g : rr_G) (ad : Nat → Nat) (sz : Nat) (hh : Int) (σ : rr_T) (out : (Int × rr_T)) (h : M5_does σ = some out) : Met l yX5_does wsX5_does rm_X5_does (rr_P g [.ref (ad 0)] (rr_wM g ad σ hh) sz) (rr_Qi g out.1 (rr_wM g ad out.2 hh) (va_A (rr_wM g ad σ hh) sz)) 0 0 (va_A (rr_wM g ad σ hh) sz) := by
  refine rr_rwI (cc := cX5_does) (maxL := 2) (fun σ => rr_wM g ad σ hh) σ out (by decide) rfl (Nat.le_of_ble_eq_true rfl) ?_
  intro p e s m ar below meth c Q ls A hx hb hml hown hts hK hA hP hD hS hret hl
  have hP : va_P g.1 vwCl (rr_wM g ad σ hh) s.heap := hP
  have hD : va_D A (rr_wM g ad σ hh) := hD
  have hown : s.vm.findClass RX5 = some m.cls := hown
  have hl : lv_has ls 2 [(0, .ref (ad 0))] := hl
  have hinX5 : ∀ w ∈ u_ws RX5 TX5 19, w ∈ wsX5_does := by decide +kernel
  have hk_0 : (Cond.fieldLink RX5 165 "RoomRingModel" "at" "I").before ar s = true := hts _ (List.mem_of_getElem? (i := 1) (by decide +kernel))
  have hk_1 : (Cond.fieldLink RX5 168 "RoomRingModel" "fault" "I").before ar s = true := hts _ (List.mem_of_getElem? (i := 2) (by decide +kernel))
  have hk_2 : (Cond.fieldLink RX5 185 "RoomRingModel" "orders" "I").before ar s = true := hts _ (List.mem_of_getElem? (i := 3) (by decide +kernel))
  have hk_3 : (Cond.fieldLink RX5 162 "RoomRingModel" "typed" "I").before ar s = true := hts _ (List.mem_of_getElem? (i := 4) (by decide +kernel))
  unfold M5_does at h
  have hL5_does_31 : ∀ (K : rr_T → Option (Int × rr_T)) (n : Nat) (σ : rr_T) (H : Heap) (locs : List Loc) (ls : Array Slot), L5_does_31 K n σ = some out → va_P g.1 vwCl (rr_wM g ad σ hh) H → va_D A (rr_wM g ad σ hh) → va_S A s.heap H locs → lv_has ls 2 [(0, .ref (ad 0))] → (∀ (τ9 : rr_T) (H : Heap) (locs : List Loc) (ls : Array Slot), K τ9 = some out → va_P g.1 vwCl (rr_wM g ad τ9 hh) H → va_D A (rr_wM g ad τ9 hh) → va_S A s.heap H locs → lv_has ls 2 [(0, .ref (ad 0))] → W p l e rm_X5_does s m ar below meth c H locs 0 0 Q (F0 m 54 ls [])) → W p l e rm_X5_does s m ar below meth c H locs 0 0 Q (F0 m 31 ls []) := by
    intro K n
    induction n with
    | zero => intro σ H locs ls h hP hD hS hl hk; cases h
    | succ n ih =>
      intro σ H locs ls h hP hD hS hl hk
      rw [L5_does_31_s] at h
      refine lv_aload_n hx hb dX5_does_31 rfl (lv_at hl 0 rfl) ?_
      refine va_get (D := g.1) (ci := 5) (v := .int (rr_i (σ 14 0))) (C := RX5) (T := TX5) (N := 19) hx hb hts hinX5 hown hK.1 hP 0 rfl rfl 14 (by decide) hk_1 (fun _ h9 => h9) rfl dX5_does_32 ?_
      refine rr_iconst hx hb dX5_does_35 ?_
      obtain ⟨hg5, h⟩ := rr_c_some h
      refine rr_icmp_ne (tgt := 54) hx hb dX5_does_36 (by decide) hg5 (by decide) (fun c6 => ?_) (fun c6 => ?_)
      · rw [if_neg c6] at h
        exact hk σ _ _ ls h hP hD hS (lv_sub hl [0] rfl)
      · rw [if_pos c6] at h
        refine lv_aload_n hx hb dX5_does_39 rfl (lv_at hl 0 rfl) ?_
        obtain ⟨v7, hw8, h⟩ := rr_b_some h
        refine rr_allI hD hS hA (va_runV (As := []) (rest := []) ⟨hx, hb, hml, hown, hts⟩ (kX5_here l g ad _ hh σ v7 hw8) (cwV 0 hts gX5_does_X5_here rfl rfl rfl ⟨rfl, hd_X5_here⟩ ⟨Nat.le_of_ble_eq_true rfl, Nat.le_of_ble_eq_true rfl⟩) ⟨rr_P_blind, va_recv hK.1 hP (ci := 5) (q0 := 0) rfl rfl, rr_P_pre hK hP hD⟩ rfl rfl hl.1 rfl (lv_room (Nat.le_of_ble_eq_true rfl)) dX5_does_40 ⟨Nat.zero_le _, Nat.zero_le _⟩) (fun H locs hP hD hS => ?_)
        refine rr_iconst hx hb dX5_does_43 ?_
        obtain ⟨hg9, h⟩ := rr_c_some h
        refine rr_icmp_eq (tgt := 54) hx hb dX5_does_44 (by decide) hg9 (by decide) (fun c10 => ?_) (fun c10 => ?_)
        · rw [if_pos c10] at h
          exact hk v7.2 _ _ ls h hP hD hS (lv_sub hl [0] rfl)
        · rw [if_neg c10] at h
          refine lv_aload_n hx hb dX5_does_47 rfl (lv_at hl 0 rfl) ?_
          obtain ⟨v11, hw12, h⟩ := rr_b_some h
          refine rr_allV hD hS hA (va_runV (As := []) (rest := []) ⟨hx, hb, hml, hown, hts⟩ (kX5_readOrder l g ad _ hh v7.2 v11 hw12) (cwV 0 hts gX5_does_X5_readOrder rfl rfl rfl ⟨rfl, hd_X5_readOrder⟩ ⟨Nat.le_of_ble_eq_true rfl, Nat.le_of_ble_eq_true rfl⟩) ⟨rr_P_blind, va_recv hK.1 hP (ci := 5) (q0 := 0) rfl rfl, rr_P_pre hK hP hD⟩ rfl rfl hl.1 rfl (lv_room (Nat.le_of_ble_eq_true rfl)) dX5_does_48 ⟨Nat.zero_le _, Nat.zero_le _⟩) (fun H locs hP hD hS => ?_)
          refine lv_goto (tgt := 31) hx hb dX5_does_51 (by decide) ?_
          exact ih v11 _ _ ls h hP hD hS (lv_sub hl [0] rfl) hk
  have hL5_does_76 : ∀ (K : rr_T → Option (Int × rr_T)) (n : Nat) (x1 : Int) (σ : rr_T) (H : Heap) (locs : List Loc) (ls : Array Slot), L5_does_76 K n x1 σ = some out → va_P g.1 vwCl (rr_wM g ad σ hh) H → va_D A (rr_wM g ad σ hh) → va_S A s.heap H locs → lv_has ls 2 [(0, .ref (ad 0)), (1, .int (rr_i x1))] → (∀ (τ9 : rr_T) (H : Heap) (locs : List Loc) (ls : Array Slot), K τ9 = some out → va_P g.1 vwCl (rr_wM g ad τ9 hh) H → va_D A (rr_wM g ad τ9 hh) → va_S A s.heap H locs → lv_has ls 2 [(0, .ref (ad 0))] → W p l e rm_X5_does s m ar below meth c H locs 0 0 Q (F0 m 108 ls [])) → W p l e rm_X5_does s m ar below meth c H locs 0 0 Q (F0 m 76 ls []) := by
    intro K n
    induction n with
    | zero => intro x1 σ H locs ls h hP hD hS hl hk; cases h
    | succ n ih =>
      intro x1 σ H locs ls h hP hD hS hl hk
      rw [L5_does_76_s] at h
      refine lv_iload_n hx hb dX5_does_76 rfl (lv_at hl 1 rfl) ?_
      refine lv_aload_n hx hb dX5_does_77 rfl (lv_at hl 0 rfl) ?_
      refine va_get (D := g.1) (ci := 5) (v := .int (rr_i (σ 15 0))) (C := RX5) (T := TX5) (N := 19) hx hb hts hinX5 hown hK.1 hP 0 rfl rfl 15 (by decide) hk_2 (fun _ h9 => h9) rfl dX5_does_78 ?_
      obtain ⟨hg17, h⟩ := rr_c_some h
      refine rr_icmp_ge (tgt := 108) hx hb dX5_does_81 (by decide) hg17.1 hg17.2 (fun c18 => ?_) (fun c18 => ?_)
      · rw [if_pos c18] at h
        exact hk σ _ _ ls h hP hD hS (lv_sub hl [0] rfl)
      · rw [if_neg c18] at h
        refine lv_aload_n hx hb dX5_does_84 rfl (lv_at hl 0 rfl) ?_
        refine lv_iload_n hx hb dX5_does_85 rfl (lv_at hl 1 rfl) ?_
        obtain ⟨v19, hw20, h⟩ := rr_b_some h
        refine rr_allI hD hS hA (va_runV (As := [.int (rr_i x1)]) (rest := []) ⟨hx, hb, hml, hown, hts⟩ (kX5_doOrder l g ad _ hh x1 σ v19 hw20) (cwV 1 hts gX5_does_X5_doOrder rfl rfl rfl ⟨rfl, hd_X5_doOrder⟩ ⟨Nat.le_of_ble_eq_true rfl, Nat.le_of_ble_eq_true rfl⟩) ⟨rr_P_blind, va_recv hK.1 hP (ci := 5) (q0 := 0) rfl rfl, rr_P_pre hK hP hD⟩ rfl rfl hl.1 rfl (lv_room (Nat.le_of_ble_eq_true rfl)) dX5_does_86 ⟨Nat.zero_le _, Nat.zero_le _⟩) (fun H locs hP hD hS => ?_)
        obtain ⟨hg21, h⟩ := rr_c_some h
        refine rr_if_eq (tgt := 102) hx hb dX5_does_89 (by decide) hg21 (fun c22 => ?_) (fun c22 => ?_)
        · rw [if_pos c22] at h
          refine rr_iinc (k := 1) (a := x1) (lv' := [(1, .int (rr_i (x1 + 1))), (0, .ref (ad 0))]) hx hb dX5_does_102 hl rfl (by decide) rfl (fun ls hl => ?_)
          refine lv_goto (tgt := 76) hx hb dX5_does_105 (by decide) ?_
          exact ih (x1 + 1) v19.2 _ _ ls h hP hD hS (lv_sub hl [1, 0] rfl) hk
        · rw [if_neg c22] at h
          refine lv_aload_n hx hb dX5_does_92 rfl (lv_at hl 0 rfl) ?_
          obtain ⟨v23, hw24, h⟩ := rr_b_some h
          refine rr_allV hD hS hA (va_runV (As := []) (rest := []) ⟨hx, hb, hml, hown, hts⟩ (kX5_release l g ad _ hh v19.2 v23 hw24) (cwV 0 hts gX5_does_X5_release rfl rfl rfl ⟨rfl, hd_X5_release⟩ ⟨Nat.le_of_ble_eq_true rfl, Nat.le_of_ble_eq_true rfl⟩) ⟨rr_P_blind, va_recv hK.1 hP (ci := 5) (q0 := 0) rfl rfl, rr_P_pre hK hP hD⟩ rfl rfl hl.1 rfl (lv_room (Nat.le_of_ble_eq_true rfl)) dX5_does_93 ⟨Nat.zero_le _, Nat.zero_le _⟩) (fun H locs hP hD hS => ?_)
          refine rr_sipush hx hb dX5_does_96 (by decide +kernel) ?_
          refine lv_iload_n hx hb dX5_does_99 rfl (lv_at hl 1 rfl) ?_
          refine rr_isub hx hb dX5_does_100 ?_
          exact hret _ _ _ _ _ _ h hP hD hS dX5_does_101
  refine lv_aload_n hx hb dX5_does_0 rfl (lv_at hl 0 rfl) ?_
  refine rr_iconst hx hb dX5_does_1 ?_
  refine va_put (D := g.1) (ci := 5) (v := .int (rr_i 0)) (ty := .int) (C := RX5) (T := TX5) (N := 19) hx hb hts hinX5 tyX5 tyX5_ok nmX5 hown hK.1 hP hD hS 0 rfl rfl 13 (by decide) hk_0 (fun _ h9 => h9) rfl (by decide +kernel) rfl rfl (Nat.le_of_ble_eq_true rfl) dX5_does_2 (fun H locs hP hD hS => ?_)
  have hP : va_P g.1 vwCl (rr_wM g ad (rr_t σ 13 0) hh) H := hP
  have hD : va_D A (rr_wM g ad (rr_t σ 13 0) hh) := hD
  refine lv_aload_n hx hb dX5_does_5 rfl (lv_at hl 0 rfl) ?_
  refine rr_iconst hx hb dX5_does_6 ?_
  refine va_put (D := g.1) (ci := 5) (v := .int (rr_i (-1))) (ty := .int) (C := RX5) (T := TX5) (N := 19) hx hb hts hinX5 tyX5 tyX5_ok nmX5 hown hK.1 hP hD hS 0 rfl rfl 14 (by decide) hk_1 (fun _ h9 => h9) rfl (by decide +kernel) rfl rfl (Nat.le_of_ble_eq_true rfl) dX5_does_7 (fun H locs hP hD hS => ?_)
  have hP : va_P g.1 vwCl (rr_wM g ad (rr_t (rr_t σ 13 0) 14 (-1)) hh) H := hP
  have hD : va_D A (rr_wM g ad (rr_t (rr_t σ 13 0) 14 (-1)) hh) := hD
  refine lv_aload_n hx hb dX5_does_10 rfl (lv_at hl 0 rfl) ?_
  refine rr_iconst hx hb dX5_does_11 ?_
  refine va_put (D := g.1) (ci := 5) (v := .int (rr_i 0)) (ty := .int) (C := RX5) (T := TX5) (N := 19) hx hb hts hinX5 tyX5 tyX5_ok nmX5 hown hK.1 hP hD hS 0 rfl rfl 15 (by decide) hk_2 (fun _ h9 => h9) rfl (by decide +kernel) rfl rfl (Nat.le_of_ble_eq_true rfl) dX5_does_12 (fun H locs hP hD hS => ?_)
  have hP : va_P g.1 vwCl (rr_wM g ad (rr_t (rr_t (rr_t σ 13 0) 14 (-1)) 15 0) hh) H := hP
  have hD : va_D A (rr_wM g ad (rr_t (rr_t (rr_t σ 13 0) 14 (-1)) 15 0) hh) := hD
  refine lv_aload_n hx hb dX5_does_15 rfl (lv_at hl 0 rfl) ?_
  obtain ⟨v1, hw2, h⟩ := rr_b_some h
  refine rr_allI hD hS hA (va_runV (As := []) (rest := []) ⟨hx, hb, hml, hown, hts⟩ (kX5_here l g ad _ hh (rr_t (rr_t (rr_t σ 13 0) 14 (-1)) 15 0) v1 hw2) (cwV 0 hts gX5_does_X5_here rfl rfl rfl ⟨rfl, hd_X5_here⟩ ⟨Nat.le_of_ble_eq_true rfl, Nat.le_of_ble_eq_true rfl⟩) ⟨rr_P_blind, va_recv hK.1 hP (ci := 5) (q0 := 0) rfl rfl, rr_P_pre hK hP hD⟩ rfl rfl hl.1 rfl (lv_room (Nat.le_of_ble_eq_true rfl)) dX5_does_16 ⟨Nat.zero_le _, Nat.zero_le _⟩) (fun H locs hP hD hS => ?_)
  refine rr_iconst hx hb dX5_does_19 ?_
  obtain ⟨hg3, h⟩ := rr_c_some h
  refine rr_icmp_ne (tgt := 31) hx hb dX5_does_20 (by decide) hg3 (by decide) (fun c4 => ?_) (fun c4 => ?_)
  · rw [if_neg c4] at h
    refine hL5_does_31 _ 1000 v1.2 _ _ ls h hP hD hS (lv_sub hl [0] rfl) (fun σ_31 H locs ls h hP hD hS hl => ?_)
    refine lv_aload_n hx hb dX5_does_54 rfl (lv_at hl 0 rfl) ?_
    refine va_get (D := g.1) (ci := 5) (v := .int (rr_i (σ_31 14 0))) (C := RX5) (T := TX5) (N := 19) hx hb hts hinX5 hown hK.1 hP 0 rfl rfl 14 (by decide) hk_1 (fun _ h9 => h9) rfl dX5_does_55 ?_
    refine rr_iconst hx hb dX5_does_58 ?_
    obtain ⟨hg13, h⟩ := rr_c_some h
    refine rr_icmp_eq (tgt := 70) hx hb dX5_does_59 (by decide) hg13 (by decide) (fun c14 => ?_) (fun c14 => ?_)
    · rw [if_pos c14] at h
      refine lv_aload_n hx hb dX5_does_70 rfl (lv_at hl 0 rfl) ?_
      obtain ⟨v15, hw16, h⟩ := rr_b_some h
      refine rr_allV hD hS hA (va_runV (As := []) (rest := []) ⟨hx, hb, hml, hown, hts⟩ (kX5_hold l g ad _ hh σ_31 v15 hw16) (cwV 0 hts gX5_does_X5_hold rfl rfl rfl ⟨rfl, hd_X5_hold⟩ ⟨Nat.le_of_ble_eq_true rfl, Nat.le_of_ble_eq_true rfl⟩) ⟨rr_P_blind, va_recv hK.1 hP (ci := 5) (q0 := 0) rfl rfl, rr_P_pre hK hP hD⟩ rfl rfl hl.1 rfl (lv_room (Nat.le_of_ble_eq_true rfl)) dX5_does_71 ⟨Nat.zero_le _, Nat.zero_le _⟩) (fun H locs hP hD hS => ?_)
      refine rr_iconst hx hb dX5_does_74 ?_
      refine lv_istore_n (lv' := [(1, .int (rr_i 0)), (0, .ref (ad 0))]) hx hb dX5_does_75 rfl hl (by decide) rfl (fun ls hl => ?_)
      refine hL5_does_76 _ 1000 0 v15 _ _ ls h hP hD hS (lv_sub hl [1, 0] rfl) (fun σ_76 H locs ls h hP hD hS hl => ?_)
      refine lv_aload_n hx hb dX5_does_108 rfl (lv_at hl 0 rfl) ?_
      obtain ⟨v25, hw26, h⟩ := rr_b_some h
      refine rr_allV hD hS hA (va_runV (As := []) (rest := []) ⟨hx, hb, hml, hown, hts⟩ (kX5_push l g ad _ hh σ_76 v25 hw26) (cwV 0 hts gX5_does_X5_push rfl rfl rfl ⟨rfl, hd_X5_push⟩ ⟨Nat.le_of_ble_eq_true rfl, Nat.le_of_ble_eq_true rfl⟩) ⟨rr_P_blind, va_recv hK.1 hP (ci := 5) (q0 := 0) rfl rfl, rr_P_pre hK hP hD⟩ rfl rfl hl.1 rfl (lv_room (Nat.le_of_ble_eq_true rfl)) dX5_does_109 ⟨Nat.zero_le _, Nat.zero_le _⟩) (fun H locs hP hD hS => ?_)
      refine lv_aload_n hx hb dX5_does_112 rfl (lv_at hl 0 rfl) ?_
      refine va_get (D := g.1) (ci := 5) (v := .int (rr_i (v25 15 0))) (C := RX5) (T := TX5) (N := 19) hx hb hts hinX5 hown hK.1 hP 0 rfl rfl 15 (by decide) hk_2 (fun _ h9 => h9) rfl dX5_does_113 ?_
      exact hret _ _ _ _ _ _ h hP hD hS dX5_does_116
    · rw [if_neg c14] at h
      refine rr_bipush hx hb dX5_does_62 (by decide +kernel) ?_
      refine lv_aload_n hx hb dX5_does_64 rfl (lv_at hl 0 rfl) ?_
      refine va_get (D := g.1) (ci := 5) (v := .int (rr_i (σ_31 14 0))) (C := RX5) (T := TX5) (N := 19) hx hb hts hinX5 hown hK.1 hP 0 rfl rfl 14 (by decide) hk_1 (fun _ h9 => h9) rfl dX5_does_65 ?_
      refine rr_isub hx hb dX5_does_68 ?_
      exact hret _ _ _ _ _ _ h hP hD hS dX5_does_69
  · rw [if_pos c4] at h
    refine rr_bipush hx hb dX5_does_23 (by decide +kernel) ?_
    refine lv_aload_n hx hb dX5_does_25 rfl (lv_at hl 0 rfl) ?_
    refine va_get (D := g.1) (ci := 5) (v := .int (rr_i (v1.2 12 0))) (C := RX5) (T := TX5) (N := 19) hx hb hts hinX5 hown hK.1 hP 0 rfl rfl 12 (by decide) hk_3 (fun _ h9 => h9) rfl dX5_does_26 ?_
    refine rr_isub hx hb dX5_does_29 ?_
    exact hret _ _ _ _ _ _ h hP hD hS dX5_does_30
-- RoomRingModel.toldOf
abbrev rm_X5_toldOf : Room := { frames := 0, cells := 0, slots := 0, locals := 0 }
theorem hd_X5_toldOf : yX5_toldOf.cls ≠ "java/lang/invoke/MethodHandle" ∧ yX5_toldOf.cls ≠ "java/lang/invoke/VarHandle" ∧ (parseMethodDescriptor yX5_toldOf.desc).map (fun d => d.parameters.length) = some 1 := by decide +kernel
set_option maxHeartbeats 4000000 in
set_option maxRecDepth 100000 in
theorem kX5_toldOf (l : Launch) (g : rr_G) (ad : Nat → Nat) (hh : Int) (x1 : Int) (σ : rr_T) (out : Int) (h : M5_toldOf x1 σ = some out) : Met l yX5_toldOf wsX5_toldOf rm_X5_toldOf (rr_R g [.ref (ad 0), .int (rr_i x1)] (rr_wM g ad σ hh)) (vp_Si (fun x => x = rr_i out)) 0 0 (fun _ => False) := by
  refine rr_roI (cc := cX5_toldOf) (maxL := 2) (by decide) rfl (Nat.le_of_ble_eq_true rfl) ?_
  intro p e s m ar below meth c Q ls hx hb hml hown hts hK hP hret hl
  have hown : s.vm.findClass RX5 = some m.cls := hown
  have hl : lv_has ls 2 [(0, .ref (ad 0)), (1, .int (rr_i x1))] := hl
  have hinX5 : ∀ w ∈ u_ws RX5 TX5 19, w ∈ wsX5_toldOf := by decide +kernel
  have hk_0 : (Cond.fieldLink RX5 78 "RoomRingModel" "pasts" "I").before ar s = true := hts _ (List.mem_of_getElem? (i := 3) (by decide +kernel))
  have hk_1 : (Cond.fieldLink RX5 162 "RoomRingModel" "typed" "I").before ar s = true := hts _ (List.mem_of_getElem? (i := 2) (by decide +kernel))
  have hk_2 : (Cond.fieldLink RX5 19 "RoomRingModel" "refused" "[I").before ar s = true := hts _ (List.mem_of_getElem? (i := 1) (by decide +kernel))
  unfold M5_toldOf at h
  refine lv_iload_n hx hb dX5_toldOf_0 rfl (lv_at hl 1 rfl) ?_
  refine rr_iconst hx hb dX5_toldOf_1 ?_
  obtain ⟨hg1, h⟩ := rr_c_some h
  refine rr_icmp_ge (tgt := 14) hx hb dX5_toldOf_2 (by decide) hg1 (by decide) (fun c2 => ?_) (fun c2 => ?_)
  · rw [if_pos c2] at h
    refine lv_iload_n hx hb dX5_toldOf_14 rfl (lv_at hl 1 rfl) ?_
    refine rr_iconst hx hb dX5_toldOf_15 ?_
    refine rr_icmp_ne (tgt := 26) hx hb dX5_toldOf_16 (by decide) hg1 (by decide) (fun c3 => ?_) (fun c3 => ?_)
    · rw [if_neg c3] at h
      refine lv_aload_n hx hb dX5_toldOf_26 rfl (lv_at hl 0 rfl) ?_
      refine va_get (D := g.1) (ci := 5) (v := .int (rr_i (σ 3 0))) (C := RX5) (T := TX5) (N := 19) hx hb hts hinX5 hown hK.1 hP 0 rfl rfl 3 (by decide) hk_0 (fun _ h9 => h9) rfl dX5_toldOf_27 ?_
      exact hret _ _ _ h dX5_toldOf_30
    · rw [if_pos c3] at h
      refine lv_aload_n hx hb dX5_toldOf_19 rfl (lv_at hl 0 rfl) ?_
      refine va_get (D := g.1) (ci := 5) (v := .int (rr_i (σ 12 0))) (C := RX5) (T := TX5) (N := 19) hx hb hts hinX5 hown hK.1 hP 0 rfl rfl 12 (by decide) hk_1 (fun _ h9 => h9) rfl dX5_toldOf_20 ?_
      refine lv_goto (tgt := 30) hx hb dX5_toldOf_23 (by decide) ?_
      exact hret _ _ _ h dX5_toldOf_30
  · rw [if_neg c2] at h
    refine lv_aload_n hx hb dX5_toldOf_5 rfl (lv_at hl 0 rfl) ?_
    refine va_get (D := g.1) (ci := 5) (v := .ref (ad 4)) (C := RX5) (T := TX5) (N := 19) hx hb hts hinX5 hown hK.1 hP 0 rfl rfl 4 (by decide) hk_2 (fun _ h9 => h9) rfl dX5_toldOf_6 ?_
    refine lv_iload_n hx hb dX5_toldOf_9 rfl (lv_at hl 1 rfl) ?_
    obtain ⟨hg4, h⟩ := rr_c_some h
    refine rr_iald (f := (σ 4)) (N := 3) hx hb hK hP 4 rfl rfl (by decide) hg4 dX5_toldOf_10 ?_
    refine lv_goto (tgt := 30) hx hb dX5_toldOf_11 (by decide) ?_
    exact hret _ _ _ h dX5_toldOf_30
-- RoomRingModel.told
abbrev rm_X5_told : Room := { frames := 1, cells := 0, slots := 0, locals := 22 }
theorem hd_X5_told : yX5_told.cls ≠ "java/lang/invoke/MethodHandle" ∧ yX5_told.cls ≠ "java/lang/invoke/VarHandle" ∧ (parseMethodDescriptor yX5_told.desc).map (fun d => d.parameters.length) = some 1 := by decide +kernel
set_option maxHeartbeats 4000000 in
set_option maxRecDepth 100000 in
theorem kX5_told (l : Launch) (g : rr_G) (ad : Nat → Nat) (sz : Nat) (hh : Int) (x1 : Int) (σ : rr_T) (out : (Int × rr_T)) (h : M5_told x1 σ = some out) : Met l yX5_told wsX5_told rm_X5_told (rr_P g [.ref (ad 0), .int (rr_i x1)] (rr_wM g ad σ hh) sz) (rr_Qi g out.1 (rr_wM g ad out.2 hh) (va_A (rr_wM g ad σ hh) sz)) 0 0 (va_A (rr_wM g ad σ hh) sz) := by
  refine rr_rwI (cc := cX5_told) (maxL := 2) (fun σ => rr_wM g ad σ hh) σ out (by decide) rfl (Nat.le_of_ble_eq_true rfl) ?_
  intro p e s m ar below meth c Q ls A hx hb hml hown hts hK hA hP hD hS hret hl
  have hP : va_P g.1 vwCl (rr_wM g ad σ hh) s.heap := hP
  have hD : va_D A (rr_wM g ad σ hh) := hD
  have hown : s.vm.findClass RX5 = some m.cls := hown
  have hl : lv_has ls 2 [(0, .ref (ad 0)), (1, .int (rr_i x1))] := hl
  unfold M5_told at h
  refine lv_iload_n hx hb dX5_told_0 rfl (lv_at hl 1 rfl) ?_
  refine rr_iconst hx hb dX5_told_1 ?_
  refine rr_iconst hx hb dX5_told_2 ?_
  obtain ⟨v1, hw2, h⟩ := rr_b_some h
  refine rr_callI (va_runS (As := [.int (rr_i x1), .int (rr_i 0), .int (rr_i 4)]) (rest := []) ⟨hx, hb, hml, hown, hts⟩ (kX5_in l g x1 0 4 v1 hw2) (va_cwS 3 hts gX5_told_X5_in rfl rfl rfl hd_X5_in ⟨Nat.le_of_ble_eq_true rfl, Nat.le_of_ble_eq_true rfl⟩) ⟨rr_R_blind, rr_R_pre hK (hP.sub (ws' := ([] : va_W)) [] rfl)⟩ rfl rfl hl.1 rfl (lv_room (Nat.le_of_ble_eq_true rfl)) dX5_told_3 ⟨Nat.zero_le _, Nat.zero_le _⟩) ?_
  obtain ⟨hg3, h⟩ := rr_c_some h
  refine rr_if_eq (tgt := 17) hx hb dX5_told_6 (by decide) hg3 (fun c4 => ?_) (fun c4 => ?_)
  · rw [if_pos c4] at h
    refine lv_aload_n hx hb dX5_told_17 rfl (lv_at hl 0 rfl) ?_
    refine rr_bipush hx hb dX5_told_18 (by decide +kernel) ?_
    obtain ⟨v5, hw6, h⟩ := rr_b_some h
    refine rr_allI hD hS hA (va_runV (As := [.int (rr_i (-2))]) (rest := []) ⟨hx, hb, hml, hown, hts⟩ (kX5_refuses l g ad _ hh (-2) σ v5 hw6) (cwV 1 hts gX5_told_X5_refuses rfl rfl rfl ⟨rfl, hd_X5_refuses⟩ ⟨Nat.le_of_ble_eq_true rfl, Nat.le_of_ble_eq_true rfl⟩) ⟨rr_P_blind, va_recv hK.1 hP (ci := 5) (q0 := 0) rfl rfl, rr_P_pre hK hP hD⟩ rfl rfl hl.1 rfl (lv_room (Nat.le_of_ble_eq_true rfl)) dX5_told_20 ⟨Nat.zero_le _, Nat.zero_le _⟩) (fun H locs hP hD hS => ?_)
    exact hret _ _ _ _ _ _ h hP hD hS dX5_told_23
  · rw [if_neg c4] at h
    refine lv_aload_n hx hb dX5_told_9 rfl (lv_at hl 0 rfl) ?_
    refine lv_iload_n hx hb dX5_told_10 rfl (lv_at hl 1 rfl) ?_
    obtain ⟨v7, hw8, h⟩ := rr_b_some h
    refine rr_callI (va_runV (As := [.int (rr_i x1)]) (rest := []) ⟨hx, hb, hml, hown, hts⟩ (kX5_toldOf l g ad hh x1 σ v7 hw8) (cwV 1 hts gX5_told_X5_toldOf rfl rfl rfl ⟨rfl, hd_X5_toldOf⟩ ⟨Nat.le_of_ble_eq_true rfl, Nat.le_of_ble_eq_true rfl⟩) ⟨rr_R_blind, va_recv hK.1 hP (ci := 5) (q0 := 0) rfl rfl, rr_R_pre hK hP⟩ rfl rfl hl.1 rfl (lv_room (Nat.le_of_ble_eq_true rfl)) dX5_told_11 ⟨Nat.zero_le _, Nat.zero_le _⟩) ?_
    refine lv_goto (tgt := 23) hx hb dX5_told_14 (by decide) ?_
    exact hret _ _ _ _ _ _ h hP hD hS dX5_told_23
-- RoomRingModel.mix
abbrev rm_X5_mix : Room := { frames := 0, cells := 0, slots := 0, locals := 0 }
theorem hd_X5_mix : yX5_mix.cls ≠ "java/lang/invoke/MethodHandle" ∧ yX5_mix.cls ≠ "java/lang/invoke/VarHandle" ∧ (parseMethodDescriptor yX5_mix.desc).map (fun d => d.parameters.length) = some 1 := by decide +kernel
set_option maxHeartbeats 4000000 in
set_option maxRecDepth 100000 in
theorem kX5_mix (l : Launch) (g : rr_G) (ad : Nat → Nat) (sz : Nat) (x1 : Int) (hh : Int) (σ : rr_T) (out : Int) (h : M5_mix x1 hh σ = some out) : Met l yX5_mix wsX5_mix rm_X5_mix (rr_P g [.ref (ad 0), .int (rr_i x1)] (rr_wM g ad σ hh) sz) (rr_Qv g (rr_wM g ad σ out) (va_A (rr_wM g ad σ hh) sz)) 0 0 (va_A (rr_wM g ad σ hh) sz) := by
  refine rr_rwV (cc := cX5_mix) (maxL := 2) (fun hh => rr_wM g ad σ hh) hh out (by decide) rfl (Nat.le_of_ble_eq_true rfl) ?_
  intro p e s m ar below meth c Q ls A hx hb hml hown hts hK hA hP hD hS hret hl
  have hP : va_P g.1 vwCl (rr_wM g ad σ hh) s.heap := hP
  have hD : va_D A (rr_wM g ad σ hh) := hD
  have hown : s.vm.findClass RX5 = some m.cls := hown
  have hl : lv_has ls 2 [(0, .ref (ad 0)), (1, .int (rr_i x1))] := hl
  have hinX5 : ∀ w ∈ u_ws RX5 TX5 19, w ∈ wsX5_mix := by decide +kernel
  have hk_0 : (Cond.constantLong RX5 200 (rr_l 31)).before ar s = true := hts _ (List.mem_of_getElem? (i := 1) (by decide +kernel))
  have hk_1 : (Cond.fieldLink RX5 202 "RoomRingModel" "h" "J").before ar s = true := hts _ (List.mem_of_getElem? (i := 2) (by decide +kernel))
  unfold M5_mix at h
  refine lv_aload_n hx hb dX5_mix_0 rfl (lv_at hl 0 rfl) ?_
  refine rr_ldc2 (n := 31) hx hb hown hk_0 dX5_mix_1 ?_
  refine lv_aload_n hx hb dX5_mix_4 rfl (lv_at hl 0 rfl) ?_
  refine va_get (D := g.1) (ci := 5) (v := .long (rr_l hh)) (C := RX5) (T := TX5) (N := 19) hx hb hts hinX5 hown hK.1 hP 0 rfl rfl 18 (by decide) hk_1 (fun _ h9 => h9) rfl dX5_mix_5 ?_
  refine rr_lmul hx hb dX5_mix_8 ?_
  refine lv_iload_n hx hb dX5_mix_9 rfl (lv_at hl 1 rfl) ?_
  obtain ⟨hg1, h⟩ := rr_c_some h
  refine rr_i2l hx hb dX5_mix_10 hg1 ?_
  refine rr_ladd hx hb dX5_mix_11 ?_
  refine va_put (D := g.1) (ci := 5) (v := .long (rr_l ((31 * hh) + x1))) (ty := .long) (C := RX5) (T := TX5) (N := 19) hx hb hts hinX5 tyX5 tyX5_ok nmX5 hown hK.1 hP hD hS 0 rfl rfl 18 (by decide) hk_1 (fun _ h9 => h9) rfl (by decide +kernel) rfl rfl (Nat.le_of_ble_eq_true rfl) dX5_mix_12 (fun H locs hP hD hS => ?_)
  have hP : va_P g.1 vwCl (rr_wM g ad σ ((31 * hh) + x1)) H := hP
  have hD : va_D A (rr_wM g ad σ ((31 * hh) + x1)) := hD
  exact hret _ _ _ _ _ h hP hD hS dX5_mix_15
-- RoomRingModel.digest
abbrev rm_X5_digest : Room := { frames := 4, cells := 0, slots := 0, locals := 90 }
theorem hd_X5_digest : yX5_digest.cls ≠ "java/lang/invoke/MethodHandle" ∧ yX5_digest.cls ≠ "java/lang/invoke/VarHandle" ∧ (parseMethodDescriptor yX5_digest.desc).map (fun d => d.parameters.length) = some 0 := by decide +kernel
set_option maxHeartbeats 4000000 in
set_option maxRecDepth 100000 in
theorem kX5_digest (l : Launch) (g : rr_G) (ad : Nat → Nat) (sz : Nat) (hh : Int) (σ : rr_T) (out : (Int × Int)) (h : M5_digest hh σ = some out) : Met l yX5_digest wsX5_digest rm_X5_digest (rr_P g [.ref (ad 0)] (rr_wM g ad σ hh) sz) (rr_Ql g out.1 (rr_wM g ad σ out.2) (va_A (rr_wM g ad σ hh) sz)) 0 0 (va_A (rr_wM g ad σ hh) sz) := by
  refine rr_rwL (cc := cX5_digest) (maxL := 3) (fun hh => rr_wM g ad σ hh) hh out (by decide) rfl (Nat.le_of_ble_eq_true rfl) ?_
  intro p e s m ar below meth c Q ls A hx hb hml hown hts hK hA hP hD hS hret hl
  have hP : va_P g.1 vwCl (rr_wM g ad σ hh) s.heap := hP
  have hD : va_D A (rr_wM g ad σ hh) := hD
  have hown : s.vm.findClass RX5 = some m.cls := hown
  have hl : lv_has ls 3 [(0, .ref (ad 0))] := hl
  have hinX5 : ∀ w ∈ u_ws RX5 TX5 19, w ∈ wsX5_digest := by decide +kernel
  have hk_0 : (Cond.constantLong RX5 206 (rr_l 2820)).before ar s = true := hts _ (List.mem_of_getElem? (i := 1) (by decide +kernel))
  have hk_1 : (Cond.fieldLink RX5 202 "RoomRingModel" "h" "J").before ar s = true := hts _ (List.mem_of_getElem? (i := 2) (by decide +kernel))
  have hk_2 : (Cond.fieldLink RX5 22 "RoomRingModel" "owner" "[I").before ar s = true := hts _ (List.mem_of_getElem? (i := 3) (by decide +kernel))
  have hk_3 : (Cond.fieldLink RX5 7 "RoomRingModel" "now" "[I").before ar s = true := hts _ (List.mem_of_getElem? (i := 4) (by decide +kernel))
  have hk_4 : (Cond.fieldLink RX5 25 "RoomRingModel" "keyHost" "[I").before ar s = true := hts _ (List.mem_of_getElem? (i := 5) (by decide +kernel))
  unfold M5_digest at h
  have hL5_digest_9 : ∀ (K : Int → Option (Int × Int)) (n : Nat) (x1 : Int) (hh : Int) (H : Heap) (locs : List Loc) (ls : Array Slot), L5_digest_9 σ K n x1 hh = some out → va_P g.1 vwCl (rr_wM g ad σ hh) H → va_D A (rr_wM g ad σ hh) → va_S A s.heap H locs → lv_has ls 3 [(0, .ref (ad 0)), (1, .int (rr_i x1))] → (∀ (τ9 : Int) (H : Heap) (locs : List Loc) (ls : Array Slot), K τ9 = some out → va_P g.1 vwCl (rr_wM g ad σ τ9) H → va_D A (rr_wM g ad σ τ9) → va_S A s.heap H locs → lv_has ls 3 [(0, .ref (ad 0))] → W p l e rm_X5_digest s m ar below meth c H locs 0 0 Q (F0 m 29 ls [])) → W p l e rm_X5_digest s m ar below meth c H locs 0 0 Q (F0 m 9 ls []) := by
    intro K n
    induction n with
    | zero => intro x1 hh H locs ls h hP hD hS hl hk; cases h
    | succ n ih =>
      intro x1 hh H locs ls h hP hD hS hl hk
      rw [L5_digest_9_s] at h
      refine lv_iload_n hx hb dX5_digest_9 rfl (lv_at hl 1 rfl) ?_
      refine rr_iconst hx hb dX5_digest_10 ?_
      obtain ⟨hg1, h⟩ := rr_c_some h
      refine rr_icmp_ge (tgt := 29) hx hb dX5_digest_11 (by decide) hg1 (by decide) (fun c2 => ?_) (fun c2 => ?_)
      · rw [if_pos c2] at h
        exact hk hh _ _ ls h hP hD hS (lv_sub hl [0] rfl)
      · rw [if_neg c2] at h
        refine lv_aload_n hx hb dX5_digest_14 rfl (lv_at hl 0 rfl) ?_
        refine lv_aload_n hx hb dX5_digest_15 rfl (lv_at hl 0 rfl) ?_
        refine lv_iload_n hx hb dX5_digest_16 rfl (lv_at hl 1 rfl) ?_
        obtain ⟨v3, hw4, h⟩ := rr_b_some h
        refine rr_callI (va_runV (As := [.int (rr_i x1)]) (rest := [.ref (ad 0)]) ⟨hx, hb, hml, hown, hts⟩ (kX5_toldOf l g ad hh x1 σ v3 hw4) (cwV 1 hts gX5_digest_X5_toldOf rfl rfl rfl ⟨rfl, hd_X5_toldOf⟩ ⟨Nat.le_of_ble_eq_true rfl, Nat.le_of_ble_eq_true rfl⟩) ⟨rr_R_blind, va_recv hK.1 hP (ci := 5) (q0 := 0) rfl rfl, rr_R_pre hK hP⟩ rfl rfl hl.1 rfl (lv_room (Nat.le_of_ble_eq_true rfl)) dX5_digest_17 ⟨Nat.zero_le _, Nat.zero_le _⟩) ?_
        obtain ⟨v5, hw6, h⟩ := rr_b_some h
        refine rr_allV hD hS hA (va_runV (As := [.int (rr_i v3)]) (rest := []) ⟨hx, hb, hml, hown, hts⟩ (kX5_mix l g ad _ v3 hh σ v5 hw6) (cwV 1 hts gX5_digest_X5_mix rfl rfl rfl ⟨rfl, hd_X5_mix⟩ ⟨Nat.le_of_ble_eq_true rfl, Nat.le_of_ble_eq_true rfl⟩) ⟨rr_P_blind, va_recv hK.1 hP (ci := 5) (q0 := 0) rfl rfl, rr_P_pre hK hP hD⟩ rfl rfl hl.1 rfl (lv_room (Nat.le_of_ble_eq_true rfl)) dX5_digest_20 ⟨Nat.zero_le _, Nat.zero_le _⟩) (fun H locs hP hD hS => ?_)
        refine rr_iinc (k := 1) (a := x1) (lv' := [(1, .int (rr_i (x1 + 1))), (0, .ref (ad 0))]) hx hb dX5_digest_23 hl rfl (by decide) rfl (fun ls hl => ?_)
        refine lv_goto (tgt := 9) hx hb dX5_digest_26 (by decide) ?_
        exact ih (x1 + 1) v5 _ _ ls h hP hD hS (lv_sub hl [1, 0] rfl) hk
  have hL5_digest_31 : ∀ (K : Int → Option (Int × Int)) (n : Nat) (x1 : Int) (hh : Int) (H : Heap) (locs : List Loc) (ls : Array Slot), L5_digest_31 σ K n x1 hh = some out → va_P g.1 vwCl (rr_wM g ad σ hh) H → va_D A (rr_wM g ad σ hh) → va_S A s.heap H locs → lv_has ls 3 [(0, .ref (ad 0)), (1, .int (rr_i x1))] → (∀ (τ9 : Int) (H : Heap) (locs : List Loc) (ls : Array Slot), K τ9 = some out → va_P g.1 vwCl (rr_wM g ad σ τ9) H → va_D A (rr_wM g ad σ τ9) → va_S A s.heap H locs → lv_has ls 3 [(0, .ref (ad 0))] → W p l e rm_X5_digest s m ar below meth c H locs 0 0 Q (F0 m 52 ls [])) → W p l e rm_X5_digest s m ar below meth c H locs 0 0 Q (F0 m 31 ls []) := by
    intro K n
    induction n with
    | zero => intro x1 hh H locs ls h hP hD hS hl hk; cases h
    | succ n ih =>
      intro x1 hh H locs ls h hP hD hS hl hk
      rw [L5_digest_31_s] at h
      refine lv_iload_n hx hb dX5_digest_31 rfl (lv_at hl 1 rfl) ?_
      refine rr_bipush hx hb dX5_digest_32 (by decide +kernel) ?_
      obtain ⟨hg7, h⟩ := rr_c_some h
      refine rr_icmp_ge (tgt := 52) hx hb dX5_digest_34 (by decide) hg7 (by decide) (fun c8 => ?_) (fun c8 => ?_)
      · rw [if_pos c8] at h
        exact hk hh _ _ ls h hP hD hS (lv_sub hl [0] rfl)
      · rw [if_neg c8] at h
        refine lv_aload_n hx hb dX5_digest_37 rfl (lv_at hl 0 rfl) ?_
        refine lv_aload_n hx hb dX5_digest_38 rfl (lv_at hl 0 rfl) ?_
        refine lv_iload_n hx hb dX5_digest_39 rfl (lv_at hl 1 rfl) ?_
        obtain ⟨v9, hw10, h⟩ := rr_b_some h
        refine rr_callI (va_runV (As := [.int (rr_i x1)]) (rest := [.ref (ad 0)]) ⟨hx, hb, hml, hown, hts⟩ (kX5_counted l g ad hh x1 σ v9 hw10) (cwV 1 hts gX5_digest_X5_counted rfl rfl rfl ⟨rfl, hd_X5_counted⟩ ⟨Nat.le_of_ble_eq_true rfl, Nat.le_of_ble_eq_true rfl⟩) ⟨rr_R_blind, va_recv hK.1 hP (ci := 5) (q0 := 0) rfl rfl, rr_R_pre hK hP⟩ rfl rfl hl.1 rfl (lv_room (Nat.le_of_ble_eq_true rfl)) dX5_digest_40 ⟨Nat.zero_le _, Nat.zero_le _⟩) ?_
        obtain ⟨v11, hw12, h⟩ := rr_b_some h
        refine rr_allV hD hS hA (va_runV (As := [.int (rr_i v9)]) (rest := []) ⟨hx, hb, hml, hown, hts⟩ (kX5_mix l g ad _ v9 hh σ v11 hw12) (cwV 1 hts gX5_digest_X5_mix rfl rfl rfl ⟨rfl, hd_X5_mix⟩ ⟨Nat.le_of_ble_eq_true rfl, Nat.le_of_ble_eq_true rfl⟩) ⟨rr_P_blind, va_recv hK.1 hP (ci := 5) (q0 := 0) rfl rfl, rr_P_pre hK hP hD⟩ rfl rfl hl.1 rfl (lv_room (Nat.le_of_ble_eq_true rfl)) dX5_digest_43 ⟨Nat.zero_le _, Nat.zero_le _⟩) (fun H locs hP hD hS => ?_)
        refine rr_iinc (k := 1) (a := x1) (lv' := [(1, .int (rr_i (x1 + 1))), (0, .ref (ad 0))]) hx hb dX5_digest_46 hl rfl (by decide) rfl (fun ls hl => ?_)
        refine lv_goto (tgt := 31) hx hb dX5_digest_49 (by decide) ?_
        exact ih (x1 + 1) v11 _ _ ls h hP hD hS (lv_sub hl [1, 0] rfl) hk
  have hL5_digest_54 : ∀ (K : Int → Option (Int × Int)) (n : Nat) (x1 : Int) (hh : Int) (H : Heap) (locs : List Loc) (ls : Array Slot), L5_digest_54 σ K n x1 hh = some out → va_P g.1 vwCl (rr_wM g ad σ hh) H → va_D A (rr_wM g ad σ hh) → va_S A s.heap H locs → lv_has ls 3 [(0, .ref (ad 0)), (1, .int (rr_i x1))] → (∀ (τ9 : Int) (H : Heap) (locs : List Loc) (ls : Array Slot), K τ9 = some out → va_P g.1 vwCl (rr_wM g ad σ τ9) H → va_D A (rr_wM g ad σ τ9) → va_S A s.heap H locs → lv_has ls 3 [(0, .ref (ad 0))] → W p l e rm_X5_digest s m ar below meth c H locs 0 0 Q (F0 m 76 ls [])) → W p l e rm_X5_digest s m ar below meth c H locs 0 0 Q (F0 m 54 ls []) := by
    intro K n
    induction n with
    | zero => intro x1 hh H locs ls h hP hD hS hl hk; cases h
    | succ n ih =>
      intro x1 hh H locs ls h hP hD hS hl hk
      rw [L5_digest_54_s] at h
      refine lv_iload_n hx hb dX5_digest_54 rfl (lv_at hl 1 rfl) ?_
      refine rr_bipush hx hb dX5_digest_55 (by decide +kernel) ?_
      obtain ⟨hg13, h⟩ := rr_c_some h
      refine rr_icmp_ge (tgt := 76) hx hb dX5_digest_57 (by decide) hg13 (by decide) (fun c14 => ?_) (fun c14 => ?_)
      · rw [if_pos c14] at h
        exact hk hh _ _ ls h hP hD hS (lv_sub hl [0] rfl)
      · rw [if_neg c14] at h
        refine lv_aload_n hx hb dX5_digest_60 rfl (lv_at hl 0 rfl) ?_
        refine lv_aload_n hx hb dX5_digest_61 rfl (lv_at hl 0 rfl) ?_
        refine va_get (D := g.1) (ci := 5) (v := .ref (ad 5)) (C := RX5) (T := TX5) (N := 19) hx hb hts hinX5 hown hK.1 hP 0 rfl rfl 5 (by decide) hk_2 (fun _ h9 => h9) rfl dX5_digest_62 ?_
        refine lv_iload_n hx hb dX5_digest_65 rfl (lv_at hl 1 rfl) ?_
        obtain ⟨hg15, h⟩ := rr_c_some h
        refine rr_iald (f := (σ 5)) (N := 101) hx hb hK hP 5 rfl rfl (by decide) hg15 dX5_digest_66 ?_
        obtain ⟨v16, hw17, h⟩ := rr_b_some h
        refine rr_allV hD hS hA (va_runV (As := [.int (rr_i (σ 5 x1))]) (rest := []) ⟨hx, hb, hml, hown, hts⟩ (kX5_mix l g ad _ (σ 5 x1) hh σ v16 hw17) (cwV 1 hts gX5_digest_X5_mix rfl rfl rfl ⟨rfl, hd_X5_mix⟩ ⟨Nat.le_of_ble_eq_true rfl, Nat.le_of_ble_eq_true rfl⟩) ⟨rr_P_blind, va_recv hK.1 hP (ci := 5) (q0 := 0) rfl rfl, rr_P_pre hK hP hD⟩ rfl rfl hl.1 rfl (lv_room (Nat.le_of_ble_eq_true rfl)) dX5_digest_67 ⟨Nat.zero_le _, Nat.zero_le _⟩) (fun H locs hP hD hS => ?_)
        refine rr_iinc (k := 1) (a := x1) (lv' := [(1, .int (rr_i (x1 + 1))), (0, .ref (ad 0))]) hx hb dX5_digest_70 hl rfl (by decide) rfl (fun ls hl => ?_)
        refine lv_goto (tgt := 54) hx hb dX5_digest_73 (by decide) ?_
        exact ih (x1 + 1) v16 _ _ ls h hP hD hS (lv_sub hl [1, 0] rfl) hk
  have hL5_digest_78 : ∀ (K : Int → Option (Int × Int)) (n : Nat) (x1 : Int) (hh : Int) (H : Heap) (locs : List Loc) (ls : Array Slot), L5_digest_78 σ K n x1 hh = some out → va_P g.1 vwCl (rr_wM g ad σ hh) H → va_D A (rr_wM g ad σ hh) → va_S A s.heap H locs → lv_has ls 3 [(0, .ref (ad 0)), (1, .int (rr_i x1))] → (∀ (τ9 : Int) (H : Heap) (locs : List Loc) (ls : Array Slot), K τ9 = some out → va_P g.1 vwCl (rr_wM g ad σ τ9) H → va_D A (rr_wM g ad σ τ9) → va_S A s.heap H locs → lv_has ls 3 [(0, .ref (ad 0))] → W p l e rm_X5_digest s m ar below meth c H locs 0 0 Q (F0 m 133 ls [])) → W p l e rm_X5_digest s m ar below meth c H locs 0 0 Q (F0 m 78 ls []) := by
    intro K n
    induction n with
    | zero => intro x1 hh H locs ls h hP hD hS hl hk; cases h
    | succ n ih =>
      intro x1 hh H locs ls h hP hD hS hl hk
      rw [L5_digest_78_s] at h
      refine lv_iload_n hx hb dX5_digest_78 rfl (lv_at hl 1 rfl) ?_
      refine rr_bipush hx hb dX5_digest_79 (by decide +kernel) ?_
      obtain ⟨hg18, h⟩ := rr_c_some h
      refine rr_icmp_ge (tgt := 133) hx hb dX5_digest_81 (by decide) hg18 (by decide) (fun c19 => ?_) (fun c19 => ?_)
      · rw [if_pos c19] at h
        exact hk hh _ _ ls h hP hD hS (lv_sub hl [0] rfl)
      · rw [if_neg c19] at h
        refine lv_aload_n hx hb dX5_digest_84 rfl (lv_at hl 0 rfl) ?_
        refine lv_iload_n hx hb dX5_digest_85 rfl (lv_at hl 1 rfl) ?_
        obtain ⟨v20, hw21, h⟩ := rr_b_some h
        refine rr_callI (va_runV (As := [.int (rr_i x1)]) (rest := []) ⟨hx, hb, hml, hown, hts⟩ (kX5_isHost l g ad hh x1 σ v20 hw21) (cwV 1 hts gX5_digest_X5_isHost rfl rfl rfl ⟨rfl, hd_X5_isHost⟩ ⟨Nat.le_of_ble_eq_true rfl, Nat.le_of_ble_eq_true rfl⟩) ⟨rr_R_blind, va_recv hK.1 hP (ci := 5) (q0 := 0) rfl rfl, rr_R_pre hK hP⟩ rfl rfl hl.1 rfl (lv_room (Nat.le_of_ble_eq_true rfl)) dX5_digest_86 ⟨Nat.zero_le _, Nat.zero_le _⟩) ?_
        obtain ⟨hg22, h⟩ := rr_c_some h
        refine rr_if_eq (tgt := 127) hx hb dX5_digest_89 (by decide) hg22 (fun c23 => ?_) (fun c23 => ?_)
        · rw [if_pos c23] at h
          refine rr_iinc (k := 1) (a := x1) (lv' := [(1, .int (rr_i (x1 + 1))), (0, .ref (ad 0))]) hx hb dX5_digest_127 hl rfl (by decide) rfl (fun ls hl => ?_)
          refine lv_goto (tgt := 78) hx hb dX5_digest_130 (by decide) ?_
          exact ih (x1 + 1) hh _ _ ls h hP hD hS (lv_sub hl [1, 0] rfl) hk
        · rw [if_neg c23] at h
          refine lv_aload_n hx hb dX5_digest_92 rfl (lv_at hl 0 rfl) ?_
          refine lv_iload_n hx hb dX5_digest_93 rfl (lv_at hl 1 rfl) ?_
          obtain ⟨v24, hw25, h⟩ := rr_b_some h
          refine rr_allV hD hS hA (va_runV (As := [.int (rr_i x1)]) (rest := []) ⟨hx, hb, hml, hown, hts⟩ (kX5_mix l g ad _ x1 hh σ v24 hw25) (cwV 1 hts gX5_digest_X5_mix rfl rfl rfl ⟨rfl, hd_X5_mix⟩ ⟨Nat.le_of_ble_eq_true rfl, Nat.le_of_ble_eq_true rfl⟩) ⟨rr_P_blind, va_recv hK.1 hP (ci := 5) (q0 := 0) rfl rfl, rr_P_pre hK hP hD⟩ rfl rfl hl.1 rfl (lv_room (Nat.le_of_ble_eq_true rfl)) dX5_digest_94 ⟨Nat.zero_le _, Nat.zero_le _⟩) (fun H locs hP hD hS => ?_)
          refine lv_aload_n hx hb dX5_digest_97 rfl (lv_at hl 0 rfl) ?_
          refine lv_aload_n hx hb dX5_digest_98 rfl (lv_at hl 0 rfl) ?_
          refine lv_iload_n hx hb dX5_digest_99 rfl (lv_at hl 1 rfl) ?_
          refine rr_iconst hx hb dX5_digest_100 ?_
          obtain ⟨v26, hw27, h⟩ := rr_b_some h
          refine rr_callI (va_runV (As := [.int (rr_i x1), .int (rr_i 0)]) (rest := [.ref (ad 0)]) ⟨hx, hb, hml, hown, hts⟩ (kX5_ofHost l g ad v24 x1 0 σ v26 hw27) (cwV 2 hts gX5_digest_X5_ofHost rfl rfl rfl ⟨rfl, hd_X5_ofHost⟩ ⟨Nat.le_of_ble_eq_true rfl, Nat.le_of_ble_eq_true rfl⟩) ⟨rr_R_blind, va_recv hK.1 hP (ci := 5) (q0 := 0) rfl rfl, rr_R_pre hK hP⟩ rfl rfl hl.1 rfl (lv_room (Nat.le_of_ble_eq_true rfl)) dX5_digest_101 ⟨Nat.zero_le _, Nat.zero_le _⟩) ?_
          obtain ⟨v28, hw29, h⟩ := rr_b_some h
          refine rr_allV hD hS hA (va_runV (As := [.int (rr_i v26)]) (rest := []) ⟨hx, hb, hml, hown, hts⟩ (kX5_mix l g ad _ v26 v24 σ v28 hw29) (cwV 1 hts gX5_digest_X5_mix rfl rfl rfl ⟨rfl, hd_X5_mix⟩ ⟨Nat.le_of_ble_eq_true rfl, Nat.le_of_ble_eq_true rfl⟩) ⟨rr_P_blind, va_recv hK.1 hP (ci := 5) (q0 := 0) rfl rfl, rr_P_pre hK hP hD⟩ rfl rfl hl.1 rfl (lv_room (Nat.le_of_ble_eq_true rfl)) dX5_digest_104 ⟨Nat.zero_le _, Nat.zero_le _⟩) (fun H locs hP hD hS => ?_)
          refine lv_aload_n hx hb dX5_digest_107 rfl (lv_at hl 0 rfl) ?_
          refine lv_aload_n hx hb dX5_digest_108 rfl (lv_at hl 0 rfl) ?_
          refine lv_iload_n hx hb dX5_digest_109 rfl (lv_at hl 1 rfl) ?_
          refine rr_iconst hx hb dX5_digest_110 ?_
          obtain ⟨v30, hw31, h⟩ := rr_b_some h
          refine rr_callI (va_runV (As := [.int (rr_i x1), .int (rr_i 1)]) (rest := [.ref (ad 0)]) ⟨hx, hb, hml, hown, hts⟩ (kX5_ofHost l g ad v28 x1 1 σ v30 hw31) (cwV 2 hts gX5_digest_X5_ofHost rfl rfl rfl ⟨rfl, hd_X5_ofHost⟩ ⟨Nat.le_of_ble_eq_true rfl, Nat.le_of_ble_eq_true rfl⟩) ⟨rr_R_blind, va_recv hK.1 hP (ci := 5) (q0 := 0) rfl rfl, rr_R_pre hK hP⟩ rfl rfl hl.1 rfl (lv_room (Nat.le_of_ble_eq_true rfl)) dX5_digest_111 ⟨Nat.zero_le _, Nat.zero_le _⟩) ?_
          obtain ⟨v32, hw33, h⟩ := rr_b_some h
          refine rr_allV hD hS hA (va_runV (As := [.int (rr_i v30)]) (rest := []) ⟨hx, hb, hml, hown, hts⟩ (kX5_mix l g ad _ v30 v28 σ v32 hw33) (cwV 1 hts gX5_digest_X5_mix rfl rfl rfl ⟨rfl, hd_X5_mix⟩ ⟨Nat.le_of_ble_eq_true rfl, Nat.le_of_ble_eq_true rfl⟩) ⟨rr_P_blind, va_recv hK.1 hP (ci := 5) (q0 := 0) rfl rfl, rr_P_pre hK hP hD⟩ rfl rfl hl.1 rfl (lv_room (Nat.le_of_ble_eq_true rfl)) dX5_digest_114 ⟨Nat.zero_le _, Nat.zero_le _⟩) (fun H locs hP hD hS => ?_)
          refine lv_aload_n hx hb dX5_digest_117 rfl (lv_at hl 0 rfl) ?_
          refine lv_aload_n hx hb dX5_digest_118 rfl (lv_at hl 0 rfl) ?_
          refine lv_iload_n hx hb dX5_digest_119 rfl (lv_at hl 1 rfl) ?_
          refine rr_iconst hx hb dX5_digest_120 ?_
          obtain ⟨v34, hw35, h⟩ := rr_b_some h
          refine rr_callI (va_runV (As := [.int (rr_i x1), .int (rr_i 2)]) (rest := [.ref (ad 0)]) ⟨hx, hb, hml, hown, hts⟩ (kX5_ofHost l g ad v32 x1 2 σ v34 hw35) (cwV 2 hts gX5_digest_X5_ofHost rfl rfl rfl ⟨rfl, hd_X5_ofHost⟩ ⟨Nat.le_of_ble_eq_true rfl, Nat.le_of_ble_eq_true rfl⟩) ⟨rr_R_blind, va_recv hK.1 hP (ci := 5) (q0 := 0) rfl rfl, rr_R_pre hK hP⟩ rfl rfl hl.1 rfl (lv_room (Nat.le_of_ble_eq_true rfl)) dX5_digest_121 ⟨Nat.zero_le _, Nat.zero_le _⟩) ?_
          obtain ⟨v36, hw37, h⟩ := rr_b_some h
          refine rr_allV hD hS hA (va_runV (As := [.int (rr_i v34)]) (rest := []) ⟨hx, hb, hml, hown, hts⟩ (kX5_mix l g ad _ v34 v32 σ v36 hw37) (cwV 1 hts gX5_digest_X5_mix rfl rfl rfl ⟨rfl, hd_X5_mix⟩ ⟨Nat.le_of_ble_eq_true rfl, Nat.le_of_ble_eq_true rfl⟩) ⟨rr_P_blind, va_recv hK.1 hP (ci := 5) (q0 := 0) rfl rfl, rr_P_pre hK hP hD⟩ rfl rfl hl.1 rfl (lv_room (Nat.le_of_ble_eq_true rfl)) dX5_digest_124 ⟨Nat.zero_le _, Nat.zero_le _⟩) (fun H locs hP hD hS => ?_)
          refine rr_iinc (k := 1) (a := x1) (lv' := [(1, .int (rr_i (x1 + 1))), (0, .ref (ad 0))]) hx hb dX5_digest_127 hl rfl (by decide) rfl (fun ls hl => ?_)
          refine lv_goto (tgt := 78) hx hb dX5_digest_130 (by decide) ?_
          exact ih (x1 + 1) v36 _ _ ls h hP hD hS (lv_sub hl [1, 0] rfl) hk
  have hL5_digest_172 : ∀ (x1 : Int) (K : Int → Option (Int × Int)) (n : Nat) (x2 : Int) (hh : Int) (H : Heap) (locs : List Loc) (ls : Array Slot), L5_digest_172 σ x1 K n x2 hh = some out → va_P g.1 vwCl (rr_wM g ad σ hh) H → va_D A (rr_wM g ad σ hh) → va_S A s.heap H locs → lv_has ls 3 [(0, .ref (ad 0)), (1, .int (rr_i x1)), (2, .int (rr_i x2))] → (∀ (τ9 : Int) (H : Heap) (locs : List Loc) (ls : Array Slot), K τ9 = some out → va_P g.1 vwCl (rr_wM g ad σ τ9) H → va_D A (rr_wM g ad σ τ9) → va_S A s.heap H locs → lv_has ls 3 [(0, .ref (ad 0)), (1, .int (rr_i x1))] → W p l e rm_X5_digest s m ar below meth c H locs 0 0 Q (F0 m 193 ls [])) → W p l e rm_X5_digest s m ar below meth c H locs 0 0 Q (F0 m 172 ls []) := by
    intro x1 K n
    induction n with
    | zero => intro x2 hh H locs ls h hP hD hS hl hk; cases h
    | succ n ih =>
      intro x2 hh H locs ls h hP hD hS hl hk
      rw [L5_digest_172_s] at h
      refine lv_iload_n hx hb dX5_digest_172 rfl (lv_at hl 2 rfl) ?_
      refine rr_iconst hx hb dX5_digest_173 ?_
      obtain ⟨hg46, h⟩ := rr_c_some h
      refine rr_icmp_ge (tgt := 193) hx hb dX5_digest_174 (by decide) hg46 (by decide) (fun c47 => ?_) (fun c47 => ?_)
      · rw [if_pos c47] at h
        exact hk hh _ _ ls h hP hD hS (lv_sub hl [0, 1] rfl)
      · rw [if_neg c47] at h
        refine lv_aload_n hx hb dX5_digest_177 rfl (lv_at hl 0 rfl) ?_
        refine lv_aload_n hx hb dX5_digest_178 rfl (lv_at hl 0 rfl) ?_
        refine lv_iload_n hx hb dX5_digest_179 rfl (lv_at hl 1 rfl) ?_
        refine lv_iload_n hx hb dX5_digest_180 rfl (lv_at hl 2 rfl) ?_
        obtain ⟨v48, hw49, h⟩ := rr_b_some h
        refine rr_callI (va_runV (As := [.int (rr_i x1), .int (rr_i x2)]) (rest := [.ref (ad 0)]) ⟨hx, hb, hml, hown, hts⟩ (kX5_aboutKey l g ad hh x1 x2 σ v48 hw49) (cwV 2 hts gX5_digest_X5_aboutKey rfl rfl rfl ⟨rfl, hd_X5_aboutKey⟩ ⟨Nat.le_of_ble_eq_true rfl, Nat.le_of_ble_eq_true rfl⟩) ⟨rr_R_blind, va_recv hK.1 hP (ci := 5) (q0 := 0) rfl rfl, rr_R_pre hK hP⟩ rfl rfl hl.1 rfl (lv_room (Nat.le_of_ble_eq_true rfl)) dX5_digest_181 ⟨Nat.zero_le _, Nat.zero_le _⟩) ?_
        obtain ⟨v50, hw51, h⟩ := rr_b_some h
        refine rr_allV hD hS hA (va_runV (As := [.int (rr_i v48)]) (rest := []) ⟨hx, hb, hml, hown, hts⟩ (kX5_mix l g ad _ v48 hh σ v50 hw51) (cwV 1 hts gX5_digest_X5_mix rfl rfl rfl ⟨rfl, hd_X5_mix⟩ ⟨Nat.le_of_ble_eq_true rfl, Nat.le_of_ble_eq_true rfl⟩) ⟨rr_P_blind, va_recv hK.1 hP (ci := 5) (q0 := 0) rfl rfl, rr_P_pre hK hP hD⟩ rfl rfl hl.1 rfl (lv_room (Nat.le_of_ble_eq_true rfl)) dX5_digest_184 ⟨Nat.zero_le _, Nat.zero_le _⟩) (fun H locs hP hD hS => ?_)
        refine rr_iinc (k := 2) (a := x2) (lv' := [(2, .int (rr_i (x2 + 1))), (0, .ref (ad 0)), (1, .int (rr_i x1))]) hx hb dX5_digest_187 hl rfl (by decide) rfl (fun ls hl => ?_)
        refine lv_goto (tgt := 172) hx hb dX5_digest_190 (by decide) ?_
        exact ih (x2 + 1) v50 _ _ ls h hP hD hS (lv_sub hl [1, 2, 0] rfl) hk
  have hL5_digest_135 : ∀ (K : Int → Option (Int × Int)) (n : Nat) (x1 : Int) (hh : Int) (H : Heap) (locs : List Loc) (ls : Array Slot), L5_digest_135 σ K n x1 hh = some out → va_P g.1 vwCl (rr_wM g ad σ hh) H → va_D A (rr_wM g ad σ hh) → va_S A s.heap H locs → lv_has ls 3 [(0, .ref (ad 0)), (1, .int (rr_i x1))] → (∀ (τ9 : Int) (H : Heap) (locs : List Loc) (ls : Array Slot), K τ9 = some out → va_P g.1 vwCl (rr_wM g ad σ τ9) H → va_D A (rr_wM g ad σ τ9) → va_S A s.heap H locs → lv_has ls 3 [(0, .ref (ad 0))] → W p l e rm_X5_digest s m ar below meth c H locs 0 0 Q (F0 m 199 ls [])) → W p l e rm_X5_digest s m ar below meth c H locs 0 0 Q (F0 m 135 ls []) := by
    intro K n
    induction n with
    | zero => intro x1 hh H locs ls h hP hD hS hl hk; cases h
    | succ n ih =>
      intro x1 hh H locs ls h hP hD hS hl hk
      rw [L5_digest_135_s] at h
      refine lv_iload_n hx hb dX5_digest_135 rfl (lv_at hl 1 rfl) ?_
      refine lv_aload_n hx hb dX5_digest_136 rfl (lv_at hl 0 rfl) ?_
      refine va_get (D := g.1) (ci := 5) (v := .ref (ad 1)) (C := RX5) (T := TX5) (N := 19) hx hb hts hinX5 hown hK.1 hP 0 rfl rfl 0 (by decide) hk_3 (fun _ h9 => h9) rfl dX5_digest_137 ?_
      refine rr_sipush hx hb dX5_digest_140 (by decide +kernel) ?_
      refine rr_iald (f := (σ 0)) (N := 143) hx hb hK hP 1 rfl rfl (by decide) (by decide) dX5_digest_143 ?_
      obtain ⟨hg38, h⟩ := rr_c_some h
      refine rr_icmp_ge (tgt := 199) hx hb dX5_digest_144 (by decide) hg38.1 hg38.2 (fun c39 => ?_) (fun c39 => ?_)
      · rw [if_pos c39] at h
        exact hk hh _ _ ls h hP hD hS (lv_sub hl [0] rfl)
      · rw [if_neg c39] at h
        refine lv_aload_n hx hb dX5_digest_147 rfl (lv_at hl 0 rfl) ?_
        refine lv_aload_n hx hb dX5_digest_148 rfl (lv_at hl 0 rfl) ?_
        refine va_get (D := g.1) (ci := 5) (v := .ref (ad 1)) (C := RX5) (T := TX5) (N := 19) hx hb hts hinX5 hown hK.1 hP 0 rfl rfl 0 (by decide) hk_3 (fun _ h9 => h9) rfl dX5_digest_149 ?_
        refine rr_bipush hx hb dX5_digest_152 (by decide +kernel) ?_
        refine lv_iload_n hx hb dX5_digest_154 rfl (lv_at hl 1 rfl) ?_
        refine rr_iadd hx hb dX5_digest_155 ?_
        obtain ⟨hg40, h⟩ := rr_c_some h
        refine rr_iald (f := (σ 0)) (N := 143) hx hb hK hP 1 rfl rfl (by decide) hg40 dX5_digest_156 ?_
        obtain ⟨v41, hw42, h⟩ := rr_b_some h
        refine rr_allV hD hS hA (va_runV (As := [.int (rr_i (σ 0 (100 + x1)))]) (rest := []) ⟨hx, hb, hml, hown, hts⟩ (kX5_mix l g ad _ (σ 0 (100 + x1)) hh σ v41 hw42) (cwV 1 hts gX5_digest_X5_mix rfl rfl rfl ⟨rfl, hd_X5_mix⟩ ⟨Nat.le_of_ble_eq_true rfl, Nat.le_of_ble_eq_true rfl⟩) ⟨rr_P_blind, va_recv hK.1 hP (ci := 5) (q0 := 0) rfl rfl, rr_P_pre hK hP hD⟩ rfl rfl hl.1 rfl (lv_room (Nat.le_of_ble_eq_true rfl)) dX5_digest_157 ⟨Nat.zero_le _, Nat.zero_le _⟩) (fun H locs hP hD hS => ?_)
        refine lv_aload_n hx hb dX5_digest_160 rfl (lv_at hl 0 rfl) ?_
        refine lv_aload_n hx hb dX5_digest_161 rfl (lv_at hl 0 rfl) ?_
        refine va_get (D := g.1) (ci := 5) (v := .ref (ad 6)) (C := RX5) (T := TX5) (N := 19) hx hb hts hinX5 hown hK.1 hP 0 rfl rfl 6 (by decide) hk_4 (fun _ h9 => h9) rfl dX5_digest_162 ?_
        refine lv_iload_n hx hb dX5_digest_165 rfl (lv_at hl 1 rfl) ?_
        obtain ⟨hg43, h⟩ := rr_c_some h
        refine rr_iald (f := (σ 6)) (N := 40) hx hb hK hP 6 rfl rfl (by decide) hg43 dX5_digest_166 ?_
        obtain ⟨v44, hw45, h⟩ := rr_b_some h
        refine rr_allV hD hS hA (va_runV (As := [.int (rr_i (σ 6 x1))]) (rest := []) ⟨hx, hb, hml, hown, hts⟩ (kX5_mix l g ad _ (σ 6 x1) v41 σ v44 hw45) (cwV 1 hts gX5_digest_X5_mix rfl rfl rfl ⟨rfl, hd_X5_mix⟩ ⟨Nat.le_of_ble_eq_true rfl, Nat.le_of_ble_eq_true rfl⟩) ⟨rr_P_blind, va_recv hK.1 hP (ci := 5) (q0 := 0) rfl rfl, rr_P_pre hK hP hD⟩ rfl rfl hl.1 rfl (lv_room (Nat.le_of_ble_eq_true rfl)) dX5_digest_167 ⟨Nat.zero_le _, Nat.zero_le _⟩) (fun H locs hP hD hS => ?_)
        refine rr_iconst hx hb dX5_digest_170 ?_
        refine lv_istore_n (lv' := [(2, .int (rr_i 0)), (0, .ref (ad 0)), (1, .int (rr_i x1))]) hx hb dX5_digest_171 rfl hl (by decide) rfl (fun ls hl => ?_)
        refine hL5_digest_172 x1 _ 1000 0 v44 _ _ ls h hP hD hS (lv_sub hl [1, 2, 0] rfl) (fun σ_172 H locs ls h hP hD hS hl => ?_)
        refine rr_iinc (k := 1) (a := x1) (lv' := [(1, .int (rr_i (x1 + 1))), (0, .ref (ad 0))]) hx hb dX5_digest_193 hl rfl (by decide) rfl (fun ls hl => ?_)
        refine lv_goto (tgt := 135) hx hb dX5_digest_196 (by decide) ?_
        exact ih (x1 + 1) σ_172 _ _ ls h hP hD hS (lv_sub hl [1, 0] rfl) hk
  refine lv_aload_n hx hb dX5_digest_0 rfl (lv_at hl 0 rfl) ?_
  refine rr_ldc2 (n := 2820) hx hb hown hk_0 dX5_digest_1 ?_
  refine va_put (D := g.1) (ci := 5) (v := .long (rr_l 2820)) (ty := .long) (C := RX5) (T := TX5) (N := 19) hx hb hts hinX5 tyX5 tyX5_ok nmX5 hown hK.1 hP hD hS 0 rfl rfl 18 (by decide) hk_1 (fun _ h9 => h9) rfl (by decide +kernel) rfl rfl (Nat.le_of_ble_eq_true rfl) dX5_digest_4 (fun H locs hP hD hS => ?_)
  have hP : va_P g.1 vwCl (rr_wM g ad σ 2820) H := hP
  have hD : va_D A (rr_wM g ad σ 2820) := hD
  refine rr_iconst hx hb dX5_digest_7 ?_
  refine lv_istore_n (lv' := [(1, .int (rr_i 0)), (0, .ref (ad 0))]) hx hb dX5_digest_8 rfl hl (by decide) rfl (fun ls hl => ?_)
  refine hL5_digest_9 _ 1000 0 2820 _ _ ls h hP hD hS (lv_sub hl [1, 0] rfl) (fun σ_9 H locs ls h hP hD hS hl => ?_)
  refine rr_iconst hx hb dX5_digest_29 ?_
  refine lv_istore_n (lv' := [(1, .int (rr_i 0)), (0, .ref (ad 0))]) hx hb dX5_digest_30 rfl hl (by decide) rfl (fun ls hl => ?_)
  refine hL5_digest_31 _ 1000 0 σ_9 _ _ ls h hP hD hS (lv_sub hl [1, 0] rfl) (fun σ_31 H locs ls h hP hD hS hl => ?_)
  refine rr_iconst hx hb dX5_digest_52 ?_
  refine lv_istore_n (lv' := [(1, .int (rr_i 0)), (0, .ref (ad 0))]) hx hb dX5_digest_53 rfl hl (by decide) rfl (fun ls hl => ?_)
  refine hL5_digest_54 _ 1000 0 σ_31 _ _ ls h hP hD hS (lv_sub hl [1, 0] rfl) (fun σ_54 H locs ls h hP hD hS hl => ?_)
  refine rr_iconst hx hb dX5_digest_76 ?_
  refine lv_istore_n (lv' := [(1, .int (rr_i 0)), (0, .ref (ad 0))]) hx hb dX5_digest_77 rfl hl (by decide) rfl (fun ls hl => ?_)
  refine hL5_digest_78 _ 1000 0 σ_54 _ _ ls h hP hD hS (lv_sub hl [1, 0] rfl) (fun σ_78 H locs ls h hP hD hS hl => ?_)
  refine rr_iconst hx hb dX5_digest_133 ?_
  refine lv_istore_n (lv' := [(1, .int (rr_i 0)), (0, .ref (ad 0))]) hx hb dX5_digest_134 rfl hl (by decide) rfl (fun ls hl => ?_)
  refine hL5_digest_135 _ 1000 0 σ_78 _ _ ls h hP hD hS (lv_sub hl [1, 0] rfl) (fun σ_135 H locs ls h hP hD hS hl => ?_)
  refine lv_aload_n hx hb dX5_digest_199 rfl (lv_at hl 0 rfl) ?_
  refine va_get (D := g.1) (ci := 5) (v := .long (rr_l σ_135)) (C := RX5) (T := TX5) (N := 19) hx hb hts hinX5 hown hK.1 hP 0 rfl rfl 18 (by decide) hk_1 (fun _ h9 => h9) rfl dX5_digest_200 ?_
  exact hret _ _ _ _ _ _ h hP hD hS dX5_digest_203
