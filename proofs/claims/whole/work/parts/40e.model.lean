-- RoomRingModel.doOrder
abbrev rm_X5_doOrder : Room := { frames := 4, cells := 0, slots := 0, locals := 86 }
theorem hd_X5_doOrder : yX5_doOrder.cls ≠ "java/lang/invoke/MethodHandle" ∧ yX5_doOrder.cls ≠ "java/lang/invoke/VarHandle" ∧ (parseMethodDescriptor yX5_doOrder.desc).map (fun d => d.parameters.length) = some 1 := by decide +kernel
set_option maxHeartbeats 4000000 in
set_option maxRecDepth 100000 in
theorem kX5_doOrder (l : Launch) (g : rr_G) (ad : Nat → Nat) (sz : Nat) (hh : Int) (x1 : Int) (σ : rr_T) (out : (Int × rr_T)) (h : M5_doOrder x1 σ = some out) : Met l yX5_doOrder wsX5_doOrder rm_X5_doOrder (rr_P g [.ref (ad 0), .int (rr_i x1)] (rr_wM g ad σ hh) sz) (rr_Qi g out.1 (rr_wM g ad out.2 hh) (va_A (rr_wM g ad σ hh) sz)) 0 0 (va_A (rr_wM g ad σ hh) sz) := by
  refine rr_rwI (cc := cX5_doOrder) (maxL := 4) (fun σ => rr_wM g ad σ hh) σ out (by decide) rfl (Nat.le_of_ble_eq_true rfl) ?_
  intro p e s m ar below meth c Q ls A hx hb hml hown hts hK hA hP hD hS hret hl
  have hP : va_P g.1 vwCl (rr_wM g ad σ hh) s.heap := hP
  have hD : va_D A (rr_wM g ad σ hh) := hD
  have hown : s.vm.findClass RX5 = some m.cls := hown
  have hl : lv_has ls 4 [(0, .ref (ad 0)), (1, .int (rr_i x1))] := hl
  have hinX5 : ∀ w ∈ u_ws RX5 TX5 19, w ∈ wsX5_doOrder := by decide +kernel
  have hk_0 : (Cond.fieldLink RX5 47 "RoomRingModel" "numbers" "[I").before ar s = true := hts _ (List.mem_of_getElem? (i := 1) (by decide +kernel))
  have hk_1 : (Cond.fieldLink RX5 44 "RoomRingModel" "letters" "[I").before ar s = true := hts _ (List.mem_of_getElem? (i := 2) (by decide +kernel))
  unfold M5_doOrder at h
  refine lv_aload_n hx hb dX5_doOrder_0 rfl (lv_at hl 0 rfl) ?_
  refine va_get (D := g.1) (ci := 5) (v := .ref (ad 13)) (C := RX5) (T := TX5) (N := 19) hx hb hts hinX5 hown hK.1 hP 0 rfl rfl 17 (by decide) hk_0 (fun _ h9 => h9) rfl dX5_doOrder_1 ?_
  refine rr_iconst hx hb dX5_doOrder_4 ?_
  refine lv_iload_n hx hb dX5_doOrder_5 rfl (lv_at hl 1 rfl) ?_
  refine rr_imul hx hb dX5_doOrder_6 ?_
  obtain ⟨hg1, h⟩ := rr_c_some h
  refine rr_iald (f := (σ 17)) (N := 80) hx hb hK hP 13 rfl rfl (by decide) hg1 dX5_doOrder_7 ?_
  refine lv_istore_n (lv' := [(2, .int (rr_i (σ 17 (2 * x1)))), (0, .ref (ad 0)), (1, .int (rr_i x1))]) hx hb dX5_doOrder_8 rfl hl (by decide) rfl (fun ls hl => ?_)
  refine lv_aload_n hx hb dX5_doOrder_9 rfl (lv_at hl 1 rfl) ?_
  refine va_get (D := g.1) (ci := 5) (v := .ref (ad 13)) (C := RX5) (T := TX5) (N := 19) hx hb hts hinX5 hown hK.1 hP 0 rfl rfl 17 (by decide) hk_0 (fun _ h9 => h9) rfl dX5_doOrder_10 ?_
  refine rr_iconst hx hb dX5_doOrder_13 ?_
  refine lv_iload_n hx hb dX5_doOrder_14 rfl (lv_at hl 2 rfl) ?_
  refine rr_imul hx hb dX5_doOrder_15 ?_
  refine rr_iconst hx hb dX5_doOrder_16 ?_
  refine rr_iadd hx hb dX5_doOrder_17 ?_
  obtain ⟨hg2, h⟩ := rr_c_some h
  refine rr_iald (f := (σ 17)) (N := 80) hx hb hK hP 13 rfl rfl (by decide) hg2 dX5_doOrder_18 ?_
  refine lv_istore_n (lv' := [(3, .int (rr_i (σ 17 ((2 * x1) + 1)))), (2, .int (rr_i (σ 17 (2 * x1)))), (0, .ref (ad 0)), (1, .int (rr_i x1))]) hx hb dX5_doOrder_19 rfl hl (by decide) rfl (fun ls hl => ?_)
  refine lv_aload_n hx hb dX5_doOrder_20 rfl (lv_at hl 2 rfl) ?_
  refine va_get (D := g.1) (ci := 5) (v := .ref (ad 12)) (C := RX5) (T := TX5) (N := 19) hx hb hts hinX5 hown hK.1 hP 0 rfl rfl 16 (by decide) hk_1 (fun _ h9 => h9) rfl dX5_doOrder_21 ?_
  refine lv_iload_n hx hb dX5_doOrder_24 rfl (lv_at hl 3 rfl) ?_
  obtain ⟨hg3, h⟩ := rr_c_some h
  refine rr_iald (f := (σ 16)) (N := 40) hx hb hK hP 12 rfl rfl (by decide) hg3 dX5_doOrder_25 ?_
  obtain ⟨hg4, h⟩ := rr_c_some h
  have hv5 : (rr_i (σ 16 x1)).toInt = (σ 16 x1) := rr_to_i hg4
  by_cases c6 : (σ 16 x1) = 100
  · rw [if_pos c6] at h
    refine lv_lookup (off := 76) (tgt := 102) hx hb dX5_doOrder_26 (by decide) (by rw [hv5, c6]; decide) (by decide) ?_
    refine lv_aload_n hx hb dX5_doOrder_102 rfl (lv_at hl 2 rfl) ?_
    refine lv_iload_n hx hb dX5_doOrder_103 rfl (lv_at hl 1 rfl) ?_
    obtain ⟨v7, hw8, h⟩ := rr_b_some h
    refine rr_allI hD hS hA (va_runV (As := [.int (rr_i (σ 17 (2 * x1)))]) (rest := []) ⟨hx, hb, hml, hown, hts⟩ (kX5_doDrops l g ad _ hh (σ 17 (2 * x1)) σ v7 hw8) (cwV 1 hts gX5_doOrder_X5_doDrops rfl rfl rfl ⟨rfl, hd_X5_doDrops⟩ ⟨Nat.le_of_ble_eq_true rfl, Nat.le_of_ble_eq_true rfl⟩) ⟨rr_P_blind, va_recv hK.1 hP (ci := 5) (q0 := 0) rfl rfl, rr_P_pre hK hP hD⟩ rfl rfl hl.1 rfl (lv_room (Nat.le_of_ble_eq_true rfl)) dX5_doOrder_104 ⟨Nat.zero_le _, Nat.zero_le _⟩) (fun H locs hP hD hS => ?_)
    exact hret _ _ _ _ _ _ h hP hD hS dX5_doOrder_107
  · rw [if_neg c6] at h
    by_cases c9 : (σ 16 x1) = 103
    · rw [if_pos c9] at h
      refine lv_lookup (off := 64) (tgt := 90) hx hb dX5_doOrder_26 (by decide) (by rw [hv5, c9]; decide) (by decide) ?_
      refine lv_aload_n hx hb dX5_doOrder_90 rfl (lv_at hl 2 rfl) ?_
      refine lv_iload_n hx hb dX5_doOrder_91 rfl (lv_at hl 1 rfl) ?_
      obtain ⟨v10, hw11, h⟩ := rr_b_some h
      refine rr_allI hD hS hA (va_runV (As := [.int (rr_i (σ 17 (2 * x1)))]) (rest := []) ⟨hx, hb, hml, hown, hts⟩ (kX5_doGoes l g ad _ hh (σ 17 (2 * x1)) σ v10 hw11) (cwV 1 hts gX5_doOrder_X5_doGoes rfl rfl rfl ⟨rfl, hd_X5_doGoes⟩ ⟨Nat.le_of_ble_eq_true rfl, Nat.le_of_ble_eq_true rfl⟩) ⟨rr_P_blind, va_recv hK.1 hP (ci := 5) (q0 := 0) rfl rfl, rr_P_pre hK hP hD⟩ rfl rfl hl.1 rfl (lv_room (Nat.le_of_ble_eq_true rfl)) dX5_doOrder_92 ⟨Nat.zero_le _, Nat.zero_le _⟩) (fun H locs hP hD hS => ?_)
      exact hret _ _ _ _ _ _ h hP hD hS dX5_doOrder_95
    · rw [if_neg c9] at h
      by_cases c12 : (σ 16 x1) = 104
      · rw [if_pos c12] at h
        refine lv_lookup (off := 50) (tgt := 76) hx hb dX5_doOrder_26 (by decide) (by rw [hv5, c12]; decide) (by decide) ?_
        refine lv_aload_n hx hb dX5_doOrder_76 rfl (lv_at hl 2 rfl) ?_
        refine lv_iload_n hx hb dX5_doOrder_77 rfl (lv_at hl 1 rfl) ?_
        refine lv_iload_n hx hb dX5_doOrder_78 rfl (lv_at hl 0 rfl) ?_
        obtain ⟨v13, hw14, h⟩ := rr_b_some h
        refine rr_allI hD hS hA (va_runV (As := [.int (rr_i (σ 17 (2 * x1))), .int (rr_i (σ 17 ((2 * x1) + 1)))]) (rest := []) ⟨hx, hb, hml, hown, hts⟩ (kX5_doHost l g ad _ hh (σ 17 (2 * x1)) (σ 17 ((2 * x1) + 1)) σ v13 hw14) (cwV 2 hts gX5_doOrder_X5_doHost rfl rfl rfl ⟨rfl, hd_X5_doHost⟩ ⟨Nat.le_of_ble_eq_true rfl, Nat.le_of_ble_eq_true rfl⟩) ⟨rr_P_blind, va_recv hK.1 hP (ci := 5) (q0 := 0) rfl rfl, rr_P_pre hK hP hD⟩ rfl rfl hl.1 rfl (lv_room (Nat.le_of_ble_eq_true rfl)) dX5_doOrder_79 ⟨Nat.zero_le _, Nat.zero_le _⟩) (fun H locs hP hD hS => ?_)
        exact hret _ _ _ _ _ _ h hP hD hS dX5_doOrder_82
      · rw [if_neg c12] at h
        by_cases c15 : (σ 16 x1) = 107
        · rw [if_pos c15] at h
          refine lv_lookup (off := 70) (tgt := 96) hx hb dX5_doOrder_26 (by decide) (by rw [hv5, c15]; decide) (by decide) ?_
          refine lv_aload_n hx hb dX5_doOrder_96 rfl (lv_at hl 2 rfl) ?_
          refine lv_iload_n hx hb dX5_doOrder_97 rfl (lv_at hl 1 rfl) ?_
          obtain ⟨v16, hw17, h⟩ := rr_b_some h
          refine rr_allI hD hS hA (va_runV (As := [.int (rr_i (σ 17 (2 * x1)))]) (rest := []) ⟨hx, hb, hml, hown, hts⟩ (kX5_doKey l g ad _ hh (σ 17 (2 * x1)) σ v16 hw17) (cwV 1 hts gX5_doOrder_X5_doKey rfl rfl rfl ⟨rfl, hd_X5_doKey⟩ ⟨Nat.le_of_ble_eq_true rfl, Nat.le_of_ble_eq_true rfl⟩) ⟨rr_P_blind, va_recv hK.1 hP (ci := 5) (q0 := 0) rfl rfl, rr_P_pre hK hP hD⟩ rfl rfl hl.1 rfl (lv_room (Nat.le_of_ble_eq_true rfl)) dX5_doOrder_98 ⟨Nat.zero_le _, Nat.zero_le _⟩) (fun H locs hP hD hS => ?_)
          exact hret _ _ _ _ _ _ h hP hD hS dX5_doOrder_101
        · rw [if_neg c15] at h
          by_cases c18 : (σ 16 x1) = 119
          · rw [if_pos c18] at h
            refine lv_lookup (off := 57) (tgt := 83) hx hb dX5_doOrder_26 (by decide) (by rw [hv5, c18]; decide) (by decide) ?_
            refine lv_aload_n hx hb dX5_doOrder_83 rfl (lv_at hl 2 rfl) ?_
            refine lv_iload_n hx hb dX5_doOrder_84 rfl (lv_at hl 1 rfl) ?_
            refine lv_iload_n hx hb dX5_doOrder_85 rfl (lv_at hl 0 rfl) ?_
            obtain ⟨v19, hw20, h⟩ := rr_b_some h
            refine rr_allI hD hS hA (va_runV (As := [.int (rr_i (σ 17 (2 * x1))), .int (rr_i (σ 17 ((2 * x1) + 1)))]) (rest := []) ⟨hx, hb, hml, hown, hts⟩ (kX5_doWeighs l g ad _ hh (σ 17 (2 * x1)) (σ 17 ((2 * x1) + 1)) σ v19 hw20) (cwV 2 hts gX5_doOrder_X5_doWeighs rfl rfl rfl ⟨rfl, hd_X5_doWeighs⟩ ⟨Nat.le_of_ble_eq_true rfl, Nat.le_of_ble_eq_true rfl⟩) ⟨rr_P_blind, va_recv hK.1 hP (ci := 5) (q0 := 0) rfl rfl, rr_P_pre hK hP hD⟩ rfl rfl hl.1 rfl (lv_room (Nat.le_of_ble_eq_true rfl)) dX5_doOrder_86 ⟨Nat.zero_le _, Nat.zero_le _⟩) (fun H locs hP hD hS => ?_)
            exact hret _ _ _ _ _ _ h hP hD hS dX5_doOrder_89
          · rw [if_neg c18] at h
            refine lv_lookup (off := 82) (tgt := 108) hx hb dX5_doOrder_26 (by decide) (by rw [hv5]; simp [Op.lookupswitch.offset, Ne.symm c6, Ne.symm c9, Ne.symm c12, Ne.symm c15, Ne.symm c18]) (by decide) ?_
            refine lv_aload_n hx hb dX5_doOrder_108 rfl (lv_at hl 2 rfl) ?_
            refine lv_iload_n hx hb dX5_doOrder_109 rfl (lv_at hl 1 rfl) ?_
            obtain ⟨v21, hw22, h⟩ := rr_b_some h
            refine rr_allI hD hS hA (va_runV (As := [.int (rr_i (σ 17 (2 * x1)))]) (rest := []) ⟨hx, hb, hml, hown, hts⟩ (kX5_doExtra l g ad _ hh (σ 17 (2 * x1)) σ v21 hw22) (cwV 1 hts gX5_doOrder_X5_doExtra rfl rfl rfl ⟨rfl, hd_X5_doExtra⟩ ⟨Nat.le_of_ble_eq_true rfl, Nat.le_of_ble_eq_true rfl⟩) ⟨rr_P_blind, va_recv hK.1 hP (ci := 5) (q0 := 0) rfl rfl, rr_P_pre hK hP hD⟩ rfl rfl hl.1 rfl (lv_room (Nat.le_of_ble_eq_true rfl)) dX5_doOrder_110 ⟨Nat.zero_le _, Nat.zero_le _⟩) (fun H locs hP hD hS => ?_)
            exact hret _ _ _ _ _ _ h hP hD hS dX5_doOrder_113
-- RoomRingModel.does
abbrev rm_X5_does : Room := { frames := 5, cells := 0, slots := 0, locals := 112 }
theorem hd_X5_does : yX5_does.cls ≠ "java/lang/invoke/MethodHandle" ∧ yX5_does.cls ≠ "java/lang/invoke/VarHandle" ∧ (parseMethodDescriptor yX5_does.desc).map (fun d => d.parameters.length) = some 0 := by decide +kernel
set_option maxHeartbeats 4000000 in
set_option maxRecDepth 100000 in
theorem kX5_does (l : Launch) (g : rr_G) (ad : Nat → Nat) (sz : Nat) (hh : Int) (σ : rr_T) (out : (Int × rr_T)) (h : M5_does σ = some out) : Met l yX5_does wsX5_does rm_X5_does (rr_P g [.ref (ad 0)] (rr_wM g ad σ hh) sz) (rr_Qi g out.1 (rr_wM g ad out.2 hh) (va_A (rr_wM g ad σ hh) sz)) 0 0 (va_A (rr_wM g ad σ hh) sz) := by
  refine rr_rwI (cc := cX5_does) (maxL := 2) (fun σ => rr_wM g ad σ hh) σ out (by decide) rfl (Nat.le_of_ble_eq_true rfl) ?_
  intro p e s m ar below meth c Q ls A hx hb hml hown hts hK hA hP hD hS hret hl
  have hP : va_P g.1 vwCl (rr_wM g ad σ hh) s.heap := hP
  have hD : va_D A (rr_wM g ad σ hh) := hD
  have hown : s.vm.findClass RX5 = some m.cls := hown
  have hl : lv_has ls 2 [(0, .ref (ad 0))] := hl
  have hinX5 : ∀ w ∈ u_ws RX5 TX5 19, w ∈ wsX5_does := by decide +kernel
  have hk_0 : (Cond.fieldLink RX5 165 "RoomRingModel" "at" "I").before ar s = true := hts _ (List.mem_of_getElem? (i := 1) (by decide +kernel))
  have hk_1 : (Cond.fieldLink RX5 168 "RoomRingModel" "fault" "I").before ar s = true := hts _ (List.mem_of_getElem? (i := 2) (by decide +kernel))
  have hk_2 : (Cond.fieldLink RX5 185 "RoomRingModel" "orders" "I").before ar s = true := hts _ (List.mem_of_getElem? (i := 3) (by decide +kernel))
  have hk_3 : (Cond.fieldLink RX5 162 "RoomRingModel" "typed" "I").before ar s = true := hts _ (List.mem_of_getElem? (i := 4) (by decide +kernel))
  unfold M5_does at h
  have hL5_does_31 : ∀ (K : rr_T → Option (Int × rr_T)) (n : Nat) (σ : rr_T) (H : Heap) (locs : List Loc) (ls : Array Slot), L5_does_31 K n σ = some out → va_P g.1 vwCl (rr_wM g ad σ hh) H → va_D A (rr_wM g ad σ hh) → va_S A s.heap H locs → lv_has ls 2 [(0, .ref (ad 0))] → (∀ (τ9 : rr_T) (H : Heap) (locs : List Loc) (ls : Array Slot), K τ9 = some out → va_P g.1 vwCl (rr_wM g ad τ9 hh) H → va_D A (rr_wM g ad τ9 hh) → va_S A s.heap H locs → lv_has ls 2 [(0, .ref (ad 0))] → W p l e rm_X5_does s m ar below meth c H locs 0 0 Q (F0 m 54 ls [])) → W p l e rm_X5_does s m ar below meth c H locs 0 0 Q (F0 m 31 ls []) := by
    intro K n
    induction n with
    | zero => intro σ H locs ls h hP hD hS hl hk; cases h
    | succ n ih =>
      intro σ H locs ls h hP hD hS hl hk
      rw [L5_does_31_s] at h
      refine lv_aload_n hx hb dX5_does_31 rfl (lv_at hl 0 rfl) ?_
      refine va_get (D := g.1) (ci := 5) (v := .int (rr_i (σ 14 0))) (C := RX5) (T := TX5) (N := 19) hx hb hts hinX5 hown hK.1 hP 0 rfl rfl 14 (by decide) hk_1 (fun _ h9 => h9) rfl dX5_does_32 ?_
      refine rr_iconst hx hb dX5_does_35 ?_
      obtain ⟨hg5, h⟩ := rr_c_some h
      refine rr_icmp_ne (tgt := 54) hx hb dX5_does_36 (by decide) hg5 (by decide) (fun c6 => ?_) (fun c6 => ?_)
      · rw [if_neg c6] at h
        exact hk σ _ _ ls h hP hD hS (lv_sub hl [0] rfl)
      · rw [if_pos c6] at h
        refine lv_aload_n hx hb dX5_does_39 rfl (lv_at hl 0 rfl) ?_
        obtain ⟨v7, hw8, h⟩ := rr_b_some h
        refine rr_allI hD hS hA (va_runV (As := []) (rest := []) ⟨hx, hb, hml, hown, hts⟩ (kX5_here l g ad _ hh σ v7 hw8) (cwV 0 hts gX5_does_X5_here rfl rfl rfl ⟨rfl, hd_X5_here⟩ ⟨Nat.le_of_ble_eq_true rfl, Nat.le_of_ble_eq_true rfl⟩) ⟨rr_P_blind, va_recv hK.1 hP (ci := 5) (q0 := 0) rfl rfl, rr_P_pre hK hP hD⟩ rfl rfl hl.1 rfl (lv_room (Nat.le_of_ble_eq_true rfl)) dX5_does_40 ⟨Nat.zero_le _, Nat.zero_le _⟩) (fun H locs hP hD hS => ?_)
        refine rr_iconst hx hb dX5_does_43 ?_
        obtain ⟨hg9, h⟩ := rr_c_some h
        refine rr_icmp_eq (tgt := 54) hx hb dX5_does_44 (by decide) hg9 (by decide) (fun c10 => ?_) (fun c10 => ?_)
        · rw [if_pos c10] at h
          exact hk v7.2 _ _ ls h hP hD hS (lv_sub hl [0] rfl)
        · rw [if_neg c10] at h
          refine lv_aload_n hx hb dX5_does_47 rfl (lv_at hl 0 rfl) ?_
          obtain ⟨v11, hw12, h⟩ := rr_b_some h
          refine rr_allV hD hS hA (va_runV (As := []) (rest := []) ⟨hx, hb, hml, hown, hts⟩ (kX5_readOrder l g ad _ hh v7.2 v11 hw12) (cwV 0 hts gX5_does_X5_readOrder rfl rfl rfl ⟨rfl, hd_X5_readOrder⟩ ⟨Nat.le_of_ble_eq_true rfl, Nat.le_of_ble_eq_true rfl⟩) ⟨rr_P_blind, va_recv hK.1 hP (ci := 5) (q0 := 0) rfl rfl, rr_P_pre hK hP hD⟩ rfl rfl hl.1 rfl (lv_room (Nat.le_of_ble_eq_true rfl)) dX5_does_48 ⟨Nat.zero_le _, Nat.zero_le _⟩) (fun H locs hP hD hS => ?_)
          refine lv_goto (tgt := 31) hx hb dX5_does_51 (by decide) ?_
          exact ih v11 _ _ ls h hP hD hS (lv_sub hl [0] rfl) hk
  have hL5_does_76 : ∀ (K : rr_T → Option (Int × rr_T)) (n : Nat) (x1 : Int) (σ : rr_T) (H : Heap) (locs : List Loc) (ls : Array Slot), L5_does_76 K n x1 σ = some out → va_P g.1 vwCl (rr_wM g ad σ hh) H → va_D A (rr_wM g ad σ hh) → va_S A s.heap H locs → lv_has ls 2 [(0, .ref (ad 0)), (1, .int (rr_i x1))] → (∀ (τ9 : rr_T) (H : Heap) (locs : List Loc) (ls : Array Slot), K τ9 = some out → va_P g.1 vwCl (rr_wM g ad τ9 hh) H → va_D A (rr_wM g ad τ9 hh) → va_S A s.heap H locs → lv_has ls 2 [(0, .ref (ad 0))] → W p l e rm_X5_does s m ar below meth c H locs 0 0 Q (F0 m 108 ls [])) → W p l e rm_X5_does s m ar below meth c H locs 0 0 Q (F0 m 76 ls []) := by
    intro K n
    induction n with
    | zero => intro x1 σ H locs ls h hP hD hS hl hk; cases h
    | succ n ih =>
      intro x1 σ H locs ls h hP hD hS hl hk
      rw [L5_does_76_s] at h
      refine lv_iload_n hx hb dX5_does_76 rfl (lv_at hl 1 rfl) ?_
      refine lv_aload_n hx hb dX5_does_77 rfl (lv_at hl 0 rfl) ?_
      refine va_get (D := g.1) (ci := 5) (v := .int (rr_i (σ 15 0))) (C := RX5) (T := TX5) (N := 19) hx hb hts hinX5 hown hK.1 hP 0 rfl rfl 15 (by decide) hk_2 (fun _ h9 => h9) rfl dX5_does_78 ?_
      obtain ⟨hg17, h⟩ := rr_c_some h
      refine rr_icmp_ge (tgt := 108) hx hb dX5_does_81 (by decide) hg17.1 hg17.2 (fun c18 => ?_) (fun c18 => ?_)
      · rw [if_pos c18] at h
        exact hk σ _ _ ls h hP hD hS (lv_sub hl [0] rfl)
      · rw [if_neg c18] at h
        refine lv_aload_n hx hb dX5_does_84 rfl (lv_at hl 0 rfl) ?_
        refine lv_iload_n hx hb dX5_does_85 rfl (lv_at hl 1 rfl) ?_
        obtain ⟨v19, hw20, h⟩ := rr_b_some h
        refine rr_allI hD hS hA (va_runV (As := [.int (rr_i x1)]) (rest := []) ⟨hx, hb, hml, hown, hts⟩ (kX5_doOrder l g ad _ hh x1 σ v19 hw20) (cwV 1 hts gX5_does_X5_doOrder rfl rfl rfl ⟨rfl, hd_X5_doOrder⟩ ⟨Nat.le_of_ble_eq_true rfl, Nat.le_of_ble_eq_true rfl⟩) ⟨rr_P_blind, va_recv hK.1 hP (ci := 5) (q0 := 0) rfl rfl, rr_P_pre hK hP hD⟩ rfl rfl hl.1 rfl (lv_room (Nat.le_of_ble_eq_true rfl)) dX5_does_86 ⟨Nat.zero_le _, Nat.zero_le _⟩) (fun H locs hP hD hS => ?_)
        obtain ⟨hg21, h⟩ := rr_c_some h
        refine rr_if_eq (tgt := 102) hx hb dX5_does_89 (by decide) hg21 (fun c22 => ?_) (fun c22 => ?_)
        · rw [if_pos c22] at h
          refine rr_iinc (k := 1) (a := x1) (lv' := [(1, .int (rr_i (x1 + 1))), (0, .ref (ad 0))]) hx hb dX5_does_102 hl rfl (by decide) rfl (fun ls hl => ?_)
          refine lv_goto (tgt := 76) hx hb dX5_does_105 (by decide) ?_
          exact ih (x1 + 1) v19.2 _ _ ls h hP hD hS (lv_sub hl [1, 0] rfl) hk
        · rw [if_neg c22] at h
          refine lv_aload_n hx hb dX5_does_92 rfl (lv_at hl 0 rfl) ?_
          obtain ⟨v23, hw24, h⟩ := rr_b_some h
          refine rr_allV hD hS hA (va_runV (As := []) (rest := []) ⟨hx, hb, hml, hown, hts⟩ (kX5_release l g ad _ hh v19.2 v23 hw24) (cwV 0 hts gX5_does_X5_release rfl rfl rfl ⟨rfl, hd_X5_release⟩ ⟨Nat.le_of_ble_eq_true rfl, Nat.le_of_ble_eq_true rfl⟩) ⟨rr_P_blind, va_recv hK.1 hP (ci := 5) (q0 := 0) rfl rfl, rr_P_pre hK hP hD⟩ rfl rfl hl.1 rfl (lv_room (Nat.le_of_ble_eq_true rfl)) dX5_does_93 ⟨Nat.zero_le _, Nat.zero_le _⟩) (fun H locs hP hD hS => ?_)
          refine rr_sipush hx hb dX5_does_96 (by decide +kernel) ?_
          refine lv_iload_n hx hb dX5_does_99 rfl (lv_at hl 1 rfl) ?_
          refine rr_isub hx hb dX5_does_100 ?_
          exact hret _ _ _ _ _ _ h hP hD hS dX5_does_101
  refine lv_aload_n hx hb dX5_does_0 rfl (lv_at hl 0 rfl) ?_
  refine rr_iconst hx hb dX5_does_1 ?_
  refine va_put (D := g.1) (ci := 5) (v := .int (rr_i 0)) (ty := .int) (C := RX5) (T := TX5) (N := 19) hx hb hts hinX5 tyX5 tyX5_ok nmX5 hown hK.1 hP hD hS 0 rfl rfl 13 (by decide) hk_0 (fun _ h9 => h9) rfl (by decide +kernel) rfl rfl (Nat.le_of_ble_eq_true rfl) dX5_does_2 (fun H locs hP hD hS => ?_)
  have hP : va_P g.1 vwCl (rr_wM g ad (rr_t σ 13 0) hh) H := hP
  have hD : va_D A (rr_wM g ad (rr_t σ 13 0) hh) := hD
  refine lv_aload_n hx hb dX5_does_5 rfl (lv_at hl 0 rfl) ?_
  refine rr_iconst hx hb dX5_does_6 ?_
  refine va_put (D := g.1) (ci := 5) (v := .int (rr_i (-1))) (ty := .int) (C := RX5) (T := TX5) (N := 19) hx hb hts hinX5 tyX5 tyX5_ok nmX5 hown hK.1 hP hD hS 0 rfl rfl 14 (by decide) hk_1 (fun _ h9 => h9) rfl (by decide +kernel) rfl rfl (Nat.le_of_ble_eq_true rfl) dX5_does_7 (fun H locs hP hD hS => ?_)
  have hP : va_P g.1 vwCl (rr_wM g ad (rr_t (rr_t σ 13 0) 14 (-1)) hh) H := hP
  have hD : va_D A (rr_wM g ad (rr_t (rr_t σ 13 0) 14 (-1)) hh) := hD
  refine lv_aload_n hx hb dX5_does_10 rfl (lv_at hl 0 rfl) ?_
  refine rr_iconst hx hb dX5_does_11 ?_
  refine va_put (D := g.1) (ci := 5) (v := .int (rr_i 0)) (ty := .int) (C := RX5) (T := TX5) (N := 19) hx hb hts hinX5 tyX5 tyX5_ok nmX5 hown hK.1 hP hD hS 0 rfl rfl 15 (by decide) hk_2 (fun _ h9 => h9) rfl (by decide +kernel) rfl rfl (Nat.le_of_ble_eq_true rfl) dX5_does_12 (fun H locs hP hD hS => ?_)
  have hP : va_P g.1 vwCl (rr_wM g ad (rr_t (rr_t (rr_t σ 13 0) 14 (-1)) 15 0) hh) H := hP
  have hD : va_D A (rr_wM g ad (rr_t (rr_t (rr_t σ 13 0) 14 (-1)) 15 0) hh) := hD
  refine lv_aload_n hx hb dX5_does_15 rfl (lv_at hl 0 rfl) ?_
  obtain ⟨v1, hw2, h⟩ := rr_b_some h
  refine rr_allI hD hS hA (va_runV (As := []) (rest := []) ⟨hx, hb, hml, hown, hts⟩ (kX5_here l g ad _ hh (rr_t (rr_t (rr_t σ 13 0) 14 (-1)) 15 0) v1 hw2) (cwV 0 hts gX5_does_X5_here rfl rfl rfl ⟨rfl, hd_X5_here⟩ ⟨Nat.le_of_ble_eq_true rfl, Nat.le_of_ble_eq_true rfl⟩) ⟨rr_P_blind, va_recv hK.1 hP (ci := 5) (q0 := 0) rfl rfl, rr_P_pre hK hP hD⟩ rfl rfl hl.1 rfl (lv_room (Nat.le_of_ble_eq_true rfl)) dX5_does_16 ⟨Nat.zero_le _, Nat.zero_le _⟩) (fun H locs hP hD hS => ?_)
  refine rr_iconst hx hb dX5_does_19 ?_
  obtain ⟨hg3, h⟩ := rr_c_some h
  refine rr_icmp_ne (tgt := 31) hx hb dX5_does_20 (by decide) hg3 (by decide) (fun c4 => ?_) (fun c4 => ?_)
  · rw [if_neg c4] at h
    refine hL5_does_31 _ 1000 v1.2 _ _ ls h hP hD hS (lv_sub hl [0] rfl) (fun σ_31 H locs ls h hP hD hS hl => ?_)
    refine lv_aload_n hx hb dX5_does_54 rfl (lv_at hl 0 rfl) ?_
    refine va_get (D := g.1) (ci := 5) (v := .int (rr_i (σ_31 14 0))) (C := RX5) (T := TX5) (N := 19) hx hb hts hinX5 hown hK.1 hP 0 rfl rfl 14 (by decide) hk_1 (fun _ h9 => h9) rfl dX5_does_55 ?_
    refine rr_iconst hx hb dX5_does_58 ?_
    obtain ⟨hg13, h⟩ := rr_c_some h
    refine rr_icmp_eq (tgt := 70) hx hb dX5_does_59 (by decide) hg13 (by decide) (fun c14 => ?_) (fun c14 => ?_)
    · rw [if_pos c14] at h
      refine lv_aload_n hx hb dX5_does_70 rfl (lv_at hl 0 rfl) ?_
      obtain ⟨v15, hw16, h⟩ := rr_b_some h
      refine rr_allV hD hS hA (va_runV (As := []) (rest := []) ⟨hx, hb, hml, hown, hts⟩ (kX5_hold l g ad _ hh σ_31 v15 hw16) (cwV 0 hts gX5_does_X5_hold rfl rfl rfl ⟨rfl, hd_X5_hold⟩ ⟨Nat.le_of_ble_eq_true rfl, Nat.le_of_ble_eq_true rfl⟩) ⟨rr_P_blind, va_recv hK.1 hP (ci := 5) (q0 := 0) rfl rfl, rr_P_pre hK hP hD⟩ rfl rfl hl.1 rfl (lv_room (Nat.le_of_ble_eq_true rfl)) dX5_does_71 ⟨Nat.zero_le _, Nat.zero_le _⟩) (fun H locs hP hD hS => ?_)
      refine rr_iconst hx hb dX5_does_74 ?_
      refine lv_istore_n (lv' := [(1, .int (rr_i 0)), (0, .ref (ad 0))]) hx hb dX5_does_75 rfl hl (by decide) rfl (fun ls hl => ?_)
      refine hL5_does_76 _ 1000 0 v15 _ _ ls h hP hD hS (lv_sub hl [1, 0] rfl) (fun σ_76 H locs ls h hP hD hS hl => ?_)
      refine lv_aload_n hx hb dX5_does_108 rfl (lv_at hl 0 rfl) ?_
      obtain ⟨v25, hw26, h⟩ := rr_b_some h
      refine rr_allV hD hS hA (va_runV (As := []) (rest := []) ⟨hx, hb, hml, hown, hts⟩ (kX5_push l g ad _ hh σ_76 v25 hw26) (cwV 0 hts gX5_does_X5_push rfl rfl rfl ⟨rfl, hd_X5_push⟩ ⟨Nat.le_of_ble_eq_true rfl, Nat.le_of_ble_eq_true rfl⟩) ⟨rr_P_blind, va_recv hK.1 hP (ci := 5) (q0 := 0) rfl rfl, rr_P_pre hK hP hD⟩ rfl rfl hl.1 rfl (lv_room (Nat.le_of_ble_eq_true rfl)) dX5_does_109 ⟨Nat.zero_le _, Nat.zero_le _⟩) (fun H locs hP hD hS => ?_)
      refine lv_aload_n hx hb dX5_does_112 rfl (lv_at hl 0 rfl) ?_
      refine va_get (D := g.1) (ci := 5) (v := .int (rr_i (v25 15 0))) (C := RX5) (T := TX5) (N := 19) hx hb hts hinX5 hown hK.1 hP 0 rfl rfl 15 (by decide) hk_2 (fun _ h9 => h9) rfl dX5_does_113 ?_
      exact hret _ _ _ _ _ _ h hP hD hS dX5_does_116
    · rw [if_neg c14] at h
      refine rr_bipush hx hb dX5_does_62 (by decide +kernel) ?_
      refine lv_aload_n hx hb dX5_does_64 rfl (lv_at hl 0 rfl) ?_
      refine va_get (D := g.1) (ci := 5) (v := .int (rr_i (σ_31 14 0))) (C := RX5) (T := TX5) (N := 19) hx hb hts hinX5 hown hK.1 hP 0 rfl rfl 14 (by decide) hk_1 (fun _ h9 => h9) rfl dX5_does_65 ?_
      refine rr_isub hx hb dX5_does_68 ?_
      exact hret _ _ _ _ _ _ h hP hD hS dX5_does_69
  · rw [if_pos c4] at h
    refine rr_bipush hx hb dX5_does_23 (by decide +kernel) ?_
    refine lv_aload_n hx hb dX5_does_25 rfl (lv_at hl 0 rfl) ?_
    refine va_get (D := g.1) (ci := 5) (v := .int (rr_i (v1.2 12 0))) (C := RX5) (T := TX5) (N := 19) hx hb hts hinX5 hown hK.1 hP 0 rfl rfl 12 (by decide) hk_3 (fun _ h9 => h9) rfl dX5_does_26 ?_
    refine rr_isub hx hb dX5_does_29 ?_
    exact hret _ _ _ _ _ _ h hP hD hS dX5_does_30
-- RoomRingModel.toldOf
abbrev rm_X5_toldOf : Room := { frames := 0, cells := 0, slots := 0, locals := 0 }
theorem hd_X5_toldOf : yX5_toldOf.cls ≠ "java/lang/invoke/MethodHandle" ∧ yX5_toldOf.cls ≠ "java/lang/invoke/VarHandle" ∧ (parseMethodDescriptor yX5_toldOf.desc).map (fun d => d.parameters.length) = some 1 := by decide +kernel
set_option maxHeartbeats 4000000 in
set_option maxRecDepth 100000 in
theorem kX5_toldOf (l : Launch) (g : rr_G) (ad : Nat → Nat) (hh : Int) (x1 : Int) (σ : rr_T) (out : Int) (h : M5_toldOf x1 σ = some out) : Met l yX5_toldOf wsX5_toldOf rm_X5_toldOf (rr_R g [.ref (ad 0), .int (rr_i x1)] (rr_wM g ad σ hh)) (vp_Si (fun x => x = rr_i out)) 0 0 (fun _ => False) := by
  refine rr_roI (cc := cX5_toldOf) (maxL := 2) (by decide) rfl (Nat.le_of_ble_eq_true rfl) ?_
  intro p e s m ar below meth c Q ls hx hb hml hown hts hK hP hret hl
  have hown : s.vm.findClass RX5 = some m.cls := hown
  have hl : lv_has ls 2 [(0, .ref (ad 0)), (1, .int (rr_i x1))] := hl
  have hinX5 : ∀ w ∈ u_ws RX5 TX5 19, w ∈ wsX5_toldOf := by decide +kernel
  have hk_0 : (Cond.fieldLink RX5 78 "RoomRingModel" "pasts" "I").before ar s = true := hts _ (List.mem_of_getElem? (i := 3) (by decide +kernel))
  have hk_1 : (Cond.fieldLink RX5 162 "RoomRingModel" "typed" "I").before ar s = true := hts _ (List.mem_of_getElem? (i := 2) (by decide +kernel))
  have hk_2 : (Cond.fieldLink RX5 19 "RoomRingModel" "refused" "[I").before ar s = true := hts _ (List.mem_of_getElem? (i := 1) (by decide +kernel))
  unfold M5_toldOf at h
  refine lv_iload_n hx hb dX5_toldOf_0 rfl (lv_at hl 1 rfl) ?_
  refine rr_iconst hx hb dX5_toldOf_1 ?_
  obtain ⟨hg1, h⟩ := rr_c_some h
  refine rr_icmp_ge (tgt := 14) hx hb dX5_toldOf_2 (by decide) hg1 (by decide) (fun c2 => ?_) (fun c2 => ?_)
  · rw [if_pos c2] at h
    refine lv_iload_n hx hb dX5_toldOf_14 rfl (lv_at hl 1 rfl) ?_
    refine rr_iconst hx hb dX5_toldOf_15 ?_
    refine rr_icmp_ne (tgt := 26) hx hb dX5_toldOf_16 (by decide) hg1 (by decide) (fun c3 => ?_) (fun c3 => ?_)
    · rw [if_neg c3] at h
      refine lv_aload_n hx hb dX5_toldOf_26 rfl (lv_at hl 0 rfl) ?_
      refine va_get (D := g.1) (ci := 5) (v := .int (rr_i (σ 3 0))) (C := RX5) (T := TX5) (N := 19) hx hb hts hinX5 hown hK.1 hP 0 rfl rfl 3 (by decide) hk_0 (fun _ h9 => h9) rfl dX5_toldOf_27 ?_
      exact hret _ _ _ h dX5_toldOf_30
    · rw [if_pos c3] at h
      refine lv_aload_n hx hb dX5_toldOf_19 rfl (lv_at hl 0 rfl) ?_
      refine va_get (D := g.1) (ci := 5) (v := .int (rr_i (σ 12 0))) (C := RX5) (T := TX5) (N := 19) hx hb hts hinX5 hown hK.1 hP 0 rfl rfl 12 (by decide) hk_1 (fun _ h9 => h9) rfl dX5_toldOf_20 ?_
      refine lv_goto (tgt := 30) hx hb dX5_toldOf_23 (by decide) ?_
      exact hret _ _ _ h dX5_toldOf_30
  · rw [if_neg c2] at h
    refine lv_aload_n hx hb dX5_toldOf_5 rfl (lv_at hl 0 rfl) ?_
    refine va_get (D := g.1) (ci := 5) (v := .ref (ad 4)) (C := RX5) (T := TX5) (N := 19) hx hb hts hinX5 hown hK.1 hP 0 rfl rfl 4 (by decide) hk_2 (fun _ h9 => h9) rfl dX5_toldOf_6 ?_
    refine lv_iload_n hx hb dX5_toldOf_9 rfl (lv_at hl 1 rfl) ?_
    obtain ⟨hg4, h⟩ := rr_c_some h
    refine rr_iald (f := (σ 4)) (N := 3) hx hb hK hP 4 rfl rfl (by decide) hg4 dX5_toldOf_10 ?_
    refine lv_goto (tgt := 30) hx hb dX5_toldOf_11 (by decide) ?_
    exact hret _ _ _ h dX5_toldOf_30
-- RoomRingModel.told
abbrev rm_X5_told : Room := { frames := 1, cells := 0, slots := 0, locals := 22 }
theorem hd_X5_told : yX5_told.cls ≠ "java/lang/invoke/MethodHandle" ∧ yX5_told.cls ≠ "java/lang/invoke/VarHandle" ∧ (parseMethodDescriptor yX5_told.desc).map (fun d => d.parameters.length) = some 1 := by decide +kernel
set_option maxHeartbeats 4000000 in
set_option maxRecDepth 100000 in
theorem kX5_told (l : Launch) (g : rr_G) (ad : Nat → Nat) (sz : Nat) (hh : Int) (x1 : Int) (σ : rr_T) (out : (Int × rr_T)) (h : M5_told x1 σ = some out) : Met l yX5_told wsX5_told rm_X5_told (rr_P g [.ref (ad 0), .int (rr_i x1)] (rr_wM g ad σ hh) sz) (rr_Qi g out.1 (rr_wM g ad out.2 hh) (va_A (rr_wM g ad σ hh) sz)) 0 0 (va_A (rr_wM g ad σ hh) sz) := by
  refine rr_rwI (cc := cX5_told) (maxL := 2) (fun σ => rr_wM g ad σ hh) σ out (by decide) rfl (Nat.le_of_ble_eq_true rfl) ?_
  intro p e s m ar below meth c Q ls A hx hb hml hown hts hK hA hP hD hS hret hl
  have hP : va_P g.1 vwCl (rr_wM g ad σ hh) s.heap := hP
  have hD : va_D A (rr_wM g ad σ hh) := hD
  have hown : s.vm.findClass RX5 = some m.cls := hown
  have hl : lv_has ls 2 [(0, .ref (ad 0)), (1, .int (rr_i x1))] := hl
  unfold M5_told at h
  refine lv_iload_n hx hb dX5_told_0 rfl (lv_at hl 1 rfl) ?_
  refine rr_iconst hx hb dX5_told_1 ?_
  refine rr_iconst hx hb dX5_told_2 ?_
  obtain ⟨v1, hw2, h⟩ := rr_b_some h
  refine rr_callI (va_runS (As := [.int (rr_i x1), .int (rr_i 0), .int (rr_i 4)]) (rest := []) ⟨hx, hb, hml, hown, hts⟩ (kX5_in l g x1 0 4 v1 hw2) (va_cwS 3 hts gX5_told_X5_in rfl rfl rfl hd_X5_in ⟨Nat.le_of_ble_eq_true rfl, Nat.le_of_ble_eq_true rfl⟩) ⟨rr_R_blind, rr_R_pre hK (hP.sub (ws' := ([] : va_W)) [] rfl)⟩ rfl rfl hl.1 rfl (lv_room (Nat.le_of_ble_eq_true rfl)) dX5_told_3 ⟨Nat.zero_le _, Nat.zero_le _⟩) ?_
  obtain ⟨hg3, h⟩ := rr_c_some h
  refine rr_if_eq (tgt := 17) hx hb dX5_told_6 (by decide) hg3 (fun c4 => ?_) (fun c4 => ?_)
  · rw [if_pos c4] at h
    refine lv_aload_n hx hb dX5_told_17 rfl (lv_at hl 0 rfl) ?_
    refine rr_bipush hx hb dX5_told_18 (by decide +kernel) ?_
    obtain ⟨v5, hw6, h⟩ := rr_b_some h
    refine rr_allI hD hS hA (va_runV (As := [.int (rr_i (-2))]) (rest := []) ⟨hx, hb, hml, hown, hts⟩ (kX5_refuses l g ad _ hh (-2) σ v5 hw6) (cwV 1 hts gX5_told_X5_refuses rfl rfl rfl ⟨rfl, hd_X5_refuses⟩ ⟨Nat.le_of_ble_eq_true rfl, Nat.le_of_ble_eq_true rfl⟩) ⟨rr_P_blind, va_recv hK.1 hP (ci := 5) (q0 := 0) rfl rfl, rr_P_pre hK hP hD⟩ rfl rfl hl.1 rfl (lv_room (Nat.le_of_ble_eq_true rfl)) dX5_told_20 ⟨Nat.zero_le _, Nat.zero_le _⟩) (fun H locs hP hD hS => ?_)
    exact hret _ _ _ _ _ _ h hP hD hS dX5_told_23
  · rw [if_neg c4] at h
    refine lv_aload_n hx hb dX5_told_9 rfl (lv_at hl 0 rfl) ?_
    refine lv_iload_n hx hb dX5_told_10 rfl (lv_at hl 1 rfl) ?_
    obtain ⟨v7, hw8, h⟩ := rr_b_some h
    refine rr_callI (va_runV (As := [.int (rr_i x1)]) (rest := []) ⟨hx, hb, hml, hown, hts⟩ (kX5_toldOf l g ad hh x1 σ v7 hw8) (cwV 1 hts gX5_told_X5_toldOf rfl rfl rfl ⟨rfl, hd_X5_toldOf⟩ ⟨Nat.le_of_ble_eq_true rfl, Nat.le_of_ble_eq_true rfl⟩) ⟨rr_R_blind, va_recv hK.1 hP (ci := 5) (q0 := 0) rfl rfl, rr_R_pre hK hP⟩ rfl rfl hl.1 rfl (lv_room (Nat.le_of_ble_eq_true rfl)) dX5_told_11 ⟨Nat.zero_le _, Nat.zero_le _⟩) ?_
    refine lv_goto (tgt := 23) hx hb dX5_told_14 (by decide) ?_
    exact hret _ _ _ _ _ _ h hP hD hS dX5_told_23
