-- RoomRing$Ring.placesLeadingTo
abbrev rm_X1_placesLeadingTo : Room := { frames := 1, cells := 0, slots := 0, locals := 21 }
theorem hd_X1_placesLeadingTo : yX1_placesLeadingTo.cls ≠ "java/lang/invoke/MethodHandle" ∧ yX1_placesLeadingTo.cls ≠ "java/lang/invoke/VarHandle" ∧ (parseMethodDescriptor yX1_placesLeadingTo.desc).map (fun d => d.parameters.length) = some 1 := by decide +kernel
set_option maxHeartbeats 4000000 in
set_option maxRecDepth 100000 in
theorem kX1_placesLeadingTo (l : Launch) (g : rr_G) (ad : Nat → Nat) (x1 : Int) (σ : rr_T) (out : Int) (h : M1_placesLeadingTo x1 σ = some out) : Met l yX1_placesLeadingTo wsX1_placesLeadingTo rm_X1_placesLeadingTo (rr_R g [.ref (ad 0), .int (rr_i x1)] (rr_wR g ad σ)) (vp_Si (fun x => x = rr_i out)) 0 0 (fun _ => False) := by
  refine rr_roI (cc := cX1_placesLeadingTo) (maxL := 5) (by decide) rfl (Nat.le_of_ble_eq_true rfl) ?_
  intro p e s m ar below meth c Q ls hx hb hml hown hts hK hP hret hl
  have hown : s.vm.findClass RX1 = some m.cls := hown
  have hl : lv_has ls 5 [(0, .ref (ad 0)), (1, .int (rr_i x1))] := hl
  have hinX1 : ∀ w ∈ u_ws RX1 TX1 8, w ∈ wsX1_placesLeadingTo := by decide +kernel
  have hk_0 : (Cond.fieldLink RX1 18 "RoomRing$Ring" "owners" "[I").before ar s = true := hts _ (List.mem_of_getElem? (i := 1) (by decide +kernel))
  unfold M1_placesLeadingTo at h
  have hL1_placesLeadingTo_11 : ∀ (x1 : Int) (K : Int → Option Int) (n : Nat) (x2 : Int) (x3 : Int) (x4 : Int) (ls : Array Slot), L1_placesLeadingTo_11 σ x1 K n x2 x3 x4 = some out → lv_has ls 5 [(0, .ref (ad 0)), (1, .int (rr_i x1)), (2, .int (rr_i x2)), (3, .int (rr_i x3)), (4, .int (rr_i x4))] → (∀ (z3 : Int) (ls : Array Slot), K z3 = some out → lv_has ls 5 [(3, .int (rr_i z3))] → W p l e rm_X1_placesLeadingTo s m ar below meth c s.heap [] 0 0 Q (F0 m 49 ls [])) → W p l e rm_X1_placesLeadingTo s m ar below meth c s.heap [] 0 0 Q (F0 m 11 ls []) := by
    intro x1 K n
    induction n with
    | zero => intro x2 x3 x4 ls h hl hk; cases h
    | succ n ih =>
      intro x2 x3 x4 ls h hl hk
      rw [L1_placesLeadingTo_11_s] at h
      refine lv_iload hx hb dX1_placesLeadingTo_11 (lv_at hl 4 rfl) ?_
      obtain ⟨hg3, h⟩ := rr_c_some h
      refine rr_if_lt (tgt := 49) hx hb dX1_placesLeadingTo_13 (by decide) hg3 (fun c4 => ?_) (fun c4 => ?_)
      · rw [if_pos c4] at h
        exact hk x3 ls h (lv_sub hl [3] rfl)
      · rw [if_neg c4] at h
        refine lv_aload_n hx hb dX1_placesLeadingTo_16 rfl (lv_at hl 0 rfl) ?_
        refine va_get (D := g.1) (ci := 1) (v := .ref (ad 1)) (C := RX1) (T := TX1) (N := 8) hx hb hts hinX1 hown hK.1 hP 0 rfl rfl 1 (by decide) hk_0 (fun _ h9 => h9) rfl dX1_placesLeadingTo_17 ?_
        refine lv_iload hx hb dX1_placesLeadingTo_20 (lv_at hl 4 rfl) ?_
        obtain ⟨hg5, h⟩ := rr_c_some h
        refine rr_iald (f := (σ 7)) (N := 101) hx hb hK hP 1 rfl rfl (by decide) hg5 dX1_placesLeadingTo_22 ?_
        refine rr_iconst hx hb dX1_placesLeadingTo_23 ?_
        obtain ⟨hg6, h⟩ := rr_c_some h
        refine rr_icmp_eq (tgt := 35) hx hb dX1_placesLeadingTo_24 (by decide) hg6 (by decide) (fun c7 => ?_) (fun c7 => ?_)
        · rw [if_pos c7] at h
          refine lv_iload_n hx hb dX1_placesLeadingTo_35 rfl (lv_at hl 2 rfl) ?_
          refine lv_iload_n hx hb dX1_placesLeadingTo_36 rfl (lv_at hl 1 rfl) ?_
          obtain ⟨hg8, h⟩ := rr_c_some h
          refine rr_icmp_ne (tgt := 43) hx hb dX1_placesLeadingTo_37 (by decide) hg8.1 hg8.2 (fun c9 => ?_) (fun c9 => ?_)
          · rw [if_neg c9] at h
            refine rr_iinc (k := 4) (a := x4) (lv' := [(4, .int (rr_i (x4 + (-1)))), (0, .ref (ad 0)), (1, .int (rr_i x1)), (2, .int (rr_i x2)), (3, .int (rr_i x3))]) hx hb dX1_placesLeadingTo_43 hl rfl (by decide) rfl (fun ls hl => ?_)
            refine lv_goto (tgt := 11) hx hb dX1_placesLeadingTo_46 (by decide) ?_
            exact ih x2 x3 (x4 + (-1)) ls h (lv_sub hl [1, 2, 3, 4, 0] rfl) hk
          · rw [if_pos c9] at h
            refine rr_iinc (k := 3) (a := x3) (lv' := [(3, .int (rr_i (x3 + 1))), (0, .ref (ad 0)), (1, .int (rr_i x1)), (2, .int (rr_i x2)), (4, .int (rr_i x4))]) hx hb dX1_placesLeadingTo_40 hl rfl (by decide) rfl (fun ls hl => ?_)
            refine rr_iinc (k := 4) (a := x4) (lv' := [(4, .int (rr_i (x4 + (-1)))), (3, .int (rr_i (x3 + 1))), (0, .ref (ad 0)), (1, .int (rr_i x1)), (2, .int (rr_i x2))]) hx hb dX1_placesLeadingTo_43 hl rfl (by decide) rfl (fun ls hl => ?_)
            refine lv_goto (tgt := 11) hx hb dX1_placesLeadingTo_46 (by decide) ?_
            exact ih x2 (x3 + 1) (x4 + (-1)) ls h (lv_sub hl [2, 3, 4, 1, 0] rfl) hk
        · rw [if_neg c7] at h
          refine lv_aload_n hx hb dX1_placesLeadingTo_27 rfl (lv_at hl 0 rfl) ?_
          refine va_get (D := g.1) (ci := 1) (v := .ref (ad 1)) (C := RX1) (T := TX1) (N := 8) hx hb hts hinX1 hown hK.1 hP 0 rfl rfl 1 (by decide) hk_0 (fun _ h9 => h9) rfl dX1_placesLeadingTo_28 ?_
          refine lv_iload hx hb dX1_placesLeadingTo_31 (lv_at hl 4 rfl) ?_
          refine rr_iald (f := (σ 7)) (N := 101) hx hb hK hP 1 rfl rfl (by decide) hg5 dX1_placesLeadingTo_33 ?_
          refine lv_istore_n (lv' := [(2, .int (rr_i (σ 7 x4))), (0, .ref (ad 0)), (1, .int (rr_i x1)), (3, .int (rr_i x3)), (4, .int (rr_i x4))]) hx hb dX1_placesLeadingTo_34 rfl hl (by decide) rfl (fun ls hl => ?_)
          refine lv_iload_n hx hb dX1_placesLeadingTo_35 rfl (lv_at hl 0 rfl) ?_
          refine lv_iload_n hx hb dX1_placesLeadingTo_36 rfl (lv_at hl 2 rfl) ?_
          obtain ⟨hg10, h⟩ := rr_c_some h
          refine rr_icmp_ne (tgt := 43) hx hb dX1_placesLeadingTo_37 (by decide) hg6 hg10 (fun c11 => ?_) (fun c11 => ?_)
          · rw [if_neg c11] at h
            refine rr_iinc (k := 4) (a := x4) (lv' := [(4, .int (rr_i (x4 + (-1)))), (2, .int (rr_i (σ 7 x4))), (0, .ref (ad 0)), (1, .int (rr_i x1)), (3, .int (rr_i x3))]) hx hb dX1_placesLeadingTo_43 hl rfl (by decide) rfl (fun ls hl => ?_)
            refine lv_goto (tgt := 11) hx hb dX1_placesLeadingTo_46 (by decide) ?_
            exact ih (σ 7 x4) x3 (x4 + (-1)) ls h (lv_sub hl [2, 3, 1, 4, 0] rfl) hk
          · rw [if_pos c11] at h
            refine rr_iinc (k := 3) (a := x3) (lv' := [(3, .int (rr_i (x3 + 1))), (2, .int (rr_i (σ 7 x4))), (0, .ref (ad 0)), (1, .int (rr_i x1)), (4, .int (rr_i x4))]) hx hb dX1_placesLeadingTo_40 hl rfl (by decide) rfl (fun ls hl => ?_)
            refine rr_iinc (k := 4) (a := x4) (lv' := [(4, .int (rr_i (x4 + (-1)))), (3, .int (rr_i (x3 + 1))), (2, .int (rr_i (σ 7 x4))), (0, .ref (ad 0)), (1, .int (rr_i x1))]) hx hb dX1_placesLeadingTo_43 hl rfl (by decide) rfl (fun ls hl => ?_)
            refine lv_goto (tgt := 11) hx hb dX1_placesLeadingTo_46 (by decide) ?_
            exact ih (σ 7 x4) (x3 + 1) (x4 + (-1)) ls h (lv_sub hl [3, 4, 2, 1, 0] rfl) hk
  refine lv_aload_n hx hb dX1_placesLeadingTo_0 rfl (lv_at hl 0 rfl) ?_
  obtain ⟨v1, hw2, h⟩ := rr_b_some h
  refine rr_callI (va_runV (As := []) (rest := []) ⟨hx, hb, hml, hown, hts⟩ (kX1_firstOwner l g ad σ v1 hw2) (cwV 0 hts gX1_placesLeadingTo_X1_firstOwner rfl rfl rfl ⟨rfl, hd_X1_firstOwner⟩ ⟨Nat.le_of_ble_eq_true rfl, Nat.le_of_ble_eq_true rfl⟩) ⟨rr_R_blind, va_recv hK.1 hP (ci := 1) (q0 := 0) rfl rfl, rr_R_pre hK hP⟩ rfl rfl hl.1 rfl (lv_room (Nat.le_of_ble_eq_true rfl)) dX1_placesLeadingTo_1 ⟨Nat.zero_le _, Nat.zero_le _⟩) ?_
  refine lv_istore_n (lv' := [(2, .int (rr_i v1)), (0, .ref (ad 0)), (1, .int (rr_i x1))]) hx hb dX1_placesLeadingTo_4 rfl hl (by decide) rfl (fun ls hl => ?_)
  refine rr_iconst hx hb dX1_placesLeadingTo_5 ?_
  refine lv_istore_n (lv' := [(3, .int (rr_i 0)), (2, .int (rr_i v1)), (0, .ref (ad 0)), (1, .int (rr_i x1))]) hx hb dX1_placesLeadingTo_6 rfl hl (by decide) rfl (fun ls hl => ?_)
  refine rr_bipush hx hb dX1_placesLeadingTo_7 (by decide +kernel) ?_
  refine lv_istore (lv' := [(4, .int (rr_i 100)), (3, .int (rr_i 0)), (2, .int (rr_i v1)), (0, .ref (ad 0)), (1, .int (rr_i x1))]) hx hb dX1_placesLeadingTo_9 hl (by decide) rfl (fun ls hl => ?_)
  refine hL1_placesLeadingTo_11 x1 _ 1000 v1 0 100 ls h (lv_sub hl [3, 4, 2, 1, 0] rfl) (fun y3_11 ls h hl => ?_)
  refine lv_iload_n hx hb dX1_placesLeadingTo_49 rfl (lv_at hl 0 rfl) ?_
  exact hret _ _ _ h dX1_placesLeadingTo_50
-- RoomRing$Ring.keyFact
abbrev rm_X1_keyFact : Room := { frames := 1, cells := 0, slots := 0, locals := 21 }
theorem hd_X1_keyFact : yX1_keyFact.cls ≠ "java/lang/invoke/MethodHandle" ∧ yX1_keyFact.cls ≠ "java/lang/invoke/VarHandle" ∧ (parseMethodDescriptor yX1_keyFact.desc).map (fun d => d.parameters.length) = some 2 := by decide +kernel
set_option maxHeartbeats 4000000 in
set_option maxRecDepth 100000 in
theorem kX1_keyFact (l : Launch) (g : rr_G) (ad : Nat → Nat) (x1 : Int) (x2 : Int) (σ : rr_T) (out : Int) (h : M1_keyFact x1 x2 σ = some out) : Met l yX1_keyFact wsX1_keyFact rm_X1_keyFact (rr_R g [.ref (ad 0), .int (rr_i x1), .int (rr_i x2)] (rr_wR g ad σ)) (vp_Si (fun x => x = rr_i out)) 0 0 (fun _ => False) := by
  refine rr_roI (cc := cX1_keyFact) (maxL := 3) (by decide) rfl (Nat.le_of_ble_eq_true rfl) ?_
  intro p e s m ar below meth c Q ls hx hb hml hown hts hK hP hret hl
  have hown : s.vm.findClass RX1 = some m.cls := hown
  have hl : lv_has ls 3 [(0, .ref (ad 0)), (1, .int (rr_i x1)), (2, .int (rr_i x2))] := hl
  have hinX1 : ∀ w ∈ u_ws RX1 TX1 8, w ∈ wsX1_keyFact := by decide +kernel
  have hk_0 : (Cond.fieldLink RX1 34 "RoomRing$Ring" "passed" "[I").before ar s = true := hts _ (List.mem_of_getElem? (i := 1) (by decide +kernel))
  have hk_1 : (Cond.fieldLink RX1 37 "RoomRing$Ring" "far" "[I").before ar s = true := hts _ (List.mem_of_getElem? (i := 2) (by decide +kernel))
  unfold M1_keyFact at h
  refine lv_iload_n hx hb dX1_keyFact_0 rfl (lv_at hl 2 rfl) ?_
  obtain ⟨hg1, h⟩ := rr_c_some h
  have hv2 : (rr_i x2).toInt = x2 := rr_to_i hg1
  by_cases c3 : x2 = 0
  · rw [if_pos c3] at h
    refine lv_lookup (off := 27) (tgt := 28) hx hb dX1_keyFact_1 (by decide) (by rw [hv2, c3]; decide) (by decide) ?_
    refine lv_aload_n hx hb dX1_keyFact_28 rfl (lv_at hl 0 rfl) ?_
    refine lv_iload_n hx hb dX1_keyFact_29 rfl (lv_at hl 1 rfl) ?_
    obtain ⟨v4, hw5, h⟩ := rr_b_some h
    refine rr_callI (va_runV (As := [.int (rr_i x1)]) (rest := []) ⟨hx, hb, hml, hown, hts⟩ (kX1_placeOfKey l g ad x1 σ v4 hw5) (cwV 1 hts gX1_keyFact_X1_placeOfKey rfl rfl rfl ⟨rfl, hd_X1_placeOfKey⟩ ⟨Nat.le_of_ble_eq_true rfl, Nat.le_of_ble_eq_true rfl⟩) ⟨rr_R_blind, va_recv hK.1 hP (ci := 1) (q0 := 0) rfl rfl, rr_R_pre hK hP⟩ rfl rfl hl.1 rfl (lv_room (Nat.le_of_ble_eq_true rfl)) dX1_keyFact_30 ⟨Nat.zero_le _, Nat.zero_le _⟩) ?_
    exact hret _ _ _ h dX1_keyFact_33
  · rw [if_neg c3] at h
    by_cases c6 : x2 = 1
    · rw [if_pos c6] at h
      refine lv_lookup (off := 33) (tgt := 34) hx hb dX1_keyFact_1 (by decide) (by rw [hv2, c6]; decide) (by decide) ?_
      refine lv_aload_n hx hb dX1_keyFact_34 rfl (lv_at hl 0 rfl) ?_
      refine va_get (D := g.1) (ci := 1) (v := .ref (ad 6)) (C := RX1) (T := TX1) (N := 8) hx hb hts hinX1 hown hK.1 hP 0 rfl rfl 6 (by decide) hk_0 (fun _ h9 => h9) rfl dX1_keyFact_35 ?_
      refine lv_iload_n hx hb dX1_keyFact_38 rfl (lv_at hl 1 rfl) ?_
      obtain ⟨hg7, h⟩ := rr_c_some h
      refine rr_iald (f := (σ 12)) (N := 40) hx hb hK hP 6 rfl rfl (by decide) hg7 dX1_keyFact_39 ?_
      exact hret _ _ _ h dX1_keyFact_40
    · rw [if_neg c6] at h
      refine lv_lookup (off := 40) (tgt := 41) hx hb dX1_keyFact_1 (by decide) (by rw [hv2]; simp [Op.lookupswitch.offset, Ne.symm c3, Ne.symm c6]) (by decide) ?_
      refine lv_aload_n hx hb dX1_keyFact_41 rfl (lv_at hl 0 rfl) ?_
      refine va_get (D := g.1) (ci := 1) (v := .ref (ad 7)) (C := RX1) (T := TX1) (N := 8) hx hb hts hinX1 hown hK.1 hP 0 rfl rfl 7 (by decide) hk_1 (fun _ h9 => h9) rfl dX1_keyFact_42 ?_
      refine lv_iload_n hx hb dX1_keyFact_45 rfl (lv_at hl 1 rfl) ?_
      obtain ⟨hg8, h⟩ := rr_c_some h
      refine rr_iald (f := (σ 13)) (N := 40) hx hb hK hP 7 rfl rfl (by decide) hg8 dX1_keyFact_46 ?_
      exact hret _ _ _ h dX1_keyFact_47
-- RoomRing$Ring.fullHosts
abbrev rm_X1_fullHosts : Room := { frames := 0, cells := 0, slots := 0, locals := 0 }
theorem hd_X1_fullHosts : yX1_fullHosts.cls ≠ "java/lang/invoke/MethodHandle" ∧ yX1_fullHosts.cls ≠ "java/lang/invoke/VarHandle" ∧ (parseMethodDescriptor yX1_fullHosts.desc).map (fun d => d.parameters.length) = some 0 := by decide +kernel
set_option maxHeartbeats 4000000 in
set_option maxRecDepth 100000 in
theorem kX1_fullHosts (l : Launch) (g : rr_G) (ad : Nat → Nat) (σ : rr_T) (out : Int) (h : M1_fullHosts σ = some out) : Met l yX1_fullHosts wsX1_fullHosts rm_X1_fullHosts (rr_R g [.ref (ad 0)] (rr_wR g ad σ)) (vp_Si (fun x => x = rr_i out)) 0 0 (fun _ => False) := by
  refine rr_roI (cc := cX1_fullHosts) (maxL := 3) (by decide) rfl (Nat.le_of_ble_eq_true rfl) ?_
  intro p e s m ar below meth c Q ls hx hb hml hown hts hK hP hret hl
  have hown : s.vm.findClass RX1 = some m.cls := hown
  have hl : lv_has ls 3 [(0, .ref (ad 0))] := hl
  have hinX1 : ∀ w ∈ u_ws RX1 TX1 8, w ∈ wsX1_fullHosts := by decide +kernel
  have hinX3 : ∀ w ∈ u_ws RX3 TX3 7, w ∈ wsX1_fullHosts := by decide +kernel
  have hk_0 : (Cond.fieldLink RX1 12 "RoomRing$Ring" "stock" "LRoomRing$Stock;").before ar s = true := hts _ (List.mem_of_getElem? (i := 1) (by decide +kernel))
  have hk_1 : (Cond.fieldLink RX1 57 "RoomRing$Stock" "hostCount" "I").before ar s = true := hts _ (List.mem_of_getElem? (i := 2) (by decide +kernel))
  have hk_2 : (Cond.fieldLink RX1 28 "RoomRing$Ring" "loads" "[I").before ar s = true := hts _ (List.mem_of_getElem? (i := 3) (by decide +kernel))
  have hk_3 : (Cond.fieldLink RX1 25 "RoomRing$Ring" "bounds" "[I").before ar s = true := hts _ (List.mem_of_getElem? (i := 4) (by decide +kernel))
  unfold M1_fullHosts at h
  have hL1_fullHosts_4 : ∀ (K : Int → Option Int) (n : Nat) (x1 : Int) (x2 : Int) (ls : Array Slot), L1_fullHosts_4 σ K n x1 x2 = some out → lv_has ls 3 [(0, .ref (ad 0)), (1, .int (rr_i x1)), (2, .int (rr_i x2))] → (∀ (z1 : Int) (ls : Array Slot), K z1 = some out → lv_has ls 3 [(1, .int (rr_i z1))] → W p l e rm_X1_fullHosts s m ar below meth c s.heap [] 0 0 Q (F0 m 39 ls [])) → W p l e rm_X1_fullHosts s m ar below meth c s.heap [] 0 0 Q (F0 m 4 ls []) := by
    intro K n
    induction n with
    | zero => intro x1 x2 ls h hl hk; cases h
    | succ n ih =>
      intro x1 x2 ls h hl hk
      rw [L1_fullHosts_4_s] at h
      refine lv_iload_n hx hb dX1_fullHosts_4 rfl (lv_at hl 2 rfl) ?_
      refine lv_aload_n hx hb dX1_fullHosts_5 rfl (lv_at hl 0 rfl) ?_
      refine va_get (D := g.1) (ci := 1) (v := .ref (ad 8)) (C := RX1) (T := TX1) (N := 8) hx hb hts hinX1 hown hK.1 hP 0 rfl rfl 0 (by decide) hk_0 (fun _ h9 => h9) rfl dX1_fullHosts_6 ?_
      refine va_get (D := g.1) (ci := 3) (v := .int (rr_i (σ 3 0))) (C := RX3) (T := TX3) (N := 7) hx hb hts hinX3 hown hK.1 hP 8 rfl rfl 3 (by decide) hk_1 (fun _ h9 => h9) rfl dX1_fullHosts_9 ?_
      obtain ⟨hg1, h⟩ := rr_c_some h
      refine rr_icmp_ge (tgt := 39) hx hb dX1_fullHosts_12 (by decide) hg1.1 hg1.2 (fun c2 => ?_) (fun c2 => ?_)
      · rw [if_pos c2] at h
        exact hk x1 ls h (lv_sub hl [1] rfl)
      · rw [if_neg c2] at h
        refine lv_aload_n hx hb dX1_fullHosts_15 rfl (lv_at hl 0 rfl) ?_
        refine va_get (D := g.1) (ci := 1) (v := .ref (ad 4)) (C := RX1) (T := TX1) (N := 8) hx hb hts hinX1 hown hK.1 hP 0 rfl rfl 4 (by decide) hk_2 (fun _ h9 => h9) rfl dX1_fullHosts_16 ?_
        refine lv_iload_n hx hb dX1_fullHosts_19 rfl (lv_at hl 2 rfl) ?_
        obtain ⟨hg3, h⟩ := rr_c_some h
        refine rr_iald (f := (σ 10)) (N := 6) hx hb hK hP 4 rfl rfl (by decide) hg3 dX1_fullHosts_20 ?_
        refine lv_aload_n hx hb dX1_fullHosts_21 rfl (lv_at hl 0 rfl) ?_
        refine va_get (D := g.1) (ci := 1) (v := .ref (ad 3)) (C := RX1) (T := TX1) (N := 8) hx hb hts hinX1 hown hK.1 hP 0 rfl rfl 3 (by decide) hk_3 (fun _ h9 => h9) rfl dX1_fullHosts_22 ?_
        refine lv_iload_n hx hb dX1_fullHosts_25 rfl (lv_at hl 2 rfl) ?_
        refine rr_iald (f := (σ 9)) (N := 6) hx hb hK hP 3 rfl rfl (by decide) hg3 dX1_fullHosts_26 ?_
        obtain ⟨hg4, h⟩ := rr_c_some h
        refine rr_icmp_ne (tgt := 33) hx hb dX1_fullHosts_27 (by decide) hg4.1 hg4.2 (fun c5 => ?_) (fun c5 => ?_)
        · rw [if_neg c5] at h
          refine rr_iinc (k := 2) (a := x2) (lv' := [(2, .int (rr_i (x2 + 1))), (0, .ref (ad 0)), (1, .int (rr_i x1))]) hx hb dX1_fullHosts_33 hl rfl (by decide) rfl (fun ls hl => ?_)
          refine lv_goto (tgt := 4) hx hb dX1_fullHosts_36 (by decide) ?_
          exact ih x1 (x2 + 1) ls h (lv_sub hl [1, 2, 0] rfl) hk
        · rw [if_pos c5] at h
          refine rr_iinc (k := 1) (a := x1) (lv' := [(1, .int (rr_i (x1 + 1))), (0, .ref (ad 0)), (2, .int (rr_i x2))]) hx hb dX1_fullHosts_30 hl rfl (by decide) rfl (fun ls hl => ?_)
          refine rr_iinc (k := 2) (a := x2) (lv' := [(2, .int (rr_i (x2 + 1))), (1, .int (rr_i (x1 + 1))), (0, .ref (ad 0))]) hx hb dX1_fullHosts_33 hl rfl (by decide) rfl (fun ls hl => ?_)
          refine lv_goto (tgt := 4) hx hb dX1_fullHosts_36 (by decide) ?_
          exact ih (x1 + 1) (x2 + 1) ls h (lv_sub hl [2, 1, 0] rfl) hk
  refine rr_iconst hx hb dX1_fullHosts_0 ?_
  refine lv_istore_n (lv' := [(1, .int (rr_i 0)), (0, .ref (ad 0))]) hx hb dX1_fullHosts_1 rfl hl (by decide) rfl (fun ls hl => ?_)
  refine rr_iconst hx hb dX1_fullHosts_2 ?_
  refine lv_istore_n (lv' := [(2, .int (rr_i 0)), (1, .int (rr_i 0)), (0, .ref (ad 0))]) hx hb dX1_fullHosts_3 rfl hl (by decide) rfl (fun ls hl => ?_)
  refine hL1_fullHosts_4 _ 1000 0 0 ls h (lv_sub hl [2, 1, 0] rfl) (fun y1_4 ls h hl => ?_)
  refine lv_iload_n hx hb dX1_fullHosts_39 rfl (lv_at hl 0 rfl) ?_
  exact hret _ _ _ h dX1_fullHosts_40
-- RoomRing$Ring.allPassed
abbrev rm_X1_allPassed : Room := { frames := 0, cells := 0, slots := 0, locals := 0 }
theorem hd_X1_allPassed : yX1_allPassed.cls ≠ "java/lang/invoke/MethodHandle" ∧ yX1_allPassed.cls ≠ "java/lang/invoke/VarHandle" ∧ (parseMethodDescriptor yX1_allPassed.desc).map (fun d => d.parameters.length) = some 0 := by decide +kernel
set_option maxHeartbeats 4000000 in
set_option maxRecDepth 100000 in
theorem kX1_allPassed (l : Launch) (g : rr_G) (ad : Nat → Nat) (σ : rr_T) (out : Int) (h : M1_allPassed σ = some out) : Met l yX1_allPassed wsX1_allPassed rm_X1_allPassed (rr_R g [.ref (ad 0)] (rr_wR g ad σ)) (vp_Si (fun x => x = rr_i out)) 0 0 (fun _ => False) := by
  refine rr_roI (cc := cX1_allPassed) (maxL := 3) (by decide) rfl (Nat.le_of_ble_eq_true rfl) ?_
  intro p e s m ar below meth c Q ls hx hb hml hown hts hK hP hret hl
  have hown : s.vm.findClass RX1 = some m.cls := hown
  have hl : lv_has ls 3 [(0, .ref (ad 0))] := hl
  have hinX1 : ∀ w ∈ u_ws RX1 TX1 8, w ∈ wsX1_allPassed := by decide +kernel
  have hinX3 : ∀ w ∈ u_ws RX3 TX3 7, w ∈ wsX1_allPassed := by decide +kernel
  have hk_0 : (Cond.fieldLink RX1 12 "RoomRing$Ring" "stock" "LRoomRing$Stock;").before ar s = true := hts _ (List.mem_of_getElem? (i := 1) (by decide +kernel))
  have hk_1 : (Cond.fieldLink RX1 49 "RoomRing$Stock" "keyCount" "I").before ar s = true := hts _ (List.mem_of_getElem? (i := 2) (by decide +kernel))
  have hk_2 : (Cond.fieldLink RX1 34 "RoomRing$Ring" "passed" "[I").before ar s = true := hts _ (List.mem_of_getElem? (i := 3) (by decide +kernel))
  unfold M1_allPassed at h
  have hL1_allPassed_4 : ∀ (K : Int → Option Int) (n : Nat) (x1 : Int) (x2 : Int) (ls : Array Slot), L1_allPassed_4 σ K n x1 x2 = some out → lv_has ls 3 [(0, .ref (ad 0)), (1, .int (rr_i x1)), (2, .int (rr_i x2))] → (∀ (z1 : Int) (ls : Array Slot), K z1 = some out → lv_has ls 3 [(1, .int (rr_i z1))] → W p l e rm_X1_allPassed s m ar below meth c s.heap [] 0 0 Q (F0 m 40 ls [])) → W p l e rm_X1_allPassed s m ar below meth c s.heap [] 0 0 Q (F0 m 4 ls []) := by
    intro K n
    induction n with
    | zero => intro x1 x2 ls h hl hk; cases h
    | succ n ih =>
      intro x1 x2 ls h hl hk
      rw [L1_allPassed_4_s] at h
      refine lv_iload_n hx hb dX1_allPassed_4 rfl (lv_at hl 2 rfl) ?_
      refine lv_aload_n hx hb dX1_allPassed_5 rfl (lv_at hl 0 rfl) ?_
      refine va_get (D := g.1) (ci := 1) (v := .ref (ad 8)) (C := RX1) (T := TX1) (N := 8) hx hb hts hinX1 hown hK.1 hP 0 rfl rfl 0 (by decide) hk_0 (fun _ h9 => h9) rfl dX1_allPassed_6 ?_
      refine va_get (D := g.1) (ci := 3) (v := .int (rr_i (σ 4 0))) (C := RX3) (T := TX3) (N := 7) hx hb hts hinX3 hown hK.1 hP 8 rfl rfl 4 (by decide) hk_1 (fun _ h9 => h9) rfl dX1_allPassed_9 ?_
      obtain ⟨hg1, h⟩ := rr_c_some h
      refine rr_icmp_ge (tgt := 40) hx hb dX1_allPassed_12 (by decide) hg1.1 hg1.2 (fun c2 => ?_) (fun c2 => ?_)
      · rw [if_pos c2] at h
        exact hk x1 ls h (lv_sub hl [1] rfl)
      · rw [if_neg c2] at h
        refine lv_aload_n hx hb dX1_allPassed_15 rfl (lv_at hl 0 rfl) ?_
        refine va_get (D := g.1) (ci := 1) (v := .ref (ad 6)) (C := RX1) (T := TX1) (N := 8) hx hb hts hinX1 hown hK.1 hP 0 rfl rfl 6 (by decide) hk_2 (fun _ h9 => h9) rfl dX1_allPassed_16 ?_
        refine lv_iload_n hx hb dX1_allPassed_19 rfl (lv_at hl 2 rfl) ?_
        obtain ⟨hg3, h⟩ := rr_c_some h
        refine rr_iald (f := (σ 12)) (N := 40) hx hb hK hP 6 rfl rfl (by decide) hg3 dX1_allPassed_20 ?_
        refine rr_iconst hx hb dX1_allPassed_21 ?_
        obtain ⟨hg4, h⟩ := rr_c_some h
        refine rr_icmp_eq (tgt := 34) hx hb dX1_allPassed_22 (by decide) hg4 (by decide) (fun c5 => ?_) (fun c5 => ?_)
        · rw [if_pos c5] at h
          refine rr_iinc (k := 2) (a := x2) (lv' := [(2, .int (rr_i (x2 + 1))), (0, .ref (ad 0)), (1, .int (rr_i x1))]) hx hb dX1_allPassed_34 hl rfl (by decide) rfl (fun ls hl => ?_)
          refine lv_goto (tgt := 4) hx hb dX1_allPassed_37 (by decide) ?_
          exact ih x1 (x2 + 1) ls h (lv_sub hl [1, 2, 0] rfl) hk
        · rw [if_neg c5] at h
          refine lv_iload_n hx hb dX1_allPassed_25 rfl (lv_at hl 1 rfl) ?_
          refine lv_aload_n hx hb dX1_allPassed_26 rfl (lv_at hl 0 rfl) ?_
          refine va_get (D := g.1) (ci := 1) (v := .ref (ad 6)) (C := RX1) (T := TX1) (N := 8) hx hb hts hinX1 hown hK.1 hP 0 rfl rfl 6 (by decide) hk_2 (fun _ h9 => h9) rfl dX1_allPassed_27 ?_
          refine lv_iload_n hx hb dX1_allPassed_30 rfl (lv_at hl 2 rfl) ?_
          refine rr_iald (f := (σ 12)) (N := 40) hx hb hK hP 6 rfl rfl (by decide) hg3 dX1_allPassed_31 ?_
          refine rr_iadd hx hb dX1_allPassed_32 ?_
          refine lv_istore_n (lv' := [(1, .int (rr_i (x1 + (σ 12 x2)))), (0, .ref (ad 0)), (2, .int (rr_i x2))]) hx hb dX1_allPassed_33 rfl hl (by decide) rfl (fun ls hl => ?_)
          refine rr_iinc (k := 2) (a := x2) (lv' := [(2, .int (rr_i (x2 + 1))), (1, .int (rr_i (x1 + (σ 12 x2)))), (0, .ref (ad 0))]) hx hb dX1_allPassed_34 hl rfl (by decide) rfl (fun ls hl => ?_)
          refine lv_goto (tgt := 4) hx hb dX1_allPassed_37 (by decide) ?_
          exact ih (x1 + (σ 12 x2)) (x2 + 1) ls h (lv_sub hl [2, 1, 0] rfl) hk
  refine rr_iconst hx hb dX1_allPassed_0 ?_
  refine lv_istore_n (lv' := [(1, .int (rr_i 0)), (0, .ref (ad 0))]) hx hb dX1_allPassed_1 rfl hl (by decide) rfl (fun ls hl => ?_)
  refine rr_iconst hx hb dX1_allPassed_2 ?_
  refine lv_istore_n (lv' := [(2, .int (rr_i 0)), (1, .int (rr_i 0)), (0, .ref (ad 0))]) hx hb dX1_allPassed_3 rfl hl (by decide) rfl (fun ls hl => ?_)
  refine hL1_allPassed_4 _ 1000 0 0 ls h (lv_sub hl [2, 1, 0] rfl) (fun y1_4 ls h hl => ?_)
  refine lv_iload_n hx hb dX1_allPassed_40 rfl (lv_at hl 0 rfl) ?_
  exact hret _ _ _ h dX1_allPassed_41
-- RoomRing$Ring.mostLoad
abbrev rm_X1_mostLoad : Room := { frames := 1, cells := 0, slots := 0, locals := 13 }
theorem hd_X1_mostLoad : yX1_mostLoad.cls ≠ "java/lang/invoke/MethodHandle" ∧ yX1_mostLoad.cls ≠ "java/lang/invoke/VarHandle" ∧ (parseMethodDescriptor yX1_mostLoad.desc).map (fun d => d.parameters.length) = some 0 := by decide +kernel
set_option maxHeartbeats 4000000 in
set_option maxRecDepth 100000 in
theorem kX1_mostLoad (l : Launch) (g : rr_G) (ad : Nat → Nat) (σ : rr_T) (out : Int) (h : M1_mostLoad σ = some out) : Met l yX1_mostLoad wsX1_mostLoad rm_X1_mostLoad (rr_R g [.ref (ad 0)] (rr_wR g ad σ)) (vp_Si (fun x => x = rr_i out)) 0 0 (fun _ => False) := by
  refine rr_roI (cc := cX1_mostLoad) (maxL := 3) (by decide) rfl (Nat.le_of_ble_eq_true rfl) ?_
  intro p e s m ar below meth c Q ls hx hb hml hown hts hK hP hret hl
  have hown : s.vm.findClass RX1 = some m.cls := hown
  have hl : lv_has ls 3 [(0, .ref (ad 0))] := hl
  have hinX1 : ∀ w ∈ u_ws RX1 TX1 8, w ∈ wsX1_mostLoad := by decide +kernel
  have hinX3 : ∀ w ∈ u_ws RX3 TX3 7, w ∈ wsX1_mostLoad := by decide +kernel
  have hk_0 : (Cond.fieldLink RX1 12 "RoomRing$Ring" "stock" "LRoomRing$Stock;").before ar s = true := hts _ (List.mem_of_getElem? (i := 1) (by decide +kernel))
  have hk_1 : (Cond.fieldLink RX1 57 "RoomRing$Stock" "hostCount" "I").before ar s = true := hts _ (List.mem_of_getElem? (i := 2) (by decide +kernel))
  have hk_2 : (Cond.fieldLink RX1 28 "RoomRing$Ring" "loads" "[I").before ar s = true := hts _ (List.mem_of_getElem? (i := 3) (by decide +kernel))
  have hk_3 : (Cond.methodLink RX1 102 Lib.Math.max.name).before ar s = true := hts _ (List.mem_of_getElem? (i := 4) (by decide +kernel))
  have hk_4 : (Cond.static Lib.Math.max.name).before ar s = true := hts _ (List.mem_of_getElem? (i := 5) (by decide +kernel))
  have hk_5 : (Cond.initialized "java/lang/Math").before ar s = true := hts _ (List.mem_of_getElem? (i := 6) (by decide +kernel))
  have hk_6 : (Cond.code Lib.Math.max.name Lib.Math.max.code 2 (some .int)).before ar s = true := hts _ (List.mem_of_getElem? (i := 7) (by decide +kernel))
  unfold M1_mostLoad at h
  have hL1_mostLoad_4 : ∀ (K : Int → Option Int) (n : Nat) (x1 : Int) (x2 : Int) (ls : Array Slot), L1_mostLoad_4 σ K n x1 x2 = some out → lv_has ls 3 [(0, .ref (ad 0)), (1, .int (rr_i x1)), (2, .int (rr_i x2))] → (∀ (z1 : Int) (ls : Array Slot), K z1 = some out → lv_has ls 3 [(1, .int (rr_i z1))] → W p l e rm_X1_mostLoad s m ar below meth c s.heap [] 0 0 Q (F0 m 32 ls [])) → W p l e rm_X1_mostLoad s m ar below meth c s.heap [] 0 0 Q (F0 m 4 ls []) := by
    intro K n
    induction n with
    | zero => intro x1 x2 ls h hl hk; cases h
    | succ n ih =>
      intro x1 x2 ls h hl hk
      rw [L1_mostLoad_4_s] at h
      refine lv_iload_n hx hb dX1_mostLoad_4 rfl (lv_at hl 2 rfl) ?_
      refine lv_aload_n hx hb dX1_mostLoad_5 rfl (lv_at hl 0 rfl) ?_
      refine va_get (D := g.1) (ci := 1) (v := .ref (ad 8)) (C := RX1) (T := TX1) (N := 8) hx hb hts hinX1 hown hK.1 hP 0 rfl rfl 0 (by decide) hk_0 (fun _ h9 => h9) rfl dX1_mostLoad_6 ?_
      refine va_get (D := g.1) (ci := 3) (v := .int (rr_i (σ 3 0))) (C := RX3) (T := TX3) (N := 7) hx hb hts hinX3 hown hK.1 hP 8 rfl rfl 3 (by decide) hk_1 (fun _ h9 => h9) rfl dX1_mostLoad_9 ?_
      obtain ⟨hg1, h⟩ := rr_c_some h
      refine rr_icmp_ge (tgt := 32) hx hb dX1_mostLoad_12 (by decide) hg1.1 hg1.2 (fun c2 => ?_) (fun c2 => ?_)
      · rw [if_pos c2] at h
        exact hk x1 ls h (lv_sub hl [1] rfl)
      · rw [if_neg c2] at h
        refine lv_iload_n hx hb dX1_mostLoad_15 rfl (lv_at hl 1 rfl) ?_
        refine lv_aload_n hx hb dX1_mostLoad_16 rfl (lv_at hl 0 rfl) ?_
        refine va_get (D := g.1) (ci := 1) (v := .ref (ad 4)) (C := RX1) (T := TX1) (N := 8) hx hb hts hinX1 hown hK.1 hP 0 rfl rfl 4 (by decide) hk_2 (fun _ h9 => h9) rfl dX1_mostLoad_17 ?_
        refine lv_iload_n hx hb dX1_mostLoad_20 rfl (lv_at hl 2 rfl) ?_
        obtain ⟨hg3, h⟩ := rr_c_some h
        refine rr_iald (f := (σ 10)) (N := 6) hx hb hK hP 4 rfl rfl (by decide) hg3 dX1_mostLoad_21 ?_
        obtain ⟨hg4, h⟩ := rr_c_some h
        refine rr_mmax hx hb (by rw [hml]; exact hl.1.symm) hown hk_3 hk_4 hk_5 hk_6 (Nat.le_of_ble_eq_true rfl) (Nat.le_of_ble_eq_true rfl) (Nat.zero_le _) (Nat.zero_le _) hg4.1 hg4.2 dX1_mostLoad_22 ?_
        refine lv_istore_n (lv' := [(1, .int (rr_i (if x1 < (σ 10 x2) then (σ 10 x2) else x1))), (0, .ref (ad 0)), (2, .int (rr_i x2))]) hx hb dX1_mostLoad_25 rfl hl (by decide) rfl (fun ls hl => ?_)
        refine rr_iinc (k := 2) (a := x2) (lv' := [(2, .int (rr_i (x2 + 1))), (1, .int (rr_i (if x1 < (σ 10 x2) then (σ 10 x2) else x1))), (0, .ref (ad 0))]) hx hb dX1_mostLoad_26 hl rfl (by decide) rfl (fun ls hl => ?_)
        refine lv_goto (tgt := 4) hx hb dX1_mostLoad_29 (by decide) ?_
        exact ih (if x1 < (σ 10 x2) then (σ 10 x2) else x1) (x2 + 1) ls h (lv_sub hl [2, 1, 0] rfl) hk
  refine rr_iconst hx hb dX1_mostLoad_0 ?_
  refine lv_istore_n (lv' := [(1, .int (rr_i 0)), (0, .ref (ad 0))]) hx hb dX1_mostLoad_1 rfl hl (by decide) rfl (fun ls hl => ?_)
  refine rr_iconst hx hb dX1_mostLoad_2 ?_
  refine lv_istore_n (lv' := [(2, .int (rr_i 0)), (1, .int (rr_i 0)), (0, .ref (ad 0))]) hx hb dX1_mostLoad_3 rfl hl (by decide) rfl (fun ls hl => ?_)
  refine hL1_mostLoad_4 _ 1000 0 0 ls h (lv_sub hl [2, 1, 0] rfl) (fun y1_4 ls h hl => ?_)
  refine lv_iload_n hx hb dX1_mostLoad_32 rfl (lv_at hl 0 rfl) ?_
  exact hret _ _ _ h dX1_mostLoad_33
