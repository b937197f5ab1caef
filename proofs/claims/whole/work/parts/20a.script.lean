-- RoomRing$Script.append
abbrev rm_X2_append : Room := { frames := 0, cells := 0, slots := 0, locals := 0 }
theorem hd_X2_append : yX2_append.cls ≠ "java/lang/invoke/MethodHandle" ∧ yX2_append.cls ≠ "java/lang/invoke/VarHandle" ∧ (parseMethodDescriptor yX2_append.desc).map (fun d => d.parameters.length) = some 1 := by decide +kernel
set_option maxHeartbeats 4000000 in
set_option maxRecDepth 100000 in
theorem kX2_append (l : Launch) (g : rr_G) (ad : Nat → Nat) (sz : Nat) (x1 : Int) (σ : rr_T) (out : (Int × rr_T)) (h : M2_append x1 σ = some out) : Met l yX2_append wsX2_append rm_X2_append (rr_P g [.ref (ad 0), .int (rr_i x1)] (rr_wT g ad σ) sz) (rr_Qi g out.1 (rr_wT g ad out.2) (va_A (rr_wT g ad σ) sz)) 0 0 (va_A (rr_wT g ad σ) sz) := by
  refine rr_rwZ (cc := cX2_append) (maxL := 2) (fun σ => rr_wT g ad σ) σ out (by decide) rfl (Nat.le_of_ble_eq_true rfl) ?_
  intro p e s m ar below meth c Q ls A hx hb hml hown hts hK hA hP hD hS hret hl
  have hP : va_P g.1 vwCl (rr_wT g ad σ) s.heap := hP
  have hD : va_D A (rr_wT g ad σ) := hD
  have hown : s.vm.findClass RX2 = some m.cls := hown
  have hl : lv_has ls 2 [(0, .ref (ad 0)), (1, .int (rr_i x1))] := hl
  have hinX2 : ∀ w ∈ u_ws RX2 TX2 10, w ∈ wsX2_append := by decide +kernel
  have hk_0 : (Cond.fieldLink RX2 15 "RoomRing$Script" "length" "I").before ar s = true := hts _ (List.mem_of_getElem? (i := 1) (by decide +kernel))
  have hk_1 : (Cond.fieldLink RX2 9 "RoomRing$Script" "bytes" "[I").before ar s = true := hts _ (List.mem_of_getElem? (i := 2) (by decide +kernel))
  unfold M2_append at h
  refine lv_aload_n hx hb dX2_append_0 rfl (lv_at hl 0 rfl) ?_
  refine va_get (D := g.1) (ci := 2) (v := .int (rr_i (σ 1 0))) (C := RX2) (T := TX2) (N := 10) hx hb hts hinX2 hown hK.1 hP 0 rfl rfl 1 (by decide) hk_0 (fun _ h9 => h9) rfl dX2_append_1 ?_
  refine rr_bipush hx hb dX2_append_4 (by decide +kernel) ?_
  obtain ⟨hg1, h⟩ := rr_c_some h
  refine rr_icmp_lt (tgt := 11) hx hb dX2_append_6 (by decide) hg1 (by decide) (fun c2 => ?_) (fun c2 => ?_)
  · rw [if_pos c2] at h
    refine lv_aload_n hx hb dX2_append_11 rfl (lv_at hl 0 rfl) ?_
    refine va_get (D := g.1) (ci := 2) (v := .ref (ad 1)) (C := RX2) (T := TX2) (N := 10) hx hb hts hinX2 hown hK.1 hP 0 rfl rfl 0 (by decide) hk_1 (fun _ h9 => h9) rfl dX2_append_12 ?_
    refine lv_aload_n hx hb dX2_append_15 rfl (lv_at hl 0 rfl) ?_
    refine va_get (D := g.1) (ci := 2) (v := .int (rr_i (σ 1 0))) (C := RX2) (T := TX2) (N := 10) hx hb hts hinX2 hown hK.1 hP 0 rfl rfl 1 (by decide) hk_0 (fun _ h9 => h9) rfl dX2_append_16 ?_
    refine lv_iload_n hx hb dX2_append_19 rfl (lv_at hl 1 rfl) ?_
    obtain ⟨hg3, h⟩ := rr_c_some h
    refine rr_iast (f := (σ 0)) (N := 120) hx hb hK hP hD hS 1 rfl rfl (by decide) hg3 dX2_append_20 (fun H locs hP hD hS => ?_)
    have hP : va_P g.1 vwCl (rr_wT g ad (rr_s σ 0 (σ 1 0) x1)) H := hP
    have hD : va_D A (rr_wT g ad (rr_s σ 0 (σ 1 0) x1)) := hD
    refine lv_aload_n hx hb dX2_append_21 rfl (lv_at hl 0 rfl) ?_
    refine lv_dup hx hb dX2_append_22 rfl ?_
    refine va_get (D := g.1) (ci := 2) (v := .int (rr_i (σ 1 0))) (C := RX2) (T := TX2) (N := 10) hx hb hts hinX2 hown hK.1 hP 0 rfl rfl 1 (by decide) hk_0 (fun _ h9 => h9) rfl dX2_append_23 ?_
    refine rr_iconst hx hb dX2_append_26 ?_
    refine rr_iadd hx hb dX2_append_27 ?_
    refine va_put (D := g.1) (ci := 2) (v := .int (rr_i ((σ 1 0) + 1))) (ty := .int) (C := RX2) (T := TX2) (N := 10) hx hb hts hinX2 tyX2 tyX2_ok nmX2 hown hK.1 hP hD hS 0 rfl rfl 1 (by decide) hk_0 (fun _ h9 => h9) rfl (by decide +kernel) rfl rfl (Nat.le_of_ble_eq_true rfl) dX2_append_28 (fun H locs hP hD hS => ?_)
    have hP : va_P g.1 vwCl (rr_wT g ad (rr_t (rr_s σ 0 (σ 1 0) x1) 1 ((σ 1 0) + 1))) H := hP
    have hD : va_D A (rr_wT g ad (rr_t (rr_s σ 0 (σ 1 0) x1) 1 ((σ 1 0) + 1))) := hD
    refine rr_iconst hx hb dX2_append_31 ?_
    exact hret _ _ _ _ _ _ h (by decide) hP hD hS dX2_append_32
  · rw [if_neg c2] at h
    refine rr_iconst hx hb dX2_append_9 ?_
    exact hret _ _ _ _ _ _ h (by decide) hP hD hS dX2_append_10
-- RoomRing$Script.isFigure
abbrev rm_X2_isFigure : Room := { frames := 0, cells := 0, slots := 0, locals := 0 }
theorem hd_X2_isFigure : yX2_isFigure.cls ≠ "java/lang/invoke/MethodHandle" ∧ yX2_isFigure.cls ≠ "java/lang/invoke/VarHandle" ∧ (parseMethodDescriptor yX2_isFigure.desc).map (fun d => d.parameters.length) = some 1 := by decide +kernel
set_option maxHeartbeats 4000000 in
set_option maxRecDepth 100000 in
theorem kX2_isFigure (l : Launch) (g : rr_G) (x0 : Int) (out : Int) (h : M2_isFigure x0 = some out) : Met l yX2_isFigure wsX2_isFigure rm_X2_isFigure (rr_R g [.int (rr_i x0)] (([] : va_W))) (vp_Si (fun x => x = rr_i out)) 0 0 (fun _ => False) := by
  refine rr_roZ (cc := cX2_isFigure) (maxL := 1) (by decide) rfl (Nat.le_of_ble_eq_true rfl) ?_
  intro p e s m ar below meth c Q ls hx hb hml hown hts hK hP hret hl
  have hown : s.vm.findClass RX2 = some m.cls := hown
  have hl : lv_has ls 1 [(0, .int (rr_i x0))] := hl
  unfold M2_isFigure at h
  refine lv_iload_n hx hb dX2_isFigure_0 rfl (lv_at hl 0 rfl) ?_
  refine rr_bipush hx hb dX2_isFigure_1 (by decide +kernel) ?_
  obtain ⟨hg1, h⟩ := rr_c_some h
  refine rr_icmp_lt (tgt := 16) hx hb dX2_isFigure_3 (by decide) hg1 (by decide) (fun c2 => ?_) (fun c2 => ?_)
  · rw [if_pos c2] at h
    refine rr_iconst hx hb dX2_isFigure_16 ?_
    exact hret _ _ _ h (by decide) dX2_isFigure_17
  · rw [if_neg c2] at h
    refine lv_iload_n hx hb dX2_isFigure_6 rfl (lv_at hl 0 rfl) ?_
    refine rr_bipush hx hb dX2_isFigure_7 (by decide +kernel) ?_
    refine rr_icmp_gt (tgt := 16) hx hb dX2_isFigure_9 (by decide) hg1 (by decide) (fun c3 => ?_) (fun c3 => ?_)
    · rw [if_pos c3] at h
      refine rr_iconst hx hb dX2_isFigure_16 ?_
      exact hret _ _ _ h (by decide) dX2_isFigure_17
    · rw [if_neg c3] at h
      refine rr_iconst hx hb dX2_isFigure_12 ?_
      refine lv_goto (tgt := 17) hx hb dX2_isFigure_13 (by decide) ?_
      exact hret _ _ _ h (by decide) dX2_isFigure_17
-- RoomRing$Script.addsFigure
abbrev rm_X2_addsFigure : Room := { frames := 0, cells := 0, slots := 0, locals := 0 }
theorem hd_X2_addsFigure : yX2_addsFigure.cls ≠ "java/lang/invoke/MethodHandle" ∧ yX2_addsFigure.cls ≠ "java/lang/invoke/VarHandle" ∧ (parseMethodDescriptor yX2_addsFigure.desc).map (fun d => d.parameters.length) = some 1 := by decide +kernel
set_option maxHeartbeats 4000000 in
set_option maxRecDepth 100000 in
theorem kX2_addsFigure (l : Launch) (g : rr_G) (ad : Nat → Nat) (sz : Nat) (x1 : Int) (σ : rr_T) (out : (Int × rr_T)) (h : M2_addsFigure x1 σ = some out) : Met l yX2_addsFigure wsX2_addsFigure rm_X2_addsFigure (rr_P g [.ref (ad 0), .int (rr_i x1)] (rr_wT g ad σ) sz) (rr_Qi g out.1 (rr_wT g ad out.2) (va_A (rr_wT g ad σ) sz)) 0 0 (va_A (rr_wT g ad σ) sz) := by
  refine rr_rwZ (cc := cX2_addsFigure) (maxL := 2) (fun σ => rr_wT g ad σ) σ out (by decide) rfl (Nat.le_of_ble_eq_true rfl) ?_
  intro p e s m ar below meth c Q ls A hx hb hml hown hts hK hA hP hD hS hret hl
  have hP : va_P g.1 vwCl (rr_wT g ad σ) s.heap := hP
  have hD : va_D A (rr_wT g ad σ) := hD
  have hown : s.vm.findClass RX2 = some m.cls := hown
  have hl : lv_has ls 2 [(0, .ref (ad 0)), (1, .int (rr_i x1))] := hl
  have hinX2 : ∀ w ∈ u_ws RX2 TX2 10, w ∈ wsX2_addsFigure := by decide +kernel
  have hk_0 : (Cond.fieldLink RX2 37 "RoomRing$Script" "figures" "I").before ar s = true := hts _ (List.mem_of_getElem? (i := 1) (by decide +kernel))
  have hk_1 : (Cond.fieldLink RX2 40 "RoomRing$Script" "number" "I").before ar s = true := hts _ (List.mem_of_getElem? (i := 2) (by decide +kernel))
  unfold M2_addsFigure at h
  refine lv_aload_n hx hb dX2_addsFigure_0 rfl (lv_at hl 0 rfl) ?_
  refine va_get (D := g.1) (ci := 2) (v := .int (rr_i (σ 8 0))) (C := RX2) (T := TX2) (N := 10) hx hb hts hinX2 hown hK.1 hP 0 rfl rfl 8 (by decide) hk_0 (fun _ h9 => h9) rfl dX2_addsFigure_1 ?_
  refine rr_iconst hx hb dX2_addsFigure_4 ?_
  obtain ⟨hg1, h⟩ := rr_c_some h
  refine rr_icmp_lt (tgt := 10) hx hb dX2_addsFigure_5 (by decide) hg1 (by decide) (fun c2 => ?_) (fun c2 => ?_)
  · rw [if_pos c2] at h
    refine lv_aload_n hx hb dX2_addsFigure_10 rfl (lv_at hl 0 rfl) ?_
    refine rr_bipush hx hb dX2_addsFigure_11 (by decide +kernel) ?_
    refine lv_aload_n hx hb dX2_addsFigure_13 rfl (lv_at hl 0 rfl) ?_
    refine va_get (D := g.1) (ci := 2) (v := .int (rr_i (σ 9 0))) (C := RX2) (T := TX2) (N := 10) hx hb hts hinX2 hown hK.1 hP 0 rfl rfl 9 (by decide) hk_1 (fun _ h9 => h9) rfl dX2_addsFigure_14 ?_
    refine rr_imul hx hb dX2_addsFigure_17 ?_
    refine lv_iload_n hx hb dX2_addsFigure_18 rfl (lv_at hl 1 rfl) ?_
    refine rr_bipush hx hb dX2_addsFigure_19 (by decide +kernel) ?_
    refine rr_isub hx hb dX2_addsFigure_21 ?_
    refine rr_iadd hx hb dX2_addsFigure_22 ?_
    refine va_put (D := g.1) (ci := 2) (v := .int (rr_i ((10 * (σ 9 0)) + (x1 - 48)))) (ty := .int) (C := RX2) (T := TX2) (N := 10) hx hb hts hinX2 tyX2 tyX2_ok nmX2 hown hK.1 hP hD hS 0 rfl rfl 9 (by decide) hk_1 (fun _ h9 => h9) rfl (by decide +kernel) rfl rfl (Nat.le_of_ble_eq_true rfl) dX2_addsFigure_23 (fun H locs hP hD hS => ?_)
    have hP : va_P g.1 vwCl (rr_wT g ad (rr_t σ 9 ((10 * (σ 9 0)) + (x1 - 48)))) H := hP
    have hD : va_D A (rr_wT g ad (rr_t σ 9 ((10 * (σ 9 0)) + (x1 - 48)))) := hD
    refine lv_aload_n hx hb dX2_addsFigure_26 rfl (lv_at hl 0 rfl) ?_
    refine lv_dup hx hb dX2_addsFigure_27 rfl ?_
    refine va_get (D := g.1) (ci := 2) (v := .int (rr_i (σ 8 0))) (C := RX2) (T := TX2) (N := 10) hx hb hts hinX2 hown hK.1 hP 0 rfl rfl 8 (by decide) hk_0 (fun _ h9 => h9) rfl dX2_addsFigure_28 ?_
    refine rr_iconst hx hb dX2_addsFigure_31 ?_
    refine rr_iadd hx hb dX2_addsFigure_32 ?_
    refine va_put (D := g.1) (ci := 2) (v := .int (rr_i ((σ 8 0) + 1))) (ty := .int) (C := RX2) (T := TX2) (N := 10) hx hb hts hinX2 tyX2 tyX2_ok nmX2 hown hK.1 hP hD hS 0 rfl rfl 8 (by decide) hk_0 (fun _ h9 => h9) rfl (by decide +kernel) rfl rfl (Nat.le_of_ble_eq_true rfl) dX2_addsFigure_33 (fun H locs hP hD hS => ?_)
    have hP : va_P g.1 vwCl (rr_wT g ad (rr_t (rr_t σ 9 ((10 * (σ 9 0)) + (x1 - 48))) 8 ((σ 8 0) + 1))) H := hP
    have hD : va_D A (rr_wT g ad (rr_t (rr_t σ 9 ((10 * (σ 9 0)) + (x1 - 48))) 8 ((σ 8 0) + 1))) := hD
    refine rr_iconst hx hb dX2_addsFigure_36 ?_
    exact hret _ _ _ _ _ _ h (by decide) hP hD hS dX2_addsFigure_37
  · rw [if_neg c2] at h
    refine rr_iconst hx hb dX2_addsFigure_8 ?_
    exact hret _ _ _ _ _ _ h (by decide) hP hD hS dX2_addsFigure_9
-- RoomRing$Script.numbersOf
abbrev rm_X2_numbersOf : Room := { frames := 0, cells := 0, slots := 0, locals := 0 }
theorem hd_X2_numbersOf : yX2_numbersOf.cls ≠ "java/lang/invoke/MethodHandle" ∧ yX2_numbersOf.cls ≠ "java/lang/invoke/VarHandle" ∧ (parseMethodDescriptor yX2_numbersOf.desc).map (fun d => d.parameters.length) = some 1 := by decide +kernel
set_option maxHeartbeats 4000000 in
set_option maxRecDepth 100000 in
theorem kX2_numbersOf (l : Launch) (g : rr_G) (x0 : Int) (out : Int) (h : M2_numbersOf x0 = some out) : Met l yX2_numbersOf wsX2_numbersOf rm_X2_numbersOf (rr_R g [.int (rr_i x0)] (([] : va_W))) (vp_Si (fun x => x = rr_i out)) 0 0 (fun _ => False) := by
  refine rr_roI (cc := cX2_numbersOf) (maxL := 1) (by decide) rfl (Nat.le_of_ble_eq_true rfl) ?_
  intro p e s m ar below meth c Q ls hx hb hml hown hts hK hP hret hl
  have hown : s.vm.findClass RX2 = some m.cls := hown
  have hl : lv_has ls 1 [(0, .int (rr_i x0))] := hl
  unfold M2_numbersOf at h
  refine lv_iload_n hx hb dX2_numbersOf_0 rfl (lv_at hl 0 rfl) ?_
  obtain ⟨hg1, h⟩ := rr_c_some h
  have hv2 : (rr_i x0).toInt = x0 := rr_to_i hg1
  by_cases c3 : x0 = 100
  · rw [if_pos c3] at h
    refine lv_tableIn (off := 97) (tgt := 98) hx hb dX2_numbersOf_1 (by rw [hv2, c3]; decide) (by rw [hv2, c3]; decide) (by rw [hv2, c3]; rfl) (by decide) ?_
    refine rr_iconst hx hb dX2_numbersOf_98 ?_
    exact hret _ _ _ h dX2_numbersOf_99
  · rw [if_neg c3] at h
    by_cases c4 : x0 = 101
    · rw [if_pos c4] at h
      refine lv_tableIn (off := 97) (tgt := 98) hx hb dX2_numbersOf_1 (by rw [hv2, c4]; decide) (by rw [hv2, c4]; decide) (by rw [hv2, c4]; rfl) (by decide) ?_
      refine rr_iconst hx hb dX2_numbersOf_98 ?_
      exact hret _ _ _ h dX2_numbersOf_99
    · rw [if_neg c4] at h
      by_cases c5 : x0 = 103
      · rw [if_pos c5] at h
        refine lv_tableIn (off := 97) (tgt := 98) hx hb dX2_numbersOf_1 (by rw [hv2, c5]; decide) (by rw [hv2, c5]; decide) (by rw [hv2, c5]; rfl) (by decide) ?_
        refine rr_iconst hx hb dX2_numbersOf_98 ?_
        exact hret _ _ _ h dX2_numbersOf_99
      · rw [if_neg c5] at h
        by_cases c6 : x0 = 104
        · rw [if_pos c6] at h
          refine lv_tableIn (off := 95) (tgt := 96) hx hb dX2_numbersOf_1 (by rw [hv2, c6]; decide) (by rw [hv2, c6]; decide) (by rw [hv2, c6]; rfl) (by decide) ?_
          refine rr_iconst hx hb dX2_numbersOf_96 ?_
          exact hret _ _ _ h dX2_numbersOf_97
        · rw [if_neg c6] at h
          by_cases c7 : x0 = 107
          · rw [if_pos c7] at h
            refine lv_tableIn (off := 97) (tgt := 98) hx hb dX2_numbersOf_1 (by rw [hv2, c7]; decide) (by rw [hv2, c7]; decide) (by rw [hv2, c7]; rfl) (by decide) ?_
            refine rr_iconst hx hb dX2_numbersOf_98 ?_
            exact hret _ _ _ h dX2_numbersOf_99
          · rw [if_neg c7] at h
            by_cases c8 : x0 = 119
            · rw [if_pos c8] at h
              refine lv_tableIn (off := 95) (tgt := 96) hx hb dX2_numbersOf_1 (by rw [hv2, c8]; decide) (by rw [hv2, c8]; decide) (by rw [hv2, c8]; rfl) (by decide) ?_
              refine rr_iconst hx hb dX2_numbersOf_96 ?_
              exact hret _ _ _ h dX2_numbersOf_97
            · rw [if_neg c8] at h
              by_cases hr9 : x0 < 100 ∨ 119 < x0
              · refine lv_tableOut (tgt := 100) hx hb dX2_numbersOf_1 (by rw [hv2]; exact hr9) (by decide) ?_
                refine rr_iconst hx hb dX2_numbersOf_100 ?_
                exact hret _ _ _ h dX2_numbersOf_101
              · have he10 : x0 = 102 ∨ x0 = 105 ∨ x0 = 106 ∨ x0 = 108 ∨ x0 = 109 ∨ x0 = 110 ∨ x0 = 111 ∨ x0 = 112 ∨ x0 = 113 ∨ x0 = 114 ∨ x0 = 115 ∨ x0 = 116 ∨ x0 = 117 ∨ x0 = 118 := by omega
                rcases he10 with he10 | he10 | he10 | he10 | he10 | he10 | he10 | he10 | he10 | he10 | he10 | he10 | he10 | he10
                · refine lv_tableIn (off := 99) (tgt := 100) hx hb dX2_numbersOf_1 (by rw [hv2, he10]; decide) (by rw [hv2, he10]; decide) (by rw [hv2, he10]; rfl) (by decide) ?_
                  refine rr_iconst hx hb dX2_numbersOf_100 ?_
                  exact hret _ _ _ h dX2_numbersOf_101
                · refine lv_tableIn (off := 99) (tgt := 100) hx hb dX2_numbersOf_1 (by rw [hv2, he10]; decide) (by rw [hv2, he10]; decide) (by rw [hv2, he10]; rfl) (by decide) ?_
                  refine rr_iconst hx hb dX2_numbersOf_100 ?_
                  exact hret _ _ _ h dX2_numbersOf_101
                · refine lv_tableIn (off := 99) (tgt := 100) hx hb dX2_numbersOf_1 (by rw [hv2, he10]; decide) (by rw [hv2, he10]; decide) (by rw [hv2, he10]; rfl) (by decide) ?_
                  refine rr_iconst hx hb dX2_numbersOf_100 ?_
                  exact hret _ _ _ h dX2_numbersOf_101
                · refine lv_tableIn (off := 99) (tgt := 100) hx hb dX2_numbersOf_1 (by rw [hv2, he10]; decide) (by rw [hv2, he10]; decide) (by rw [hv2, he10]; rfl) (by decide) ?_
                  refine rr_iconst hx hb dX2_numbersOf_100 ?_
                  exact hret _ _ _ h dX2_numbersOf_101
                · refine lv_tableIn (off := 99) (tgt := 100) hx hb dX2_numbersOf_1 (by rw [hv2, he10]; decide) (by rw [hv2, he10]; decide) (by rw [hv2, he10]; rfl) (by decide) ?_
                  refine rr_iconst hx hb dX2_numbersOf_100 ?_
                  exact hret _ _ _ h dX2_numbersOf_101
                · refine lv_tableIn (off := 99) (tgt := 100) hx hb dX2_numbersOf_1 (by rw [hv2, he10]; decide) (by rw [hv2, he10]; decide) (by rw [hv2, he10]; rfl) (by decide) ?_
                  refine rr_iconst hx hb dX2_numbersOf_100 ?_
                  exact hret _ _ _ h dX2_numbersOf_101
                · refine lv_tableIn (off := 99) (tgt := 100) hx hb dX2_numbersOf_1 (by rw [hv2, he10]; decide) (by rw [hv2, he10]; decide) (by rw [hv2, he10]; rfl) (by decide) ?_
                  refine rr_iconst hx hb dX2_numbersOf_100 ?_
                  exact hret _ _ _ h dX2_numbersOf_101
                · refine lv_tableIn (off := 99) (tgt := 100) hx hb dX2_numbersOf_1 (by rw [hv2, he10]; decide) (by rw [hv2, he10]; decide) (by rw [hv2, he10]; rfl) (by decide) ?_
                  refine rr_iconst hx hb dX2_numbersOf_100 ?_
                  exact hret _ _ _ h dX2_numbersOf_101
                · refine lv_tableIn (off := 99) (tgt := 100) hx hb dX2_numbersOf_1 (by rw [hv2, he10]; decide) (by rw [hv2, he10]; decide) (by rw [hv2, he10]; rfl) (by decide) ?_
                  refine rr_iconst hx hb dX2_numbersOf_100 ?_
                  exact hret _ _ _ h dX2_numbersOf_101
                · refine lv_tableIn (off := 99) (tgt := 100) hx hb dX2_numbersOf_1 (by rw [hv2, he10]; decide) (by rw [hv2, he10]; decide) (by rw [hv2, he10]; rfl) (by decide) ?_
                  refine rr_iconst hx hb dX2_numbersOf_100 ?_
                  exact hret _ _ _ h dX2_numbersOf_101
                · refine lv_tableIn (off := 99) (tgt := 100) hx hb dX2_numbersOf_1 (by rw [hv2, he10]; decide) (by rw [hv2, he10]; decide) (by rw [hv2, he10]; rfl) (by decide) ?_
                  refine rr_iconst hx hb dX2_numbersOf_100 ?_
                  exact hret _ _ _ h dX2_numbersOf_101
                · refine lv_tableIn (off := 99) (tgt := 100) hx hb dX2_numbersOf_1 (by rw [hv2, he10]; decide) (by rw [hv2, he10]; decide) (by rw [hv2, he10]; rfl) (by decide) ?_
                  refine rr_iconst hx hb dX2_numbersOf_100 ?_
                  exact hret _ _ _ h dX2_numbersOf_101
                · refine lv_tableIn (off := 99) (tgt := 100) hx hb dX2_numbersOf_1 (by rw [hv2, he10]; decide) (by rw [hv2, he10]; decide) (by rw [hv2, he10]; rfl) (by decide) ?_
                  refine rr_iconst hx hb dX2_numbersOf_100 ?_
                  exact hret _ _ _ h dX2_numbersOf_101
                · refine lv_tableIn (off := 99) (tgt := 100) hx hb dX2_numbersOf_1 (by rw [hv2, he10]; decide) (by rw [hv2, he10]; decide) (by rw [hv2, he10]; rfl) (by decide) ?_
                  refine rr_iconst hx hb dX2_numbersOf_100 ?_
                  exact hret _ _ _ h dX2_numbersOf_101
-- RoomRing$Script.endNumber
abbrev rm_X2_endNumber : Room := { frames := 1, cells := 0, slots := 0, locals := 20 }
theorem hd_X2_endNumber : yX2_endNumber.cls ≠ "java/lang/invoke/MethodHandle" ∧ yX2_endNumber.cls ≠ "java/lang/invoke/VarHandle" ∧ (parseMethodDescriptor yX2_endNumber.desc).map (fun d => d.parameters.length) = some 0 := by decide +kernel
set_option maxHeartbeats 4000000 in
set_option maxRecDepth 100000 in
theorem kX2_endNumber (l : Launch) (g : rr_G) (ad : Nat → Nat) (sz : Nat) (σ : rr_T) (out : rr_T) (h : M2_endNumber σ = some out) : Met l yX2_endNumber wsX2_endNumber rm_X2_endNumber (rr_P g [.ref (ad 0)] (rr_wT g ad σ) sz) (rr_Qv g (rr_wT g ad out) (va_A (rr_wT g ad σ) sz)) 0 0 (va_A (rr_wT g ad σ) sz) := by
  refine rr_rwV (cc := cX2_endNumber) (maxL := 1) (fun σ => rr_wT g ad σ) σ out (by decide) rfl (Nat.le_of_ble_eq_true rfl) ?_
  intro p e s m ar below meth c Q ls A hx hb hml hown hts hK hA hP hD hS hret hl
  have hP : va_P g.1 vwCl (rr_wT g ad σ) s.heap := hP
  have hD : va_D A (rr_wT g ad σ) := hD
  have hown : s.vm.findClass RX2 = some m.cls := hown
  have hl : lv_has ls 1 [(0, .ref (ad 0))] := hl
  have hinX2 : ∀ w ∈ u_ws RX2 TX2 10, w ∈ wsX2_endNumber := by decide +kernel
  have hk_0 : (Cond.fieldLink RX2 34 "RoomRing$Script" "numbersRead" "I").before ar s = true := hts _ (List.mem_of_getElem? (i := 1) (by decide +kernel))
  have hk_1 : (Cond.fieldLink RX2 25 "RoomRing$Script" "seconds" "[I").before ar s = true := hts _ (List.mem_of_getElem? (i := 5) (by decide +kernel))
  have hk_2 : (Cond.fieldLink RX2 28 "RoomRing$Script" "orderCount" "I").before ar s = true := hts _ (List.mem_of_getElem? (i := 3) (by decide +kernel))
  have hk_3 : (Cond.fieldLink RX2 40 "RoomRing$Script" "number" "I").before ar s = true := hts _ (List.mem_of_getElem? (i := 4) (by decide +kernel))
  have hk_4 : (Cond.fieldLink RX2 19 "RoomRing$Script" "letters" "[I").before ar s = true := hts _ (List.mem_of_getElem? (i := 6) (by decide +kernel))
  have hk_5 : (Cond.fieldLink RX2 31 "RoomRing$Script" "awaited" "I").before ar s = true := hts _ (List.mem_of_getElem? (i := 7) (by decide +kernel))
  have hk_6 : (Cond.fieldLink RX2 22 "RoomRing$Script" "firsts" "[I").before ar s = true := hts _ (List.mem_of_getElem? (i := 2) (by decide +kernel))
  unfold M2_endNumber at h
  refine lv_aload_n hx hb dX2_endNumber_0 rfl (lv_at hl 0 rfl) ?_
  refine va_get (D := g.1) (ci := 2) (v := .int (rr_i (σ 7 0))) (C := RX2) (T := TX2) (N := 10) hx hb hts hinX2 hown hK.1 hP 0 rfl rfl 7 (by decide) hk_0 (fun _ h9 => h9) rfl dX2_endNumber_1 ?_
  obtain ⟨hg1, h⟩ := rr_c_some h
  refine rr_if_ne (tgt := 23) hx hb dX2_endNumber_4 (by decide) hg1 (fun c2 => ?_) (fun c2 => ?_)
  · rw [if_neg c2] at h
    refine lv_aload_n hx hb dX2_endNumber_23 rfl (lv_at hl 0 rfl) ?_
    refine va_get (D := g.1) (ci := 2) (v := .ref (ad 4)) (C := RX2) (T := TX2) (N := 10) hx hb hts hinX2 hown hK.1 hP 0 rfl rfl 4 (by decide) hk_1 (fun _ h9 => h9) rfl dX2_endNumber_24 ?_
    refine lv_aload_n hx hb dX2_endNumber_27 rfl (lv_at hl 0 rfl) ?_
    refine va_get (D := g.1) (ci := 2) (v := .int (rr_i (σ 5 0))) (C := RX2) (T := TX2) (N := 10) hx hb hts hinX2 hown hK.1 hP 0 rfl rfl 5 (by decide) hk_2 (fun _ h9 => h9) rfl dX2_endNumber_28 ?_
    refine lv_aload_n hx hb dX2_endNumber_31 rfl (lv_at hl 0 rfl) ?_
    refine va_get (D := g.1) (ci := 2) (v := .int (rr_i (σ 9 0))) (C := RX2) (T := TX2) (N := 10) hx hb hts hinX2 hown hK.1 hP 0 rfl rfl 9 (by decide) hk_3 (fun _ h9 => h9) rfl dX2_endNumber_32 ?_
    obtain ⟨hg3, h⟩ := rr_c_some h
    refine rr_iast (f := (σ 4)) (N := 40) hx hb hK hP hD hS 4 rfl rfl (by decide) hg3 dX2_endNumber_35 (fun H locs hP hD hS => ?_)
    have hP : va_P g.1 vwCl (rr_wT g ad (rr_s σ 4 (σ 5 0) (σ 9 0))) H := hP
    have hD : va_D A (rr_wT g ad (rr_s σ 4 (σ 5 0) (σ 9 0))) := hD
    refine lv_aload_n hx hb dX2_endNumber_36 rfl (lv_at hl 0 rfl) ?_
    refine lv_dup hx hb dX2_endNumber_37 rfl ?_
    refine va_get (D := g.1) (ci := 2) (v := .int (rr_i (σ 7 0))) (C := RX2) (T := TX2) (N := 10) hx hb hts hinX2 hown hK.1 hP 0 rfl rfl 7 (by decide) hk_0 (fun _ h9 => h9) rfl dX2_endNumber_38 ?_
    refine rr_iconst hx hb dX2_endNumber_41 ?_
    refine rr_iadd hx hb dX2_endNumber_42 ?_
    refine va_put (D := g.1) (ci := 2) (v := .int (rr_i ((σ 7 0) + 1))) (ty := .int) (C := RX2) (T := TX2) (N := 10) hx hb hts hinX2 tyX2 tyX2_ok nmX2 hown hK.1 hP hD hS 0 rfl rfl 7 (by decide) hk_0 (fun _ h9 => h9) rfl (by decide +kernel) rfl rfl (Nat.le_of_ble_eq_true rfl) dX2_endNumber_43 (fun H locs hP hD hS => ?_)
    have hP : va_P g.1 vwCl (rr_wT g ad (rr_t (rr_s σ 4 (σ 5 0) (σ 9 0)) 7 ((σ 7 0) + 1))) H := hP
    have hD : va_D A (rr_wT g ad (rr_t (rr_s σ 4 (σ 5 0) (σ 9 0)) 7 ((σ 7 0) + 1))) := hD
    refine lv_aload_n hx hb dX2_endNumber_46 rfl (lv_at hl 0 rfl) ?_
    refine lv_aload_n hx hb dX2_endNumber_47 rfl (lv_at hl 0 rfl) ?_
    refine va_get (D := g.1) (ci := 2) (v := .int (rr_i ((σ 7 0) + 1))) (C := RX2) (T := TX2) (N := 10) hx hb hts hinX2 hown hK.1 hP 0 rfl rfl 7 (by decide) hk_0 (fun _ h9 => h9) rfl dX2_endNumber_48 ?_
    refine lv_aload_n hx hb dX2_endNumber_51 rfl (lv_at hl 0 rfl) ?_
    refine va_get (D := g.1) (ci := 2) (v := .ref (ad 2)) (C := RX2) (T := TX2) (N := 10) hx hb hts hinX2 hown hK.1 hP 0 rfl rfl 2 (by decide) hk_4 (fun _ h9 => h9) rfl dX2_endNumber_52 ?_
    refine lv_aload_n hx hb dX2_endNumber_55 rfl (lv_at hl 0 rfl) ?_
    refine va_get (D := g.1) (ci := 2) (v := .int (rr_i (σ 5 0))) (C := RX2) (T := TX2) (N := 10) hx hb hts hinX2 hown hK.1 hP 0 rfl rfl 5 (by decide) hk_2 (fun _ h9 => h9) rfl dX2_endNumber_56 ?_
    refine rr_iald (f := (σ 2)) (N := 40) hx hb hK hP 2 rfl rfl (by decide) hg3 dX2_endNumber_59 ?_
    obtain ⟨v4, hw5, h⟩ := rr_b_some h
    refine rr_callI (va_runS (As := [.int (rr_i (σ 2 (σ 5 0)))]) (rest := [.int (rr_i ((σ 7 0) + 1)), .ref (ad 0)]) ⟨hx, hb, hml, hown, hts⟩ (kX2_numbersOf l g (σ 2 (σ 5 0)) v4 hw5) (va_cwS 1 hts gX2_endNumber_X2_numbersOf rfl rfl rfl hd_X2_numbersOf ⟨Nat.le_of_ble_eq_true rfl, Nat.le_of_ble_eq_true rfl⟩) ⟨rr_R_blind, rr_R_pre hK (hP.sub (ws' := ([] : va_W)) [] rfl)⟩ rfl rfl hl.1 rfl (lv_room (Nat.le_of_ble_eq_true rfl)) dX2_endNumber_60 ⟨Nat.zero_le _, Nat.zero_le _⟩) ?_
    obtain ⟨hg6, h⟩ := rr_c_some h
    refine rr_icmp_ge (tgt := 70) hx hb dX2_endNumber_63 (by decide) hg6.1 hg6.2 (fun c7 => ?_) (fun c7 => ?_)
    · rw [if_pos c7] at h
      refine rr_iconst hx hb dX2_endNumber_70 ?_
      refine va_put (D := g.1) (ci := 2) (v := .int (rr_i 3)) (ty := .int) (C := RX2) (T := TX2) (N := 10) hx hb hts hinX2 tyX2 tyX2_ok nmX2 hown hK.1 hP hD hS 0 rfl rfl 6 (by decide) hk_5 (fun _ h9 => h9) rfl (by decide +kernel) rfl rfl (Nat.le_of_ble_eq_true rfl) dX2_endNumber_71 (fun H locs hP hD hS => ?_)
      have hP : va_P g.1 vwCl (rr_wT g ad (rr_t (rr_t (rr_s σ 4 (σ 5 0) (σ 9 0)) 7 ((σ 7 0) + 1)) 6 3)) H := hP
      have hD : va_D A (rr_wT g ad (rr_t (rr_t (rr_s σ 4 (σ 5 0) (σ 9 0)) 7 ((σ 7 0) + 1)) 6 3)) := hD
      exact hret _ _ _ _ _ h hP hD hS dX2_endNumber_74
    · rw [if_neg c7] at h
      refine rr_iconst hx hb dX2_endNumber_66 ?_
      refine lv_goto (tgt := 71) hx hb dX2_endNumber_67 (by decide) ?_
      refine va_put (D := g.1) (ci := 2) (v := .int (rr_i 1)) (ty := .int) (C := RX2) (T := TX2) (N := 10) hx hb hts hinX2 tyX2 tyX2_ok nmX2 hown hK.1 hP hD hS 0 rfl rfl 6 (by decide) hk_5 (fun _ h9 => h9) rfl (by decide +kernel) rfl rfl (Nat.le_of_ble_eq_true rfl) dX2_endNumber_71 (fun H locs hP hD hS => ?_)
      have hP : va_P g.1 vwCl (rr_wT g ad (rr_t (rr_t (rr_s σ 4 (σ 5 0) (σ 9 0)) 7 ((σ 7 0) + 1)) 6 1)) H := hP
      have hD : va_D A (rr_wT g ad (rr_t (rr_t (rr_s σ 4 (σ 5 0) (σ 9 0)) 7 ((σ 7 0) + 1)) 6 1)) := hD
      exact hret _ _ _ _ _ h hP hD hS dX2_endNumber_74
  · rw [if_pos c2] at h
    refine lv_aload_n hx hb dX2_endNumber_7 rfl (lv_at hl 0 rfl) ?_
    refine va_get (D := g.1) (ci := 2) (v := .ref (ad 3)) (C := RX2) (T := TX2) (N := 10) hx hb hts hinX2 hown hK.1 hP 0 rfl rfl 3 (by decide) hk_6 (fun _ h9 => h9) rfl dX2_endNumber_8 ?_
    refine lv_aload_n hx hb dX2_endNumber_11 rfl (lv_at hl 0 rfl) ?_
    refine va_get (D := g.1) (ci := 2) (v := .int (rr_i (σ 5 0))) (C := RX2) (T := TX2) (N := 10) hx hb hts hinX2 hown hK.1 hP 0 rfl rfl 5 (by decide) hk_2 (fun _ h9 => h9) rfl dX2_endNumber_12 ?_
    refine lv_aload_n hx hb dX2_endNumber_15 rfl (lv_at hl 0 rfl) ?_
    refine va_get (D := g.1) (ci := 2) (v := .int (rr_i (σ 9 0))) (C := RX2) (T := TX2) (N := 10) hx hb hts hinX2 hown hK.1 hP 0 rfl rfl 9 (by decide) hk_3 (fun _ h9 => h9) rfl dX2_endNumber_16 ?_
    obtain ⟨hg8, h⟩ := rr_c_some h
    refine rr_iast (f := (σ 3)) (N := 40) hx hb hK hP hD hS 3 rfl rfl (by decide) hg8 dX2_endNumber_19 (fun H locs hP hD hS => ?_)
    have hP : va_P g.1 vwCl (rr_wT g ad (rr_s σ 3 (σ 5 0) (σ 9 0))) H := hP
    have hD : va_D A (rr_wT g ad (rr_s σ 3 (σ 5 0) (σ 9 0))) := hD
    refine lv_goto (tgt := 36) hx hb dX2_endNumber_20 (by decide) ?_
    refine lv_aload_n hx hb dX2_endNumber_36 rfl (lv_at hl 0 rfl) ?_
    refine lv_dup hx hb dX2_endNumber_37 rfl ?_
    refine va_get (D := g.1) (ci := 2) (v := .int (rr_i (σ 7 0))) (C := RX2) (T := TX2) (N := 10) hx hb hts hinX2 hown hK.1 hP 0 rfl rfl 7 (by decide) hk_0 (fun _ h9 => h9) rfl dX2_endNumber_38 ?_
    refine rr_iconst hx hb dX2_endNumber_41 ?_
    refine rr_iadd hx hb dX2_endNumber_42 ?_
    refine va_put (D := g.1) (ci := 2) (v := .int (rr_i ((σ 7 0) + 1))) (ty := .int) (C := RX2) (T := TX2) (N := 10) hx hb hts hinX2 tyX2 tyX2_ok nmX2 hown hK.1 hP hD hS 0 rfl rfl 7 (by decide) hk_0 (fun _ h9 => h9) rfl (by decide +kernel) rfl rfl (Nat.le_of_ble_eq_true rfl) dX2_endNumber_43 (fun H locs hP hD hS => ?_)
    have hP : va_P g.1 vwCl (rr_wT g ad (rr_t (rr_s σ 3 (σ 5 0) (σ 9 0)) 7 ((σ 7 0) + 1))) H := hP
    have hD : va_D A (rr_wT g ad (rr_t (rr_s σ 3 (σ 5 0) (σ 9 0)) 7 ((σ 7 0) + 1))) := hD
    refine lv_aload_n hx hb dX2_endNumber_46 rfl (lv_at hl 0 rfl) ?_
    refine lv_aload_n hx hb dX2_endNumber_47 rfl (lv_at hl 0 rfl) ?_
    refine va_get (D := g.1) (ci := 2) (v := .int (rr_i ((σ 7 0) + 1))) (C := RX2) (T := TX2) (N := 10) hx hb hts hinX2 hown hK.1 hP 0 rfl rfl 7 (by decide) hk_0 (fun _ h9 => h9) rfl dX2_endNumber_48 ?_
    refine lv_aload_n hx hb dX2_endNumber_51 rfl (lv_at hl 0 rfl) ?_
    refine va_get (D := g.1) (ci := 2) (v := .ref (ad 2)) (C := RX2) (T := TX2) (N := 10) hx hb hts hinX2 hown hK.1 hP 0 rfl rfl 2 (by decide) hk_4 (fun _ h9 => h9) rfl dX2_endNumber_52 ?_
    refine lv_aload_n hx hb dX2_endNumber_55 rfl (lv_at hl 0 rfl) ?_
    refine va_get (D := g.1) (ci := 2) (v := .int (rr_i (σ 5 0))) (C := RX2) (T := TX2) (N := 10) hx hb hts hinX2 hown hK.1 hP 0 rfl rfl 5 (by decide) hk_2 (fun _ h9 => h9) rfl dX2_endNumber_56 ?_
    refine rr_iald (f := (σ 2)) (N := 40) hx hb hK hP 2 rfl rfl (by decide) hg8 dX2_endNumber_59 ?_
    obtain ⟨v9, hw10, h⟩ := rr_b_some h
    refine rr_callI (va_runS (As := [.int (rr_i (σ 2 (σ 5 0)))]) (rest := [.int (rr_i ((σ 7 0) + 1)), .ref (ad 0)]) ⟨hx, hb, hml, hown, hts⟩ (kX2_numbersOf l g (σ 2 (σ 5 0)) v9 hw10) (va_cwS 1 hts gX2_endNumber_X2_numbersOf rfl rfl rfl hd_X2_numbersOf ⟨Nat.le_of_ble_eq_true rfl, Nat.le_of_ble_eq_true rfl⟩) ⟨rr_R_blind, rr_R_pre hK (hP.sub (ws' := ([] : va_W)) [] rfl)⟩ rfl rfl hl.1 rfl (lv_room (Nat.le_of_ble_eq_true rfl)) dX2_endNumber_60 ⟨Nat.zero_le _, Nat.zero_le _⟩) ?_
    obtain ⟨hg11, h⟩ := rr_c_some h
    refine rr_icmp_ge (tgt := 70) hx hb dX2_endNumber_63 (by decide) hg11.1 hg11.2 (fun c12 => ?_) (fun c12 => ?_)
    · rw [if_pos c12] at h
      refine rr_iconst hx hb dX2_endNumber_70 ?_
      refine va_put (D := g.1) (ci := 2) (v := .int (rr_i 3)) (ty := .int) (C := RX2) (T := TX2) (N := 10) hx hb hts hinX2 tyX2 tyX2_ok nmX2 hown hK.1 hP hD hS 0 rfl rfl 6 (by decide) hk_5 (fun _ h9 => h9) rfl (by decide +kernel) rfl rfl (Nat.le_of_ble_eq_true rfl) dX2_endNumber_71 (fun H locs hP hD hS => ?_)
      have hP : va_P g.1 vwCl (rr_wT g ad (rr_t (rr_t (rr_s σ 3 (σ 5 0) (σ 9 0)) 7 ((σ 7 0) + 1)) 6 3)) H := hP
      have hD : va_D A (rr_wT g ad (rr_t (rr_t (rr_s σ 3 (σ 5 0) (σ 9 0)) 7 ((σ 7 0) + 1)) 6 3)) := hD
      exact hret _ _ _ _ _ h hP hD hS dX2_endNumber_74
    · rw [if_neg c12] at h
      refine rr_iconst hx hb dX2_endNumber_66 ?_
      refine lv_goto (tgt := 71) hx hb dX2_endNumber_67 (by decide) ?_
      refine va_put (D := g.1) (ci := 2) (v := .int (rr_i 1)) (ty := .int) (C := RX2) (T := TX2) (N := 10) hx hb hts hinX2 tyX2 tyX2_ok nmX2 hown hK.1 hP hD hS 0 rfl rfl 6 (by decide) hk_5 (fun _ h9 => h9) rfl (by decide +kernel) rfl rfl (Nat.le_of_ble_eq_true rfl) dX2_endNumber_71 (fun H locs hP hD hS => ?_)
      have hP : va_P g.1 vwCl (rr_wT g ad (rr_t (rr_t (rr_s σ 3 (σ 5 0) (σ 9 0)) 7 ((σ 7 0) + 1)) 6 1)) H := hP
      have hD : va_D A (rr_wT g ad (rr_t (rr_t (rr_s σ 3 (σ 5 0) (σ 9 0)) 7 ((σ 7 0) + 1)) 6 1)) := hD
      exact hret _ _ _ _ _ h hP hD hS dX2_endNumber_74
-- RoomRing$Script.startsOrder
abbrev rm_X2_startsOrder : Room := { frames := 1, cells := 0, slots := 0, locals := 20 }
theorem hd_X2_startsOrder : yX2_startsOrder.cls ≠ "java/lang/invoke/MethodHandle" ∧ yX2_startsOrder.cls ≠ "java/lang/invoke/VarHandle" ∧ (parseMethodDescriptor yX2_startsOrder.desc).map (fun d => d.parameters.length) = some 1 := by decide +kernel
set_option maxHeartbeats 4000000 in
set_option maxRecDepth 100000 in
theorem kX2_startsOrder (l : Launch) (g : rr_G) (ad : Nat → Nat) (sz : Nat) (x1 : Int) (σ : rr_T) (out : (Int × rr_T)) (h : M2_startsOrder x1 σ = some out) : Met l yX2_startsOrder wsX2_startsOrder rm_X2_startsOrder (rr_P g [.ref (ad 0), .int (rr_i x1)] (rr_wT g ad σ) sz) (rr_Qi g out.1 (rr_wT g ad out.2) (va_A (rr_wT g ad σ) sz)) 0 0 (va_A (rr_wT g ad σ) sz) := by
  refine rr_rwZ (cc := cX2_startsOrder) (maxL := 2) (fun σ => rr_wT g ad σ) σ out (by decide) rfl (Nat.le_of_ble_eq_true rfl) ?_
  intro p e s m ar below meth c Q ls A hx hb hml hown hts hK hA hP hD hS hret hl
  have hP : va_P g.1 vwCl (rr_wT g ad σ) s.heap := hP
  have hD : va_D A (rr_wT g ad σ) := hD
  have hown : s.vm.findClass RX2 = some m.cls := hown
  have hl : lv_has ls 2 [(0, .ref (ad 0)), (1, .int (rr_i x1))] := hl
  have hinX2 : ∀ w ∈ u_ws RX2 TX2 10, w ∈ wsX2_startsOrder := by decide +kernel
  have hk_0 : (Cond.fieldLink RX2 28 "RoomRing$Script" "orderCount" "I").before ar s = true := hts _ (List.mem_of_getElem? (i := 1) (by decide +kernel))
  have hk_1 : (Cond.fieldLink RX2 19 "RoomRing$Script" "letters" "[I").before ar s = true := hts _ (List.mem_of_getElem? (i := 2) (by decide +kernel))
  have hk_2 : (Cond.fieldLink RX2 34 "RoomRing$Script" "numbersRead" "I").before ar s = true := hts _ (List.mem_of_getElem? (i := 3) (by decide +kernel))
  have hk_3 : (Cond.fieldLink RX2 31 "RoomRing$Script" "awaited" "I").before ar s = true := hts _ (List.mem_of_getElem? (i := 4) (by decide +kernel))
  unfold M2_startsOrder at h
  refine lv_iload_n hx hb dX2_startsOrder_0 rfl (lv_at hl 1 rfl) ?_
  obtain ⟨v1, hw2, h⟩ := rr_b_some h
  refine rr_callI (va_runS (As := [.int (rr_i x1)]) (rest := []) ⟨hx, hb, hml, hown, hts⟩ (kX2_numbersOf l g x1 v1 hw2) (va_cwS 1 hts gX2_startsOrder_X2_numbersOf rfl rfl rfl hd_X2_numbersOf ⟨Nat.le_of_ble_eq_true rfl, Nat.le_of_ble_eq_true rfl⟩) ⟨rr_R_blind, rr_R_pre hK (hP.sub (ws' := ([] : va_W)) [] rfl)⟩ rfl rfl hl.1 rfl (lv_room (Nat.le_of_ble_eq_true rfl)) dX2_startsOrder_1 ⟨Nat.zero_le _, Nat.zero_le _⟩) ?_
  obtain ⟨hg3, h⟩ := rr_c_some h
  refine rr_if_eq (tgt := 16) hx hb dX2_startsOrder_4 (by decide) hg3 (fun c4 => ?_) (fun c4 => ?_)
  · rw [if_pos c4] at h
    refine rr_iconst hx hb dX2_startsOrder_16 ?_
    exact hret _ _ _ _ _ _ h (by decide) hP hD hS dX2_startsOrder_17
  · rw [if_neg c4] at h
    refine lv_aload_n hx hb dX2_startsOrder_7 rfl (lv_at hl 0 rfl) ?_
    refine va_get (D := g.1) (ci := 2) (v := .int (rr_i (σ 5 0))) (C := RX2) (T := TX2) (N := 10) hx hb hts hinX2 hown hK.1 hP 0 rfl rfl 5 (by decide) hk_0 (fun _ h9 => h9) rfl dX2_startsOrder_8 ?_
    refine rr_bipush hx hb dX2_startsOrder_11 (by decide +kernel) ?_
    obtain ⟨hg5, h⟩ := rr_c_some h
    refine rr_icmp_lt (tgt := 18) hx hb dX2_startsOrder_13 (by decide) hg5 (by decide) (fun c6 => ?_) (fun c6 => ?_)
    · rw [if_pos c6] at h
      refine lv_aload_n hx hb dX2_startsOrder_18 rfl (lv_at hl 0 rfl) ?_
      refine va_get (D := g.1) (ci := 2) (v := .ref (ad 2)) (C := RX2) (T := TX2) (N := 10) hx hb hts hinX2 hown hK.1 hP 0 rfl rfl 2 (by decide) hk_1 (fun _ h9 => h9) rfl dX2_startsOrder_19 ?_
      refine lv_aload_n hx hb dX2_startsOrder_22 rfl (lv_at hl 0 rfl) ?_
      refine va_get (D := g.1) (ci := 2) (v := .int (rr_i (σ 5 0))) (C := RX2) (T := TX2) (N := 10) hx hb hts hinX2 hown hK.1 hP 0 rfl rfl 5 (by decide) hk_0 (fun _ h9 => h9) rfl dX2_startsOrder_23 ?_
      refine lv_iload_n hx hb dX2_startsOrder_26 rfl (lv_at hl 1 rfl) ?_
      obtain ⟨hg7, h⟩ := rr_c_some h
      refine rr_iast (f := (σ 2)) (N := 40) hx hb hK hP hD hS 2 rfl rfl (by decide) hg7 dX2_startsOrder_27 (fun H locs hP hD hS => ?_)
      have hP : va_P g.1 vwCl (rr_wT g ad (rr_s σ 2 (σ 5 0) x1)) H := hP
      have hD : va_D A (rr_wT g ad (rr_s σ 2 (σ 5 0) x1)) := hD
      refine lv_aload_n hx hb dX2_startsOrder_28 rfl (lv_at hl 0 rfl) ?_
      refine rr_iconst hx hb dX2_startsOrder_29 ?_
      refine va_put (D := g.1) (ci := 2) (v := .int (rr_i 0)) (ty := .int) (C := RX2) (T := TX2) (N := 10) hx hb hts hinX2 tyX2 tyX2_ok nmX2 hown hK.1 hP hD hS 0 rfl rfl 7 (by decide) hk_2 (fun _ h9 => h9) rfl (by decide +kernel) rfl rfl (Nat.le_of_ble_eq_true rfl) dX2_startsOrder_30 (fun H locs hP hD hS => ?_)
      have hP : va_P g.1 vwCl (rr_wT g ad (rr_t (rr_s σ 2 (σ 5 0) x1) 7 0)) H := hP
      have hD : va_D A (rr_wT g ad (rr_t (rr_s σ 2 (σ 5 0) x1) 7 0)) := hD
      refine lv_aload_n hx hb dX2_startsOrder_33 rfl (lv_at hl 0 rfl) ?_
      refine rr_iconst hx hb dX2_startsOrder_34 ?_
      refine va_put (D := g.1) (ci := 2) (v := .int (rr_i 1)) (ty := .int) (C := RX2) (T := TX2) (N := 10) hx hb hts hinX2 tyX2 tyX2_ok nmX2 hown hK.1 hP hD hS 0 rfl rfl 6 (by decide) hk_3 (fun _ h9 => h9) rfl (by decide +kernel) rfl rfl (Nat.le_of_ble_eq_true rfl) dX2_startsOrder_35 (fun H locs hP hD hS => ?_)
      have hP : va_P g.1 vwCl (rr_wT g ad (rr_t (rr_t (rr_s σ 2 (σ 5 0) x1) 7 0) 6 1)) H := hP
      have hD : va_D A (rr_wT g ad (rr_t (rr_t (rr_s σ 2 (σ 5 0) x1) 7 0) 6 1)) := hD
      refine rr_iconst hx hb dX2_startsOrder_38 ?_
      exact hret _ _ _ _ _ _ h (by decide) hP hD hS dX2_startsOrder_39
    · rw [if_neg c6] at h
      refine rr_iconst hx hb dX2_startsOrder_16 ?_
      exact hret _ _ _ _ _ _ h (by decide) hP hD hS dX2_startsOrder_17
-- RoomRing$Script.startsNumber
abbrev rm_X2_startsNumber : Room := { frames := 1, cells := 0, slots := 0, locals := 21 }
theorem hd_X2_startsNumber : yX2_startsNumber.cls ≠ "java/lang/invoke/MethodHandle" ∧ yX2_startsNumber.cls ≠ "java/lang/invoke/VarHandle" ∧ (parseMethodDescriptor yX2_startsNumber.desc).map (fun d => d.parameters.length) = some 1 := by decide +kernel
set_option maxHeartbeats 4000000 in
set_option maxRecDepth 100000 in
theorem kX2_startsNumber (l : Launch) (g : rr_G) (ad : Nat → Nat) (sz : Nat) (x1 : Int) (σ : rr_T) (out : (Int × rr_T)) (h : M2_startsNumber x1 σ = some out) : Met l yX2_startsNumber wsX2_startsNumber rm_X2_startsNumber (rr_P g [.ref (ad 0), .int (rr_i x1)] (rr_wT g ad σ) sz) (rr_Qi g out.1 (rr_wT g ad out.2) (va_A (rr_wT g ad σ) sz)) 0 0 (va_A (rr_wT g ad σ) sz) := by
  refine rr_rwZ (cc := cX2_startsNumber) (maxL := 2) (fun σ => rr_wT g ad σ) σ out (by decide) rfl (Nat.le_of_ble_eq_true rfl) ?_
  intro p e s m ar below meth c Q ls A hx hb hml hown hts hK hA hP hD hS hret hl
  have hP : va_P g.1 vwCl (rr_wT g ad σ) s.heap := hP
  have hD : va_D A (rr_wT g ad σ) := hD
  have hown : s.vm.findClass RX2 = some m.cls := hown
  have hl : lv_has ls 2 [(0, .ref (ad 0)), (1, .int (rr_i x1))] := hl
  have hinX2 : ∀ w ∈ u_ws RX2 TX2 10, w ∈ wsX2_startsNumber := by decide +kernel
  have hk_0 : (Cond.fieldLink RX2 40 "RoomRing$Script" "number" "I").before ar s = true := hts _ (List.mem_of_getElem? (i := 1) (by decide +kernel))
  have hk_1 : (Cond.fieldLink RX2 37 "RoomRing$Script" "figures" "I").before ar s = true := hts _ (List.mem_of_getElem? (i := 2) (by decide +kernel))
  have hk_2 : (Cond.fieldLink RX2 31 "RoomRing$Script" "awaited" "I").before ar s = true := hts _ (List.mem_of_getElem? (i := 3) (by decide +kernel))
  unfold M2_startsNumber at h
  refine lv_iload_n hx hb dX2_startsNumber_0 rfl (lv_at hl 1 rfl) ?_
  obtain ⟨v1, hw2, h⟩ := rr_b_some h
  refine rr_callI (va_runS (As := [.int (rr_i x1)]) (rest := []) ⟨hx, hb, hml, hown, hts⟩ (kX2_isFigure l g x1 v1 hw2) (va_cwS 1 hts gX2_startsNumber_X2_isFigure rfl rfl rfl hd_X2_isFigure ⟨Nat.le_of_ble_eq_true rfl, Nat.le_of_ble_eq_true rfl⟩) ⟨rr_R_blind, rr_R_pre hK (hP.sub (ws' := ([] : va_W)) [] rfl)⟩ rfl rfl hl.1 rfl (lv_room (Nat.le_of_ble_eq_true rfl)) dX2_startsNumber_1 ⟨Nat.zero_le _, Nat.zero_le _⟩) ?_
  obtain ⟨hg3, h⟩ := rr_c_some h
  refine rr_if_ne (tgt := 9) hx hb dX2_startsNumber_4 (by decide) hg3 (fun c4 => ?_) (fun c4 => ?_)
  · rw [if_neg c4] at h
    refine lv_aload_n hx hb dX2_startsNumber_9 rfl (lv_at hl 0 rfl) ?_
    refine rr_iconst hx hb dX2_startsNumber_10 ?_
    refine va_put (D := g.1) (ci := 2) (v := .int (rr_i 0)) (ty := .int) (C := RX2) (T := TX2) (N := 10) hx hb hts hinX2 tyX2 tyX2_ok nmX2 hown hK.1 hP hD hS 0 rfl rfl 9 (by decide) hk_0 (fun _ h9 => h9) rfl (by decide +kernel) rfl rfl (Nat.le_of_ble_eq_true rfl) dX2_startsNumber_11 (fun H locs hP hD hS => ?_)
    have hP : va_P g.1 vwCl (rr_wT g ad (rr_t σ 9 0)) H := hP
    have hD : va_D A (rr_wT g ad (rr_t σ 9 0)) := hD
    refine lv_aload_n hx hb dX2_startsNumber_14 rfl (lv_at hl 0 rfl) ?_
    refine rr_iconst hx hb dX2_startsNumber_15 ?_
    refine va_put (D := g.1) (ci := 2) (v := .int (rr_i 0)) (ty := .int) (C := RX2) (T := TX2) (N := 10) hx hb hts hinX2 tyX2 tyX2_ok nmX2 hown hK.1 hP hD hS 0 rfl rfl 8 (by decide) hk_1 (fun _ h9 => h9) rfl (by decide +kernel) rfl rfl (Nat.le_of_ble_eq_true rfl) dX2_startsNumber_16 (fun H locs hP hD hS => ?_)
    have hP : va_P g.1 vwCl (rr_wT g ad (rr_t (rr_t σ 9 0) 8 0)) H := hP
    have hD : va_D A (rr_wT g ad (rr_t (rr_t σ 9 0) 8 0)) := hD
    refine lv_aload_n hx hb dX2_startsNumber_19 rfl (lv_at hl 0 rfl) ?_
    refine rr_iconst hx hb dX2_startsNumber_20 ?_
    refine va_put (D := g.1) (ci := 2) (v := .int (rr_i 2)) (ty := .int) (C := RX2) (T := TX2) (N := 10) hx hb hts hinX2 tyX2 tyX2_ok nmX2 hown hK.1 hP hD hS 0 rfl rfl 6 (by decide) hk_2 (fun _ h9 => h9) rfl (by decide +kernel) rfl rfl (Nat.le_of_ble_eq_true rfl) dX2_startsNumber_21 (fun H locs hP hD hS => ?_)
    have hP : va_P g.1 vwCl (rr_wT g ad (rr_t (rr_t (rr_t σ 9 0) 8 0) 6 2)) H := hP
    have hD : va_D A (rr_wT g ad (rr_t (rr_t (rr_t σ 9 0) 8 0) 6 2)) := hD
    refine lv_aload_n hx hb dX2_startsNumber_24 rfl (lv_at hl 0 rfl) ?_
    refine lv_iload_n hx hb dX2_startsNumber_25 rfl (lv_at hl 1 rfl) ?_
    obtain ⟨v5, hw6, h⟩ := rr_b_some h
    refine rr_allI hD hS hA (va_runV (As := [.int (rr_i x1)]) (rest := []) ⟨hx, hb, hml, hown, hts⟩ (kX2_addsFigure l g ad _ x1 (rr_t (rr_t (rr_t σ 9 0) 8 0) 6 2) v5 hw6) (cwV 1 hts gX2_startsNumber_X2_addsFigure rfl rfl rfl ⟨rfl, hd_X2_addsFigure⟩ ⟨Nat.le_of_ble_eq_true rfl, Nat.le_of_ble_eq_true rfl⟩) ⟨rr_P_blind, va_recv hK.1 hP (ci := 2) (q0 := 0) rfl rfl, rr_P_pre hK hP hD⟩ rfl rfl hl.1 rfl (lv_room (Nat.le_of_ble_eq_true rfl)) dX2_startsNumber_26 ⟨Nat.zero_le _, Nat.zero_le _⟩) (fun H locs hP hD hS => ?_)
    obtain ⟨hg7, h⟩ := rr_c_some h
    exact hret _ _ _ _ _ _ h hg7 hP hD hS dX2_startsNumber_29
  · rw [if_pos c4] at h
    refine rr_iconst hx hb dX2_startsNumber_7 ?_
    exact hret _ _ _ _ _ _ h (by decide) hP hD hS dX2_startsNumber_8
-- RoomRing$Script.endsOrder
abbrev rm_X2_endsOrder : Room := { frames := 0, cells := 0, slots := 0, locals := 0 }
theorem hd_X2_endsOrder : yX2_endsOrder.cls ≠ "java/lang/invoke/MethodHandle" ∧ yX2_endsOrder.cls ≠ "java/lang/invoke/VarHandle" ∧ (parseMethodDescriptor yX2_endsOrder.desc).map (fun d => d.parameters.length) = some 1 := by decide +kernel
set_option maxHeartbeats 4000000 in
set_option maxRecDepth 100000 in
theorem kX2_endsOrder (l : Launch) (g : rr_G) (ad : Nat → Nat) (sz : Nat) (x1 : Int) (σ : rr_T) (out : (Int × rr_T)) (h : M2_endsOrder x1 σ = some out) : Met l yX2_endsOrder wsX2_endsOrder rm_X2_endsOrder (rr_P g [.ref (ad 0), .int (rr_i x1)] (rr_wT g ad σ) sz) (rr_Qi g out.1 (rr_wT g ad out.2) (va_A (rr_wT g ad σ) sz)) 0 0 (va_A (rr_wT g ad σ) sz) := by
  refine rr_rwZ (cc := cX2_endsOrder) (maxL := 2) (fun σ => rr_wT g ad σ) σ out (by decide) rfl (Nat.le_of_ble_eq_true rfl) ?_
  intro p e s m ar below meth c Q ls A hx hb hml hown hts hK hA hP hD hS hret hl
  have hP : va_P g.1 vwCl (rr_wT g ad σ) s.heap := hP
  have hD : va_D A (rr_wT g ad σ) := hD
  have hown : s.vm.findClass RX2 = some m.cls := hown
  have hl : lv_has ls 2 [(0, .ref (ad 0)), (1, .int (rr_i x1))] := hl
  have hinX2 : ∀ w ∈ u_ws RX2 TX2 10, w ∈ wsX2_endsOrder := by decide +kernel
  have hk_0 : (Cond.fieldLink RX2 28 "RoomRing$Script" "orderCount" "I").before ar s = true := hts _ (List.mem_of_getElem? (i := 1) (by decide +kernel))
  have hk_1 : (Cond.fieldLink RX2 31 "RoomRing$Script" "awaited" "I").before ar s = true := hts _ (List.mem_of_getElem? (i := 2) (by decide +kernel))
  unfold M2_endsOrder at h
  refine lv_iload_n hx hb dX2_endsOrder_0 rfl (lv_at hl 1 rfl) ?_
  refine rr_bipush hx hb dX2_endsOrder_1 (by decide +kernel) ?_
  obtain ⟨hg1, h⟩ := rr_c_some h
  refine rr_icmp_eq (tgt := 8) hx hb dX2_endsOrder_3 (by decide) hg1 (by decide) (fun c2 => ?_) (fun c2 => ?_)
  · rw [if_pos c2] at h
    refine lv_aload_n hx hb dX2_endsOrder_8 rfl (lv_at hl 0 rfl) ?_
    refine lv_dup hx hb dX2_endsOrder_9 rfl ?_
    refine va_get (D := g.1) (ci := 2) (v := .int (rr_i (σ 5 0))) (C := RX2) (T := TX2) (N := 10) hx hb hts hinX2 hown hK.1 hP 0 rfl rfl 5 (by decide) hk_0 (fun _ h9 => h9) rfl dX2_endsOrder_10 ?_
    refine rr_iconst hx hb dX2_endsOrder_13 ?_
    refine rr_iadd hx hb dX2_endsOrder_14 ?_
    refine va_put (D := g.1) (ci := 2) (v := .int (rr_i ((σ 5 0) + 1))) (ty := .int) (C := RX2) (T := TX2) (N := 10) hx hb hts hinX2 tyX2 tyX2_ok nmX2 hown hK.1 hP hD hS 0 rfl rfl 5 (by decide) hk_0 (fun _ h9 => h9) rfl (by decide +kernel) rfl rfl (Nat.le_of_ble_eq_true rfl) dX2_endsOrder_15 (fun H locs hP hD hS => ?_)
    have hP : va_P g.1 vwCl (rr_wT g ad (rr_t σ 5 ((σ 5 0) + 1))) H := hP
    have hD : va_D A (rr_wT g ad (rr_t σ 5 ((σ 5 0) + 1))) := hD
    refine lv_aload_n hx hb dX2_endsOrder_18 rfl (lv_at hl 0 rfl) ?_
    refine rr_iconst hx hb dX2_endsOrder_19 ?_
    refine va_put (D := g.1) (ci := 2) (v := .int (rr_i 0)) (ty := .int) (C := RX2) (T := TX2) (N := 10) hx hb hts hinX2 tyX2 tyX2_ok nmX2 hown hK.1 hP hD hS 0 rfl rfl 6 (by decide) hk_1 (fun _ h9 => h9) rfl (by decide +kernel) rfl rfl (Nat.le_of_ble_eq_true rfl) dX2_endsOrder_20 (fun H locs hP hD hS => ?_)
    have hP : va_P g.1 vwCl (rr_wT g ad (rr_t (rr_t σ 5 ((σ 5 0) + 1)) 6 0)) H := hP
    have hD : va_D A (rr_wT g ad (rr_t (rr_t σ 5 ((σ 5 0) + 1)) 6 0)) := hD
    refine rr_iconst hx hb dX2_endsOrder_23 ?_
    exact hret _ _ _ _ _ _ h (by decide) hP hD hS dX2_endsOrder_24
  · rw [if_neg c2] at h
    refine rr_iconst hx hb dX2_endsOrder_6 ?_
    exact hret _ _ _ _ _ _ h (by decide) hP hD hS dX2_endsOrder_7
-- RoomRing$Script.accepts
abbrev rm_X2_accepts : Room := { frames := 2, cells := 0, slots := 0, locals := 42 }
theorem hd_X2_accepts : yX2_accepts.cls ≠ "java/lang/invoke/MethodHandle" ∧ yX2_accepts.cls ≠ "java/lang/invoke/VarHandle" ∧ (parseMethodDescriptor yX2_accepts.desc).map (fun d => d.parameters.length) = some 1 := by decide +kernel
set_option maxHeartbeats 4000000 in
set_option maxRecDepth 100000 in
theorem kX2_accepts (l : Launch) (g : rr_G) (ad : Nat → Nat) (sz : Nat) (x1 : Int) (σ : rr_T) (out : (Int × rr_T)) (h : M2_accepts x1 σ = some out) : Met l yX2_accepts wsX2_accepts rm_X2_accepts (rr_P g [.ref (ad 0), .int (rr_i x1)] (rr_wT g ad σ) sz) (rr_Qi g out.1 (rr_wT g ad out.2) (va_A (rr_wT g ad σ) sz)) 0 0 (va_A (rr_wT g ad σ) sz) := by
  refine rr_rwZ (cc := cX2_accepts) (maxL := 2) (fun σ => rr_wT g ad σ) σ out (by decide) rfl (Nat.le_of_ble_eq_true rfl) ?_
  intro p e s m ar below meth c Q ls A hx hb hml hown hts hK hA hP hD hS hret hl
  have hP : va_P g.1 vwCl (rr_wT g ad σ) s.heap := hP
  have hD : va_D A (rr_wT g ad σ) := hD
  have hown : s.vm.findClass RX2 = some m.cls := hown
  have hl : lv_has ls 2 [(0, .ref (ad 0)), (1, .int (rr_i x1))] := hl
  have hinX2 : ∀ w ∈ u_ws RX2 TX2 10, w ∈ wsX2_accepts := by decide +kernel
  have hk_0 : (Cond.fieldLink RX2 31 "RoomRing$Script" "awaited" "I").before ar s = true := hts _ (List.mem_of_getElem? (i := 1) (by decide +kernel))
  unfold M2_accepts at h
  refine lv_aload_n hx hb dX2_accepts_0 rfl (lv_at hl 0 rfl) ?_
  refine va_get (D := g.1) (ci := 2) (v := .int (rr_i (σ 6 0))) (C := RX2) (T := TX2) (N := 10) hx hb hts hinX2 hown hK.1 hP 0 rfl rfl 6 (by decide) hk_0 (fun _ h9 => h9) rfl dX2_accepts_1 ?_
  refine rr_iconst hx hb dX2_accepts_4 ?_
  obtain ⟨hg1, h⟩ := rr_c_some h
  refine rr_icmp_ne (tgt := 25) hx hb dX2_accepts_5 (by decide) hg1 (by decide) (fun c2 => ?_) (fun c2 => ?_)
  · rw [if_neg c2] at h
    refine lv_iload_n hx hb dX2_accepts_25 rfl (lv_at hl 1 rfl) ?_
    refine rr_bipush hx hb dX2_accepts_26 (by decide +kernel) ?_
    obtain ⟨hg3, h⟩ := rr_c_some h
    refine rr_icmp_ne (tgt := 33) hx hb dX2_accepts_28 (by decide) hg3 (by decide) (fun c4 => ?_) (fun c4 => ?_)
    · rw [if_neg c4] at h
      refine lv_aload_n hx hb dX2_accepts_33 rfl (lv_at hl 0 rfl) ?_
      refine va_get (D := g.1) (ci := 2) (v := .int (rr_i (σ 6 0))) (C := RX2) (T := TX2) (N := 10) hx hb hts hinX2 hown hK.1 hP 0 rfl rfl 6 (by decide) hk_0 (fun _ h9 => h9) rfl dX2_accepts_34 ?_
      have hv5 : (rr_i (σ 6 0)).toInt = (σ 6 0) := rr_to_i hg1
      by_cases c6 : (σ 6 0) = 0
      · rw [if_pos c6] at h
        refine lv_lookup (off := 27) (tgt := 64) hx hb dX2_accepts_37 (by decide) (by rw [hv5, c6]; decide) (by decide) ?_
        refine lv_aload_n hx hb dX2_accepts_64 rfl (lv_at hl 0 rfl) ?_
        refine lv_iload_n hx hb dX2_accepts_65 rfl (lv_at hl 1 rfl) ?_
        obtain ⟨v7, hw8, h⟩ := rr_b_some h
        refine rr_allI hD hS hA (va_runV (As := [.int (rr_i x1)]) (rest := []) ⟨hx, hb, hml, hown, hts⟩ (kX2_startsOrder l g ad _ x1 σ v7 hw8) (cwV 1 hts gX2_accepts_X2_startsOrder rfl rfl rfl ⟨rfl, hd_X2_startsOrder⟩ ⟨Nat.le_of_ble_eq_true rfl, Nat.le_of_ble_eq_true rfl⟩) ⟨rr_P_blind, va_recv hK.1 hP (ci := 2) (q0 := 0) rfl rfl, rr_P_pre hK hP hD⟩ rfl rfl hl.1 rfl (lv_room (Nat.le_of_ble_eq_true rfl)) dX2_accepts_66 ⟨Nat.zero_le _, Nat.zero_le _⟩) (fun H locs hP hD hS => ?_)
        obtain ⟨hg9, h⟩ := rr_c_some h
        exact hret _ _ _ _ _ _ h hg9 hP hD hS dX2_accepts_69
      · rw [if_neg c6] at h
        by_cases c10 : (σ 6 0) = 1
        · rw [if_pos c10] at h
          refine lv_lookup (off := 33) (tgt := 70) hx hb dX2_accepts_37 (by decide) (by rw [hv5, c10]; decide) (by decide) ?_
          refine lv_aload_n hx hb dX2_accepts_70 rfl (lv_at hl 0 rfl) ?_
          refine lv_iload_n hx hb dX2_accepts_71 rfl (lv_at hl 1 rfl) ?_
          obtain ⟨v11, hw12, h⟩ := rr_b_some h
          refine rr_allI hD hS hA (va_runV (As := [.int (rr_i x1)]) (rest := []) ⟨hx, hb, hml, hown, hts⟩ (kX2_startsNumber l g ad _ x1 σ v11 hw12) (cwV 1 hts gX2_accepts_X2_startsNumber rfl rfl rfl ⟨rfl, hd_X2_startsNumber⟩ ⟨Nat.le_of_ble_eq_true rfl, Nat.le_of_ble_eq_true rfl⟩) ⟨rr_P_blind, va_recv hK.1 hP (ci := 2) (q0 := 0) rfl rfl, rr_P_pre hK hP hD⟩ rfl rfl hl.1 rfl (lv_room (Nat.le_of_ble_eq_true rfl)) dX2_accepts_72 ⟨Nat.zero_le _, Nat.zero_le _⟩) (fun H locs hP hD hS => ?_)
          obtain ⟨hg13, h⟩ := rr_c_some h
          exact hret _ _ _ _ _ _ h hg13 hP hD hS dX2_accepts_75
        · rw [if_neg c10] at h
          refine lv_lookup (off := 39) (tgt := 76) hx hb dX2_accepts_37 (by decide) (by rw [hv5]; simp [Op.lookupswitch.offset, Ne.symm c6, Ne.symm c10]) (by decide) ?_
          refine lv_aload_n hx hb dX2_accepts_76 rfl (lv_at hl 0 rfl) ?_
          refine lv_iload_n hx hb dX2_accepts_77 rfl (lv_at hl 1 rfl) ?_
          obtain ⟨v14, hw15, h⟩ := rr_b_some h
          refine rr_allI hD hS hA (va_runV (As := [.int (rr_i x1)]) (rest := []) ⟨hx, hb, hml, hown, hts⟩ (kX2_endsOrder l g ad _ x1 σ v14 hw15) (cwV 1 hts gX2_accepts_X2_endsOrder rfl rfl rfl ⟨rfl, hd_X2_endsOrder⟩ ⟨Nat.le_of_ble_eq_true rfl, Nat.le_of_ble_eq_true rfl⟩) ⟨rr_P_blind, va_recv hK.1 hP (ci := 2) (q0 := 0) rfl rfl, rr_P_pre hK hP hD⟩ rfl rfl hl.1 rfl (lv_room (Nat.le_of_ble_eq_true rfl)) dX2_accepts_78 ⟨Nat.zero_le _, Nat.zero_le _⟩) (fun H locs hP hD hS => ?_)
          obtain ⟨hg16, h⟩ := rr_c_some h
          exact hret _ _ _ _ _ _ h hg16 hP hD hS dX2_accepts_81
    · rw [if_pos c4] at h
      refine rr_iconst hx hb dX2_accepts_31 ?_
      exact hret _ _ _ _ _ _ h (by decide) hP hD hS dX2_accepts_32
  · rw [if_pos c2] at h
    refine lv_iload_n hx hb dX2_accepts_8 rfl (lv_at hl 1 rfl) ?_
    obtain ⟨v17, hw18, h⟩ := rr_b_some h
    refine rr_callI (va_runS (As := [.int (rr_i x1)]) (rest := []) ⟨hx, hb, hml, hown, hts⟩ (kX2_isFigure l g x1 v17 hw18) (va_cwS 1 hts gX2_accepts_X2_isFigure rfl rfl rfl hd_X2_isFigure ⟨Nat.le_of_ble_eq_true rfl, Nat.le_of_ble_eq_true rfl⟩) ⟨rr_R_blind, rr_R_pre hK (hP.sub (ws' := ([] : va_W)) [] rfl)⟩ rfl rfl hl.1 rfl (lv_room (Nat.le_of_ble_eq_true rfl)) dX2_accepts_9 ⟨Nat.zero_le _, Nat.zero_le _⟩) ?_
    obtain ⟨hg19, h⟩ := rr_c_some h
    refine rr_if_eq (tgt := 21) hx hb dX2_accepts_12 (by decide) hg19 (fun c20 => ?_) (fun c20 => ?_)
    · rw [if_pos c20] at h
      refine lv_aload_n hx hb dX2_accepts_21 rfl (lv_at hl 0 rfl) ?_
      obtain ⟨v21, hw22, h⟩ := rr_b_some h
      refine rr_allV hD hS hA (va_runV (As := []) (rest := []) ⟨hx, hb, hml, hown, hts⟩ (kX2_endNumber l g ad _ σ v21 hw22) (cwV 0 hts gX2_accepts_X2_endNumber rfl rfl rfl ⟨rfl, hd_X2_endNumber⟩ ⟨Nat.le_of_ble_eq_true rfl, Nat.le_of_ble_eq_true rfl⟩) ⟨rr_P_blind, va_recv hK.1 hP (ci := 2) (q0 := 0) rfl rfl, rr_P_pre hK hP hD⟩ rfl rfl hl.1 rfl (lv_room (Nat.le_of_ble_eq_true rfl)) dX2_accepts_22 ⟨Nat.zero_le _, Nat.zero_le _⟩) (fun H locs hP hD hS => ?_)
      refine lv_iload_n hx hb dX2_accepts_25 rfl (lv_at hl 1 rfl) ?_
      refine rr_bipush hx hb dX2_accepts_26 (by decide +kernel) ?_
      obtain ⟨hg23, h⟩ := rr_c_some h
      refine rr_icmp_ne (tgt := 33) hx hb dX2_accepts_28 (by decide) hg23 (by decide) (fun c24 => ?_) (fun c24 => ?_)
      · rw [if_neg c24] at h
        refine lv_aload_n hx hb dX2_accepts_33 rfl (lv_at hl 0 rfl) ?_
        refine va_get (D := g.1) (ci := 2) (v := .int (rr_i (v21 6 0))) (C := RX2) (T := TX2) (N := 10) hx hb hts hinX2 hown hK.1 hP 0 rfl rfl 6 (by decide) hk_0 (fun _ h9 => h9) rfl dX2_accepts_34 ?_
        obtain ⟨hg25, h⟩ := rr_c_some h
        have hv26 : (rr_i (v21 6 0)).toInt = (v21 6 0) := rr_to_i hg25
        by_cases c27 : (v21 6 0) = 0
        · rw [if_pos c27] at h
          refine lv_lookup (off := 27) (tgt := 64) hx hb dX2_accepts_37 (by decide) (by rw [hv26, c27]; decide) (by decide) ?_
          refine lv_aload_n hx hb dX2_accepts_64 rfl (lv_at hl 0 rfl) ?_
          refine lv_iload_n hx hb dX2_accepts_65 rfl (lv_at hl 1 rfl) ?_
          obtain ⟨v28, hw29, h⟩ := rr_b_some h
          refine rr_allI hD hS hA (va_runV (As := [.int (rr_i x1)]) (rest := []) ⟨hx, hb, hml, hown, hts⟩ (kX2_startsOrder l g ad _ x1 v21 v28 hw29) (cwV 1 hts gX2_accepts_X2_startsOrder rfl rfl rfl ⟨rfl, hd_X2_startsOrder⟩ ⟨Nat.le_of_ble_eq_true rfl, Nat.le_of_ble_eq_true rfl⟩) ⟨rr_P_blind, va_recv hK.1 hP (ci := 2) (q0 := 0) rfl rfl, rr_P_pre hK hP hD⟩ rfl rfl hl.1 rfl (lv_room (Nat.le_of_ble_eq_true rfl)) dX2_accepts_66 ⟨Nat.zero_le _, Nat.zero_le _⟩) (fun H locs hP hD hS => ?_)
          obtain ⟨hg30, h⟩ := rr_c_some h
          exact hret _ _ _ _ _ _ h hg30 hP hD hS dX2_accepts_69
        · rw [if_neg c27] at h
          by_cases c31 : (v21 6 0) = 1
          · rw [if_pos c31] at h
            refine lv_lookup (off := 33) (tgt := 70) hx hb dX2_accepts_37 (by decide) (by rw [hv26, c31]; decide) (by decide) ?_
            refine lv_aload_n hx hb dX2_accepts_70 rfl (lv_at hl 0 rfl) ?_
            refine lv_iload_n hx hb dX2_accepts_71 rfl (lv_at hl 1 rfl) ?_
            obtain ⟨v32, hw33, h⟩ := rr_b_some h
            refine rr_allI hD hS hA (va_runV (As := [.int (rr_i x1)]) (rest := []) ⟨hx, hb, hml, hown, hts⟩ (kX2_startsNumber l g ad _ x1 v21 v32 hw33) (cwV 1 hts gX2_accepts_X2_startsNumber rfl rfl rfl ⟨rfl, hd_X2_startsNumber⟩ ⟨Nat.le_of_ble_eq_true rfl, Nat.le_of_ble_eq_true rfl⟩) ⟨rr_P_blind, va_recv hK.1 hP (ci := 2) (q0 := 0) rfl rfl, rr_P_pre hK hP hD⟩ rfl rfl hl.1 rfl (lv_room (Nat.le_of_ble_eq_true rfl)) dX2_accepts_72 ⟨Nat.zero_le _, Nat.zero_le _⟩) (fun H locs hP hD hS => ?_)
            obtain ⟨hg34, h⟩ := rr_c_some h
            exact hret _ _ _ _ _ _ h hg34 hP hD hS dX2_accepts_75
          · rw [if_neg c31] at h
            refine lv_lookup (off := 39) (tgt := 76) hx hb dX2_accepts_37 (by decide) (by rw [hv26]; simp [Op.lookupswitch.offset, Ne.symm c27, Ne.symm c31]) (by decide) ?_
            refine lv_aload_n hx hb dX2_accepts_76 rfl (lv_at hl 0 rfl) ?_
            refine lv_iload_n hx hb dX2_accepts_77 rfl (lv_at hl 1 rfl) ?_
            obtain ⟨v35, hw36, h⟩ := rr_b_some h
            refine rr_allI hD hS hA (va_runV (As := [.int (rr_i x1)]) (rest := []) ⟨hx, hb, hml, hown, hts⟩ (kX2_endsOrder l g ad _ x1 v21 v35 hw36) (cwV 1 hts gX2_accepts_X2_endsOrder rfl rfl rfl ⟨rfl, hd_X2_endsOrder⟩ ⟨Nat.le_of_ble_eq_true rfl, Nat.le_of_ble_eq_true rfl⟩) ⟨rr_P_blind, va_recv hK.1 hP (ci := 2) (q0 := 0) rfl rfl, rr_P_pre hK hP hD⟩ rfl rfl hl.1 rfl (lv_room (Nat.le_of_ble_eq_true rfl)) dX2_accepts_78 ⟨Nat.zero_le _, Nat.zero_le _⟩) (fun H locs hP hD hS => ?_)
            obtain ⟨hg37, h⟩ := rr_c_some h
            exact hret _ _ _ _ _ _ h hg37 hP hD hS dX2_accepts_81
      · rw [if_pos c24] at h
        refine rr_iconst hx hb dX2_accepts_31 ?_
        exact hret _ _ _ _ _ _ h (by decide) hP hD hS dX2_accepts_32
    · rw [if_neg c20] at h
      refine lv_aload_n hx hb dX2_accepts_15 rfl (lv_at hl 0 rfl) ?_
      refine lv_iload_n hx hb dX2_accepts_16 rfl (lv_at hl 1 rfl) ?_
      obtain ⟨v38, hw39, h⟩ := rr_b_some h
      refine rr_allI hD hS hA (va_runV (As := [.int (rr_i x1)]) (rest := []) ⟨hx, hb, hml, hown, hts⟩ (kX2_addsFigure l g ad _ x1 σ v38 hw39) (cwV 1 hts gX2_accepts_X2_addsFigure rfl rfl rfl ⟨rfl, hd_X2_addsFigure⟩ ⟨Nat.le_of_ble_eq_true rfl, Nat.le_of_ble_eq_true rfl⟩) ⟨rr_P_blind, va_recv hK.1 hP (ci := 2) (q0 := 0) rfl rfl, rr_P_pre hK hP hD⟩ rfl rfl hl.1 rfl (lv_room (Nat.le_of_ble_eq_true rfl)) dX2_accepts_17 ⟨Nat.zero_le _, Nat.zero_le _⟩) (fun H locs hP hD hS => ?_)
      obtain ⟨hg40, h⟩ := rr_c_some h
      exact hret _ _ _ _ _ _ h hg40 hP hD hS dX2_accepts_20
-- RoomRing$Script.read
abbrev rm_X2_read : Room := { frames := 3, cells := 0, slots := 0, locals := 63 }
theorem hd_X2_read : yX2_read.cls ≠ "java/lang/invoke/MethodHandle" ∧ yX2_read.cls ≠ "java/lang/invoke/VarHandle" ∧ (parseMethodDescriptor yX2_read.desc).map (fun d => d.parameters.length) = some 0 := by decide +kernel
set_option maxHeartbeats 4000000 in
set_option maxRecDepth 100000 in
theorem kX2_read (l : Launch) (g : rr_G) (ad : Nat → Nat) (sz : Nat) (σ : rr_T) (out : (Int × rr_T)) (h : M2_read σ = some out) : Met l yX2_read wsX2_read rm_X2_read (rr_P g [.ref (ad 0)] (rr_wT g ad σ) sz) (rr_Qi g out.1 (rr_wT g ad out.2) (va_A (rr_wT g ad σ) sz)) 0 0 (va_A (rr_wT g ad σ) sz) := by
  refine rr_rwI (cc := cX2_read) (maxL := 2) (fun σ => rr_wT g ad σ) σ out (by decide) rfl (Nat.le_of_ble_eq_true rfl) ?_
  intro p e s m ar below meth c Q ls A hx hb hml hown hts hK hA hP hD hS hret hl
  have hP : va_P g.1 vwCl (rr_wT g ad σ) s.heap := hP
  have hD : va_D A (rr_wT g ad σ) := hD
  have hown : s.vm.findClass RX2 = some m.cls := hown
  have hl : lv_has ls 2 [(0, .ref (ad 0))] := hl
  have hinX2 : ∀ w ∈ u_ws RX2 TX2 10, w ∈ wsX2_read := by decide +kernel
  have hk_0 : (Cond.fieldLink RX2 28 "RoomRing$Script" "orderCount" "I").before ar s = true := hts _ (List.mem_of_getElem? (i := 1) (by decide +kernel))
  have hk_1 : (Cond.fieldLink RX2 31 "RoomRing$Script" "awaited" "I").before ar s = true := hts _ (List.mem_of_getElem? (i := 2) (by decide +kernel))
  have hk_2 : (Cond.fieldLink RX2 15 "RoomRing$Script" "length" "I").before ar s = true := hts _ (List.mem_of_getElem? (i := 3) (by decide +kernel))
  have hk_3 : (Cond.fieldLink RX2 9 "RoomRing$Script" "bytes" "[I").before ar s = true := hts _ (List.mem_of_getElem? (i := 4) (by decide +kernel))
  unfold M2_read at h
  have hL2_read_12 : ∀ (K : rr_T → Option (Int × rr_T)) (n : Nat) (x1 : Int) (σ : rr_T) (H : Heap) (locs : List Loc) (ls : Array Slot), L2_read_12 K n x1 σ = some out → va_P g.1 vwCl (rr_wT g ad σ) H → va_D A (rr_wT g ad σ) → va_S A s.heap H locs → lv_has ls 2 [(0, .ref (ad 0)), (1, .int (rr_i x1))] → (∀ (τ9 : rr_T) (H : Heap) (locs : List Loc) (ls : Array Slot), K τ9 = some out → va_P g.1 vwCl (rr_wT g ad τ9) H → va_D A (rr_wT g ad τ9) → va_S A s.heap H locs → lv_has ls 2 [(0, .ref (ad 0))] → W p l e rm_X2_read s m ar below meth c H locs 0 0 Q (F0 m 41 ls [])) → W p l e rm_X2_read s m ar below meth c H locs 0 0 Q (F0 m 12 ls []) := by
    intro K n
    induction n with
    | zero => intro x1 σ H locs ls h hP hD hS hl hk; cases h
    | succ n ih =>
      intro x1 σ H locs ls h hP hD hS hl hk
      rw [L2_read_12_s] at h
      refine lv_iload_n hx hb dX2_read_12 rfl (lv_at hl 1 rfl) ?_
      refine lv_aload_n hx hb dX2_read_13 rfl (lv_at hl 0 rfl) ?_
      refine va_get (D := g.1) (ci := 2) (v := .int (rr_i (σ 1 0))) (C := RX2) (T := TX2) (N := 10) hx hb hts hinX2 hown hK.1 hP 0 rfl rfl 1 (by decide) hk_2 (fun _ h9 => h9) rfl dX2_read_14 ?_
      obtain ⟨hg1, h⟩ := rr_c_some h
      refine rr_icmp_ge (tgt := 41) hx hb dX2_read_17 (by decide) hg1.1 hg1.2 (fun c2 => ?_) (fun c2 => ?_)
      · rw [if_pos c2] at h
        exact hk σ _ _ ls h hP hD hS (lv_sub hl [0] rfl)
      · rw [if_neg c2] at h
        refine lv_aload_n hx hb dX2_read_20 rfl (lv_at hl 0 rfl) ?_
        refine lv_aload_n hx hb dX2_read_21 rfl (lv_at hl 0 rfl) ?_
        refine va_get (D := g.1) (ci := 2) (v := .ref (ad 1)) (C := RX2) (T := TX2) (N := 10) hx hb hts hinX2 hown hK.1 hP 0 rfl rfl 0 (by decide) hk_3 (fun _ h9 => h9) rfl dX2_read_22 ?_
        refine lv_iload_n hx hb dX2_read_25 rfl (lv_at hl 1 rfl) ?_
        obtain ⟨hg3, h⟩ := rr_c_some h
        refine rr_iald (f := (σ 0)) (N := 120) hx hb hK hP 1 rfl rfl (by decide) hg3 dX2_read_26 ?_
        obtain ⟨v4, hw5, h⟩ := rr_b_some h
        refine rr_allI hD hS hA (va_runV (As := [.int (rr_i (σ 0 x1))]) (rest := []) ⟨hx, hb, hml, hown, hts⟩ (kX2_accepts l g ad _ (σ 0 x1) σ v4 hw5) (cwV 1 hts gX2_read_X2_accepts rfl rfl rfl ⟨rfl, hd_X2_accepts⟩ ⟨Nat.le_of_ble_eq_true rfl, Nat.le_of_ble_eq_true rfl⟩) ⟨rr_P_blind, va_recv hK.1 hP (ci := 2) (q0 := 0) rfl rfl, rr_P_pre hK hP hD⟩ rfl rfl hl.1 rfl (lv_room (Nat.le_of_ble_eq_true rfl)) dX2_read_27 ⟨Nat.zero_le _, Nat.zero_le _⟩) (fun H locs hP hD hS => ?_)
        obtain ⟨hg6, h⟩ := rr_c_some h
        refine rr_if_ne (tgt := 35) hx hb dX2_read_30 (by decide) hg6 (fun c7 => ?_) (fun c7 => ?_)
        · rw [if_neg c7] at h
          refine rr_iinc (k := 1) (a := x1) (lv' := [(1, .int (rr_i (x1 + 1))), (0, .ref (ad 0))]) hx hb dX2_read_35 hl rfl (by decide) rfl (fun ls hl => ?_)
          refine lv_goto (tgt := 12) hx hb dX2_read_38 (by decide) ?_
          exact ih (x1 + 1) v4.2 _ _ ls h hP hD hS (lv_sub hl [1, 0] rfl) hk
        · rw [if_pos c7] at h
          refine lv_iload_n hx hb dX2_read_33 rfl (lv_at hl 1 rfl) ?_
          exact hret _ _ _ _ _ _ h hP hD hS dX2_read_34
  refine lv_aload_n hx hb dX2_read_0 rfl (lv_at hl 0 rfl) ?_
  refine rr_iconst hx hb dX2_read_1 ?_
  refine va_put (D := g.1) (ci := 2) (v := .int (rr_i 0)) (ty := .int) (C := RX2) (T := TX2) (N := 10) hx hb hts hinX2 tyX2 tyX2_ok nmX2 hown hK.1 hP hD hS 0 rfl rfl 5 (by decide) hk_0 (fun _ h9 => h9) rfl (by decide +kernel) rfl rfl (Nat.le_of_ble_eq_true rfl) dX2_read_2 (fun H locs hP hD hS => ?_)
  have hP : va_P g.1 vwCl (rr_wT g ad (rr_t σ 5 0)) H := hP
  have hD : va_D A (rr_wT g ad (rr_t σ 5 0)) := hD
  refine lv_aload_n hx hb dX2_read_5 rfl (lv_at hl 0 rfl) ?_
  refine rr_iconst hx hb dX2_read_6 ?_
  refine va_put (D := g.1) (ci := 2) (v := .int (rr_i 0)) (ty := .int) (C := RX2) (T := TX2) (N := 10) hx hb hts hinX2 tyX2 tyX2_ok nmX2 hown hK.1 hP hD hS 0 rfl rfl 6 (by decide) hk_1 (fun _ h9 => h9) rfl (by decide +kernel) rfl rfl (Nat.le_of_ble_eq_true rfl) dX2_read_7 (fun H locs hP hD hS => ?_)
  have hP : va_P g.1 vwCl (rr_wT g ad (rr_t (rr_t σ 5 0) 6 0)) H := hP
  have hD : va_D A (rr_wT g ad (rr_t (rr_t σ 5 0) 6 0)) := hD
  refine rr_iconst hx hb dX2_read_10 ?_
  refine lv_istore_n (lv' := [(1, .int (rr_i 0)), (0, .ref (ad 0))]) hx hb dX2_read_11 rfl hl (by decide) rfl (fun ls hl => ?_)
  refine hL2_read_12 _ 1000 0 (rr_t (rr_t σ 5 0) 6 0) _ _ ls h hP hD hS (lv_sub hl [1, 0] rfl) (fun σ_12 H locs ls h hP hD hS hl => ?_)
  refine lv_aload_n hx hb dX2_read_41 rfl (lv_at hl 0 rfl) ?_
  refine va_get (D := g.1) (ci := 2) (v := .int (rr_i (σ_12 6 0))) (C := RX2) (T := TX2) (N := 10) hx hb hts hinX2 hown hK.1 hP 0 rfl rfl 6 (by decide) hk_1 (fun _ h9 => h9) rfl dX2_read_42 ?_
  obtain ⟨hg8, h⟩ := rr_c_some h
  refine rr_if_ne (tgt := 59) hx hb dX2_read_45 (by decide) hg8 (fun c9 => ?_) (fun c9 => ?_)
  · rw [if_neg c9] at h
    refine lv_aload_n hx hb dX2_read_59 rfl (lv_at hl 0 rfl) ?_
    refine va_get (D := g.1) (ci := 2) (v := .int (rr_i (σ_12 1 0))) (C := RX2) (T := TX2) (N := 10) hx hb hts hinX2 hown hK.1 hP 0 rfl rfl 1 (by decide) hk_2 (fun _ h9 => h9) rfl dX2_read_60 ?_
    exact hret _ _ _ _ _ _ h hP hD hS dX2_read_63
  · rw [if_pos c9] at h
    refine lv_aload_n hx hb dX2_read_48 rfl (lv_at hl 0 rfl) ?_
    refine va_get (D := g.1) (ci := 2) (v := .int (rr_i (σ_12 5 0))) (C := RX2) (T := TX2) (N := 10) hx hb hts hinX2 hown hK.1 hP 0 rfl rfl 5 (by decide) hk_0 (fun _ h9 => h9) rfl dX2_read_49 ?_
    obtain ⟨hg10, h⟩ := rr_c_some h
    refine rr_if_le (tgt := 59) hx hb dX2_read_52 (by decide) hg10 (fun c11 => ?_) (fun c11 => ?_)
    · rw [if_pos c11] at h
      refine lv_aload_n hx hb dX2_read_59 rfl (lv_at hl 0 rfl) ?_
      refine va_get (D := g.1) (ci := 2) (v := .int (rr_i (σ_12 1 0))) (C := RX2) (T := TX2) (N := 10) hx hb hts hinX2 hown hK.1 hP 0 rfl rfl 1 (by decide) hk_2 (fun _ h9 => h9) rfl dX2_read_60 ?_
      exact hret _ _ _ _ _ _ h hP hD hS dX2_read_63
    · rw [if_neg c11] at h
      refine rr_iconst hx hb dX2_read_55 ?_
      refine lv_goto (tgt := 63) hx hb dX2_read_56 (by decide) ?_
      exact hret _ _ _ _ _ _ h hP hD hS dX2_read_63
