-- RoomRingModel.marks
abbrev rm_X5_marks : Room := { frames := 1, cells := 0, slots := 0, locals := 22 }
theorem hd_X5_marks : yX5_marks.cls ≠ "java/lang/invoke/MethodHandle" ∧ yX5_marks.cls ≠ "java/lang/invoke/VarHandle" ∧ (parseMethodDescriptor yX5_marks.desc).map (fun d => d.parameters.length) = some 0 := by decide +kernel
set_option maxHeartbeats 4000000 in
set_option maxRecDepth 100000 in
theorem kX5_marks (l : Launch) (g : rr_G) (ad : Nat → Nat) (hh : Int) (σ : rr_T) (out : Int) (h : M5_marks σ = some out) : Met l yX5_marks wsX5_marks rm_X5_marks (rr_R g [.ref (ad 0)] (rr_wM g ad σ hh)) (vp_Si (fun x => x = rr_i out)) 0 0 (fun _ => False) := by
  refine rr_roI (cc := cX5_marks) (maxL := 1) (by decide) rfl (Nat.le_of_ble_eq_true rfl) ?_
  intro p e s m ar below meth c Q ls hx hb hml hown hts hK hP hret hl
  have hown : s.vm.findClass RX5 = some m.cls := hown
  have hl : lv_has ls 1 [(0, .ref (ad 0))] := hl
  unfold M5_marks at h
  refine rr_iconst hx hb dX5_marks_0 ?_
  refine lv_aload_n hx hb dX5_marks_1 rfl (lv_at hl 0 rfl) ?_
  obtain ⟨v1, hw2, h⟩ := rr_b_some h
  refine rr_callI (va_runV (As := []) (rest := [.int (rr_i 2)]) ⟨hx, hb, hml, hown, hts⟩ (kX5_weights l g ad hh σ v1 hw2) (cwV 0 hts gX5_marks_X5_weights rfl rfl rfl ⟨rfl, hd_X5_weights⟩ ⟨Nat.le_of_ble_eq_true rfl, Nat.le_of_ble_eq_true rfl⟩) ⟨rr_R_blind, va_recv hK.1 hP (ci := 5) (q0 := 0) rfl rfl, rr_R_pre hK hP⟩ rfl rfl hl.1 rfl (lv_room (Nat.le_of_ble_eq_true rfl)) dX5_marks_2 ⟨Nat.zero_le _, Nat.zero_le _⟩) ?_
  refine rr_imul hx hb dX5_marks_5 ?_
  exact hret _ _ _ h dX5_marks_6
-- RoomRingModel.byHosts
abbrev rm_X5_byHosts : Room := { frames := 2, cells := 0, slots := 0, locals := 45 }
theorem hd_X5_byHosts : yX5_byHosts.cls ≠ "java/lang/invoke/MethodHandle" ∧ yX5_byHosts.cls ≠ "java/lang/invoke/VarHandle" ∧ (parseMethodDescriptor yX5_byHosts.desc).map (fun d => d.parameters.length) = some 1 := by decide +kernel
set_option maxHeartbeats 4000000 in
set_option maxRecDepth 100000 in
theorem kX5_byHosts (l : Launch) (g : rr_G) (ad : Nat → Nat) (hh : Int) (x1 : Int) (σ : rr_T) (out : Int) (h : M5_byHosts x1 σ = some out) : Met l yX5_byHosts wsX5_byHosts rm_X5_byHosts (rr_R g [.ref (ad 0), .int (rr_i x1)] (rr_wM g ad σ hh)) (vp_Si (fun x => x = rr_i out)) 0 0 (fun _ => False) := by
  refine rr_roI (cc := cX5_byHosts) (maxL := 5) (by decide) rfl (Nat.le_of_ble_eq_true rfl) ?_
  intro p e s m ar below meth c Q ls hx hb hml hown hts hK hP hret hl
  have hown : s.vm.findClass RX5 = some m.cls := hown
  have hl : lv_has ls 5 [(0, .ref (ad 0)), (1, .int (rr_i x1))] := hl
  have hinX5 : ∀ w ∈ u_ws RX5 TX5 19, w ∈ wsX5_byHosts := by decide +kernel
  have hk_0 : (Cond.fieldLink RX5 31 "RoomRingModel" "load" "[I").before ar s = true := hts _ (List.mem_of_getElem? (i := 1) (by decide +kernel))
  unfold M5_byHosts at h
  have hL5_byHosts_7 : ∀ (x1 : Int) (K : Int → Int → Option Int) (n : Nat) (x2 : Int) (x3 : Int) (x4 : Int) (ls : Array Slot), L5_byHosts_7 σ x1 K n x2 x3 x4 = some out → lv_has ls 5 [(0, .ref (ad 0)), (1, .int (rr_i x1)), (2, .int (rr_i x2)), (3, .int (rr_i x3)), (4, .int (rr_i x4))] → (∀ (z2 : Int) (z3 : Int) (ls : Array Slot), K z2 z3 = some out → lv_has ls 5 [(1, .int (rr_i x1)), (2, .int (rr_i z2)), (3, .int (rr_i z3))] → W p l e rm_X5_byHosts s m ar below meth c s.heap [] 0 0 Q (F0 m 76 ls [])) → W p l e rm_X5_byHosts s m ar below meth c s.heap [] 0 0 Q (F0 m 7 ls []) := by
    intro x1 K n
    induction n with
    | zero => intro x2 x3 x4 ls h hl hk; cases h
    | succ n ih =>
      intro x2 x3 x4 ls h hl hk
      rw [L5_byHosts_7_s] at h
      refine lv_iload hx hb dX5_byHosts_7 (lv_at hl 4 rfl) ?_
      refine rr_bipush hx hb dX5_byHosts_9 (by decide +kernel) ?_
      obtain ⟨hg1, h⟩ := rr_c_some h
      refine rr_icmp_ge (tgt := 76) hx hb dX5_byHosts_11 (by decide) hg1 (by decide) (fun c2 => ?_) (fun c2 => ?_)
      · rw [if_pos c2] at h
        exact hk x2 x3 ls h (lv_sub hl [1, 2, 3] rfl)
      · rw [if_neg c2] at h
        refine lv_iload_n hx hb dX5_byHosts_14 rfl (lv_at hl 2 rfl) ?_
        refine lv_aload_n hx hb dX5_byHosts_15 rfl (lv_at hl 0 rfl) ?_
        refine lv_iload hx hb dX5_byHosts_16 (lv_at hl 4 rfl) ?_
        obtain ⟨v3, hw4, h⟩ := rr_b_some h
        refine rr_callI (va_runV (As := [.int (rr_i x4)]) (rest := [.int (rr_i x2)]) ⟨hx, hb, hml, hown, hts⟩ (kX5_isHost l g ad hh x4 σ v3 hw4) (cwV 1 hts gX5_byHosts_X5_isHost rfl rfl rfl ⟨rfl, hd_X5_isHost⟩ ⟨Nat.le_of_ble_eq_true rfl, Nat.le_of_ble_eq_true rfl⟩) ⟨rr_R_blind, va_recv hK.1 hP (ci := 5) (q0 := 0) rfl rfl, rr_R_pre hK hP⟩ rfl rfl hl.1 rfl (lv_room (Nat.le_of_ble_eq_true rfl)) dX5_byHosts_18 ⟨Nat.zero_le _, Nat.zero_le _⟩) ?_
        obtain ⟨hg5, h⟩ := rr_c_some h
        refine rr_if_eq (tgt := 44) hx hb dX5_byHosts_21 (by decide) hg5 (fun c6 => ?_) (fun c6 => ?_)
        · rw [if_pos c6] at h
          refine rr_iconst hx hb dX5_byHosts_44 ?_
          refine rr_iadd hx hb dX5_byHosts_45 ?_
          refine lv_istore_n (lv' := [(2, .int (rr_i (x2 + 0))), (0, .ref (ad 0)), (1, .int (rr_i x1)), (3, .int (rr_i x3)), (4, .int (rr_i x4))]) hx hb dX5_byHosts_46 rfl hl (by decide) rfl (fun ls hl => ?_)
          refine lv_aload_n hx hb dX5_byHosts_47 rfl (lv_at hl 1 rfl) ?_
          refine va_get (D := g.1) (ci := 5) (v := .ref (ad 8)) (C := RX5) (T := TX5) (N := 19) hx hb hts hinX5 hown hK.1 hP 0 rfl rfl 8 (by decide) hk_0 (fun _ h9 => h9) rfl dX5_byHosts_48 ?_
          refine lv_iload hx hb dX5_byHosts_51 (lv_at hl 4 rfl) ?_
          obtain ⟨hg7, h⟩ := rr_c_some h
          refine rr_iald (f := (σ 8)) (N := 100) hx hb hK hP 8 rfl rfl (by decide) hg7 dX5_byHosts_53 ?_
          refine lv_iload_n hx hb dX5_byHosts_54 rfl (lv_at hl 3 rfl) ?_
          obtain ⟨hg8, h⟩ := rr_c_some h
          refine rr_icmp_le (tgt := 68) hx hb dX5_byHosts_55 (by decide) hg8.1 hg8.2 (fun c9 => ?_) (fun c9 => ?_)
          · rw [if_pos c9] at h
            refine lv_iload_n hx hb dX5_byHosts_68 rfl (lv_at hl 3 rfl) ?_
            refine lv_istore_n (lv' := [(3, .int (rr_i x3)), (2, .int (rr_i (x2 + 0))), (0, .ref (ad 0)), (1, .int (rr_i x1)), (4, .int (rr_i x4))]) hx hb dX5_byHosts_69 rfl hl (by decide) rfl (fun ls hl => ?_)
            refine rr_iinc (k := 4) (a := x4) (lv' := [(4, .int (rr_i (x4 + 1))), (3, .int (rr_i x3)), (2, .int (rr_i (x2 + 0))), (0, .ref (ad 0)), (1, .int (rr_i x1))]) hx hb dX5_byHosts_70 hl rfl (by decide) rfl (fun ls hl => ?_)
            refine lv_goto (tgt := 7) hx hb dX5_byHosts_73 (by decide) ?_
            exact ih (x2 + 0) x3 (x4 + 1) ls h (lv_sub hl [3, 4, 2, 1, 0] rfl) hk
          · rw [if_neg c9] at h
            refine lv_aload_n hx hb dX5_byHosts_58 rfl (lv_at hl 1 rfl) ?_
            refine va_get (D := g.1) (ci := 5) (v := .ref (ad 8)) (C := RX5) (T := TX5) (N := 19) hx hb hts hinX5 hown hK.1 hP 0 rfl rfl 8 (by decide) hk_0 (fun _ h9 => h9) rfl dX5_byHosts_59 ?_
            refine lv_iload hx hb dX5_byHosts_62 (lv_at hl 4 rfl) ?_
            refine rr_iald (f := (σ 8)) (N := 100) hx hb hK hP 8 rfl rfl (by decide) hg7 dX5_byHosts_64 ?_
            refine lv_goto (tgt := 69) hx hb dX5_byHosts_65 (by decide) ?_
            refine lv_istore_n (lv' := [(3, .int (rr_i (σ 8 x4))), (2, .int (rr_i (x2 + 0))), (0, .ref (ad 0)), (1, .int (rr_i x1)), (4, .int (rr_i x4))]) hx hb dX5_byHosts_69 rfl hl (by decide) rfl (fun ls hl => ?_)
            refine rr_iinc (k := 4) (a := x4) (lv' := [(4, .int (rr_i (x4 + 1))), (3, .int (rr_i (σ 8 x4))), (2, .int (rr_i (x2 + 0))), (0, .ref (ad 0)), (1, .int (rr_i x1))]) hx hb dX5_byHosts_70 hl rfl (by decide) rfl (fun ls hl => ?_)
            refine lv_goto (tgt := 7) hx hb dX5_byHosts_73 (by decide) ?_
            exact ih (x2 + 0) (σ 8 x4) (x4 + 1) ls h (lv_sub hl [3, 4, 2, 1, 0] rfl) hk
        · rw [if_neg c6] at h
          refine lv_aload_n hx hb dX5_byHosts_24 rfl (lv_at hl 0 rfl) ?_
          refine va_get (D := g.1) (ci := 5) (v := .ref (ad 8)) (C := RX5) (T := TX5) (N := 19) hx hb hts hinX5 hown hK.1 hP 0 rfl rfl 8 (by decide) hk_0 (fun _ h9 => h9) rfl dX5_byHosts_25 ?_
          refine lv_iload hx hb dX5_byHosts_28 (lv_at hl 4 rfl) ?_
          obtain ⟨hg10, h⟩ := rr_c_some h
          refine rr_iald (f := (σ 8)) (N := 100) hx hb hK hP 8 rfl rfl (by decide) hg10 dX5_byHosts_30 ?_
          refine lv_aload_n hx hb dX5_byHosts_31 rfl (lv_at hl 0 rfl) ?_
          refine lv_iload hx hb dX5_byHosts_32 (lv_at hl 4 rfl) ?_
          obtain ⟨v11, hw12, h⟩ := rr_b_some h
          refine rr_callI (va_runV (As := [.int (rr_i x4)]) (rest := [.int (rr_i (σ 8 x4)), .int (rr_i x2)]) ⟨hx, hb, hml, hown, hts⟩ (kX5_bound l g ad hh x4 σ v11 hw12) (cwV 1 hts gX5_byHosts_X5_bound rfl rfl rfl ⟨rfl, hd_X5_bound⟩ ⟨Nat.le_of_ble_eq_true rfl, Nat.le_of_ble_eq_true rfl⟩) ⟨rr_R_blind, va_recv hK.1 hP (ci := 5) (q0 := 0) rfl rfl, rr_R_pre hK hP⟩ rfl rfl hl.1 rfl (lv_room (Nat.le_of_ble_eq_true rfl)) dX5_byHosts_34 ⟨Nat.zero_le _, Nat.zero_le _⟩) ?_
          obtain ⟨hg13, h⟩ := rr_c_some h
          refine rr_icmp_ne (tgt := 44) hx hb dX5_byHosts_37 (by decide) hg13.1 hg13.2 (fun c14 => ?_) (fun c14 => ?_)
          · rw [if_neg c14] at h
            refine rr_iconst hx hb dX5_byHosts_44 ?_
            refine rr_iadd hx hb dX5_byHosts_45 ?_
            refine lv_istore_n (lv' := [(2, .int (rr_i (x2 + 0))), (0, .ref (ad 0)), (1, .int (rr_i x1)), (3, .int (rr_i x3)), (4, .int (rr_i x4))]) hx hb dX5_byHosts_46 rfl hl (by decide) rfl (fun ls hl => ?_)
            refine lv_aload_n hx hb dX5_byHosts_47 rfl (lv_at hl 1 rfl) ?_
            refine va_get (D := g.1) (ci := 5) (v := .ref (ad 8)) (C := RX5) (T := TX5) (N := 19) hx hb hts hinX5 hown hK.1 hP 0 rfl rfl 8 (by decide) hk_0 (fun _ h9 => h9) rfl dX5_byHosts_48 ?_
            refine lv_iload hx hb dX5_byHosts_51 (lv_at hl 4 rfl) ?_
            refine rr_iald (f := (σ 8)) (N := 100) hx hb hK hP 8 rfl rfl (by decide) hg10 dX5_byHosts_53 ?_
            refine lv_iload_n hx hb dX5_byHosts_54 rfl (lv_at hl 3 rfl) ?_
            obtain ⟨hg15, h⟩ := rr_c_some h
            refine rr_icmp_le (tgt := 68) hx hb dX5_byHosts_55 (by decide) hg13.1 hg15 (fun c16 => ?_) (fun c16 => ?_)
            · rw [if_pos c16] at h
              refine lv_iload_n hx hb dX5_byHosts_68 rfl (lv_at hl 3 rfl) ?_
              refine lv_istore_n (lv' := [(3, .int (rr_i x3)), (2, .int (rr_i (x2 + 0))), (0, .ref (ad 0)), (1, .int (rr_i x1)), (4, .int (rr_i x4))]) hx hb dX5_byHosts_69 rfl hl (by decide) rfl (fun ls hl => ?_)
              refine rr_iinc (k := 4) (a := x4) (lv' := [(4, .int (rr_i (x4 + 1))), (3, .int (rr_i x3)), (2, .int (rr_i (x2 + 0))), (0, .ref (ad 0)), (1, .int (rr_i x1))]) hx hb dX5_byHosts_70 hl rfl (by decide) rfl (fun ls hl => ?_)
              refine lv_goto (tgt := 7) hx hb dX5_byHosts_73 (by decide) ?_
              exact ih (x2 + 0) x3 (x4 + 1) ls h (lv_sub hl [3, 4, 2, 1, 0] rfl) hk
            · rw [if_neg c16] at h
              refine lv_aload_n hx hb dX5_byHosts_58 rfl (lv_at hl 1 rfl) ?_
              refine va_get (D := g.1) (ci := 5) (v := .ref (ad 8)) (C := RX5) (T := TX5) (N := 19) hx hb hts hinX5 hown hK.1 hP 0 rfl rfl 8 (by decide) hk_0 (fun _ h9 => h9) rfl dX5_byHosts_59 ?_
              refine lv_iload hx hb dX5_byHosts_62 (lv_at hl 4 rfl) ?_
              refine rr_iald (f := (σ 8)) (N := 100) hx hb hK hP 8 rfl rfl (by decide) hg10 dX5_byHosts_64 ?_
              refine lv_goto (tgt := 69) hx hb dX5_byHosts_65 (by decide) ?_
              refine lv_istore_n (lv' := [(3, .int (rr_i (σ 8 x4))), (2, .int (rr_i (x2 + 0))), (0, .ref (ad 0)), (1, .int (rr_i x1)), (4, .int (rr_i x4))]) hx hb dX5_byHosts_69 rfl hl (by decide) rfl (fun ls hl => ?_)
              refine rr_iinc (k := 4) (a := x4) (lv' := [(4, .int (rr_i (x4 + 1))), (3, .int (rr_i (σ 8 x4))), (2, .int (rr_i (x2 + 0))), (0, .ref (ad 0)), (1, .int (rr_i x1))]) hx hb dX5_byHosts_70 hl rfl (by decide) rfl (fun ls hl => ?_)
              refine lv_goto (tgt := 7) hx hb dX5_byHosts_73 (by decide) ?_
              exact ih (x2 + 0) (σ 8 x4) (x4 + 1) ls h (lv_sub hl [3, 4, 2, 1, 0] rfl) hk
          · rw [if_pos c14] at h
            refine rr_iconst hx hb dX5_byHosts_40 ?_
            refine lv_goto (tgt := 45) hx hb dX5_byHosts_41 (by decide) ?_
            refine rr_iadd hx hb dX5_byHosts_45 ?_
            refine lv_istore_n (lv' := [(2, .int (rr_i (x2 + 1))), (0, .ref (ad 0)), (1, .int (rr_i x1)), (3, .int (rr_i x3)), (4, .int (rr_i x4))]) hx hb dX5_byHosts_46 rfl hl (by decide) rfl (fun ls hl => ?_)
            refine lv_aload_n hx hb dX5_byHosts_47 rfl (lv_at hl 1 rfl) ?_
            refine va_get (D := g.1) (ci := 5) (v := .ref (ad 8)) (C := RX5) (T := TX5) (N := 19) hx hb hts hinX5 hown hK.1 hP 0 rfl rfl 8 (by decide) hk_0 (fun _ h9 => h9) rfl dX5_byHosts_48 ?_
            refine lv_iload hx hb dX5_byHosts_51 (lv_at hl 4 rfl) ?_
            refine rr_iald (f := (σ 8)) (N := 100) hx hb hK hP 8 rfl rfl (by decide) hg10 dX5_byHosts_53 ?_
            refine lv_iload_n hx hb dX5_byHosts_54 rfl (lv_at hl 3 rfl) ?_
            obtain ⟨hg17, h⟩ := rr_c_some h
            refine rr_icmp_le (tgt := 68) hx hb dX5_byHosts_55 (by decide) hg13.1 hg17 (fun c18 => ?_) (fun c18 => ?_)
            · rw [if_pos c18] at h
              refine lv_iload_n hx hb dX5_byHosts_68 rfl (lv_at hl 3 rfl) ?_
              refine lv_istore_n (lv' := [(3, .int (rr_i x3)), (2, .int (rr_i (x2 + 1))), (0, .ref (ad 0)), (1, .int (rr_i x1)), (4, .int (rr_i x4))]) hx hb dX5_byHosts_69 rfl hl (by decide) rfl (fun ls hl => ?_)
              refine rr_iinc (k := 4) (a := x4) (lv' := [(4, .int (rr_i (x4 + 1))), (3, .int (rr_i x3)), (2, .int (rr_i (x2 + 1))), (0, .ref (ad 0)), (1, .int (rr_i x1))]) hx hb dX5_byHosts_70 hl rfl (by decide) rfl (fun ls hl => ?_)
              refine lv_goto (tgt := 7) hx hb dX5_byHosts_73 (by decide) ?_
              exact ih (x2 + 1) x3 (x4 + 1) ls h (lv_sub hl [3, 4, 2, 1, 0] rfl) hk
            · rw [if_neg c18] at h
              refine lv_aload_n hx hb dX5_byHosts_58 rfl (lv_at hl 1 rfl) ?_
              refine va_get (D := g.1) (ci := 5) (v := .ref (ad 8)) (C := RX5) (T := TX5) (N := 19) hx hb hts hinX5 hown hK.1 hP 0 rfl rfl 8 (by decide) hk_0 (fun _ h9 => h9) rfl dX5_byHosts_59 ?_
              refine lv_iload hx hb dX5_byHosts_62 (lv_at hl 4 rfl) ?_
              refine rr_iald (f := (σ 8)) (N := 100) hx hb hK hP 8 rfl rfl (by decide) hg10 dX5_byHosts_64 ?_
              refine lv_goto (tgt := 69) hx hb dX5_byHosts_65 (by decide) ?_
              refine lv_istore_n (lv' := [(3, .int (rr_i (σ 8 x4))), (2, .int (rr_i (x2 + 1))), (0, .ref (ad 0)), (1, .int (rr_i x1)), (4, .int (rr_i x4))]) hx hb dX5_byHosts_69 rfl hl (by decide) rfl (fun ls hl => ?_)
              refine rr_iinc (k := 4) (a := x4) (lv' := [(4, .int (rr_i (x4 + 1))), (3, .int (rr_i (σ 8 x4))), (2, .int (rr_i (x2 + 1))), (0, .ref (ad 0)), (1, .int (rr_i x1))]) hx hb dX5_byHosts_70 hl rfl (by decide) rfl (fun ls hl => ?_)
              refine lv_goto (tgt := 7) hx hb dX5_byHosts_73 (by decide) ?_
              exact ih (x2 + 1) (σ 8 x4) (x4 + 1) ls h (lv_sub hl [3, 4, 2, 1, 0] rfl) hk
  refine rr_iconst hx hb dX5_byHosts_0 ?_
  refine lv_istore_n (lv' := [(2, .int (rr_i 0)), (0, .ref (ad 0)), (1, .int (rr_i x1))]) hx hb dX5_byHosts_1 rfl hl (by decide) rfl (fun ls hl => ?_)
  refine rr_iconst hx hb dX5_byHosts_2 ?_
  refine lv_istore_n (lv' := [(3, .int (rr_i 0)), (2, .int (rr_i 0)), (0, .ref (ad 0)), (1, .int (rr_i x1))]) hx hb dX5_byHosts_3 rfl hl (by decide) rfl (fun ls hl => ?_)
  refine rr_iconst hx hb dX5_byHosts_4 ?_
  refine lv_istore (lv' := [(4, .int (rr_i 0)), (3, .int (rr_i 0)), (2, .int (rr_i 0)), (0, .ref (ad 0)), (1, .int (rr_i x1))]) hx hb dX5_byHosts_5 hl (by decide) rfl (fun ls hl => ?_)
  refine hL5_byHosts_7 x1 _ 1000 0 0 0 ls h (lv_sub hl [3, 4, 2, 1, 0] rfl) (fun y2_7 y3_7 ls h hl => ?_)
  refine lv_iload_n hx hb dX5_byHosts_76 rfl (lv_at hl 0 rfl) ?_
  obtain ⟨hg19, h⟩ := rr_c_some h
  refine rr_if_eq (tgt := 84) hx hb dX5_byHosts_77 (by decide) hg19 (fun c20 => ?_) (fun c20 => ?_)
  · rw [if_pos c20] at h
    refine lv_iload_n hx hb dX5_byHosts_84 rfl (lv_at hl 2 rfl) ?_
    exact hret _ _ _ h dX5_byHosts_85
  · rw [if_neg c20] at h
    refine lv_iload_n hx hb dX5_byHosts_80 rfl (lv_at hl 1 rfl) ?_
    refine lv_goto (tgt := 85) hx hb dX5_byHosts_81 (by decide) ?_
    exact hret _ _ _ h dX5_byHosts_85
-- RoomRingModel.passedAll
abbrev rm_X5_passedAll : Room := { frames := 2, cells := 0, slots := 0, locals := 46 }
theorem hd_X5_passedAll : yX5_passedAll.cls ≠ "java/lang/invoke/MethodHandle" ∧ yX5_passedAll.cls ≠ "java/lang/invoke/VarHandle" ∧ (parseMethodDescriptor yX5_passedAll.desc).map (fun d => d.parameters.length) = some 0 := by decide +kernel
set_option maxHeartbeats 4000000 in
set_option maxRecDepth 100000 in
theorem kX5_passedAll (l : Launch) (g : rr_G) (ad : Nat → Nat) (hh : Int) (σ : rr_T) (out : Int) (h : M5_passedAll σ = some out) : Met l yX5_passedAll wsX5_passedAll rm_X5_passedAll (rr_R g [.ref (ad 0)] (rr_wM g ad σ hh)) (vp_Si (fun x => x = rr_i out)) 0 0 (fun _ => False) := by
  refine rr_roI (cc := cX5_passedAll) (maxL := 3) (by decide) rfl (Nat.le_of_ble_eq_true rfl) ?_
  intro p e s m ar below meth c Q ls hx hb hml hown hts hK hP hret hl
  have hown : s.vm.findClass RX5 = some m.cls := hown
  have hl : lv_has ls 3 [(0, .ref (ad 0))] := hl
  have hinX5 : ∀ w ∈ u_ws RX5 TX5 19, w ∈ wsX5_passedAll := by decide +kernel
  have hk_0 : (Cond.fieldLink RX5 7 "RoomRingModel" "now" "[I").before ar s = true := hts _ (List.mem_of_getElem? (i := 1) (by decide +kernel))
  have hk_1 : (Cond.fieldLink RX5 25 "RoomRingModel" "keyHost" "[I").before ar s = true := hts _ (List.mem_of_getElem? (i := 2) (by decide +kernel))
  unfold M5_passedAll at h
  have hL5_passedAll_4 : ∀ (K : Int → Option Int) (n : Nat) (x1 : Int) (x2 : Int) (ls : Array Slot), L5_passedAll_4 σ K n x1 x2 = some out → lv_has ls 3 [(0, .ref (ad 0)), (1, .int (rr_i x1)), (2, .int (rr_i x2))] → (∀ (z1 : Int) (ls : Array Slot), K z1 = some out → lv_has ls 3 [(1, .int (rr_i z1))] → W p l e rm_X5_passedAll s m ar below meth c s.heap [] 0 0 Q (F0 m 45 ls [])) → W p l e rm_X5_passedAll s m ar below meth c s.heap [] 0 0 Q (F0 m 4 ls []) := by
    intro K n
    induction n with
    | zero => intro x1 x2 ls h hl hk; cases h
    | succ n ih =>
      intro x1 x2 ls h hl hk
      rw [L5_passedAll_4_s] at h
      refine lv_iload_n hx hb dX5_passedAll_4 rfl (lv_at hl 2 rfl) ?_
      refine lv_aload_n hx hb dX5_passedAll_5 rfl (lv_at hl 0 rfl) ?_
      refine va_get (D := g.1) (ci := 5) (v := .ref (ad 1)) (C := RX5) (T := TX5) (N := 19) hx hb hts hinX5 hown hK.1 hP 0 rfl rfl 0 (by decide) hk_0 (fun _ h9 => h9) rfl dX5_passedAll_6 ?_
      refine rr_sipush hx hb dX5_passedAll_9 (by decide +kernel) ?_
      refine rr_iald (f := (σ 0)) (N := 143) hx hb hK hP 1 rfl rfl (by decide) (by decide) dX5_passedAll_12 ?_
      obtain ⟨hg1, h⟩ := rr_c_some h
      refine rr_icmp_ge (tgt := 45) hx hb dX5_passedAll_13 (by decide) hg1.1 hg1.2 (fun c2 => ?_) (fun c2 => ?_)
      · rw [if_pos c2] at h
        exact hk x1 ls h (lv_sub hl [1] rfl)
      · rw [if_neg c2] at h
        refine lv_iload_n hx hb dX5_passedAll_16 rfl (lv_at hl 1 rfl) ?_
        refine lv_aload_n hx hb dX5_passedAll_17 rfl (lv_at hl 0 rfl) ?_
        refine va_get (D := g.1) (ci := 5) (v := .ref (ad 6)) (C := RX5) (T := TX5) (N := 19) hx hb hts hinX5 hown hK.1 hP 0 rfl rfl 6 (by decide) hk_1 (fun _ h9 => h9) rfl dX5_passedAll_18 ?_
        refine lv_iload_n hx hb dX5_passedAll_21 rfl (lv_at hl 2 rfl) ?_
        obtain ⟨hg3, h⟩ := rr_c_some h
        refine rr_iald (f := (σ 6)) (N := 40) hx hb hK hP 6 rfl rfl (by decide) hg3 dX5_passedAll_22 ?_
        refine rr_iconst hx hb dX5_passedAll_23 ?_
        obtain ⟨hg4, h⟩ := rr_c_some h
        refine rr_icmp_ne (tgt := 31) hx hb dX5_passedAll_24 (by decide) hg4 (by decide) (fun c5 => ?_) (fun c5 => ?_)
        · rw [if_neg c5] at h
          refine lv_aload_n hx hb dX5_passedAll_31 rfl (lv_at hl 0 rfl) ?_
          refine lv_iload_n hx hb dX5_passedAll_32 rfl (lv_at hl 2 rfl) ?_
          refine rr_iconst hx hb dX5_passedAll_33 ?_
          obtain ⟨v6, hw7, h⟩ := rr_b_some h
          refine rr_callI (va_runV (As := [.int (rr_i x2), .int (rr_i 1)]) (rest := [.int (rr_i x1)]) ⟨hx, hb, hml, hown, hts⟩ (kX5_aboutKey l g ad hh x2 1 σ v6 hw7) (cwV 2 hts gX5_passedAll_X5_aboutKey rfl rfl rfl ⟨rfl, hd_X5_aboutKey⟩ ⟨Nat.le_of_ble_eq_true rfl, Nat.le_of_ble_eq_true rfl⟩) ⟨rr_R_blind, va_recv hK.1 hP (ci := 5) (q0 := 0) rfl rfl, rr_R_pre hK hP⟩ rfl rfl hl.1 rfl (lv_room (Nat.le_of_ble_eq_true rfl)) dX5_passedAll_34 ⟨Nat.zero_le _, Nat.zero_le _⟩) ?_
          refine rr_iadd hx hb dX5_passedAll_37 ?_
          refine lv_istore_n (lv' := [(1, .int (rr_i (x1 + v6))), (0, .ref (ad 0)), (2, .int (rr_i x2))]) hx hb dX5_passedAll_38 rfl hl (by decide) rfl (fun ls hl => ?_)
          refine rr_iinc (k := 2) (a := x2) (lv' := [(2, .int (rr_i (x2 + 1))), (1, .int (rr_i (x1 + v6))), (0, .ref (ad 0))]) hx hb dX5_passedAll_39 hl rfl (by decide) rfl (fun ls hl => ?_)
          refine lv_goto (tgt := 4) hx hb dX5_passedAll_42 (by decide) ?_
          exact ih (x1 + v6) (x2 + 1) ls h (lv_sub hl [2, 1, 0] rfl) hk
        · rw [if_pos c5] at h
          refine rr_iconst hx hb dX5_passedAll_27 ?_
          refine lv_goto (tgt := 37) hx hb dX5_passedAll_28 (by decide) ?_
          refine rr_iadd hx hb dX5_passedAll_37 ?_
          refine lv_istore_n (lv' := [(1, .int (rr_i (x1 + 0))), (0, .ref (ad 0)), (2, .int (rr_i x2))]) hx hb dX5_passedAll_38 rfl hl (by decide) rfl (fun ls hl => ?_)
          refine rr_iinc (k := 2) (a := x2) (lv' := [(2, .int (rr_i (x2 + 1))), (1, .int (rr_i (x1 + 0))), (0, .ref (ad 0))]) hx hb dX5_passedAll_39 hl rfl (by decide) rfl (fun ls hl => ?_)
          refine lv_goto (tgt := 4) hx hb dX5_passedAll_42 (by decide) ?_
          exact ih (x1 + 0) (x2 + 1) ls h (lv_sub hl [2, 1, 0] rfl) hk
  refine rr_iconst hx hb dX5_passedAll_0 ?_
  refine lv_istore_n (lv' := [(1, .int (rr_i 0)), (0, .ref (ad 0))]) hx hb dX5_passedAll_1 rfl hl (by decide) rfl (fun ls hl => ?_)
  refine rr_iconst hx hb dX5_passedAll_2 ?_
  refine lv_istore_n (lv' := [(2, .int (rr_i 0)), (1, .int (rr_i 0)), (0, .ref (ad 0))]) hx hb dX5_passedAll_3 rfl hl (by decide) rfl (fun ls hl => ?_)
  refine hL5_passedAll_4 _ 1000 0 0 ls h (lv_sub hl [2, 1, 0] rfl) (fun y1_4 ls h hl => ?_)
  refine lv_iload_n hx hb dX5_passedAll_45 rfl (lv_at hl 0 rfl) ?_
  exact hret _ _ _ h dX5_passedAll_46
-- RoomRingModel.counted
abbrev rm_X5_counted : Room := { frames := 3, cells := 0, slots := 0, locals := 69 }
theorem hd_X5_counted : yX5_counted.cls ≠ "java/lang/invoke/MethodHandle" ∧ yX5_counted.cls ≠ "java/lang/invoke/VarHandle" ∧ (parseMethodDescriptor yX5_counted.desc).map (fun d => d.parameters.length) = some 1 := by decide +kernel
set_option maxHeartbeats 4000000 in
set_option maxRecDepth 100000 in
theorem kX5_counted (l : Launch) (g : rr_G) (ad : Nat → Nat) (hh : Int) (x1 : Int) (σ : rr_T) (out : Int) (h : M5_counted x1 σ = some out) : Met l yX5_counted wsX5_counted rm_X5_counted (rr_R g [.ref (ad 0), .int (rr_i x1)] (rr_wM g ad σ hh)) (vp_Si (fun x => x = rr_i out)) 0 0 (fun _ => False) := by
  refine rr_roI (cc := cX5_counted) (maxL := 2) (by decide) rfl (Nat.le_of_ble_eq_true rfl) ?_
  intro p e s m ar below meth c Q ls hx hb hml hown hts hK hP hret hl
  have hown : s.vm.findClass RX5 = some m.cls := hown
  have hl : lv_has ls 2 [(0, .ref (ad 0)), (1, .int (rr_i x1))] := hl
  have hinX5 : ∀ w ∈ u_ws RX5 TX5 19, w ∈ wsX5_counted := by decide +kernel
  have hk_0 : (Cond.fieldLink RX5 7 "RoomRingModel" "now" "[I").before ar s = true := hts _ (List.mem_of_getElem? (i := 1) (by decide +kernel))
  unfold M5_counted at h
  refine lv_iload_n hx hb dX5_counted_0 rfl (lv_at hl 1 rfl) ?_
  obtain ⟨hg1, h⟩ := rr_c_some h
  have hv2 : (rr_i x1).toInt = x1 := rr_to_i hg1
  by_cases c3 : x1 = 0
  · rw [if_pos c3] at h
    refine lv_tableIn (off := 47) (tgt := 48) hx hb dX5_counted_1 (by rw [hv2, c3]; decide) (by rw [hv2, c3]; decide) (by rw [hv2, c3]; rfl) (by decide) ?_
    refine lv_aload_n hx hb dX5_counted_48 rfl (lv_at hl 0 rfl) ?_
    obtain ⟨v4, hw5, h⟩ := rr_b_some h
    refine rr_callI (va_runV (As := []) (rest := []) ⟨hx, hb, hml, hown, hts⟩ (kX5_hostMany l g ad hh σ v4 hw5) (cwV 0 hts gX5_counted_X5_hostMany rfl rfl rfl ⟨rfl, hd_X5_hostMany⟩ ⟨Nat.le_of_ble_eq_true rfl, Nat.le_of_ble_eq_true rfl⟩) ⟨rr_R_blind, va_recv hK.1 hP (ci := 5) (q0 := 0) rfl rfl, rr_R_pre hK hP⟩ rfl rfl hl.1 rfl (lv_room (Nat.le_of_ble_eq_true rfl)) dX5_counted_49 ⟨Nat.zero_le _, Nat.zero_le _⟩) ?_
    exact hret _ _ _ h dX5_counted_52
  · rw [if_neg c3] at h
    by_cases c6 : x1 = 1
    · rw [if_pos c6] at h
      refine lv_tableIn (off := 52) (tgt := 53) hx hb dX5_counted_1 (by rw [hv2, c6]; decide) (by rw [hv2, c6]; decide) (by rw [hv2, c6]; rfl) (by decide) ?_
      refine lv_aload_n hx hb dX5_counted_53 rfl (lv_at hl 0 rfl) ?_
      refine va_get (D := g.1) (ci := 5) (v := .ref (ad 1)) (C := RX5) (T := TX5) (N := 19) hx hb hts hinX5 hown hK.1 hP 0 rfl rfl 0 (by decide) hk_0 (fun _ h9 => h9) rfl dX5_counted_54 ?_
      refine rr_sipush hx hb dX5_counted_57 (by decide +kernel) ?_
      refine rr_iald (f := (σ 0)) (N := 143) hx hb hK hP 1 rfl rfl (by decide) (by decide) dX5_counted_60 ?_
      exact hret _ _ _ h dX5_counted_61
    · rw [if_neg c6] at h
      by_cases c7 : x1 = 2
      · rw [if_pos c7] at h
        refine lv_tableIn (off := 61) (tgt := 62) hx hb dX5_counted_1 (by rw [hv2, c7]; decide) (by rw [hv2, c7]; decide) (by rw [hv2, c7]; rfl) (by decide) ?_
        refine lv_aload_n hx hb dX5_counted_62 rfl (lv_at hl 0 rfl) ?_
        refine va_get (D := g.1) (ci := 5) (v := .ref (ad 1)) (C := RX5) (T := TX5) (N := 19) hx hb hts hinX5 hown hK.1 hP 0 rfl rfl 0 (by decide) hk_0 (fun _ h9 => h9) rfl dX5_counted_63 ?_
        refine rr_sipush hx hb dX5_counted_66 (by decide +kernel) ?_
        refine rr_iald (f := (σ 0)) (N := 143) hx hb hK hP 1 rfl rfl (by decide) (by decide) dX5_counted_69 ?_
        exact hret _ _ _ h dX5_counted_70
      · rw [if_neg c7] at h
        by_cases c8 : x1 = 3
        · rw [if_pos c8] at h
          refine lv_tableIn (off := 70) (tgt := 71) hx hb dX5_counted_1 (by rw [hv2, c8]; decide) (by rw [hv2, c8]; decide) (by rw [hv2, c8]; rfl) (by decide) ?_
          refine lv_aload_n hx hb dX5_counted_71 rfl (lv_at hl 0 rfl) ?_
          obtain ⟨v9, hw10, h⟩ := rr_b_some h
          refine rr_callI (va_runV (As := []) (rest := []) ⟨hx, hb, hml, hown, hts⟩ (kX5_marks l g ad hh σ v9 hw10) (cwV 0 hts gX5_counted_X5_marks rfl rfl rfl ⟨rfl, hd_X5_marks⟩ ⟨Nat.le_of_ble_eq_true rfl, Nat.le_of_ble_eq_true rfl⟩) ⟨rr_R_blind, va_recv hK.1 hP (ci := 5) (q0 := 0) rfl rfl, rr_R_pre hK hP⟩ rfl rfl hl.1 rfl (lv_room (Nat.le_of_ble_eq_true rfl)) dX5_counted_72 ⟨Nat.zero_le _, Nat.zero_le _⟩) ?_
          exact hret _ _ _ h dX5_counted_75
        · rw [if_neg c8] at h
          by_cases c11 : x1 = 4
          · rw [if_pos c11] at h
            refine lv_tableIn (off := 75) (tgt := 76) hx hb dX5_counted_1 (by rw [hv2, c11]; decide) (by rw [hv2, c11]; decide) (by rw [hv2, c11]; rfl) (by decide) ?_
            refine lv_aload_n hx hb dX5_counted_76 rfl (lv_at hl 0 rfl) ?_
            refine va_get (D := g.1) (ci := 5) (v := .ref (ad 1)) (C := RX5) (T := TX5) (N := 19) hx hb hts hinX5 hown hK.1 hP 0 rfl rfl 0 (by decide) hk_0 (fun _ h9 => h9) rfl dX5_counted_77 ?_
            refine rr_sipush hx hb dX5_counted_80 (by decide +kernel) ?_
            refine rr_iald (f := (σ 0)) (N := 143) hx hb hK hP 1 rfl rfl (by decide) (by decide) dX5_counted_83 ?_
            exact hret _ _ _ h dX5_counted_84
          · rw [if_neg c11] at h
            by_cases c12 : x1 = 5
            · rw [if_pos c12] at h
              refine lv_tableIn (off := 84) (tgt := 85) hx hb dX5_counted_1 (by rw [hv2, c12]; decide) (by rw [hv2, c12]; decide) (by rw [hv2, c12]; rfl) (by decide) ?_
              refine lv_aload_n hx hb dX5_counted_85 rfl (lv_at hl 0 rfl) ?_
              refine rr_iconst hx hb dX5_counted_86 ?_
              obtain ⟨v13, hw14, h⟩ := rr_b_some h
              refine rr_callI (va_runV (As := [.int (rr_i 1)]) (rest := []) ⟨hx, hb, hml, hown, hts⟩ (kX5_byHosts l g ad hh 1 σ v13 hw14) (cwV 1 hts gX5_counted_X5_byHosts rfl rfl rfl ⟨rfl, hd_X5_byHosts⟩ ⟨Nat.le_of_ble_eq_true rfl, Nat.le_of_ble_eq_true rfl⟩) ⟨rr_R_blind, va_recv hK.1 hP (ci := 5) (q0 := 0) rfl rfl, rr_R_pre hK hP⟩ rfl rfl hl.1 rfl (lv_room (Nat.le_of_ble_eq_true rfl)) dX5_counted_87 ⟨Nat.zero_le _, Nat.zero_le _⟩) ?_
              exact hret _ _ _ h dX5_counted_90
            · rw [if_neg c12] at h
              by_cases c15 : x1 = 6
              · rw [if_pos c15] at h
                refine lv_tableIn (off := 90) (tgt := 91) hx hb dX5_counted_1 (by rw [hv2, c15]; decide) (by rw [hv2, c15]; decide) (by rw [hv2, c15]; rfl) (by decide) ?_
                refine lv_aload_n hx hb dX5_counted_91 rfl (lv_at hl 0 rfl) ?_
                obtain ⟨v16, hw17, h⟩ := rr_b_some h
                refine rr_callI (va_runV (As := []) (rest := []) ⟨hx, hb, hml, hown, hts⟩ (kX5_passedAll l g ad hh σ v16 hw17) (cwV 0 hts gX5_counted_X5_passedAll rfl rfl rfl ⟨rfl, hd_X5_passedAll⟩ ⟨Nat.le_of_ble_eq_true rfl, Nat.le_of_ble_eq_true rfl⟩) ⟨rr_R_blind, va_recv hK.1 hP (ci := 5) (q0 := 0) rfl rfl, rr_R_pre hK hP⟩ rfl rfl hl.1 rfl (lv_room (Nat.le_of_ble_eq_true rfl)) dX5_counted_92 ⟨Nat.zero_le _, Nat.zero_le _⟩) ?_
                exact hret _ _ _ h dX5_counted_95
              · rw [if_neg c15] at h
                by_cases c18 : x1 = 7
                · rw [if_pos c18] at h
                  refine lv_tableIn (off := 95) (tgt := 96) hx hb dX5_counted_1 (by rw [hv2, c18]; decide) (by rw [hv2, c18]; decide) (by rw [hv2, c18]; rfl) (by decide) ?_
                  refine lv_aload_n hx hb dX5_counted_96 rfl (lv_at hl 0 rfl) ?_
                  refine rr_iconst hx hb dX5_counted_97 ?_
                  obtain ⟨v19, hw20, h⟩ := rr_b_some h
                  refine rr_callI (va_runV (As := [.int (rr_i 0)]) (rest := []) ⟨hx, hb, hml, hown, hts⟩ (kX5_byHosts l g ad hh 0 σ v19 hw20) (cwV 1 hts gX5_counted_X5_byHosts rfl rfl rfl ⟨rfl, hd_X5_byHosts⟩ ⟨Nat.le_of_ble_eq_true rfl, Nat.le_of_ble_eq_true rfl⟩) ⟨rr_R_blind, va_recv hK.1 hP (ci := 5) (q0 := 0) rfl rfl, rr_R_pre hK hP⟩ rfl rfl hl.1 rfl (lv_room (Nat.le_of_ble_eq_true rfl)) dX5_counted_98 ⟨Nat.zero_le _, Nat.zero_le _⟩) ?_
                  exact hret _ _ _ h dX5_counted_101
                · rw [if_neg c18] at h
                  by_cases hr23 : x1 < 0 ∨ 7 < x1
                  · refine lv_tableOut (tgt := 102) hx hb dX5_counted_1 (by rw [hv2]; exact hr23) (by decide) ?_
                    refine lv_aload_n hx hb dX5_counted_102 rfl (lv_at hl 0 rfl) ?_
                    obtain ⟨v21, hw22, h⟩ := rr_b_some h
                    refine rr_callI (va_runV (As := []) (rest := []) ⟨hx, hb, hml, hown, hts⟩ (kX5_weights l g ad hh σ v21 hw22) (cwV 0 hts gX5_counted_X5_weights rfl rfl rfl ⟨rfl, hd_X5_weights⟩ ⟨Nat.le_of_ble_eq_true rfl, Nat.le_of_ble_eq_true rfl⟩) ⟨rr_R_blind, va_recv hK.1 hP (ci := 5) (q0 := 0) rfl rfl, rr_R_pre hK hP⟩ rfl rfl hl.1 rfl (lv_room (Nat.le_of_ble_eq_true rfl)) dX5_counted_103 ⟨Nat.zero_le _, Nat.zero_le _⟩) ?_
                    exact hret _ _ _ h dX5_counted_106
                  · exact absurd (show x1 < 0 ∨ 7 < x1 by omega) hr23
-- RoomRingModel.count
abbrev rm_X5_count : Room := { frames := 4, cells := 0, slots := 0, locals := 90 }
theorem hd_X5_count : yX5_count.cls ≠ "java/lang/invoke/MethodHandle" ∧ yX5_count.cls ≠ "java/lang/invoke/VarHandle" ∧ (parseMethodDescriptor yX5_count.desc).map (fun d => d.parameters.length) = some 1 := by decide +kernel
set_option maxHeartbeats 4000000 in
set_option maxRecDepth 100000 in
theorem kX5_count (l : Launch) (g : rr_G) (ad : Nat → Nat) (sz : Nat) (hh : Int) (x1 : Int) (σ : rr_T) (out : (Int × rr_T)) (h : M5_count x1 σ = some out) : Met l yX5_count wsX5_count rm_X5_count (rr_P g [.ref (ad 0), .int (rr_i x1)] (rr_wM g ad σ hh) sz) (rr_Qi g out.1 (rr_wM g ad out.2 hh) (va_A (rr_wM g ad σ hh) sz)) 0 0 (va_A (rr_wM g ad σ hh) sz) := by
  refine rr_rwI (cc := cX5_count) (maxL := 2) (fun σ => rr_wM g ad σ hh) σ out (by decide) rfl (Nat.le_of_ble_eq_true rfl) ?_
  intro p e s m ar below meth c Q ls A hx hb hml hown hts hK hA hP hD hS hret hl
  have hP : va_P g.1 vwCl (rr_wM g ad σ hh) s.heap := hP
  have hD : va_D A (rr_wM g ad σ hh) := hD
  have hown : s.vm.findClass RX5 = some m.cls := hown
  have hl : lv_has ls 2 [(0, .ref (ad 0)), (1, .int (rr_i x1))] := hl
  unfold M5_count at h
  refine lv_iload_n hx hb dX5_count_0 rfl (lv_at hl 1 rfl) ?_
  refine rr_iconst hx hb dX5_count_1 ?_
  refine rr_bipush hx hb dX5_count_2 (by decide +kernel) ?_
  obtain ⟨v1, hw2, h⟩ := rr_b_some h
  refine rr_callI (va_runS (As := [.int (rr_i x1), .int (rr_i 0), .int (rr_i 8)]) (rest := []) ⟨hx, hb, hml, hown, hts⟩ (kX5_in l g x1 0 8 v1 hw2) (va_cwS 3 hts gX5_count_X5_in rfl rfl rfl hd_X5_in ⟨Nat.le_of_ble_eq_true rfl, Nat.le_of_ble_eq_true rfl⟩) ⟨rr_R_blind, rr_R_pre hK (hP.sub (ws' := ([] : va_W)) [] rfl)⟩ rfl rfl hl.1 rfl (lv_room (Nat.le_of_ble_eq_true rfl)) dX5_count_4 ⟨Nat.zero_le _, Nat.zero_le _⟩) ?_
  obtain ⟨hg3, h⟩ := rr_c_some h
  refine rr_if_eq (tgt := 18) hx hb dX5_count_7 (by decide) hg3 (fun c4 => ?_) (fun c4 => ?_)
  · rw [if_pos c4] at h
    refine lv_aload_n hx hb dX5_count_18 rfl (lv_at hl 0 rfl) ?_
    refine rr_bipush hx hb dX5_count_19 (by decide +kernel) ?_
    obtain ⟨v5, hw6, h⟩ := rr_b_some h
    refine rr_allI hD hS hA (va_runV (As := [.int (rr_i (-2))]) (rest := []) ⟨hx, hb, hml, hown, hts⟩ (kX5_refuses l g ad _ hh (-2) σ v5 hw6) (cwV 1 hts gX5_count_X5_refuses rfl rfl rfl ⟨rfl, hd_X5_refuses⟩ ⟨Nat.le_of_ble_eq_true rfl, Nat.le_of_ble_eq_true rfl⟩) ⟨rr_P_blind, va_recv hK.1 hP (ci := 5) (q0 := 0) rfl rfl, rr_P_pre hK hP hD⟩ rfl rfl hl.1 rfl (lv_room (Nat.le_of_ble_eq_true rfl)) dX5_count_21 ⟨Nat.zero_le _, Nat.zero_le _⟩) (fun H locs hP hD hS => ?_)
    exact hret _ _ _ _ _ _ h hP hD hS dX5_count_24
  · rw [if_neg c4] at h
    refine lv_aload_n hx hb dX5_count_10 rfl (lv_at hl 0 rfl) ?_
    refine lv_iload_n hx hb dX5_count_11 rfl (lv_at hl 1 rfl) ?_
    obtain ⟨v7, hw8, h⟩ := rr_b_some h
    refine rr_callI (va_runV (As := [.int (rr_i x1)]) (rest := []) ⟨hx, hb, hml, hown, hts⟩ (kX5_counted l g ad hh x1 σ v7 hw8) (cwV 1 hts gX5_count_X5_counted rfl rfl rfl ⟨rfl, hd_X5_counted⟩ ⟨Nat.le_of_ble_eq_true rfl, Nat.le_of_ble_eq_true rfl⟩) ⟨rr_R_blind, va_recv hK.1 hP (ci := 5) (q0 := 0) rfl rfl, rr_R_pre hK hP⟩ rfl rfl hl.1 rfl (lv_room (Nat.le_of_ble_eq_true rfl)) dX5_count_12 ⟨Nat.zero_le _, Nat.zero_le _⟩) ?_
    refine lv_goto (tgt := 24) hx hb dX5_count_15 (by decide) ?_
    exact hret _ _ _ _ _ _ h hP hD hS dX5_count_24
-- RoomRingModel.type
abbrev rm_X5_type : Room := { frames := 1, cells := 0, slots := 0, locals := 22 }
theorem hd_X5_type : yX5_type.cls ≠ "java/lang/invoke/MethodHandle" ∧ yX5_type.cls ≠ "java/lang/invoke/VarHandle" ∧ (parseMethodDescriptor yX5_type.desc).map (fun d => d.parameters.length) = some 1 := by decide +kernel
set_option maxHeartbeats 4000000 in
set_option maxRecDepth 100000 in
theorem kX5_type (l : Launch) (g : rr_G) (ad : Nat → Nat) (sz : Nat) (hh : Int) (x1 : Int) (σ : rr_T) (out : (Int × rr_T)) (h : M5_type x1 σ = some out) : Met l yX5_type wsX5_type rm_X5_type (rr_P g [.ref (ad 0), .int (rr_i x1)] (rr_wM g ad σ hh) sz) (rr_Qi g out.1 (rr_wM g ad out.2 hh) (va_A (rr_wM g ad σ hh) sz)) 0 0 (va_A (rr_wM g ad σ hh) sz) := by
  refine rr_rwI (cc := cX5_type) (maxL := 2) (fun σ => rr_wM g ad σ hh) σ out (by decide) rfl (Nat.le_of_ble_eq_true rfl) ?_
  intro p e s m ar below meth c Q ls A hx hb hml hown hts hK hA hP hD hS hret hl
  have hP : va_P g.1 vwCl (rr_wM g ad σ hh) s.heap := hP
  have hD : va_D A (rr_wM g ad σ hh) := hD
  have hown : s.vm.findClass RX5 = some m.cls := hown
  have hl : lv_has ls 2 [(0, .ref (ad 0)), (1, .int (rr_i x1))] := hl
  have hinX5 : ∀ w ∈ u_ws RX5 TX5 19, w ∈ wsX5_type := by decide +kernel
  have hk_0 : (Cond.fieldLink RX5 162 "RoomRingModel" "typed" "I").before ar s = true := hts _ (List.mem_of_getElem? (i := 1) (by decide +kernel))
  have hk_1 : (Cond.fieldLink RX5 41 "RoomRingModel" "text" "[I").before ar s = true := hts _ (List.mem_of_getElem? (i := 2) (by decide +kernel))
  unfold M5_type at h
  refine lv_iload_n hx hb dX5_type_0 rfl (lv_at hl 1 rfl) ?_
  refine rr_iconst hx hb dX5_type_1 ?_
  refine rr_bipush hx hb dX5_type_2 (by decide +kernel) ?_
  obtain ⟨v1, hw2, h⟩ := rr_b_some h
  refine rr_callI (va_runS (As := [.int (rr_i x1), .int (rr_i 0), .int (rr_i 127)]) (rest := []) ⟨hx, hb, hml, hown, hts⟩ (kX5_in l g x1 0 127 v1 hw2) (va_cwS 3 hts gX5_type_X5_in rfl rfl rfl hd_X5_in ⟨Nat.le_of_ble_eq_true rfl, Nat.le_of_ble_eq_true rfl⟩) ⟨rr_R_blind, rr_R_pre hK (hP.sub (ws' := ([] : va_W)) [] rfl)⟩ rfl rfl hl.1 rfl (lv_room (Nat.le_of_ble_eq_true rfl)) dX5_type_4 ⟨Nat.zero_le _, Nat.zero_le _⟩) ?_
  obtain ⟨hg3, h⟩ := rr_c_some h
  refine rr_if_ne (tgt := 17) hx hb dX5_type_7 (by decide) hg3 (fun c4 => ?_) (fun c4 => ?_)
  · rw [if_neg c4] at h
    refine lv_aload_n hx hb dX5_type_17 rfl (lv_at hl 0 rfl) ?_
    refine va_get (D := g.1) (ci := 5) (v := .int (rr_i (σ 12 0))) (C := RX5) (T := TX5) (N := 19) hx hb hts hinX5 hown hK.1 hP 0 rfl rfl 12 (by decide) hk_0 (fun _ h9 => h9) rfl dX5_type_18 ?_
    refine rr_bipush hx hb dX5_type_21 (by decide +kernel) ?_
    obtain ⟨hg5, h⟩ := rr_c_some h
    refine rr_icmp_ne (tgt := 33) hx hb dX5_type_23 (by decide) hg5 (by decide) (fun c6 => ?_) (fun c6 => ?_)
    · rw [if_neg c6] at h
      refine lv_aload_n hx hb dX5_type_33 rfl (lv_at hl 0 rfl) ?_
      refine va_get (D := g.1) (ci := 5) (v := .ref (ad 11)) (C := RX5) (T := TX5) (N := 19) hx hb hts hinX5 hown hK.1 hP 0 rfl rfl 11 (by decide) hk_1 (fun _ h9 => h9) rfl dX5_type_34 ?_
      refine lv_aload_n hx hb dX5_type_37 rfl (lv_at hl 0 rfl) ?_
      refine va_get (D := g.1) (ci := 5) (v := .int (rr_i (σ 12 0))) (C := RX5) (T := TX5) (N := 19) hx hb hts hinX5 hown hK.1 hP 0 rfl rfl 12 (by decide) hk_0 (fun _ h9 => h9) rfl dX5_type_38 ?_
      refine lv_iload_n hx hb dX5_type_41 rfl (lv_at hl 1 rfl) ?_
      obtain ⟨hg7, h⟩ := rr_c_some h
      refine rr_iast (f := (σ 11)) (N := 120) hx hb hK hP hD hS 11 rfl rfl (by decide) hg7 dX5_type_42 (fun H locs hP hD hS => ?_)
      have hP : va_P g.1 vwCl (rr_wM g ad (rr_s σ 11 (σ 12 0) x1) hh) H := hP
      have hD : va_D A (rr_wM g ad (rr_s σ 11 (σ 12 0) x1) hh) := hD
      refine lv_aload_n hx hb dX5_type_43 rfl (lv_at hl 0 rfl) ?_
      refine lv_dup hx hb dX5_type_44 rfl ?_
      refine va_get (D := g.1) (ci := 5) (v := .int (rr_i (σ 12 0))) (C := RX5) (T := TX5) (N := 19) hx hb hts hinX5 hown hK.1 hP 0 rfl rfl 12 (by decide) hk_0 (fun _ h9 => h9) rfl dX5_type_45 ?_
      refine rr_iconst hx hb dX5_type_48 ?_
      refine rr_iadd hx hb dX5_type_49 ?_
      refine va_put (D := g.1) (ci := 5) (v := .int (rr_i ((σ 12 0) + 1))) (ty := .int) (C := RX5) (T := TX5) (N := 19) hx hb hts hinX5 tyX5 tyX5_ok nmX5 hown hK.1 hP hD hS 0 rfl rfl 12 (by decide) hk_0 (fun _ h9 => h9) rfl (by decide +kernel) rfl rfl (Nat.le_of_ble_eq_true rfl) dX5_type_50 (fun H locs hP hD hS => ?_)
      have hP : va_P g.1 vwCl (rr_wM g ad (rr_t (rr_s σ 11 (σ 12 0) x1) 12 ((σ 12 0) + 1)) hh) H := hP
      have hD : va_D A (rr_wM g ad (rr_t (rr_s σ 11 (σ 12 0) x1) 12 ((σ 12 0) + 1)) hh) := hD
      refine lv_aload_n hx hb dX5_type_53 rfl (lv_at hl 0 rfl) ?_
      refine va_get (D := g.1) (ci := 5) (v := .int (rr_i ((σ 12 0) + 1))) (C := RX5) (T := TX5) (N := 19) hx hb hts hinX5 hown hK.1 hP 0 rfl rfl 12 (by decide) hk_0 (fun _ h9 => h9) rfl dX5_type_54 ?_
      exact hret _ _ _ _ _ _ h hP hD hS dX5_type_57
    · rw [if_pos c6] at h
      refine lv_aload_n hx hb dX5_type_26 rfl (lv_at hl 0 rfl) ?_
      refine rr_bipush hx hb dX5_type_27 (by decide +kernel) ?_
      obtain ⟨v8, hw9, h⟩ := rr_b_some h
      refine rr_allI hD hS hA (va_runV (As := [.int (rr_i (-4))]) (rest := []) ⟨hx, hb, hml, hown, hts⟩ (kX5_refuses l g ad _ hh (-4) σ v8 hw9) (cwV 1 hts gX5_type_X5_refuses rfl rfl rfl ⟨rfl, hd_X5_refuses⟩ ⟨Nat.le_of_ble_eq_true rfl, Nat.le_of_ble_eq_true rfl⟩) ⟨rr_P_blind, va_recv hK.1 hP (ci := 5) (q0 := 0) rfl rfl, rr_P_pre hK hP hD⟩ rfl rfl hl.1 rfl (lv_room (Nat.le_of_ble_eq_true rfl)) dX5_type_29 ⟨Nat.zero_le _, Nat.zero_le _⟩) (fun H locs hP hD hS => ?_)
      exact hret _ _ _ _ _ _ h hP hD hS dX5_type_32
  · rw [if_pos c4] at h
    refine lv_aload_n hx hb dX5_type_10 rfl (lv_at hl 0 rfl) ?_
    refine rr_bipush hx hb dX5_type_11 (by decide +kernel) ?_
    obtain ⟨v10, hw11, h⟩ := rr_b_some h
    refine rr_allI hD hS hA (va_runV (As := [.int (rr_i (-2))]) (rest := []) ⟨hx, hb, hml, hown, hts⟩ (kX5_refuses l g ad _ hh (-2) σ v10 hw11) (cwV 1 hts gX5_type_X5_refuses rfl rfl rfl ⟨rfl, hd_X5_refuses⟩ ⟨Nat.le_of_ble_eq_true rfl, Nat.le_of_ble_eq_true rfl⟩) ⟨rr_P_blind, va_recv hK.1 hP (ci := 5) (q0 := 0) rfl rfl, rr_P_pre hK hP hD⟩ rfl rfl hl.1 rfl (lv_room (Nat.le_of_ble_eq_true rfl)) dX5_type_13 ⟨Nat.zero_le _, Nat.zero_le _⟩) (fun H locs hP hD hS => ?_)
    exact hret _ _ _ _ _ _ h hP hD hS dX5_type_16
-- RoomRingModel.clear
abbrev rm_X5_clear : Room := { frames := 0, cells := 0, slots := 0, locals := 0 }
theorem hd_X5_clear : yX5_clear.cls ≠ "java/lang/invoke/MethodHandle" ∧ yX5_clear.cls ≠ "java/lang/invoke/VarHandle" ∧ (parseMethodDescriptor yX5_clear.desc).map (fun d => d.parameters.length) = some 0 := by decide +kernel
set_option maxHeartbeats 4000000 in
set_option maxRecDepth 100000 in
theorem kX5_clear (l : Launch) (g : rr_G) (ad : Nat → Nat) (sz : Nat) (hh : Int) (σ : rr_T) (out : (Int × rr_T)) (h : M5_clear σ = some out) : Met l yX5_clear wsX5_clear rm_X5_clear (rr_P g [.ref (ad 0)] (rr_wM g ad σ hh) sz) (rr_Qi g out.1 (rr_wM g ad out.2 hh) (va_A (rr_wM g ad σ hh) sz)) 0 0 (va_A (rr_wM g ad σ hh) sz) := by
  refine rr_rwI (cc := cX5_clear) (maxL := 2) (fun σ => rr_wM g ad σ hh) σ out (by decide) rfl (Nat.le_of_ble_eq_true rfl) ?_
  intro p e s m ar below meth c Q ls A hx hb hml hown hts hK hA hP hD hS hret hl
  have hP : va_P g.1 vwCl (rr_wM g ad σ hh) s.heap := hP
  have hD : va_D A (rr_wM g ad σ hh) := hD
  have hown : s.vm.findClass RX5 = some m.cls := hown
  have hl : lv_has ls 2 [(0, .ref (ad 0))] := hl
  have hinX5 : ∀ w ∈ u_ws RX5 TX5 19, w ∈ wsX5_clear := by decide +kernel
  have hk_0 : (Cond.fieldLink RX5 162 "RoomRingModel" "typed" "I").before ar s = true := hts _ (List.mem_of_getElem? (i := 1) (by decide +kernel))
  unfold M5_clear at h
  refine lv_aload_n hx hb dX5_clear_0 rfl (lv_at hl 0 rfl) ?_
  refine va_get (D := g.1) (ci := 5) (v := .int (rr_i (σ 12 0))) (C := RX5) (T := TX5) (N := 19) hx hb hts hinX5 hown hK.1 hP 0 rfl rfl 12 (by decide) hk_0 (fun _ h9 => h9) rfl dX5_clear_1 ?_
  refine lv_istore_n (lv' := [(1, .int (rr_i (σ 12 0))), (0, .ref (ad 0))]) hx hb dX5_clear_4 rfl hl (by decide) rfl (fun ls hl => ?_)
  refine lv_aload_n hx hb dX5_clear_5 rfl (lv_at hl 1 rfl) ?_
  refine rr_iconst hx hb dX5_clear_6 ?_
  refine va_put (D := g.1) (ci := 5) (v := .int (rr_i 0)) (ty := .int) (C := RX5) (T := TX5) (N := 19) hx hb hts hinX5 tyX5 tyX5_ok nmX5 hown hK.1 hP hD hS 0 rfl rfl 12 (by decide) hk_0 (fun _ h9 => h9) rfl (by decide +kernel) rfl rfl (Nat.le_of_ble_eq_true rfl) dX5_clear_7 (fun H locs hP hD hS => ?_)
  have hP : va_P g.1 vwCl (rr_wM g ad (rr_t σ 12 0) hh) H := hP
  have hD : va_D A (rr_wM g ad (rr_t σ 12 0) hh) := hD
  refine lv_iload_n hx hb dX5_clear_10 rfl (lv_at hl 0 rfl) ?_
  exact hret _ _ _ _ _ _ h hP hD hS dX5_clear_11
-- RoomRingModel.here
abbrev rm_X5_here : Room := { frames := 0, cells := 0, slots := 0, locals := 0 }
theorem hd_X5_here : yX5_here.cls ≠ "java/lang/invoke/MethodHandle" ∧ yX5_here.cls ≠ "java/lang/invoke/VarHandle" ∧ (parseMethodDescriptor yX5_here.desc).map (fun d => d.parameters.length) = some 0 := by decide +kernel
set_option maxHeartbeats 4000000 in
set_option maxRecDepth 100000 in
theorem kX5_here (l : Launch) (g : rr_G) (ad : Nat → Nat) (sz : Nat) (hh : Int) (σ : rr_T) (out : (Int × rr_T)) (h : M5_here σ = some out) : Met l yX5_here wsX5_here rm_X5_here (rr_P g [.ref (ad 0)] (rr_wM g ad σ hh) sz) (rr_Qi g out.1 (rr_wM g ad out.2 hh) (va_A (rr_wM g ad σ hh) sz)) 0 0 (va_A (rr_wM g ad σ hh) sz) := by
  refine rr_rwI (cc := cX5_here) (maxL := 1) (fun σ => rr_wM g ad σ hh) σ out (by decide) rfl (Nat.le_of_ble_eq_true rfl) ?_
  intro p e s m ar below meth c Q ls A hx hb hml hown hts hK hA hP hD hS hret hl
  have hP : va_P g.1 vwCl (rr_wM g ad σ hh) s.heap := hP
  have hD : va_D A (rr_wM g ad σ hh) := hD
  have hown : s.vm.findClass RX5 = some m.cls := hown
  have hl : lv_has ls 1 [(0, .ref (ad 0))] := hl
  have hinX5 : ∀ w ∈ u_ws RX5 TX5 19, w ∈ wsX5_here := by decide +kernel
  have hk_0 : (Cond.fieldLink RX5 165 "RoomRingModel" "at" "I").before ar s = true := hts _ (List.mem_of_getElem? (i := 1) (by decide +kernel))
  have hk_1 : (Cond.fieldLink RX5 162 "RoomRingModel" "typed" "I").before ar s = true := hts _ (List.mem_of_getElem? (i := 2) (by decide +kernel))
  have hk_2 : (Cond.fieldLink RX5 41 "RoomRingModel" "text" "[I").before ar s = true := hts _ (List.mem_of_getElem? (i := 3) (by decide +kernel))
  unfold M5_here at h
  have hL5_here_0 : ∀ (K : rr_T → Option (Int × rr_T)) (n : Nat) (σ : rr_T) (H : Heap) (locs : List Loc) (ls : Array Slot), L5_here_0 K n σ = some out → va_P g.1 vwCl (rr_wM g ad σ hh) H → va_D A (rr_wM g ad σ hh) → va_S A s.heap H locs → lv_has ls 1 [(0, .ref (ad 0))] → (∀ (τ9 : rr_T) (H : Heap) (locs : List Loc) (ls : Array Slot), K τ9 = some out → va_P g.1 vwCl (rr_wM g ad τ9 hh) H → va_D A (rr_wM g ad τ9 hh) → va_S A s.heap H locs → lv_has ls 1 [(0, .ref (ad 0))] → W p l e rm_X5_here s m ar below meth c H locs 0 0 Q (F0 m 38 ls [])) → W p l e rm_X5_here s m ar below meth c H locs 0 0 Q (F0 m 0 ls []) := by
    intro K n
    induction n with
    | zero => intro σ H locs ls h hP hD hS hl hk; cases h
    | succ n ih =>
      intro σ H locs ls h hP hD hS hl hk
      rw [L5_here_0_s] at h
      refine lv_aload_n hx hb dX5_here_0 rfl (lv_at hl 0 rfl) ?_
      refine va_get (D := g.1) (ci := 5) (v := .int (rr_i (σ 13 0))) (C := RX5) (T := TX5) (N := 19) hx hb hts hinX5 hown hK.1 hP 0 rfl rfl 13 (by decide) hk_0 (fun _ h9 => h9) rfl dX5_here_1 ?_
      refine lv_aload_n hx hb dX5_here_4 rfl (lv_at hl 0 rfl) ?_
      refine va_get (D := g.1) (ci := 5) (v := .int (rr_i (σ 12 0))) (C := RX5) (T := TX5) (N := 19) hx hb hts hinX5 hown hK.1 hP 0 rfl rfl 12 (by decide) hk_1 (fun _ h9 => h9) rfl dX5_here_5 ?_
      obtain ⟨hg1, h⟩ := rr_c_some h
      refine rr_icmp_ge (tgt := 38) hx hb dX5_here_8 (by decide) hg1.1 hg1.2 (fun c2 => ?_) (fun c2 => ?_)
      · rw [if_pos c2] at h
        exact hk σ _ _ ls h hP hD hS (lv_sub hl [0] rfl)
      · rw [if_neg c2] at h
        refine lv_aload_n hx hb dX5_here_11 rfl (lv_at hl 0 rfl) ?_
        refine va_get (D := g.1) (ci := 5) (v := .ref (ad 11)) (C := RX5) (T := TX5) (N := 19) hx hb hts hinX5 hown hK.1 hP 0 rfl rfl 11 (by decide) hk_2 (fun _ h9 => h9) rfl dX5_here_12 ?_
        refine lv_aload_n hx hb dX5_here_15 rfl (lv_at hl 0 rfl) ?_
        refine va_get (D := g.1) (ci := 5) (v := .int (rr_i (σ 13 0))) (C := RX5) (T := TX5) (N := 19) hx hb hts hinX5 hown hK.1 hP 0 rfl rfl 13 (by decide) hk_0 (fun _ h9 => h9) rfl dX5_here_16 ?_
        obtain ⟨hg3, h⟩ := rr_c_some h
        refine rr_iald (f := (σ 11)) (N := 120) hx hb hK hP 11 rfl rfl (by decide) hg3 dX5_here_19 ?_
        refine rr_bipush hx hb dX5_here_20 (by decide +kernel) ?_
        obtain ⟨hg4, h⟩ := rr_c_some h
        refine rr_icmp_ne (tgt := 38) hx hb dX5_here_22 (by decide) hg4 (by decide) (fun c5 => ?_) (fun c5 => ?_)
        · rw [if_neg c5] at h
          exact hk σ _ _ ls h hP hD hS (lv_sub hl [0] rfl)
        · rw [if_pos c5] at h
          refine lv_aload_n hx hb dX5_here_25 rfl (lv_at hl 0 rfl) ?_
          refine lv_dup hx hb dX5_here_26 rfl ?_
          refine va_get (D := g.1) (ci := 5) (v := .int (rr_i (σ 13 0))) (C := RX5) (T := TX5) (N := 19) hx hb hts hinX5 hown hK.1 hP 0 rfl rfl 13 (by decide) hk_0 (fun _ h9 => h9) rfl dX5_here_27 ?_
          refine rr_iconst hx hb dX5_here_30 ?_
          refine rr_iadd hx hb dX5_here_31 ?_
          refine va_put (D := g.1) (ci := 5) (v := .int (rr_i ((σ 13 0) + 1))) (ty := .int) (C := RX5) (T := TX5) (N := 19) hx hb hts hinX5 tyX5 tyX5_ok nmX5 hown hK.1 hP hD hS 0 rfl rfl 13 (by decide) hk_0 (fun _ h9 => h9) rfl (by decide +kernel) rfl rfl (Nat.le_of_ble_eq_true rfl) dX5_here_32 (fun H locs hP hD hS => ?_)
          have hP : va_P g.1 vwCl (rr_wM g ad (rr_t σ 13 ((σ 13 0) + 1)) hh) H := hP
          have hD : va_D A (rr_wM g ad (rr_t σ 13 ((σ 13 0) + 1)) hh) := hD
          refine lv_goto (tgt := 0) hx hb dX5_here_35 (by decide) ?_
          exact ih (rr_t σ 13 ((σ 13 0) + 1)) _ _ ls h hP hD hS (lv_sub hl [0] rfl) hk
  refine hL5_here_0 _ 1000 σ _ _ ls h hP hD hS (lv_sub hl [0] rfl) (fun σ_0 H locs ls h hP hD hS hl => ?_)
  refine lv_aload_n hx hb dX5_here_38 rfl (lv_at hl 0 rfl) ?_
  refine va_get (D := g.1) (ci := 5) (v := .int (rr_i (σ_0 13 0))) (C := RX5) (T := TX5) (N := 19) hx hb hts hinX5 hown hK.1 hP 0 rfl rfl 13 (by decide) hk_0 (fun _ h9 => h9) rfl dX5_here_39 ?_
  refine lv_aload_n hx hb dX5_here_42 rfl (lv_at hl 0 rfl) ?_
  refine va_get (D := g.1) (ci := 5) (v := .int (rr_i (σ_0 12 0))) (C := RX5) (T := TX5) (N := 19) hx hb hts hinX5 hown hK.1 hP 0 rfl rfl 12 (by decide) hk_1 (fun _ h9 => h9) rfl dX5_here_43 ?_
  obtain ⟨hg6, h⟩ := rr_c_some h
  refine rr_icmp_ge (tgt := 61) hx hb dX5_here_46 (by decide) hg6.1 hg6.2 (fun c7 => ?_) (fun c7 => ?_)
  · rw [if_pos c7] at h
    refine rr_iconst hx hb dX5_here_61 ?_
    exact hret _ _ _ _ _ _ h hP hD hS dX5_here_62
  · rw [if_neg c7] at h
    refine lv_aload_n hx hb dX5_here_49 rfl (lv_at hl 0 rfl) ?_
    refine va_get (D := g.1) (ci := 5) (v := .ref (ad 11)) (C := RX5) (T := TX5) (N := 19) hx hb hts hinX5 hown hK.1 hP 0 rfl rfl 11 (by decide) hk_2 (fun _ h9 => h9) rfl dX5_here_50 ?_
    refine lv_aload_n hx hb dX5_here_53 rfl (lv_at hl 0 rfl) ?_
    refine va_get (D := g.1) (ci := 5) (v := .int (rr_i (σ_0 13 0))) (C := RX5) (T := TX5) (N := 19) hx hb hts hinX5 hown hK.1 hP 0 rfl rfl 13 (by decide) hk_0 (fun _ h9 => h9) rfl dX5_here_54 ?_
    obtain ⟨hg8, h⟩ := rr_c_some h
    refine rr_iald (f := (σ_0 11)) (N := 120) hx hb hK hP 11 rfl rfl (by decide) hg8 dX5_here_57 ?_
    refine lv_goto (tgt := 62) hx hb dX5_here_58 (by decide) ?_
    exact hret _ _ _ _ _ _ h hP hD hS dX5_here_62
-- RoomRingModel.must
abbrev rm_X5_must : Room := { frames := 0, cells := 0, slots := 0, locals := 0 }
theorem hd_X5_must : yX5_must.cls ≠ "java/lang/invoke/MethodHandle" ∧ yX5_must.cls ≠ "java/lang/invoke/VarHandle" ∧ (parseMethodDescriptor yX5_must.desc).map (fun d => d.parameters.length) = some 1 := by decide +kernel
set_option maxHeartbeats 4000000 in
set_option maxRecDepth 100000 in
theorem kX5_must (l : Launch) (g : rr_G) (ad : Nat → Nat) (sz : Nat) (hh : Int) (x1 : Int) (σ : rr_T) (out : rr_T) (h : M5_must x1 σ = some out) : Met l yX5_must wsX5_must rm_X5_must (rr_P g [.ref (ad 0), .int (rr_i x1)] (rr_wM g ad σ hh) sz) (rr_Qv g (rr_wM g ad out hh) (va_A (rr_wM g ad σ hh) sz)) 0 0 (va_A (rr_wM g ad σ hh) sz) := by
  refine rr_rwV (cc := cX5_must) (maxL := 2) (fun σ => rr_wM g ad σ hh) σ out (by decide) rfl (Nat.le_of_ble_eq_true rfl) ?_
  intro p e s m ar below meth c Q ls A hx hb hml hown hts hK hA hP hD hS hret hl
  have hP : va_P g.1 vwCl (rr_wM g ad σ hh) s.heap := hP
  have hD : va_D A (rr_wM g ad σ hh) := hD
  have hown : s.vm.findClass RX5 = some m.cls := hown
  have hl : lv_has ls 2 [(0, .ref (ad 0)), (1, .int (rr_i x1))] := hl
  have hinX5 : ∀ w ∈ u_ws RX5 TX5 19, w ∈ wsX5_must := by decide +kernel
  have hk_0 : (Cond.fieldLink RX5 168 "RoomRingModel" "fault" "I").before ar s = true := hts _ (List.mem_of_getElem? (i := 1) (by decide +kernel))
  have hk_1 : (Cond.fieldLink RX5 165 "RoomRingModel" "at" "I").before ar s = true := hts _ (List.mem_of_getElem? (i := 2) (by decide +kernel))
  unfold M5_must at h
  refine lv_aload_n hx hb dX5_must_0 rfl (lv_at hl 0 rfl) ?_
  refine va_get (D := g.1) (ci := 5) (v := .int (rr_i (σ 14 0))) (C := RX5) (T := TX5) (N := 19) hx hb hts hinX5 hown hK.1 hP 0 rfl rfl 14 (by decide) hk_0 (fun _ h9 => h9) rfl dX5_must_1 ?_
  refine rr_iconst hx hb dX5_must_4 ?_
  obtain ⟨hg1, h⟩ := rr_c_some h
  refine rr_icmp_ne (tgt := 33) hx hb dX5_must_5 (by decide) hg1 (by decide) (fun c2 => ?_) (fun c2 => ?_)
  · rw [if_neg c2] at h
    exact hret _ _ _ _ _ h hP hD hS dX5_must_33
  · rw [if_pos c2] at h
    refine lv_iload_n hx hb dX5_must_8 rfl (lv_at hl 1 rfl) ?_
    obtain ⟨hg3, h⟩ := rr_c_some h
    refine rr_if_eq (tgt := 25) hx hb dX5_must_9 (by decide) hg3 (fun c4 => ?_) (fun c4 => ?_)
    · rw [if_pos c4] at h
      refine lv_aload_n hx hb dX5_must_25 rfl (lv_at hl 0 rfl) ?_
      refine lv_aload_n hx hb dX5_must_26 rfl (lv_at hl 0 rfl) ?_
      refine va_get (D := g.1) (ci := 5) (v := .int (rr_i (σ 13 0))) (C := RX5) (T := TX5) (N := 19) hx hb hts hinX5 hown hK.1 hP 0 rfl rfl 13 (by decide) hk_1 (fun _ h9 => h9) rfl dX5_must_27 ?_
      refine va_put (D := g.1) (ci := 5) (v := .int (rr_i (σ 13 0))) (ty := .int) (C := RX5) (T := TX5) (N := 19) hx hb hts hinX5 tyX5 tyX5_ok nmX5 hown hK.1 hP hD hS 0 rfl rfl 14 (by decide) hk_0 (fun _ h9 => h9) rfl (by decide +kernel) rfl rfl (Nat.le_of_ble_eq_true rfl) dX5_must_30 (fun H locs hP hD hS => ?_)
      have hP : va_P g.1 vwCl (rr_wM g ad (rr_t σ 14 (σ 13 0)) hh) H := hP
      have hD : va_D A (rr_wM g ad (rr_t σ 14 (σ 13 0)) hh) := hD
      exact hret _ _ _ _ _ h hP hD hS dX5_must_33
    · rw [if_neg c4] at h
      refine lv_aload_n hx hb dX5_must_12 rfl (lv_at hl 0 rfl) ?_
      refine lv_dup hx hb dX5_must_13 rfl ?_
      refine va_get (D := g.1) (ci := 5) (v := .int (rr_i (σ 13 0))) (C := RX5) (T := TX5) (N := 19) hx hb hts hinX5 hown hK.1 hP 0 rfl rfl 13 (by decide) hk_1 (fun _ h9 => h9) rfl dX5_must_14 ?_
      refine rr_iconst hx hb dX5_must_17 ?_
      refine rr_iadd hx hb dX5_must_18 ?_
      refine va_put (D := g.1) (ci := 5) (v := .int (rr_i ((σ 13 0) + 1))) (ty := .int) (C := RX5) (T := TX5) (N := 19) hx hb hts hinX5 tyX5 tyX5_ok nmX5 hown hK.1 hP hD hS 0 rfl rfl 13 (by decide) hk_1 (fun _ h9 => h9) rfl (by decide +kernel) rfl rfl (Nat.le_of_ble_eq_true rfl) dX5_must_19 (fun H locs hP hD hS => ?_)
      have hP : va_P g.1 vwCl (rr_wM g ad (rr_t σ 13 ((σ 13 0) + 1)) hh) H := hP
      have hD : va_D A (rr_wM g ad (rr_t σ 13 ((σ 13 0) + 1)) hh) := hD
      refine lv_goto (tgt := 33) hx hb dX5_must_22 (by decide) ?_
      exact hret _ _ _ _ _ h hP hD hS dX5_must_33
-- RoomRingModel.isFigure
abbrev rm_X5_isFigure : Room := { frames := 1, cells := 0, slots := 0, locals := 22 }
theorem hd_X5_isFigure : yX5_isFigure.cls ≠ "java/lang/invoke/MethodHandle" ∧ yX5_isFigure.cls ≠ "java/lang/invoke/VarHandle" ∧ (parseMethodDescriptor yX5_isFigure.desc).map (fun d => d.parameters.length) = some 0 := by decide +kernel
set_option maxHeartbeats 4000000 in
set_option maxRecDepth 100000 in
theorem kX5_isFigure (l : Launch) (g : rr_G) (ad : Nat → Nat) (hh : Int) (σ : rr_T) (out : Int) (h : M5_isFigure σ = some out) : Met l yX5_isFigure wsX5_isFigure rm_X5_isFigure (rr_R g [.ref (ad 0)] (rr_wM g ad σ hh)) (vp_Si (fun x => x = rr_i out)) 0 0 (fun _ => False) := by
  refine rr_roZ (cc := cX5_isFigure) (maxL := 1) (by decide) rfl (Nat.le_of_ble_eq_true rfl) ?_
  intro p e s m ar below meth c Q ls hx hb hml hown hts hK hP hret hl
  have hown : s.vm.findClass RX5 = some m.cls := hown
  have hl : lv_has ls 1 [(0, .ref (ad 0))] := hl
  have hinX5 : ∀ w ∈ u_ws RX5 TX5 19, w ∈ wsX5_isFigure := by decide +kernel
  have hk_0 : (Cond.fieldLink RX5 165 "RoomRingModel" "at" "I").before ar s = true := hts _ (List.mem_of_getElem? (i := 1) (by decide +kernel))
  have hk_1 : (Cond.fieldLink RX5 162 "RoomRingModel" "typed" "I").before ar s = true := hts _ (List.mem_of_getElem? (i := 2) (by decide +kernel))
  have hk_2 : (Cond.fieldLink RX5 41 "RoomRingModel" "text" "[I").before ar s = true := hts _ (List.mem_of_getElem? (i := 3) (by decide +kernel))
  unfold M5_isFigure at h
  refine lv_aload_n hx hb dX5_isFigure_0 rfl (lv_at hl 0 rfl) ?_
  refine va_get (D := g.1) (ci := 5) (v := .int (rr_i (σ 13 0))) (C := RX5) (T := TX5) (N := 19) hx hb hts hinX5 hown hK.1 hP 0 rfl rfl 13 (by decide) hk_0 (fun _ h9 => h9) rfl dX5_isFigure_1 ?_
  refine lv_aload_n hx hb dX5_isFigure_4 rfl (lv_at hl 0 rfl) ?_
  refine va_get (D := g.1) (ci := 5) (v := .int (rr_i (σ 12 0))) (C := RX5) (T := TX5) (N := 19) hx hb hts hinX5 hown hK.1 hP 0 rfl rfl 12 (by decide) hk_1 (fun _ h9 => h9) rfl dX5_isFigure_5 ?_
  obtain ⟨hg1, h⟩ := rr_c_some h
  refine rr_icmp_ge (tgt := 34) hx hb dX5_isFigure_8 (by decide) hg1.1 hg1.2 (fun c2 => ?_) (fun c2 => ?_)
  · rw [if_pos c2] at h
    refine rr_iconst hx hb dX5_isFigure_34 ?_
    exact hret _ _ _ h (by decide) dX5_isFigure_35
  · rw [if_neg c2] at h
    refine lv_aload_n hx hb dX5_isFigure_11 rfl (lv_at hl 0 rfl) ?_
    refine va_get (D := g.1) (ci := 5) (v := .ref (ad 11)) (C := RX5) (T := TX5) (N := 19) hx hb hts hinX5 hown hK.1 hP 0 rfl rfl 11 (by decide) hk_2 (fun _ h9 => h9) rfl dX5_isFigure_12 ?_
    refine lv_aload_n hx hb dX5_isFigure_15 rfl (lv_at hl 0 rfl) ?_
    refine va_get (D := g.1) (ci := 5) (v := .int (rr_i (σ 13 0))) (C := RX5) (T := TX5) (N := 19) hx hb hts hinX5 hown hK.1 hP 0 rfl rfl 13 (by decide) hk_0 (fun _ h9 => h9) rfl dX5_isFigure_16 ?_
    obtain ⟨hg3, h⟩ := rr_c_some h
    refine rr_iald (f := (σ 11)) (N := 120) hx hb hK hP 11 rfl rfl (by decide) hg3 dX5_isFigure_19 ?_
    refine rr_bipush hx hb dX5_isFigure_20 (by decide +kernel) ?_
    refine rr_bipush hx hb dX5_isFigure_22 (by decide +kernel) ?_
    obtain ⟨v4, hw5, h⟩ := rr_b_some h
    refine rr_callI (va_runS (As := [.int (rr_i (σ 11 (σ 13 0))), .int (rr_i 48), .int (rr_i 57)]) (rest := []) ⟨hx, hb, hml, hown, hts⟩ (kX5_in l g (σ 11 (σ 13 0)) 48 57 v4 hw5) (va_cwS 3 hts gX5_isFigure_X5_in rfl rfl rfl hd_X5_in ⟨Nat.le_of_ble_eq_true rfl, Nat.le_of_ble_eq_true rfl⟩) ⟨rr_R_blind, rr_R_pre hK (hP.sub (ws' := ([] : va_W)) [] rfl)⟩ rfl rfl hl.1 rfl (lv_room (Nat.le_of_ble_eq_true rfl)) dX5_isFigure_24 ⟨Nat.zero_le _, Nat.zero_le _⟩) ?_
    obtain ⟨hg6, h⟩ := rr_c_some h
    refine rr_if_eq (tgt := 34) hx hb dX5_isFigure_27 (by decide) hg6 (fun c7 => ?_) (fun c7 => ?_)
    · rw [if_pos c7] at h
      refine rr_iconst hx hb dX5_isFigure_34 ?_
      exact hret _ _ _ h (by decide) dX5_isFigure_35
    · rw [if_neg c7] at h
      refine rr_iconst hx hb dX5_isFigure_30 ?_
      refine lv_goto (tgt := 35) hx hb dX5_isFigure_31 (by decide) ?_
      exact hret _ _ _ h (by decide) dX5_isFigure_35
-- RoomRingModel.number
abbrev rm_X5_number : Room := { frames := 2, cells := 0, slots := 0, locals := 42 }
theorem hd_X5_number : yX5_number.cls ≠ "java/lang/invoke/MethodHandle" ∧ yX5_number.cls ≠ "java/lang/invoke/VarHandle" ∧ (parseMethodDescriptor yX5_number.desc).map (fun d => d.parameters.length) = some 0 := by decide +kernel
set_option maxHeartbeats 4000000 in
set_option maxRecDepth 100000 in
theorem kX5_number (l : Launch) (g : rr_G) (ad : Nat → Nat) (sz : Nat) (hh : Int) (σ : rr_T) (out : (Int × rr_T)) (h : M5_number σ = some out) : Met l yX5_number wsX5_number rm_X5_number (rr_P g [.ref (ad 0)] (rr_wM g ad σ hh) sz) (rr_Qi g out.1 (rr_wM g ad out.2 hh) (va_A (rr_wM g ad σ hh) sz)) 0 0 (va_A (rr_wM g ad σ hh) sz) := by
  refine rr_rwI (cc := cX5_number) (maxL := 3) (fun σ => rr_wM g ad σ hh) σ out (by decide) rfl (Nat.le_of_ble_eq_true rfl) ?_
  intro p e s m ar below meth c Q ls A hx hb hml hown hts hK hA hP hD hS hret hl
  have hP : va_P g.1 vwCl (rr_wM g ad σ hh) s.heap := hP
  have hD : va_D A (rr_wM g ad σ hh) := hD
  have hown : s.vm.findClass RX5 = some m.cls := hown
  have hl : lv_has ls 3 [(0, .ref (ad 0))] := hl
  have hinX5 : ∀ w ∈ u_ws RX5 TX5 19, w ∈ wsX5_number := by decide +kernel
  have hk_0 : (Cond.fieldLink RX5 168 "RoomRingModel" "fault" "I").before ar s = true := hts _ (List.mem_of_getElem? (i := 1) (by decide +kernel))
  have hk_1 : (Cond.fieldLink RX5 41 "RoomRingModel" "text" "[I").before ar s = true := hts _ (List.mem_of_getElem? (i := 2) (by decide +kernel))
  have hk_2 : (Cond.fieldLink RX5 165 "RoomRingModel" "at" "I").before ar s = true := hts _ (List.mem_of_getElem? (i := 3) (by decide +kernel))
  unfold M5_number at h
  have hL5_number_42 : ∀ (K : Int → rr_T → Option (Int × rr_T)) (n : Nat) (x1 : Int) (x2 : Int) (σ : rr_T) (H : Heap) (locs : List Loc) (ls : Array Slot), L5_number_42 K n x1 x2 σ = some out → va_P g.1 vwCl (rr_wM g ad σ hh) H → va_D A (rr_wM g ad σ hh) → va_S A s.heap H locs → lv_has ls 3 [(0, .ref (ad 0)), (1, .int (rr_i x1)), (2, .int (rr_i x2))] → (∀ (z1 : Int) (τ9 : rr_T) (H : Heap) (locs : List Loc) (ls : Array Slot), K z1 τ9 = some out → va_P g.1 vwCl (rr_wM g ad τ9 hh) H → va_D A (rr_wM g ad τ9 hh) → va_S A s.heap H locs → lv_has ls 3 [(0, .ref (ad 0)), (1, .int (rr_i z1))] → W p l e rm_X5_number s m ar below meth c H locs 0 0 Q (F0 m 88 ls [])) → W p l e rm_X5_number s m ar below meth c H locs 0 0 Q (F0 m 42 ls []) := by
    intro K n
    induction n with
    | zero => intro x1 x2 σ H locs ls h hP hD hS hl hk; cases h
    | succ n ih =>
      intro x1 x2 σ H locs ls h hP hD hS hl hk
      rw [L5_number_42_s] at h
      refine lv_iload_n hx hb dX5_number_42 rfl (lv_at hl 2 rfl) ?_
      refine rr_iconst hx hb dX5_number_43 ?_
      obtain ⟨hg10, h⟩ := rr_c_some h
      refine rr_icmp_ge (tgt := 88) hx hb dX5_number_44 (by decide) hg10 (by decide) (fun c11 => ?_) (fun c11 => ?_)
      · rw [if_pos c11] at h
        exact hk x1 σ _ _ ls h hP hD hS (lv_sub hl [0, 1] rfl)
      · rw [if_neg c11] at h
        refine lv_aload_n hx hb dX5_number_47 rfl (lv_at hl 0 rfl) ?_
        obtain ⟨v12, hw13, h⟩ := rr_b_some h
        refine rr_callI (va_runV (As := []) (rest := []) ⟨hx, hb, hml, hown, hts⟩ (kX5_isFigure l g ad hh σ v12 hw13) (cwV 0 hts gX5_number_X5_isFigure rfl rfl rfl ⟨rfl, hd_X5_isFigure⟩ ⟨Nat.le_of_ble_eq_true rfl, Nat.le_of_ble_eq_true rfl⟩) ⟨rr_R_blind, va_recv hK.1 hP (ci := 5) (q0 := 0) rfl rfl, rr_R_pre hK hP⟩ rfl rfl hl.1 rfl (lv_room (Nat.le_of_ble_eq_true rfl)) dX5_number_48 ⟨Nat.zero_le _, Nat.zero_le _⟩) ?_
        obtain ⟨hg14, h⟩ := rr_c_some h
        refine rr_if_eq (tgt := 88) hx hb dX5_number_51 (by decide) hg14 (fun c15 => ?_) (fun c15 => ?_)
        · rw [if_pos c15] at h
          exact hk x1 σ _ _ ls h hP hD hS (lv_sub hl [0, 1] rfl)
        · rw [if_neg c15] at h
          refine rr_bipush hx hb dX5_number_54 (by decide +kernel) ?_
          refine lv_iload_n hx hb dX5_number_56 rfl (lv_at hl 1 rfl) ?_
          refine rr_imul hx hb dX5_number_57 ?_
          refine lv_aload_n hx hb dX5_number_58 rfl (lv_at hl 0 rfl) ?_
          refine va_get (D := g.1) (ci := 5) (v := .ref (ad 11)) (C := RX5) (T := TX5) (N := 19) hx hb hts hinX5 hown hK.1 hP 0 rfl rfl 11 (by decide) hk_1 (fun _ h9 => h9) rfl dX5_number_59 ?_
          refine lv_aload_n hx hb dX5_number_62 rfl (lv_at hl 0 rfl) ?_
          refine va_get (D := g.1) (ci := 5) (v := .int (rr_i (σ 13 0))) (C := RX5) (T := TX5) (N := 19) hx hb hts hinX5 hown hK.1 hP 0 rfl rfl 13 (by decide) hk_2 (fun _ h9 => h9) rfl dX5_number_63 ?_
          obtain ⟨hg16, h⟩ := rr_c_some h
          refine rr_iald (f := (σ 11)) (N := 120) hx hb hK hP 11 rfl rfl (by decide) hg16 dX5_number_66 ?_
          refine rr_iadd hx hb dX5_number_67 ?_
          refine rr_bipush hx hb dX5_number_68 (by decide +kernel) ?_
          refine rr_isub hx hb dX5_number_70 ?_
          refine lv_istore_n (lv' := [(1, .int (rr_i (((10 * x1) + (σ 11 (σ 13 0))) - 48))), (0, .ref (ad 0)), (2, .int (rr_i x2))]) hx hb dX5_number_71 rfl hl (by decide) rfl (fun ls hl => ?_)
          refine lv_aload_n hx hb dX5_number_72 rfl (lv_at hl 1 rfl) ?_
          refine lv_dup hx hb dX5_number_73 rfl ?_
          refine va_get (D := g.1) (ci := 5) (v := .int (rr_i (σ 13 0))) (C := RX5) (T := TX5) (N := 19) hx hb hts hinX5 hown hK.1 hP 0 rfl rfl 13 (by decide) hk_2 (fun _ h9 => h9) rfl dX5_number_74 ?_
          refine rr_iconst hx hb dX5_number_77 ?_
          refine rr_iadd hx hb dX5_number_78 ?_
          refine va_put (D := g.1) (ci := 5) (v := .int (rr_i ((σ 13 0) + 1))) (ty := .int) (C := RX5) (T := TX5) (N := 19) hx hb hts hinX5 tyX5 tyX5_ok nmX5 hown hK.1 hP hD hS 0 rfl rfl 13 (by decide) hk_2 (fun _ h9 => h9) rfl (by decide +kernel) rfl rfl (Nat.le_of_ble_eq_true rfl) dX5_number_79 (fun H locs hP hD hS => ?_)
          have hP : va_P g.1 vwCl (rr_wM g ad (rr_t σ 13 ((σ 13 0) + 1)) hh) H := hP
          have hD : va_D A (rr_wM g ad (rr_t σ 13 ((σ 13 0) + 1)) hh) := hD
          refine rr_iinc (k := 2) (a := x2) (lv' := [(2, .int (rr_i (x2 + 1))), (1, .int (rr_i (((10 * x1) + (σ 11 (σ 13 0))) - 48))), (0, .ref (ad 0))]) hx hb dX5_number_82 hl rfl (by decide) rfl (fun ls hl => ?_)
          refine lv_goto (tgt := 42) hx hb dX5_number_85 (by decide) ?_
          exact ih (((10 * x1) + (σ 11 (σ 13 0))) - 48) (x2 + 1) (rr_t σ 13 ((σ 13 0) + 1)) _ _ ls h hP hD hS (lv_sub hl [2, 1, 0] rfl) hk
  refine lv_aload_n hx hb dX5_number_0 rfl (lv_at hl 0 rfl) ?_
  refine lv_aload_n hx hb dX5_number_1 rfl (lv_at hl 0 rfl) ?_
  obtain ⟨v1, hw2, h⟩ := rr_b_some h
  refine rr_allI hD hS hA (va_runV (As := []) (rest := [.ref (ad 0)]) ⟨hx, hb, hml, hown, hts⟩ (kX5_here l g ad _ hh σ v1 hw2) (cwV 0 hts gX5_number_X5_here rfl rfl rfl ⟨rfl, hd_X5_here⟩ ⟨Nat.le_of_ble_eq_true rfl, Nat.le_of_ble_eq_true rfl⟩) ⟨rr_P_blind, va_recv hK.1 hP (ci := 5) (q0 := 0) rfl rfl, rr_P_pre hK hP hD⟩ rfl rfl hl.1 rfl (lv_room (Nat.le_of_ble_eq_true rfl)) dX5_number_2 ⟨Nat.zero_le _, Nat.zero_le _⟩) (fun H locs hP hD hS => ?_)
  refine rr_bipush hx hb dX5_number_5 (by decide +kernel) ?_
  refine rr_bipush hx hb dX5_number_7 (by decide +kernel) ?_
  obtain ⟨v3, hw4, h⟩ := rr_b_some h
  refine rr_callI (va_runS (As := [.int (rr_i v1.1), .int (rr_i 48), .int (rr_i 57)]) (rest := [.ref (ad 0)]) ⟨hx, hb, hml, hown, hts⟩ (kX5_in l g v1.1 48 57 v3 hw4) (va_cwS 3 hts gX5_number_X5_in rfl rfl rfl hd_X5_in ⟨Nat.le_of_ble_eq_true rfl, Nat.le_of_ble_eq_true rfl⟩) ⟨rr_R_blind, rr_R_pre hK (hP.sub (ws' := ([] : va_W)) [] rfl)⟩ rfl rfl hl.1 rfl (lv_room (Nat.le_of_ble_eq_true rfl)) dX5_number_9 ⟨Nat.zero_le _, Nat.zero_le _⟩) ?_
  obtain ⟨v5, hw6, h⟩ := rr_b_some h
  refine rr_allV hD hS hA (va_runV (As := [.int (rr_i v3)]) (rest := []) ⟨hx, hb, hml, hown, hts⟩ (kX5_must l g ad _ hh v3 v1.2 v5 hw6) (cwV 1 hts gX5_number_X5_must rfl rfl rfl ⟨rfl, hd_X5_must⟩ ⟨Nat.le_of_ble_eq_true rfl, Nat.le_of_ble_eq_true rfl⟩) ⟨rr_P_blind, va_recv hK.1 hP (ci := 5) (q0 := 0) rfl rfl, rr_P_pre hK hP hD⟩ rfl rfl hl.1 rfl (lv_room (Nat.le_of_ble_eq_true rfl)) dX5_number_12 ⟨Nat.zero_le _, Nat.zero_le _⟩) (fun H locs hP hD hS => ?_)
  refine lv_aload_n hx hb dX5_number_15 rfl (lv_at hl 0 rfl) ?_
  refine va_get (D := g.1) (ci := 5) (v := .int (rr_i (v5 14 0))) (C := RX5) (T := TX5) (N := 19) hx hb hts hinX5 hown hK.1 hP 0 rfl rfl 14 (by decide) hk_0 (fun _ h9 => h9) rfl dX5_number_16 ?_
  refine rr_iconst hx hb dX5_number_19 ?_
  obtain ⟨hg7, h⟩ := rr_c_some h
  refine rr_icmp_eq (tgt := 25) hx hb dX5_number_20 (by decide) hg7 (by decide) (fun c8 => ?_) (fun c8 => ?_)
  · rw [if_pos c8] at h
    refine lv_aload_n hx hb dX5_number_25 rfl (lv_at hl 0 rfl) ?_
    refine va_get (D := g.1) (ci := 5) (v := .ref (ad 11)) (C := RX5) (T := TX5) (N := 19) hx hb hts hinX5 hown hK.1 hP 0 rfl rfl 11 (by decide) hk_1 (fun _ h9 => h9) rfl dX5_number_26 ?_
    refine lv_aload_n hx hb dX5_number_29 rfl (lv_at hl 0 rfl) ?_
    refine va_get (D := g.1) (ci := 5) (v := .int (rr_i (v5 13 0))) (C := RX5) (T := TX5) (N := 19) hx hb hts hinX5 hown hK.1 hP 0 rfl rfl 13 (by decide) hk_2 (fun _ h9 => h9) rfl dX5_number_30 ?_
    refine rr_iconst hx hb dX5_number_33 ?_
    refine rr_isub hx hb dX5_number_34 ?_
    obtain ⟨hg9, h⟩ := rr_c_some h
    refine rr_iald (f := (v5 11)) (N := 120) hx hb hK hP 11 rfl rfl (by decide) hg9 dX5_number_35 ?_
    refine rr_bipush hx hb dX5_number_36 (by decide +kernel) ?_
    refine rr_isub hx hb dX5_number_38 ?_
    refine lv_istore_n (lv' := [(1, .int (rr_i ((v5 11 ((v5 13 0) - 1)) - 48))), (0, .ref (ad 0))]) hx hb dX5_number_39 rfl hl (by decide) rfl (fun ls hl => ?_)
    refine rr_iconst hx hb dX5_number_40 ?_
    refine lv_istore_n (lv' := [(2, .int (rr_i 0)), (1, .int (rr_i ((v5 11 ((v5 13 0) - 1)) - 48))), (0, .ref (ad 0))]) hx hb dX5_number_41 rfl hl (by decide) rfl (fun ls hl => ?_)
    refine hL5_number_42 _ 1000 ((v5 11 ((v5 13 0) - 1)) - 48) 0 v5 _ _ ls h hP hD hS (lv_sub hl [2, 1, 0] rfl) (fun y1_42 σ_42 H locs ls h hP hD hS hl => ?_)
    refine lv_aload_n hx hb dX5_number_88 rfl (lv_at hl 0 rfl) ?_
    obtain ⟨v17, hw18, h⟩ := rr_b_some h
    refine rr_callI (va_runV (As := []) (rest := []) ⟨hx, hb, hml, hown, hts⟩ (kX5_isFigure l g ad hh σ_42 v17 hw18) (cwV 0 hts gX5_number_X5_isFigure rfl rfl rfl ⟨rfl, hd_X5_isFigure⟩ ⟨Nat.le_of_ble_eq_true rfl, Nat.le_of_ble_eq_true rfl⟩) ⟨rr_R_blind, va_recv hK.1 hP (ci := 5) (q0 := 0) rfl rfl, rr_R_pre hK hP⟩ rfl rfl hl.1 rfl (lv_room (Nat.le_of_ble_eq_true rfl)) dX5_number_89 ⟨Nat.zero_le _, Nat.zero_le _⟩) ?_
    obtain ⟨hg19, h⟩ := rr_c_some h
    refine rr_if_eq (tgt := 103) hx hb dX5_number_92 (by decide) hg19 (fun c20 => ?_) (fun c20 => ?_)
    · rw [if_pos c20] at h
      refine lv_iload_n hx hb dX5_number_103 rfl (lv_at hl 1 rfl) ?_
      exact hret _ _ _ _ _ _ h hP hD hS dX5_number_104
    · rw [if_neg c20] at h
      refine lv_aload_n hx hb dX5_number_95 rfl (lv_at hl 0 rfl) ?_
      refine lv_aload_n hx hb dX5_number_96 rfl (lv_at hl 0 rfl) ?_
      refine va_get (D := g.1) (ci := 5) (v := .int (rr_i (σ_42 13 0))) (C := RX5) (T := TX5) (N := 19) hx hb hts hinX5 hown hK.1 hP 0 rfl rfl 13 (by decide) hk_2 (fun _ h9 => h9) rfl dX5_number_97 ?_
      refine va_put (D := g.1) (ci := 5) (v := .int (rr_i (σ_42 13 0))) (ty := .int) (C := RX5) (T := TX5) (N := 19) hx hb hts hinX5 tyX5 tyX5_ok nmX5 hown hK.1 hP hD hS 0 rfl rfl 14 (by decide) hk_0 (fun _ h9 => h9) rfl (by decide +kernel) rfl rfl (Nat.le_of_ble_eq_true rfl) dX5_number_100 (fun H locs hP hD hS => ?_)
      have hP : va_P g.1 vwCl (rr_wM g ad (rr_t σ_42 14 (σ_42 13 0)) hh) H := hP
      have hD : va_D A (rr_wM g ad (rr_t σ_42 14 (σ_42 13 0)) hh) := hD
      refine lv_iload_n hx hb dX5_number_103 rfl (lv_at hl 1 rfl) ?_
      exact hret _ _ _ _ _ _ h hP hD hS dX5_number_104
  · rw [if_neg c8] at h
    refine rr_iconst hx hb dX5_number_23 ?_
    exact hret _ _ _ _ _ _ h hP hD hS dX5_number_24
-- RoomRingModel.numbersOf
abbrev rm_X5_numbersOf : Room := { frames := 0, cells := 0, slots := 0, locals := 0 }
theorem hd_X5_numbersOf : yX5_numbersOf.cls ≠ "java/lang/invoke/MethodHandle" ∧ yX5_numbersOf.cls ≠ "java/lang/invoke/VarHandle" ∧ (parseMethodDescriptor yX5_numbersOf.desc).map (fun d => d.parameters.length) = some 1 := by decide +kernel
set_option maxHeartbeats 4000000 in
set_option maxRecDepth 100000 in
theorem kX5_numbersOf (l : Launch) (g : rr_G) (x0 : Int) (out : Int) (h : M5_numbersOf x0 = some out) : Met l yX5_numbersOf wsX5_numbersOf rm_X5_numbersOf (rr_R g [.int (rr_i x0)] (([] : va_W))) (vp_Si (fun x => x = rr_i out)) 0 0 (fun _ => False) := by
  refine rr_roI (cc := cX5_numbersOf) (maxL := 1) (by decide) rfl (Nat.le_of_ble_eq_true rfl) ?_
  intro p e s m ar below meth c Q ls hx hb hml hown hts hK hP hret hl
  have hown : s.vm.findClass RX5 = some m.cls := hown
  have hl : lv_has ls 1 [(0, .int (rr_i x0))] := hl
  unfold M5_numbersOf at h
  refine lv_iload_n hx hb dX5_numbersOf_0 rfl (lv_at hl 0 rfl) ?_
  obtain ⟨hg1, h⟩ := rr_c_some h
  have hv2 : (rr_i x0).toInt = x0 := rr_to_i hg1
  by_cases c3 : x0 = 100
  · rw [if_pos c3] at h
    refine lv_tableIn (off := 97) (tgt := 98) hx hb dX5_numbersOf_1 (by rw [hv2, c3]; decide) (by rw [hv2, c3]; decide) (by rw [hv2, c3]; rfl) (by decide) ?_
    refine rr_iconst hx hb dX5_numbersOf_98 ?_
    exact hret _ _ _ h dX5_numbersOf_99
  · rw [if_neg c3] at h
    by_cases c4 : x0 = 101
    · rw [if_pos c4] at h
      refine lv_tableIn (off := 97) (tgt := 98) hx hb dX5_numbersOf_1 (by rw [hv2, c4]; decide) (by rw [hv2, c4]; decide) (by rw [hv2, c4]; rfl) (by decide) ?_
      refine rr_iconst hx hb dX5_numbersOf_98 ?_
      exact hret _ _ _ h dX5_numbersOf_99
    · rw [if_neg c4] at h
      by_cases c5 : x0 = 103
      · rw [if_pos c5] at h
        refine lv_tableIn (off := 97) (tgt := 98) hx hb dX5_numbersOf_1 (by rw [hv2, c5]; decide) (by rw [hv2, c5]; decide) (by rw [hv2, c5]; rfl) (by decide) ?_
        refine rr_iconst hx hb dX5_numbersOf_98 ?_
        exact hret _ _ _ h dX5_numbersOf_99
      · rw [if_neg c5] at h
        by_cases c6 : x0 = 104
        · rw [if_pos c6] at h
          refine lv_tableIn (off := 95) (tgt := 96) hx hb dX5_numbersOf_1 (by rw [hv2, c6]; decide) (by rw [hv2, c6]; decide) (by rw [hv2, c6]; rfl) (by decide) ?_
          refine rr_iconst hx hb dX5_numbersOf_96 ?_
          exact hret _ _ _ h dX5_numbersOf_97
        · rw [if_neg c6] at h
          by_cases c7 : x0 = 107
          · rw [if_pos c7] at h
            refine lv_tableIn (off := 97) (tgt := 98) hx hb dX5_numbersOf_1 (by rw [hv2, c7]; decide) (by rw [hv2, c7]; decide) (by rw [hv2, c7]; rfl) (by decide) ?_
            refine rr_iconst hx hb dX5_numbersOf_98 ?_
            exact hret _ _ _ h dX5_numbersOf_99
          · rw [if_neg c7] at h
            by_cases c8 : x0 = 119
            · rw [if_pos c8] at h
              refine lv_tableIn (off := 95) (tgt := 96) hx hb dX5_numbersOf_1 (by rw [hv2, c8]; decide) (by rw [hv2, c8]; decide) (by rw [hv2, c8]; rfl) (by decide) ?_
              refine rr_iconst hx hb dX5_numbersOf_96 ?_
              exact hret _ _ _ h dX5_numbersOf_97
            · rw [if_neg c8] at h
              by_cases hr9 : x0 < 100 ∨ 119 < x0
              · refine lv_tableOut (tgt := 100) hx hb dX5_numbersOf_1 (by rw [hv2]; exact hr9) (by decide) ?_
                refine rr_iconst hx hb dX5_numbersOf_100 ?_
                exact hret _ _ _ h dX5_numbersOf_101
              · have he10 : x0 = 102 ∨ x0 = 105 ∨ x0 = 106 ∨ x0 = 108 ∨ x0 = 109 ∨ x0 = 110 ∨ x0 = 111 ∨ x0 = 112 ∨ x0 = 113 ∨ x0 = 114 ∨ x0 = 115 ∨ x0 = 116 ∨ x0 = 117 ∨ x0 = 118 := by omega
                rcases he10 with he10 | he10 | he10 | he10 | he10 | he10 | he10 | he10 | he10 | he10 | he10 | he10 | he10 | he10
                · refine lv_tableIn (off := 99) (tgt := 100) hx hb dX5_numbersOf_1 (by rw [hv2, he10]; decide) (by rw [hv2, he10]; decide) (by rw [hv2, he10]; rfl) (by decide) ?_
                  refine rr_iconst hx hb dX5_numbersOf_100 ?_
                  exact hret _ _ _ h dX5_numbersOf_101
                · refine lv_tableIn (off := 99) (tgt := 100) hx hb dX5_numbersOf_1 (by rw [hv2, he10]; decide) (by rw [hv2, he10]; decide) (by rw [hv2, he10]; rfl) (by decide) ?_
                  refine rr_iconst hx hb dX5_numbersOf_100 ?_
                  exact hret _ _ _ h dX5_numbersOf_101
                · refine lv_tableIn (off := 99) (tgt := 100) hx hb dX5_numbersOf_1 (by rw [hv2, he10]; decide) (by rw [hv2, he10]; decide) (by rw [hv2, he10]; rfl) (by decide) ?_
                  refine rr_iconst hx hb dX5_numbersOf_100 ?_
                  exact hret _ _ _ h dX5_numbersOf_101
                · refine lv_tableIn (off := 99) (tgt := 100) hx hb dX5_numbersOf_1 (by rw [hv2, he10]; decide) (by rw [hv2, he10]; decide) (by rw [hv2, he10]; rfl) (by decide) ?_
                  refine rr_iconst hx hb dX5_numbersOf_100 ?_
                  exact hret _ _ _ h dX5_numbersOf_101
                · refine lv_tableIn (off := 99) (tgt := 100) hx hb dX5_numbersOf_1 (by rw [hv2, he10]; decide) (by rw [hv2, he10]; decide) (by rw [hv2, he10]; rfl) (by decide) ?_
                  refine rr_iconst hx hb dX5_numbersOf_100 ?_
                  exact hret _ _ _ h dX5_numbersOf_101
                · refine lv_tableIn (off := 99) (tgt := 100) hx hb dX5_numbersOf_1 (by rw [hv2, he10]; decide) (by rw [hv2, he10]; decide) (by rw [hv2, he10]; rfl) (by decide) ?_
                  refine rr_iconst hx hb dX5_numbersOf_100 ?_
                  exact hret _ _ _ h dX5_numbersOf_101
                · refine lv_tableIn (off := 99) (tgt := 100) hx hb dX5_numbersOf_1 (by rw [hv2, he10]; decide) (by rw [hv2, he10]; decide) (by rw [hv2, he10]; rfl) (by decide) ?_
                  refine rr_iconst hx hb dX5_numbersOf_100 ?_
                  exact hret _ _ _ h dX5_numbersOf_101
                · refine lv_tableIn (off := 99) (tgt := 100) hx hb dX5_numbersOf_1 (by rw [hv2, he10]; decide) (by rw [hv2, he10]; decide) (by rw [hv2, he10]; rfl) (by decide) ?_
                  refine rr_iconst hx hb dX5_numbersOf_100 ?_
                  exact hret _ _ _ h dX5_numbersOf_101
                · refine lv_tableIn (off := 99) (tgt := 100) hx hb dX5_numbersOf_1 (by rw [hv2, he10]; decide) (by rw [hv2, he10]; decide) (by rw [hv2, he10]; rfl) (by decide) ?_
                  refine rr_iconst hx hb dX5_numbersOf_100 ?_
                  exact hret _ _ _ h dX5_numbersOf_101
                · refine lv_tableIn (off := 99) (tgt := 100) hx hb dX5_numbersOf_1 (by rw [hv2, he10]; decide) (by rw [hv2, he10]; decide) (by rw [hv2, he10]; rfl) (by decide) ?_
                  refine rr_iconst hx hb dX5_numbersOf_100 ?_
                  exact hret _ _ _ h dX5_numbersOf_101
                · refine lv_tableIn (off := 99) (tgt := 100) hx hb dX5_numbersOf_1 (by rw [hv2, he10]; decide) (by rw [hv2, he10]; decide) (by rw [hv2, he10]; rfl) (by decide) ?_
                  refine rr_iconst hx hb dX5_numbersOf_100 ?_
                  exact hret _ _ _ h dX5_numbersOf_101
                · refine lv_tableIn (off := 99) (tgt := 100) hx hb dX5_numbersOf_1 (by rw [hv2, he10]; decide) (by rw [hv2, he10]; decide) (by rw [hv2, he10]; rfl) (by decide) ?_
                  refine rr_iconst hx hb dX5_numbersOf_100 ?_
                  exact hret _ _ _ h dX5_numbersOf_101
                · refine lv_tableIn (off := 99) (tgt := 100) hx hb dX5_numbersOf_1 (by rw [hv2, he10]; decide) (by rw [hv2, he10]; decide) (by rw [hv2, he10]; rfl) (by decide) ?_
                  refine rr_iconst hx hb dX5_numbersOf_100 ?_
                  exact hret _ _ _ h dX5_numbersOf_101
                · refine lv_tableIn (off := 99) (tgt := 100) hx hb dX5_numbersOf_1 (by rw [hv2, he10]; decide) (by rw [hv2, he10]; decide) (by rw [hv2, he10]; rfl) (by decide) ?_
                  refine rr_iconst hx hb dX5_numbersOf_100 ?_
                  exact hret _ _ _ h dX5_numbersOf_101
-- RoomRingModel.readOrder
abbrev rm_X5_readOrder : Room := { frames := 3, cells := 0, slots := 0, locals := 64 }
theorem hd_X5_readOrder : yX5_readOrder.cls ≠ "java/lang/invoke/MethodHandle" ∧ yX5_readOrder.cls ≠ "java/lang/invoke/VarHandle" ∧ (parseMethodDescriptor yX5_readOrder.desc).map (fun d => d.parameters.length) = some 0 := by decide +kernel
set_option maxHeartbeats 4000000 in
set_option maxRecDepth 100000 in
theorem kX5_readOrder (l : Launch) (g : rr_G) (ad : Nat → Nat) (sz : Nat) (hh : Int) (σ : rr_T) (out : rr_T) (h : M5_readOrder σ = some out) : Met l yX5_readOrder wsX5_readOrder rm_X5_readOrder (rr_P g [.ref (ad 0)] (rr_wM g ad σ hh) sz) (rr_Qv g (rr_wM g ad out hh) (va_A (rr_wM g ad σ hh) sz)) 0 0 (va_A (rr_wM g ad σ hh) sz) := by
  refine rr_rwV (cc := cX5_readOrder) (maxL := 4) (fun σ => rr_wM g ad σ hh) σ out (by decide) rfl (Nat.le_of_ble_eq_true rfl) ?_
  intro p e s m ar below meth c Q ls A hx hb hml hown hts hK hA hP hD hS hret hl
  have hP : va_P g.1 vwCl (rr_wM g ad σ hh) s.heap := hP
  have hD : va_D A (rr_wM g ad σ hh) := hD
  have hown : s.vm.findClass RX5 = some m.cls := hown
  have hl : lv_has ls 4 [(0, .ref (ad 0))] := hl
  have hinX5 : ∀ w ∈ u_ws RX5 TX5 19, w ∈ wsX5_readOrder := by decide +kernel
  have hk_0 : (Cond.fieldLink RX5 168 "RoomRingModel" "fault" "I").before ar s = true := hts _ (List.mem_of_getElem? (i := 1) (by decide +kernel))
  have hk_1 : (Cond.fieldLink RX5 47 "RoomRingModel" "numbers" "[I").before ar s = true := hts _ (List.mem_of_getElem? (i := 2) (by decide +kernel))
  have hk_2 : (Cond.fieldLink RX5 185 "RoomRingModel" "orders" "I").before ar s = true := hts _ (List.mem_of_getElem? (i := 3) (by decide +kernel))
  have hk_3 : (Cond.fieldLink RX5 44 "RoomRingModel" "letters" "[I").before ar s = true := hts _ (List.mem_of_getElem? (i := 4) (by decide +kernel))
  unfold M5_readOrder at h
  have hL5_readOrder_26 : ∀ (x1 : Int) (x2 : Int) (K : rr_T → Option rr_T) (n : Nat) (x3 : Int) (σ : rr_T) (H : Heap) (locs : List Loc) (ls : Array Slot), L5_readOrder_26 x1 x2 K n x3 σ = some out → va_P g.1 vwCl (rr_wM g ad σ hh) H → va_D A (rr_wM g ad σ hh) → va_S A s.heap H locs → lv_has ls 4 [(0, .ref (ad 0)), (1, .int (rr_i x1)), (2, .int (rr_i x2)), (3, .int (rr_i x3))] → (∀ (τ9 : rr_T) (H : Heap) (locs : List Loc) (ls : Array Slot), K τ9 = some out → va_P g.1 vwCl (rr_wM g ad τ9 hh) H → va_D A (rr_wM g ad τ9 hh) → va_S A s.heap H locs → lv_has ls 4 [(0, .ref (ad 0)), (1, .int (rr_i x1))] → W p l e rm_X5_readOrder s m ar below meth c H locs 0 0 Q (F0 m 62 ls [])) → W p l e rm_X5_readOrder s m ar below meth c H locs 0 0 Q (F0 m 26 ls []) := by
    intro x1 x2 K n
    induction n with
    | zero => intro x3 σ H locs ls h hP hD hS hl hk; cases h
    | succ n ih =>
      intro x3 σ H locs ls h hP hD hS hl hk
      rw [L5_readOrder_26_s] at h
      refine lv_iload_n hx hb dX5_readOrder_26 rfl (lv_at hl 3 rfl) ?_
      refine lv_iload_n hx hb dX5_readOrder_27 rfl (lv_at hl 2 rfl) ?_
      obtain ⟨hg9, h⟩ := rr_c_some h
      refine rr_icmp_ge (tgt := 62) hx hb dX5_readOrder_28 (by decide) hg9.1 hg9.2 (fun c10 => ?_) (fun c10 => ?_)
      · rw [if_pos c10] at h
        exact hk σ _ _ ls h hP hD hS (lv_sub hl [0, 1] rfl)
      · rw [if_neg c10] at h
        refine lv_aload_n hx hb dX5_readOrder_31 rfl (lv_at hl 0 rfl) ?_
        refine va_get (D := g.1) (ci := 5) (v := .int (rr_i (σ 14 0))) (C := RX5) (T := TX5) (N := 19) hx hb hts hinX5 hown hK.1 hP 0 rfl rfl 14 (by decide) hk_0 (fun _ h9 => h9) rfl dX5_readOrder_32 ?_
        refine rr_iconst hx hb dX5_readOrder_35 ?_
        obtain ⟨hg11, h⟩ := rr_c_some h
        refine rr_icmp_ne (tgt := 62) hx hb dX5_readOrder_36 (by decide) hg11 (by decide) (fun c12 => ?_) (fun c12 => ?_)
        · rw [if_neg c12] at h
          exact hk σ _ _ ls h hP hD hS (lv_sub hl [0, 1] rfl)
        · rw [if_pos c12] at h
          refine lv_aload_n hx hb dX5_readOrder_39 rfl (lv_at hl 0 rfl) ?_
          refine va_get (D := g.1) (ci := 5) (v := .ref (ad 13)) (C := RX5) (T := TX5) (N := 19) hx hb hts hinX5 hown hK.1 hP 0 rfl rfl 17 (by decide) hk_1 (fun _ h9 => h9) rfl dX5_readOrder_40 ?_
          refine rr_iconst hx hb dX5_readOrder_43 ?_
          refine lv_aload_n hx hb dX5_readOrder_44 rfl (lv_at hl 0 rfl) ?_
          refine va_get (D := g.1) (ci := 5) (v := .int (rr_i (σ 15 0))) (C := RX5) (T := TX5) (N := 19) hx hb hts hinX5 hown hK.1 hP 0 rfl rfl 15 (by decide) hk_2 (fun _ h9 => h9) rfl dX5_readOrder_45 ?_
          refine rr_imul hx hb dX5_readOrder_48 ?_
          refine lv_iload_n hx hb dX5_readOrder_49 rfl (lv_at hl 3 rfl) ?_
          refine rr_iadd hx hb dX5_readOrder_50 ?_
          refine lv_aload_n hx hb dX5_readOrder_51 rfl (lv_at hl 0 rfl) ?_
          obtain ⟨v13, hw14, h⟩ := rr_b_some h
          refine rr_allI hD hS hA (va_runV (As := []) (rest := [.int (rr_i ((2 * (σ 15 0)) + x3)), .ref (ad 13)]) ⟨hx, hb, hml, hown, hts⟩ (kX5_number l g ad _ hh σ v13 hw14) (cwV 0 hts gX5_readOrder_X5_number rfl rfl rfl ⟨rfl, hd_X5_number⟩ ⟨Nat.le_of_ble_eq_true rfl, Nat.le_of_ble_eq_true rfl⟩) ⟨rr_P_blind, va_recv hK.1 hP (ci := 5) (q0 := 0) rfl rfl, rr_P_pre hK hP hD⟩ rfl rfl hl.1 rfl (lv_room (Nat.le_of_ble_eq_true rfl)) dX5_readOrder_52 ⟨Nat.zero_le _, Nat.zero_le _⟩) (fun H locs hP hD hS => ?_)
          obtain ⟨hg15, h⟩ := rr_c_some h
          refine rr_iast (f := (v13.2 17)) (N := 80) hx hb hK hP hD hS 13 rfl rfl (by decide) hg15 dX5_readOrder_55 (fun H locs hP hD hS => ?_)
          have hP : va_P g.1 vwCl (rr_wM g ad (rr_s v13.2 17 ((2 * (σ 15 0)) + x3) v13.1) hh) H := hP
          have hD : va_D A (rr_wM g ad (rr_s v13.2 17 ((2 * (σ 15 0)) + x3) v13.1) hh) := hD
          refine rr_iinc (k := 3) (a := x3) (lv' := [(3, .int (rr_i (x3 + 1))), (0, .ref (ad 0)), (1, .int (rr_i x1)), (2, .int (rr_i x2))]) hx hb dX5_readOrder_56 hl rfl (by decide) rfl (fun ls hl => ?_)
          refine lv_goto (tgt := 26) hx hb dX5_readOrder_59 (by decide) ?_
          exact ih (x3 + 1) (rr_s v13.2 17 ((2 * (σ 15 0)) + x3) v13.1) _ _ ls h hP hD hS (lv_sub hl [1, 2, 3, 0] rfl) hk
  refine lv_aload_n hx hb dX5_readOrder_0 rfl (lv_at hl 0 rfl) ?_
  obtain ⟨v1, hw2, h⟩ := rr_b_some h
  refine rr_allI hD hS hA (va_runV (As := []) (rest := []) ⟨hx, hb, hml, hown, hts⟩ (kX5_here l g ad _ hh σ v1 hw2) (cwV 0 hts gX5_readOrder_X5_here rfl rfl rfl ⟨rfl, hd_X5_here⟩ ⟨Nat.le_of_ble_eq_true rfl, Nat.le_of_ble_eq_true rfl⟩) ⟨rr_P_blind, va_recv hK.1 hP (ci := 5) (q0 := 0) rfl rfl, rr_P_pre hK hP hD⟩ rfl rfl hl.1 rfl (lv_room (Nat.le_of_ble_eq_true rfl)) dX5_readOrder_1 ⟨Nat.zero_le _, Nat.zero_le _⟩) (fun H locs hP hD hS => ?_)
  refine lv_istore_n (lv' := [(1, .int (rr_i v1.1)), (0, .ref (ad 0))]) hx hb dX5_readOrder_4 rfl hl (by decide) rfl (fun ls hl => ?_)
  refine lv_iload_n hx hb dX5_readOrder_5 rfl (lv_at hl 0 rfl) ?_
  obtain ⟨v3, hw4, h⟩ := rr_b_some h
  refine rr_callI (va_runS (As := [.int (rr_i v1.1)]) (rest := []) ⟨hx, hb, hml, hown, hts⟩ (kX5_numbersOf l g v1.1 v3 hw4) (va_cwS 1 hts gX5_readOrder_X5_numbersOf rfl rfl rfl hd_X5_numbersOf ⟨Nat.le_of_ble_eq_true rfl, Nat.le_of_ble_eq_true rfl⟩) ⟨rr_R_blind, rr_R_pre hK (hP.sub (ws' := ([] : va_W)) [] rfl)⟩ rfl rfl hl.1 rfl (lv_room (Nat.le_of_ble_eq_true rfl)) dX5_readOrder_6 ⟨Nat.zero_le _, Nat.zero_le _⟩) ?_
  refine lv_istore_n (lv' := [(2, .int (rr_i v3)), (1, .int (rr_i v1.1)), (0, .ref (ad 0))]) hx hb dX5_readOrder_9 rfl hl (by decide) rfl (fun ls hl => ?_)
  refine lv_aload_n hx hb dX5_readOrder_10 rfl (lv_at hl 2 rfl) ?_
  refine lv_iload_n hx hb dX5_readOrder_11 rfl (lv_at hl 0 rfl) ?_
  refine rr_iconst hx hb dX5_readOrder_12 ?_
  obtain ⟨hg5, h⟩ := rr_c_some h
  refine rr_icmp_eq (tgt := 20) hx hb dX5_readOrder_13 (by decide) hg5 (by decide) (fun c6 => ?_) (fun c6 => ?_)
  · rw [if_pos c6] at h
    refine rr_iconst hx hb dX5_readOrder_20 ?_
    obtain ⟨v7, hw8, h⟩ := rr_b_some h
    refine rr_allV hD hS hA (va_runV (As := [.int (rr_i 0)]) (rest := []) ⟨hx, hb, hml, hown, hts⟩ (kX5_must l g ad _ hh 0 v1.2 v7 hw8) (cwV 1 hts gX5_readOrder_X5_must rfl rfl rfl ⟨rfl, hd_X5_must⟩ ⟨Nat.le_of_ble_eq_true rfl, Nat.le_of_ble_eq_true rfl⟩) ⟨rr_P_blind, va_recv hK.1 hP (ci := 5) (q0 := 0) rfl rfl, rr_P_pre hK hP hD⟩ rfl rfl hl.1 rfl (lv_room (Nat.le_of_ble_eq_true rfl)) dX5_readOrder_21 ⟨Nat.zero_le _, Nat.zero_le _⟩) (fun H locs hP hD hS => ?_)
    refine rr_iconst hx hb dX5_readOrder_24 ?_
    refine lv_istore_n (lv' := [(3, .int (rr_i 0)), (2, .int (rr_i v3)), (1, .int (rr_i v1.1)), (0, .ref (ad 0))]) hx hb dX5_readOrder_25 rfl hl (by decide) rfl (fun ls hl => ?_)
    refine hL5_readOrder_26 v1.1 v3 _ 1000 0 v7 _ _ ls h hP hD hS (lv_sub hl [3, 2, 1, 0] rfl) (fun σ_26 H locs ls h hP hD hS hl => ?_)
    refine lv_aload_n hx hb dX5_readOrder_62 rfl (lv_at hl 0 rfl) ?_
    refine va_get (D := g.1) (ci := 5) (v := .int (rr_i (σ_26 14 0))) (C := RX5) (T := TX5) (N := 19) hx hb hts hinX5 hown hK.1 hP 0 rfl rfl 14 (by decide) hk_0 (fun _ h9 => h9) rfl dX5_readOrder_63 ?_
    refine rr_iconst hx hb dX5_readOrder_66 ?_
    obtain ⟨hg16, h⟩ := rr_c_some h
    refine rr_icmp_ne (tgt := 108) hx hb dX5_readOrder_67 (by decide) hg16 (by decide) (fun c17 => ?_) (fun c17 => ?_)
    · rw [if_neg c17] at h
      exact hret _ _ _ _ _ h hP hD hS dX5_readOrder_108
    · rw [if_pos c17] at h
      refine lv_aload_n hx hb dX5_readOrder_70 rfl (lv_at hl 0 rfl) ?_
      refine va_get (D := g.1) (ci := 5) (v := .ref (ad 12)) (C := RX5) (T := TX5) (N := 19) hx hb hts hinX5 hown hK.1 hP 0 rfl rfl 16 (by decide) hk_3 (fun _ h9 => h9) rfl dX5_readOrder_71 ?_
      refine lv_aload_n hx hb dX5_readOrder_74 rfl (lv_at hl 0 rfl) ?_
      refine va_get (D := g.1) (ci := 5) (v := .int (rr_i (σ_26 15 0))) (C := RX5) (T := TX5) (N := 19) hx hb hts hinX5 hown hK.1 hP 0 rfl rfl 15 (by decide) hk_2 (fun _ h9 => h9) rfl dX5_readOrder_75 ?_
      refine lv_iload_n hx hb dX5_readOrder_78 rfl (lv_at hl 1 rfl) ?_
      obtain ⟨hg18, h⟩ := rr_c_some h
      refine rr_iast (f := (σ_26 16)) (N := 40) hx hb hK hP hD hS 12 rfl rfl (by decide) hg18 dX5_readOrder_79 (fun H locs hP hD hS => ?_)
      have hP : va_P g.1 vwCl (rr_wM g ad (rr_s σ_26 16 (σ_26 15 0) v1.1) hh) H := hP
      have hD : va_D A (rr_wM g ad (rr_s σ_26 16 (σ_26 15 0) v1.1) hh) := hD
      refine lv_aload_n hx hb dX5_readOrder_80 rfl (lv_at hl 0 rfl) ?_
      refine lv_dup hx hb dX5_readOrder_81 rfl ?_
      refine va_get (D := g.1) (ci := 5) (v := .int (rr_i (σ_26 15 0))) (C := RX5) (T := TX5) (N := 19) hx hb hts hinX5 hown hK.1 hP 0 rfl rfl 15 (by decide) hk_2 (fun _ h9 => h9) rfl dX5_readOrder_82 ?_
      refine rr_iconst hx hb dX5_readOrder_85 ?_
      refine rr_iadd hx hb dX5_readOrder_86 ?_
      refine va_put (D := g.1) (ci := 5) (v := .int (rr_i ((σ_26 15 0) + 1))) (ty := .int) (C := RX5) (T := TX5) (N := 19) hx hb hts hinX5 tyX5 tyX5_ok nmX5 hown hK.1 hP hD hS 0 rfl rfl 15 (by decide) hk_2 (fun _ h9 => h9) rfl (by decide +kernel) rfl rfl (Nat.le_of_ble_eq_true rfl) dX5_readOrder_87 (fun H locs hP hD hS => ?_)
      have hP : va_P g.1 vwCl (rr_wM g ad (rr_t (rr_s σ_26 16 (σ_26 15 0) v1.1) 15 ((σ_26 15 0) + 1)) hh) H := hP
      have hD : va_D A (rr_wM g ad (rr_t (rr_s σ_26 16 (σ_26 15 0) v1.1) 15 ((σ_26 15 0) + 1)) hh) := hD
      refine lv_aload_n hx hb dX5_readOrder_90 rfl (lv_at hl 0 rfl) ?_
      refine lv_aload_n hx hb dX5_readOrder_91 rfl (lv_at hl 0 rfl) ?_
      obtain ⟨v19, hw20, h⟩ := rr_b_some h
      refine rr_allI hD hS hA (va_runV (As := []) (rest := [.ref (ad 0)]) ⟨hx, hb, hml, hown, hts⟩ (kX5_here l g ad _ hh (rr_t (rr_s σ_26 16 (σ_26 15 0) v1.1) 15 ((σ_26 15 0) + 1)) v19 hw20) (cwV 0 hts gX5_readOrder_X5_here rfl rfl rfl ⟨rfl, hd_X5_here⟩ ⟨Nat.le_of_ble_eq_true rfl, Nat.le_of_ble_eq_true rfl⟩) ⟨rr_P_blind, va_recv hK.1 hP (ci := 5) (q0 := 0) rfl rfl, rr_P_pre hK hP hD⟩ rfl rfl hl.1 rfl (lv_room (Nat.le_of_ble_eq_true rfl)) dX5_readOrder_92 ⟨Nat.zero_le _, Nat.zero_le _⟩) (fun H locs hP hD hS => ?_)
      refine rr_bipush hx hb dX5_readOrder_95 (by decide +kernel) ?_
      obtain ⟨hg21, h⟩ := rr_c_some h
      refine rr_icmp_ne (tgt := 104) hx hb dX5_readOrder_97 (by decide) hg21 (by decide) (fun c22 => ?_) (fun c22 => ?_)
      · rw [if_neg c22] at h
        refine rr_iconst hx hb dX5_readOrder_104 ?_
        obtain ⟨v23, hw24, h⟩ := rr_b_some h
        refine rr_allV hD hS hA (va_runV (As := [.int (rr_i 0)]) (rest := []) ⟨hx, hb, hml, hown, hts⟩ (kX5_must l g ad _ hh 0 v19.2 v23 hw24) (cwV 1 hts gX5_readOrder_X5_must rfl rfl rfl ⟨rfl, hd_X5_must⟩ ⟨Nat.le_of_ble_eq_true rfl, Nat.le_of_ble_eq_true rfl⟩) ⟨rr_P_blind, va_recv hK.1 hP (ci := 5) (q0 := 0) rfl rfl, rr_P_pre hK hP hD⟩ rfl rfl hl.1 rfl (lv_room (Nat.le_of_ble_eq_true rfl)) dX5_readOrder_105 ⟨Nat.zero_le _, Nat.zero_le _⟩) (fun H locs hP hD hS => ?_)
        exact hret _ _ _ _ _ h hP hD hS dX5_readOrder_108
      · rw [if_pos c22] at h
        refine rr_iconst hx hb dX5_readOrder_100 ?_
        refine lv_goto (tgt := 105) hx hb dX5_readOrder_101 (by decide) ?_
        obtain ⟨v25, hw26, h⟩ := rr_b_some h
        refine rr_allV hD hS hA (va_runV (As := [.int (rr_i 1)]) (rest := []) ⟨hx, hb, hml, hown, hts⟩ (kX5_must l g ad _ hh 1 v19.2 v25 hw26) (cwV 1 hts gX5_readOrder_X5_must rfl rfl rfl ⟨rfl, hd_X5_must⟩ ⟨Nat.le_of_ble_eq_true rfl, Nat.le_of_ble_eq_true rfl⟩) ⟨rr_P_blind, va_recv hK.1 hP (ci := 5) (q0 := 0) rfl rfl, rr_P_pre hK hP hD⟩ rfl rfl hl.1 rfl (lv_room (Nat.le_of_ble_eq_true rfl)) dX5_readOrder_105 ⟨Nat.zero_le _, Nat.zero_le _⟩) (fun H locs hP hD hS => ?_)
        exact hret _ _ _ _ _ h hP hD hS dX5_readOrder_108
  · rw [if_neg c6] at h
    refine rr_iconst hx hb dX5_readOrder_16 ?_
    refine lv_goto (tgt := 21) hx hb dX5_readOrder_17 (by decide) ?_
    obtain ⟨v27, hw28, h⟩ := rr_b_some h
    refine rr_allV hD hS hA (va_runV (As := [.int (rr_i 1)]) (rest := []) ⟨hx, hb, hml, hown, hts⟩ (kX5_must l g ad _ hh 1 v1.2 v27 hw28) (cwV 1 hts gX5_readOrder_X5_must rfl rfl rfl ⟨rfl, hd_X5_must⟩ ⟨Nat.le_of_ble_eq_true rfl, Nat.le_of_ble_eq_true rfl⟩) ⟨rr_P_blind, va_recv hK.1 hP (ci := 5) (q0 := 0) rfl rfl, rr_P_pre hK hP hD⟩ rfl rfl hl.1 rfl (lv_room (Nat.le_of_ble_eq_true rfl)) dX5_readOrder_21 ⟨Nat.zero_le _, Nat.zero_le _⟩) (fun H locs hP hD hS => ?_)
    refine rr_iconst hx hb dX5_readOrder_24 ?_
    refine lv_istore_n (lv' := [(3, .int (rr_i 0)), (2, .int (rr_i v3)), (1, .int (rr_i v1.1)), (0, .ref (ad 0))]) hx hb dX5_readOrder_25 rfl hl (by decide) rfl (fun ls hl => ?_)
    refine hL5_readOrder_26 v1.1 v3 _ 1000 0 v27 _ _ ls h hP hD hS (lv_sub hl [3, 2, 1, 0] rfl) (fun σ_26 H locs ls h hP hD hS hl => ?_)
    refine lv_aload_n hx hb dX5_readOrder_62 rfl (lv_at hl 0 rfl) ?_
    refine va_get (D := g.1) (ci := 5) (v := .int (rr_i (σ_26 14 0))) (C := RX5) (T := TX5) (N := 19) hx hb hts hinX5 hown hK.1 hP 0 rfl rfl 14 (by decide) hk_0 (fun _ h9 => h9) rfl dX5_readOrder_63 ?_
    refine rr_iconst hx hb dX5_readOrder_66 ?_
    obtain ⟨hg29, h⟩ := rr_c_some h
    refine rr_icmp_ne (tgt := 108) hx hb dX5_readOrder_67 (by decide) hg29 (by decide) (fun c30 => ?_) (fun c30 => ?_)
    · rw [if_neg c30] at h
      exact hret _ _ _ _ _ h hP hD hS dX5_readOrder_108
    · rw [if_pos c30] at h
      refine lv_aload_n hx hb dX5_readOrder_70 rfl (lv_at hl 0 rfl) ?_
      refine va_get (D := g.1) (ci := 5) (v := .ref (ad 12)) (C := RX5) (T := TX5) (N := 19) hx hb hts hinX5 hown hK.1 hP 0 rfl rfl 16 (by decide) hk_3 (fun _ h9 => h9) rfl dX5_readOrder_71 ?_
      refine lv_aload_n hx hb dX5_readOrder_74 rfl (lv_at hl 0 rfl) ?_
      refine va_get (D := g.1) (ci := 5) (v := .int (rr_i (σ_26 15 0))) (C := RX5) (T := TX5) (N := 19) hx hb hts hinX5 hown hK.1 hP 0 rfl rfl 15 (by decide) hk_2 (fun _ h9 => h9) rfl dX5_readOrder_75 ?_
      refine lv_iload_n hx hb dX5_readOrder_78 rfl (lv_at hl 1 rfl) ?_
      obtain ⟨hg31, h⟩ := rr_c_some h
      refine rr_iast (f := (σ_26 16)) (N := 40) hx hb hK hP hD hS 12 rfl rfl (by decide) hg31 dX5_readOrder_79 (fun H locs hP hD hS => ?_)
      have hP : va_P g.1 vwCl (rr_wM g ad (rr_s σ_26 16 (σ_26 15 0) v1.1) hh) H := hP
      have hD : va_D A (rr_wM g ad (rr_s σ_26 16 (σ_26 15 0) v1.1) hh) := hD
      refine lv_aload_n hx hb dX5_readOrder_80 rfl (lv_at hl 0 rfl) ?_
      refine lv_dup hx hb dX5_readOrder_81 rfl ?_
      refine va_get (D := g.1) (ci := 5) (v := .int (rr_i (σ_26 15 0))) (C := RX5) (T := TX5) (N := 19) hx hb hts hinX5 hown hK.1 hP 0 rfl rfl 15 (by decide) hk_2 (fun _ h9 => h9) rfl dX5_readOrder_82 ?_
      refine rr_iconst hx hb dX5_readOrder_85 ?_
      refine rr_iadd hx hb dX5_readOrder_86 ?_
      refine va_put (D := g.1) (ci := 5) (v := .int (rr_i ((σ_26 15 0) + 1))) (ty := .int) (C := RX5) (T := TX5) (N := 19) hx hb hts hinX5 tyX5 tyX5_ok nmX5 hown hK.1 hP hD hS 0 rfl rfl 15 (by decide) hk_2 (fun _ h9 => h9) rfl (by decide +kernel) rfl rfl (Nat.le_of_ble_eq_true rfl) dX5_readOrder_87 (fun H locs hP hD hS => ?_)
      have hP : va_P g.1 vwCl (rr_wM g ad (rr_t (rr_s σ_26 16 (σ_26 15 0) v1.1) 15 ((σ_26 15 0) + 1)) hh) H := hP
      have hD : va_D A (rr_wM g ad (rr_t (rr_s σ_26 16 (σ_26 15 0) v1.1) 15 ((σ_26 15 0) + 1)) hh) := hD
      refine lv_aload_n hx hb dX5_readOrder_90 rfl (lv_at hl 0 rfl) ?_
      refine lv_aload_n hx hb dX5_readOrder_91 rfl (lv_at hl 0 rfl) ?_
      obtain ⟨v32, hw33, h⟩ := rr_b_some h
      refine rr_allI hD hS hA (va_runV (As := []) (rest := [.ref (ad 0)]) ⟨hx, hb, hml, hown, hts⟩ (kX5_here l g ad _ hh (rr_t (rr_s σ_26 16 (σ_26 15 0) v1.1) 15 ((σ_26 15 0) + 1)) v32 hw33) (cwV 0 hts gX5_readOrder_X5_here rfl rfl rfl ⟨rfl, hd_X5_here⟩ ⟨Nat.le_of_ble_eq_true rfl, Nat.le_of_ble_eq_true rfl⟩) ⟨rr_P_blind, va_recv hK.1 hP (ci := 5) (q0 := 0) rfl rfl, rr_P_pre hK hP hD⟩ rfl rfl hl.1 rfl (lv_room (Nat.le_of_ble_eq_true rfl)) dX5_readOrder_92 ⟨Nat.zero_le _, Nat.zero_le _⟩) (fun H locs hP hD hS => ?_)
      refine rr_bipush hx hb dX5_readOrder_95 (by decide +kernel) ?_
      obtain ⟨hg34, h⟩ := rr_c_some h
      refine rr_icmp_ne (tgt := 104) hx hb dX5_readOrder_97 (by decide) hg34 (by decide) (fun c35 => ?_) (fun c35 => ?_)
      · rw [if_neg c35] at h
        refine rr_iconst hx hb dX5_readOrder_104 ?_
        obtain ⟨v36, hw37, h⟩ := rr_b_some h
        refine rr_allV hD hS hA (va_runV (As := [.int (rr_i 0)]) (rest := []) ⟨hx, hb, hml, hown, hts⟩ (kX5_must l g ad _ hh 0 v32.2 v36 hw37) (cwV 1 hts gX5_readOrder_X5_must rfl rfl rfl ⟨rfl, hd_X5_must⟩ ⟨Nat.le_of_ble_eq_true rfl, Nat.le_of_ble_eq_true rfl⟩) ⟨rr_P_blind, va_recv hK.1 hP (ci := 5) (q0 := 0) rfl rfl, rr_P_pre hK hP hD⟩ rfl rfl hl.1 rfl (lv_room (Nat.le_of_ble_eq_true rfl)) dX5_readOrder_105 ⟨Nat.zero_le _, Nat.zero_le _⟩) (fun H locs hP hD hS => ?_)
        exact hret _ _ _ _ _ h hP hD hS dX5_readOrder_108
      · rw [if_pos c35] at h
        refine rr_iconst hx hb dX5_readOrder_100 ?_
        refine lv_goto (tgt := 105) hx hb dX5_readOrder_101 (by decide) ?_
        obtain ⟨v38, hw39, h⟩ := rr_b_some h
        refine rr_allV hD hS hA (va_runV (As := [.int (rr_i 1)]) (rest := []) ⟨hx, hb, hml, hown, hts⟩ (kX5_must l g ad _ hh 1 v32.2 v38 hw39) (cwV 1 hts gX5_readOrder_X5_must rfl rfl rfl ⟨rfl, hd_X5_must⟩ ⟨Nat.le_of_ble_eq_true rfl, Nat.le_of_ble_eq_true rfl⟩) ⟨rr_P_blind, va_recv hK.1 hP (ci := 5) (q0 := 0) rfl rfl, rr_P_pre hK hP hD⟩ rfl rfl hl.1 rfl (lv_room (Nat.le_of_ble_eq_true rfl)) dX5_readOrder_105 ⟨Nat.zero_le _, Nat.zero_le _⟩) (fun H locs hP hD hS => ?_)
        exact hret _ _ _ _ _ h hP hD hS dX5_readOrder_108
