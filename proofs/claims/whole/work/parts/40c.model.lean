-- RoomRingModel.of
abbrev rm_X5_of : Room := { frames := 3, cells := 0, slots := 0, locals := 69 }
theorem hd_X5_of : yX5_of.cls ≠ "java/lang/invoke/MethodHandle" ∧ yX5_of.cls ≠ "java/lang/invoke/VarHandle" ∧ (parseMethodDescriptor yX5_of.desc).map (fun d => d.parameters.length) = some 2 := by decide +kernel
set_option maxHeartbeats 4000000 in
set_option maxRecDepth 100000 in
theorem kX5_of (l : Launch) (g : rr_G) (ad : Nat → Nat) (sz : Nat) (hh : Int) (x1 : Int) (x2 : Int) (σ : rr_T) (out : (Int × rr_T)) (h : M5_of x1 x2 σ = some out) : Met l yX5_of wsX5_of rm_X5_of (rr_P g [.ref (ad 0), .int (rr_i x1), .int (rr_i x2)] (rr_wM g ad σ hh) sz) (rr_Qi g out.1 (rr_wM g ad out.2 hh) (va_A (rr_wM g ad σ hh) sz)) 0 0 (va_A (rr_wM g ad σ hh) sz) := by
  refine rr_rwI (cc := cX5_of) (maxL := 3) (fun σ => rr_wM g ad σ hh) σ out (by decide) rfl (Nat.le_of_ble_eq_true rfl) ?_
  intro p e s m ar below meth c Q ls A hx hb hml hown hts hK hA hP hD hS hret hl
  have hP : va_P g.1 vwCl (rr_wM g ad σ hh) s.heap := hP
  have hD : va_D A (rr_wM g ad σ hh) := hD
  have hown : s.vm.findClass RX5 = some m.cls := hown
  have hl : lv_has ls 3 [(0, .ref (ad 0)), (1, .int (rr_i x1)), (2, .int (rr_i x2))] := hl
  unfold M5_of at h
  refine lv_iload_n hx hb dX5_of_0 rfl (lv_at hl 1 rfl) ?_
  obtain ⟨v1, hw2, h⟩ := rr_b_some h
  refine rr_callI (va_runS (As := [.int (rr_i x1)]) (rest := []) ⟨hx, hb, hml, hown, hts⟩ (kX5_isName l g x1 v1 hw2) (va_cwS 1 hts gX5_of_X5_isName rfl rfl rfl hd_X5_isName ⟨Nat.le_of_ble_eq_true rfl, Nat.le_of_ble_eq_true rfl⟩) ⟨rr_R_blind, rr_R_pre hK (hP.sub (ws' := ([] : va_W)) [] rfl)⟩ rfl rfl hl.1 rfl (lv_room (Nat.le_of_ble_eq_true rfl)) dX5_of_1 ⟨Nat.zero_le _, Nat.zero_le _⟩) ?_
  obtain ⟨hg3, h⟩ := rr_c_some h
  refine rr_if_eq (tgt := 17) hx hb dX5_of_4 (by decide) hg3 (fun c4 => ?_) (fun c4 => ?_)
  · rw [if_pos c4] at h
    refine lv_aload_n hx hb dX5_of_17 rfl (lv_at hl 0 rfl) ?_
    refine rr_bipush hx hb dX5_of_18 (by decide +kernel) ?_
    obtain ⟨v5, hw6, h⟩ := rr_b_some h
    refine rr_allI hD hS hA (va_runV (As := [.int (rr_i (-2))]) (rest := []) ⟨hx, hb, hml, hown, hts⟩ (kX5_refuses l g ad _ hh (-2) σ v5 hw6) (cwV 1 hts gX5_of_X5_refuses rfl rfl rfl ⟨rfl, hd_X5_refuses⟩ ⟨Nat.le_of_ble_eq_true rfl, Nat.le_of_ble_eq_true rfl⟩) ⟨rr_P_blind, va_recv hK.1 hP (ci := 5) (q0 := 0) rfl rfl, rr_P_pre hK hP hD⟩ rfl rfl hl.1 rfl (lv_room (Nat.le_of_ble_eq_true rfl)) dX5_of_20 ⟨Nat.zero_le _, Nat.zero_le _⟩) (fun H locs hP hD hS => ?_)
    exact hret _ _ _ _ _ _ h hP hD hS dX5_of_23
  · rw [if_neg c4] at h
    refine lv_iload_n hx hb dX5_of_7 rfl (lv_at hl 2 rfl) ?_
    refine rr_iconst hx hb dX5_of_8 ?_
    refine rr_bipush hx hb dX5_of_9 (by decide +kernel) ?_
    obtain ⟨v7, hw8, h⟩ := rr_b_some h
    refine rr_callI (va_runS (As := [.int (rr_i x2), .int (rr_i 0), .int (rr_i 42)]) (rest := []) ⟨hx, hb, hml, hown, hts⟩ (kX5_in l g x2 0 42 v7 hw8) (va_cwS 3 hts gX5_of_X5_in rfl rfl rfl hd_X5_in ⟨Nat.le_of_ble_eq_true rfl, Nat.le_of_ble_eq_true rfl⟩) ⟨rr_R_blind, rr_R_pre hK (hP.sub (ws' := ([] : va_W)) [] rfl)⟩ rfl rfl hl.1 rfl (lv_room (Nat.le_of_ble_eq_true rfl)) dX5_of_11 ⟨Nat.zero_le _, Nat.zero_le _⟩) ?_
    obtain ⟨hg9, h⟩ := rr_c_some h
    refine rr_if_ne (tgt := 24) hx hb dX5_of_14 (by decide) hg9 (fun c10 => ?_) (fun c10 => ?_)
    · rw [if_neg c10] at h
      refine lv_aload_n hx hb dX5_of_24 rfl (lv_at hl 0 rfl) ?_
      refine lv_iload_n hx hb dX5_of_25 rfl (lv_at hl 1 rfl) ?_
      obtain ⟨v11, hw12, h⟩ := rr_b_some h
      refine rr_callI (va_runV (As := [.int (rr_i x1)]) (rest := []) ⟨hx, hb, hml, hown, hts⟩ (kX5_isHost l g ad hh x1 σ v11 hw12) (cwV 1 hts gX5_of_X5_isHost rfl rfl rfl ⟨rfl, hd_X5_isHost⟩ ⟨Nat.le_of_ble_eq_true rfl, Nat.le_of_ble_eq_true rfl⟩) ⟨rr_R_blind, va_recv hK.1 hP (ci := 5) (q0 := 0) rfl rfl, rr_R_pre hK hP⟩ rfl rfl hl.1 rfl (lv_room (Nat.le_of_ble_eq_true rfl)) dX5_of_26 ⟨Nat.zero_le _, Nat.zero_le _⟩) ?_
      obtain ⟨hg13, h⟩ := rr_c_some h
      refine rr_if_eq (tgt := 41) hx hb dX5_of_29 (by decide) hg13 (fun c14 => ?_) (fun c14 => ?_)
      · rw [if_pos c14] at h
        refine lv_aload_n hx hb dX5_of_41 rfl (lv_at hl 0 rfl) ?_
        refine rr_bipush hx hb dX5_of_42 (by decide +kernel) ?_
        obtain ⟨v15, hw16, h⟩ := rr_b_some h
        refine rr_allI hD hS hA (va_runV (As := [.int (rr_i (-3))]) (rest := []) ⟨hx, hb, hml, hown, hts⟩ (kX5_refuses l g ad _ hh (-3) σ v15 hw16) (cwV 1 hts gX5_of_X5_refuses rfl rfl rfl ⟨rfl, hd_X5_refuses⟩ ⟨Nat.le_of_ble_eq_true rfl, Nat.le_of_ble_eq_true rfl⟩) ⟨rr_P_blind, va_recv hK.1 hP (ci := 5) (q0 := 0) rfl rfl, rr_P_pre hK hP hD⟩ rfl rfl hl.1 rfl (lv_room (Nat.le_of_ble_eq_true rfl)) dX5_of_44 ⟨Nat.zero_le _, Nat.zero_le _⟩) (fun H locs hP hD hS => ?_)
        exact hret _ _ _ _ _ _ h hP hD hS dX5_of_47
      · rw [if_neg c14] at h
        refine lv_aload_n hx hb dX5_of_32 rfl (lv_at hl 0 rfl) ?_
        refine lv_iload_n hx hb dX5_of_33 rfl (lv_at hl 1 rfl) ?_
        refine lv_iload_n hx hb dX5_of_34 rfl (lv_at hl 2 rfl) ?_
        obtain ⟨v17, hw18, h⟩ := rr_b_some h
        refine rr_callI (va_runV (As := [.int (rr_i x1), .int (rr_i x2)]) (rest := []) ⟨hx, hb, hml, hown, hts⟩ (kX5_ofHost l g ad hh x1 x2 σ v17 hw18) (cwV 2 hts gX5_of_X5_ofHost rfl rfl rfl ⟨rfl, hd_X5_ofHost⟩ ⟨Nat.le_of_ble_eq_true rfl, Nat.le_of_ble_eq_true rfl⟩) ⟨rr_R_blind, va_recv hK.1 hP (ci := 5) (q0 := 0) rfl rfl, rr_R_pre hK hP⟩ rfl rfl hl.1 rfl (lv_room (Nat.le_of_ble_eq_true rfl)) dX5_of_35 ⟨Nat.zero_le _, Nat.zero_le _⟩) ?_
        refine lv_goto (tgt := 47) hx hb dX5_of_38 (by decide) ?_
        exact hret _ _ _ _ _ _ h hP hD hS dX5_of_47
    · rw [if_pos c10] at h
      refine lv_aload_n hx hb dX5_of_17 rfl (lv_at hl 0 rfl) ?_
      refine rr_bipush hx hb dX5_of_18 (by decide +kernel) ?_
      obtain ⟨v19, hw20, h⟩ := rr_b_some h
      refine rr_allI hD hS hA (va_runV (As := [.int (rr_i (-2))]) (rest := []) ⟨hx, hb, hml, hown, hts⟩ (kX5_refuses l g ad _ hh (-2) σ v19 hw20) (cwV 1 hts gX5_of_X5_refuses rfl rfl rfl ⟨rfl, hd_X5_refuses⟩ ⟨Nat.le_of_ble_eq_true rfl, Nat.le_of_ble_eq_true rfl⟩) ⟨rr_P_blind, va_recv hK.1 hP (ci := 5) (q0 := 0) rfl rfl, rr_P_pre hK hP hD⟩ rfl rfl hl.1 rfl (lv_room (Nat.le_of_ble_eq_true rfl)) dX5_of_20 ⟨Nat.zero_le _, Nat.zero_le _⟩) (fun H locs hP hD hS => ?_)
      exact hret _ _ _ _ _ _ h hP hD hS dX5_of_23
-- RoomRingModel.markOf
abbrev rm_X5_markOf : Room := { frames := 1, cells := 0, slots := 0, locals := 21 }
theorem hd_X5_markOf : yX5_markOf.cls ≠ "java/lang/invoke/MethodHandle" ∧ yX5_markOf.cls ≠ "java/lang/invoke/VarHandle" ∧ (parseMethodDescriptor yX5_markOf.desc).map (fun d => d.parameters.length) = some 2 := by decide +kernel
set_option maxHeartbeats 4000000 in
set_option maxRecDepth 100000 in
theorem kX5_markOf (l : Launch) (g : rr_G) (ad : Nat → Nat) (sz : Nat) (hh : Int) (x1 : Int) (x2 : Int) (σ : rr_T) (out : (Int × rr_T)) (h : M5_markOf x1 x2 σ = some out) : Met l yX5_markOf wsX5_markOf rm_X5_markOf (rr_P g [.ref (ad 0), .int (rr_i x1), .int (rr_i x2)] (rr_wM g ad σ hh) sz) (rr_Qi g out.1 (rr_wM g ad out.2 hh) (va_A (rr_wM g ad σ hh) sz)) 0 0 (va_A (rr_wM g ad σ hh) sz) := by
  refine rr_rwI (cc := cX5_markOf) (maxL := 7) (fun σ => rr_wM g ad σ hh) σ out (by decide) rfl (Nat.le_of_ble_eq_true rfl) ?_
  intro p e s m ar below meth c Q ls A hx hb hml hown hts hK hA hP hD hS hret hl
  have hP : va_P g.1 vwCl (rr_wM g ad σ hh) s.heap := hP
  have hD : va_D A (rr_wM g ad σ hh) := hD
  have hown : s.vm.findClass RX5 = some m.cls := hown
  have hl : lv_has ls 7 [(0, .ref (ad 0)), (1, .int (rr_i x1)), (2, .int (rr_i x2))] := hl
  have hinX5 : ∀ w ∈ u_ws RX5 TX5 19, w ∈ wsX5_markOf := by decide +kernel
  have hk_0 : (Cond.fieldLink RX5 37 "RoomRingModel" "taken" "[Z").before ar s = true := hts _ (List.mem_of_getElem? (i := 1) (by decide +kernel))
  have hk_1 : (Cond.fieldLink RX5 7 "RoomRingModel" "now" "[I").before ar s = true := hts _ (List.mem_of_getElem? (i := 2) (by decide +kernel))
  unfold M5_markOf at h
  have hL5_markOf_2 : ∀ (x1 : Int) (x2 : Int) (K : rr_T → Option (Int × rr_T)) (n : Nat) (x3 : Int) (σ : rr_T) (H : Heap) (locs : List Loc) (ls : Array Slot), L5_markOf_2 x1 x2 K n x3 σ = some out → va_P g.1 vwCl (rr_wM g ad σ hh) H → va_D A (rr_wM g ad σ hh) → va_S A s.heap H locs → lv_has ls 7 [(0, .ref (ad 0)), (1, .int (rr_i x1)), (2, .int (rr_i x2)), (3, .int (rr_i x3))] → (∀ (τ9 : rr_T) (H : Heap) (locs : List Loc) (ls : Array Slot), K τ9 = some out → va_P g.1 vwCl (rr_wM g ad τ9 hh) H → va_D A (rr_wM g ad τ9 hh) → va_S A s.heap H locs → lv_has ls 7 [(0, .ref (ad 0)), (1, .int (rr_i x1)), (2, .int (rr_i x2))] → W p l e rm_X5_markOf s m ar below meth c H locs 0 0 Q (F0 m 21 ls [])) → W p l e rm_X5_markOf s m ar below meth c H locs 0 0 Q (F0 m 2 ls []) := by
    intro x1 x2 K n
    induction n with
    | zero => intro x3 σ H locs ls h hP hD hS hl hk; cases h
    | succ n ih =>
      intro x3 σ H locs ls h hP hD hS hl hk
      rw [L5_markOf_2_s] at h
      refine lv_iload_n hx hb dX5_markOf_2 rfl (lv_at hl 3 rfl) ?_
      refine rr_bipush hx hb dX5_markOf_3 (by decide +kernel) ?_
      obtain ⟨hg1, h⟩ := rr_c_some h
      refine rr_icmp_ge (tgt := 21) hx hb dX5_markOf_5 (by decide) hg1 (by decide) (fun c2 => ?_) (fun c2 => ?_)
      · rw [if_pos c2] at h
        exact hk σ _ _ ls h hP hD hS (lv_sub hl [0, 1, 2] rfl)
      · rw [if_neg c2] at h
        refine lv_aload_n hx hb dX5_markOf_8 rfl (lv_at hl 0 rfl) ?_
        refine va_get (D := g.1) (ci := 5) (v := .ref (ad 10)) (C := RX5) (T := TX5) (N := 19) hx hb hts hinX5 hown hK.1 hP 0 rfl rfl 10 (by decide) hk_0 (fun _ h9 => h9) rfl dX5_markOf_9 ?_
        refine lv_iload_n hx hb dX5_markOf_12 rfl (lv_at hl 3 rfl) ?_
        refine rr_iconst hx hb dX5_markOf_13 ?_
        obtain ⟨hg3, h⟩ := rr_c_some h
        refine rr_zast (f := (σ 10)) (N := 101) hx hb hK hP hD hS 10 rfl rfl (by decide) hg3 (by decide) dX5_markOf_14 (fun H locs hP hD hS => ?_)
        have hP : va_P g.1 vwCl (rr_wM g ad (rr_s σ 10 x3 0) hh) H := hP
        have hD : va_D A (rr_wM g ad (rr_s σ 10 x3 0) hh) := hD
        refine rr_iinc (k := 3) (a := x3) (lv' := [(3, .int (rr_i (x3 + 1))), (0, .ref (ad 0)), (1, .int (rr_i x1)), (2, .int (rr_i x2))]) hx hb dX5_markOf_15 hl rfl (by decide) rfl (fun ls hl => ?_)
        refine lv_goto (tgt := 2) hx hb dX5_markOf_18 (by decide) ?_
        exact ih (x3 + 1) (rr_s σ 10 x3 0) _ _ ls h hP hD hS (lv_sub hl [1, 2, 3, 0] rfl) hk
  have hL5_markOf_70 : ∀ (x1 : Int) (x2 : Int) (x4 : Int) (x5 : Int) (K : Int → Option (Int × rr_T)) (σ : rr_T) (H : Heap) (locs : List Loc), va_P g.1 vwCl (rr_wM g ad σ hh) H → va_D A (rr_wM g ad σ hh) → va_S A s.heap H locs → ∀ (n : Nat) (x6 : Int) (ls : Array Slot), L5_markOf_70 σ x1 x2 x4 x5 K n x6 = some out → lv_has ls 7 [(0, .ref (ad 0)), (1, .int (rr_i x1)), (2, .int (rr_i x2)), (4, .int (rr_i x4)), (5, .int (rr_i x5)), (6, .int (rr_i x6))] → (∀ (z6 : Int) (ls : Array Slot), K z6 = some out → lv_has ls 7 [(0, .ref (ad 0)), (1, .int (rr_i x1)), (2, .int (rr_i x2)), (4, .int (rr_i x4)), (5, .int (rr_i x5)), (6, .int (rr_i z6))] → W p l e rm_X5_markOf s m ar below meth c H locs 0 0 Q (F0 m 92 ls [])) → W p l e rm_X5_markOf s m ar below meth c H locs 0 0 Q (F0 m 70 ls []) := by
    intro x1 x2 x4 x5 K σ H locs hP hD hS n
    induction n with
    | zero => intro x6 ls h hl hk; cases h
    | succ n ih =>
      intro x6 ls h hl hk
      rw [L5_markOf_70_s] at h
      refine lv_aload_n hx hb dX5_markOf_70 rfl (lv_at hl 0 rfl) ?_
      refine va_get (D := g.1) (ci := 5) (v := .ref (ad 10)) (C := RX5) (T := TX5) (N := 19) hx hb hts hinX5 hown hK.1 hP 0 rfl rfl 10 (by decide) hk_0 (fun _ h9 => h9) rfl dX5_markOf_71 ?_
      refine lv_iload hx hb dX5_markOf_74 (lv_at hl 5 rfl) ?_
      obtain ⟨hg13, h⟩ := rr_c_some h
      refine rr_zald (f := (σ 10)) (N := 101) hx hb hK hP 10 rfl rfl (by decide) hg13 dX5_markOf_76 ?_
      obtain ⟨hg14, h⟩ := rr_c_some h
      refine rr_if_eq (tgt := 92) hx hb dX5_markOf_77 (by decide) hg14 (fun c15 => ?_) (fun c15 => ?_)
      · rw [if_pos c15] at h
        exact hk x6 ls h (lv_sub hl [0, 1, 2, 3, 4, 5] rfl)
      · rw [if_neg c15] at h
        refine lv_iload hx hb dX5_markOf_80 (lv_at hl 5 rfl) ?_
        refine rr_iconst hx hb dX5_markOf_82 ?_
        refine rr_iadd hx hb dX5_markOf_83 ?_
        refine rr_bipush hx hb dX5_markOf_84 (by decide +kernel) ?_
        obtain ⟨hg16, h⟩ := rr_c_some h
        refine rr_irem hx hb dX5_markOf_86 ⟨hg16.1, hg16.2, by decide, by decide⟩ ?_
        refine lv_istore (lv' := [(6, .int (rr_i ((x6 + 1) % 101))), (0, .ref (ad 0)), (1, .int (rr_i x1)), (2, .int (rr_i x2)), (4, .int (rr_i x4)), (5, .int (rr_i x5))]) hx hb dX5_markOf_87 hl (by decide) rfl (fun ls hl => ?_)
        refine lv_goto (tgt := 70) hx hb dX5_markOf_89 (by decide) ?_
        exact ih ((x6 + 1) % 101) ls h (lv_sub hl [1, 2, 3, 4, 5, 0] rfl) hk
  have hL5_markOf_35 : ∀ (x1 : Int) (x2 : Int) (x4 : Int) (K : Int → rr_T → Option (Int × rr_T)) (n : Nat) (x3 : Int) (x5 : Int) (σ : rr_T) (H : Heap) (locs : List Loc) (ls : Array Slot), L5_markOf_35 x1 x2 x4 K n x3 x5 σ = some out → va_P g.1 vwCl (rr_wM g ad σ hh) H → va_D A (rr_wM g ad σ hh) → va_S A s.heap H locs → lv_has ls 7 [(0, .ref (ad 0)), (1, .int (rr_i x1)), (2, .int (rr_i x2)), (3, .int (rr_i x3)), (4, .int (rr_i x4)), (5, .int (rr_i x5))] → (∀ (z3 : Int) (τ9 : rr_T) (H : Heap) (locs : List Loc) (ls : Array Slot), K z3 τ9 = some out → va_P g.1 vwCl (rr_wM g ad τ9 hh) H → va_D A (rr_wM g ad τ9 hh) → va_S A s.heap H locs → lv_has ls 7 [(0, .ref (ad 0)), (1, .int (rr_i x1)), (2, .int (rr_i x2)), (3, .int (rr_i z3)), (4, .int (rr_i x4))] → W p l e rm_X5_markOf s m ar below meth c H locs 0 0 Q (F0 m 109 ls [])) → W p l e rm_X5_markOf s m ar below meth c H locs 0 0 Q (F0 m 35 ls []) := by
    intro x1 x2 x4 K n
    induction n with
    | zero => intro x3 x5 σ H locs ls h hP hD hS hl hk; cases h
    | succ n ih =>
      intro x3 x5 σ H locs ls h hP hD hS hl hk
      rw [L5_markOf_35_s] at h
      refine lv_iload hx hb dX5_markOf_35 (lv_at hl 5 rfl) ?_
      refine rr_iconst hx hb dX5_markOf_37 ?_
      refine lv_aload_n hx hb dX5_markOf_38 rfl (lv_at hl 0 rfl) ?_
      refine va_get (D := g.1) (ci := 5) (v := .ref (ad 1)) (C := RX5) (T := TX5) (N := 19) hx hb hts hinX5 hown hK.1 hP 0 rfl rfl 0 (by decide) hk_1 (fun _ h9 => h9) rfl dX5_markOf_39 ?_
      refine lv_iload hx hb dX5_markOf_42 (lv_at hl 4 rfl) ?_
      obtain ⟨hg6, h⟩ := rr_c_some h
      refine rr_iald (f := (σ 0)) (N := 143) hx hb hK hP 1 rfl rfl (by decide) hg6 dX5_markOf_44 ?_
      refine rr_imul hx hb dX5_markOf_45 ?_
      obtain ⟨hg7, h⟩ := rr_c_some h
      refine rr_icmp_ge (tgt := 109) hx hb dX5_markOf_46 (by decide) hg7.1 hg7.2 (fun c8 => ?_) (fun c8 => ?_)
      · rw [if_pos c8] at h
        exact hk x3 σ _ _ ls h hP hD hS (lv_sub hl [0, 1, 2, 3, 4] rfl)
      · rw [if_neg c8] at h
        refine lv_iload hx hb dX5_markOf_49 (lv_at hl 4 rfl) ?_
        refine lv_iload_n hx hb dX5_markOf_51 rfl (lv_at hl 1 rfl) ?_
        obtain ⟨hg9, h⟩ := rr_c_some h
        refine rr_icmp_lt (tgt := 61) hx hb dX5_markOf_52 (by decide) hg9.1 hg9.2 (fun c10 => ?_) (fun c10 => ?_)
        · rw [if_pos c10] at h
          refine lv_iload hx hb dX5_markOf_61 (lv_at hl 4 rfl) ?_
          refine lv_iload hx hb dX5_markOf_63 (lv_at hl 5 rfl) ?_
          obtain ⟨v11, hw12, h⟩ := rr_b_some h
          refine rr_callI (va_runS (As := [.int (rr_i x4), .int (rr_i x5)]) (rest := []) ⟨hx, hb, hml, hown, hts⟩ (kX5_first l g x4 x5 v11 hw12) (va_cwS 2 hts gX5_markOf_X5_first rfl rfl rfl hd_X5_first ⟨Nat.le_of_ble_eq_true rfl, Nat.le_of_ble_eq_true rfl⟩) ⟨rr_R_blind, rr_R_pre hK (hP.sub (ws' := ([] : va_W)) [] rfl)⟩ rfl rfl hl.1 rfl (lv_room (Nat.le_of_ble_eq_true rfl)) dX5_markOf_65 ⟨Nat.zero_le _, Nat.zero_le _⟩) ?_
          refine lv_istore (lv' := [(6, .int (rr_i v11)), (0, .ref (ad 0)), (1, .int (rr_i x1)), (2, .int (rr_i x2)), (3, .int (rr_i x3)), (4, .int (rr_i x4)), (5, .int (rr_i x5))]) hx hb dX5_markOf_68 hl (by decide) rfl (fun ls hl => ?_)
          refine hL5_markOf_70 x1 x2 x4 x5 _ σ _ _ hP hD hS 1000 v11 ls h (lv_sub hl [1, 2, 3, 5, 6, 0] rfl) (fun y6_70 ls h hl => ?_)
          refine lv_aload_n hx hb dX5_markOf_92 rfl (lv_at hl 0 rfl) ?_
          refine va_get (D := g.1) (ci := 5) (v := .ref (ad 10)) (C := RX5) (T := TX5) (N := 19) hx hb hts hinX5 hown hK.1 hP 0 rfl rfl 10 (by decide) hk_0 (fun _ h9 => h9) rfl dX5_markOf_93 ?_
          refine lv_iload hx hb dX5_markOf_96 (lv_at hl 5 rfl) ?_
          refine rr_iconst hx hb dX5_markOf_98 ?_
          obtain ⟨hg17, h⟩ := rr_c_some h
          refine rr_zast (f := (σ 10)) (N := 101) hx hb hK hP hD hS 10 rfl rfl (by decide) hg17 (by decide) dX5_markOf_99 (fun H locs hP hD hS => ?_)
          have hP : va_P g.1 vwCl (rr_wM g ad (rr_s σ 10 y6_70 1) hh) H := hP
          have hD : va_D A (rr_wM g ad (rr_s σ 10 y6_70 1) hh) := hD
          refine lv_iload hx hb dX5_markOf_100 (lv_at hl 5 rfl) ?_
          refine lv_istore_n (lv' := [(3, .int (rr_i y6_70)), (0, .ref (ad 0)), (1, .int (rr_i x1)), (2, .int (rr_i x2)), (4, .int (rr_i x4)), (5, .int (rr_i x5)), (6, .int (rr_i y6_70))]) hx hb dX5_markOf_102 rfl hl (by decide) rfl (fun ls hl => ?_)
          refine rr_iinc (k := 5) (a := x5) (lv' := [(5, .int (rr_i (x5 + 1))), (3, .int (rr_i y6_70)), (0, .ref (ad 0)), (1, .int (rr_i x1)), (2, .int (rr_i x2)), (4, .int (rr_i x4)), (6, .int (rr_i y6_70))]) hx hb dX5_markOf_103 hl rfl (by decide) rfl (fun ls hl => ?_)
          refine lv_goto (tgt := 35) hx hb dX5_markOf_106 (by decide) ?_
          exact ih y6_70 (x5 + 1) (rr_s σ 10 y6_70 1) _ _ ls h hP hD hS (lv_sub hl [2, 3, 4, 1, 5, 0] rfl) hk
        · rw [if_neg c10] at h
          refine lv_iload hx hb dX5_markOf_55 (lv_at hl 5 rfl) ?_
          refine lv_iload_n hx hb dX5_markOf_57 rfl (lv_at hl 2 rfl) ?_
          obtain ⟨hg18, h⟩ := rr_c_some h
          refine rr_icmp_gt (tgt := 109) hx hb dX5_markOf_58 (by decide) hg7.1 hg18 (fun c19 => ?_) (fun c19 => ?_)
          · rw [if_pos c19] at h
            exact hk x3 σ _ _ ls h hP hD hS (lv_sub hl [0, 1, 2, 3, 4] rfl)
          · rw [if_neg c19] at h
            refine lv_iload hx hb dX5_markOf_61 (lv_at hl 4 rfl) ?_
            refine lv_iload hx hb dX5_markOf_63 (lv_at hl 5 rfl) ?_
            obtain ⟨v20, hw21, h⟩ := rr_b_some h
            refine rr_callI (va_runS (As := [.int (rr_i x4), .int (rr_i x5)]) (rest := []) ⟨hx, hb, hml, hown, hts⟩ (kX5_first l g x4 x5 v20 hw21) (va_cwS 2 hts gX5_markOf_X5_first rfl rfl rfl hd_X5_first ⟨Nat.le_of_ble_eq_true rfl, Nat.le_of_ble_eq_true rfl⟩) ⟨rr_R_blind, rr_R_pre hK (hP.sub (ws' := ([] : va_W)) [] rfl)⟩ rfl rfl hl.1 rfl (lv_room (Nat.le_of_ble_eq_true rfl)) dX5_markOf_65 ⟨Nat.zero_le _, Nat.zero_le _⟩) ?_
            refine lv_istore (lv' := [(6, .int (rr_i v20)), (0, .ref (ad 0)), (1, .int (rr_i x1)), (2, .int (rr_i x2)), (3, .int (rr_i x3)), (4, .int (rr_i x4)), (5, .int (rr_i x5))]) hx hb dX5_markOf_68 hl (by decide) rfl (fun ls hl => ?_)
            refine hL5_markOf_70 x1 x2 x4 x5 _ σ _ _ hP hD hS 1000 v20 ls h (lv_sub hl [1, 2, 3, 5, 6, 0] rfl) (fun y6_70 ls h hl => ?_)
            refine lv_aload_n hx hb dX5_markOf_92 rfl (lv_at hl 0 rfl) ?_
            refine va_get (D := g.1) (ci := 5) (v := .ref (ad 10)) (C := RX5) (T := TX5) (N := 19) hx hb hts hinX5 hown hK.1 hP 0 rfl rfl 10 (by decide) hk_0 (fun _ h9 => h9) rfl dX5_markOf_93 ?_
            refine lv_iload hx hb dX5_markOf_96 (lv_at hl 5 rfl) ?_
            refine rr_iconst hx hb dX5_markOf_98 ?_
            obtain ⟨hg22, h⟩ := rr_c_some h
            refine rr_zast (f := (σ 10)) (N := 101) hx hb hK hP hD hS 10 rfl rfl (by decide) hg22 (by decide) dX5_markOf_99 (fun H locs hP hD hS => ?_)
            have hP : va_P g.1 vwCl (rr_wM g ad (rr_s σ 10 y6_70 1) hh) H := hP
            have hD : va_D A (rr_wM g ad (rr_s σ 10 y6_70 1) hh) := hD
            refine lv_iload hx hb dX5_markOf_100 (lv_at hl 5 rfl) ?_
            refine lv_istore_n (lv' := [(3, .int (rr_i y6_70)), (0, .ref (ad 0)), (1, .int (rr_i x1)), (2, .int (rr_i x2)), (4, .int (rr_i x4)), (5, .int (rr_i x5)), (6, .int (rr_i y6_70))]) hx hb dX5_markOf_102 rfl hl (by decide) rfl (fun ls hl => ?_)
            refine rr_iinc (k := 5) (a := x5) (lv' := [(5, .int (rr_i (x5 + 1))), (3, .int (rr_i y6_70)), (0, .ref (ad 0)), (1, .int (rr_i x1)), (2, .int (rr_i x2)), (4, .int (rr_i x4)), (6, .int (rr_i y6_70))]) hx hb dX5_markOf_103 hl rfl (by decide) rfl (fun ls hl => ?_)
            refine lv_goto (tgt := 35) hx hb dX5_markOf_106 (by decide) ?_
            exact ih y6_70 (x5 + 1) (rr_s σ 10 y6_70 1) _ _ ls h hP hD hS (lv_sub hl [2, 3, 4, 1, 5, 0] rfl) hk
  have hL5_markOf_26 : ∀ (x1 : Int) (x2 : Int) (K : Int → rr_T → Option (Int × rr_T)) (n : Nat) (x3 : Int) (x4 : Int) (σ : rr_T) (H : Heap) (locs : List Loc) (ls : Array Slot), L5_markOf_26 x1 x2 K n x3 x4 σ = some out → va_P g.1 vwCl (rr_wM g ad σ hh) H → va_D A (rr_wM g ad σ hh) → va_S A s.heap H locs → lv_has ls 7 [(0, .ref (ad 0)), (1, .int (rr_i x1)), (2, .int (rr_i x2)), (3, .int (rr_i x3)), (4, .int (rr_i x4))] → (∀ (z3 : Int) (τ9 : rr_T) (H : Heap) (locs : List Loc) (ls : Array Slot), K z3 τ9 = some out → va_P g.1 vwCl (rr_wM g ad τ9 hh) H → va_D A (rr_wM g ad τ9 hh) → va_S A s.heap H locs → lv_has ls 7 [(3, .int (rr_i z3))] → W p l e rm_X5_markOf s m ar below meth c H locs 0 0 Q (F0 m 115 ls [])) → W p l e rm_X5_markOf s m ar below meth c H locs 0 0 Q (F0 m 26 ls []) := by
    intro x1 x2 K n
    induction n with
    | zero => intro x3 x4 σ H locs ls h hP hD hS hl hk; cases h
    | succ n ih =>
      intro x3 x4 σ H locs ls h hP hD hS hl hk
      rw [L5_markOf_26_s] at h
      refine lv_iload hx hb dX5_markOf_26 (lv_at hl 4 rfl) ?_
      refine lv_iload_n hx hb dX5_markOf_28 rfl (lv_at hl 1 rfl) ?_
      obtain ⟨hg4, h⟩ := rr_c_some h
      refine rr_icmp_gt (tgt := 115) hx hb dX5_markOf_29 (by decide) hg4.1 hg4.2 (fun c5 => ?_) (fun c5 => ?_)
      · rw [if_pos c5] at h
        exact hk x3 σ _ _ ls h hP hD hS (lv_sub hl [3] rfl)
      · rw [if_neg c5] at h
        refine rr_iconst hx hb dX5_markOf_32 ?_
        refine lv_istore (lv' := [(5, .int (rr_i 0)), (0, .ref (ad 0)), (1, .int (rr_i x1)), (2, .int (rr_i x2)), (3, .int (rr_i x3)), (4, .int (rr_i x4))]) hx hb dX5_markOf_33 hl (by decide) rfl (fun ls hl => ?_)
        refine hL5_markOf_35 x1 x2 x4 _ 1000 x3 0 σ _ _ ls h hP hD hS (lv_sub hl [1, 2, 3, 4, 5, 0] rfl) (fun y3_35 σ_35 H locs ls h hP hD hS hl => ?_)
        refine rr_iinc (k := 4) (a := x4) (lv' := [(4, .int (rr_i (x4 + 1))), (0, .ref (ad 0)), (1, .int (rr_i x1)), (2, .int (rr_i x2)), (3, .int (rr_i y3_35))]) hx hb dX5_markOf_109 hl rfl (by decide) rfl (fun ls hl => ?_)
        refine lv_goto (tgt := 26) hx hb dX5_markOf_112 (by decide) ?_
        exact ih y3_35 (x4 + 1) σ_35 _ _ ls h hP hD hS (lv_sub hl [1, 2, 3, 4, 0] rfl) hk
  refine rr_iconst hx hb dX5_markOf_0 ?_
  refine lv_istore_n (lv' := [(3, .int (rr_i 0)), (0, .ref (ad 0)), (1, .int (rr_i x1)), (2, .int (rr_i x2))]) hx hb dX5_markOf_1 rfl hl (by decide) rfl (fun ls hl => ?_)
  refine hL5_markOf_2 x1 x2 _ 1000 0 σ _ _ ls h hP hD hS (lv_sub hl [1, 2, 3, 0] rfl) (fun σ_2 H locs ls h hP hD hS hl => ?_)
  refine rr_iconst hx hb dX5_markOf_21 ?_
  refine lv_istore_n (lv' := [(3, .int (rr_i (-1))), (0, .ref (ad 0)), (1, .int (rr_i x1)), (2, .int (rr_i x2))]) hx hb dX5_markOf_22 rfl hl (by decide) rfl (fun ls hl => ?_)
  refine rr_iconst hx hb dX5_markOf_23 ?_
  refine lv_istore (lv' := [(4, .int (rr_i 0)), (3, .int (rr_i (-1))), (0, .ref (ad 0)), (1, .int (rr_i x1)), (2, .int (rr_i x2))]) hx hb dX5_markOf_24 hl (by decide) rfl (fun ls hl => ?_)
  refine hL5_markOf_26 x1 x2 _ 1000 (-1) 0 σ_2 _ _ ls h hP hD hS (lv_sub hl [2, 3, 4, 1, 0] rfl) (fun y3_26 σ_26 H locs ls h hP hD hS hl => ?_)
  refine lv_iload_n hx hb dX5_markOf_115 rfl (lv_at hl 0 rfl) ?_
  exact hret _ _ _ _ _ _ h hP hD hS dX5_markOf_116
-- RoomRingModel.mark
abbrev rm_X5_mark : Room := { frames := 2, cells := 0, slots := 0, locals := 47 }
theorem hd_X5_mark : yX5_mark.cls ≠ "java/lang/invoke/MethodHandle" ∧ yX5_mark.cls ≠ "java/lang/invoke/VarHandle" ∧ (parseMethodDescriptor yX5_mark.desc).map (fun d => d.parameters.length) = some 2 := by decide +kernel
set_option maxHeartbeats 4000000 in
set_option maxRecDepth 100000 in
theorem kX5_mark (l : Launch) (g : rr_G) (ad : Nat → Nat) (sz : Nat) (hh : Int) (x1 : Int) (x2 : Int) (σ : rr_T) (out : (Int × rr_T)) (h : M5_mark x1 x2 σ = some out) : Met l yX5_mark wsX5_mark rm_X5_mark (rr_P g [.ref (ad 0), .int (rr_i x1), .int (rr_i x2)] (rr_wM g ad σ hh) sz) (rr_Qi g out.1 (rr_wM g ad out.2 hh) (va_A (rr_wM g ad σ hh) sz)) 0 0 (va_A (rr_wM g ad σ hh) sz) := by
  refine rr_rwI (cc := cX5_mark) (maxL := 3) (fun σ => rr_wM g ad σ hh) σ out (by decide) rfl (Nat.le_of_ble_eq_true rfl) ?_
  intro p e s m ar below meth c Q ls A hx hb hml hown hts hK hA hP hD hS hret hl
  have hP : va_P g.1 vwCl (rr_wM g ad σ hh) s.heap := hP
  have hD : va_D A (rr_wM g ad σ hh) := hD
  have hown : s.vm.findClass RX5 = some m.cls := hown
  have hl : lv_has ls 3 [(0, .ref (ad 0)), (1, .int (rr_i x1)), (2, .int (rr_i x2))] := hl
  have hinX5 : ∀ w ∈ u_ws RX5 TX5 19, w ∈ wsX5_mark := by decide +kernel
  have hk_0 : (Cond.fieldLink RX5 7 "RoomRingModel" "now" "[I").before ar s = true := hts _ (List.mem_of_getElem? (i := 1) (by decide +kernel))
  unfold M5_mark at h
  refine lv_iload_n hx hb dX5_mark_0 rfl (lv_at hl 1 rfl) ?_
  obtain ⟨v1, hw2, h⟩ := rr_b_some h
  refine rr_callI (va_runS (As := [.int (rr_i x1)]) (rest := []) ⟨hx, hb, hml, hown, hts⟩ (kX5_isName l g x1 v1 hw2) (va_cwS 1 hts gX5_mark_X5_isName rfl rfl rfl hd_X5_isName ⟨Nat.le_of_ble_eq_true rfl, Nat.le_of_ble_eq_true rfl⟩) ⟨rr_R_blind, rr_R_pre hK (hP.sub (ws' := ([] : va_W)) [] rfl)⟩ rfl rfl hl.1 rfl (lv_room (Nat.le_of_ble_eq_true rfl)) dX5_mark_1 ⟨Nat.zero_le _, Nat.zero_le _⟩) ?_
  obtain ⟨hg3, h⟩ := rr_c_some h
  refine rr_if_eq (tgt := 17) hx hb dX5_mark_4 (by decide) hg3 (fun c4 => ?_) (fun c4 => ?_)
  · rw [if_pos c4] at h
    refine lv_aload_n hx hb dX5_mark_17 rfl (lv_at hl 0 rfl) ?_
    refine rr_bipush hx hb dX5_mark_18 (by decide +kernel) ?_
    obtain ⟨v5, hw6, h⟩ := rr_b_some h
    refine rr_allI hD hS hA (va_runV (As := [.int (rr_i (-2))]) (rest := []) ⟨hx, hb, hml, hown, hts⟩ (kX5_refuses l g ad _ hh (-2) σ v5 hw6) (cwV 1 hts gX5_mark_X5_refuses rfl rfl rfl ⟨rfl, hd_X5_refuses⟩ ⟨Nat.le_of_ble_eq_true rfl, Nat.le_of_ble_eq_true rfl⟩) ⟨rr_P_blind, va_recv hK.1 hP (ci := 5) (q0 := 0) rfl rfl, rr_P_pre hK hP hD⟩ rfl rfl hl.1 rfl (lv_room (Nat.le_of_ble_eq_true rfl)) dX5_mark_20 ⟨Nat.zero_le _, Nat.zero_le _⟩) (fun H locs hP hD hS => ?_)
    exact hret _ _ _ _ _ _ h hP hD hS dX5_mark_23
  · rw [if_neg c4] at h
    refine lv_iload_n hx hb dX5_mark_7 rfl (lv_at hl 2 rfl) ?_
    refine rr_iconst hx hb dX5_mark_8 ?_
    refine rr_bipush hx hb dX5_mark_9 (by decide +kernel) ?_
    obtain ⟨v7, hw8, h⟩ := rr_b_some h
    refine rr_callI (va_runS (As := [.int (rr_i x2), .int (rr_i 0), .int (rr_i 7)]) (rest := []) ⟨hx, hb, hml, hown, hts⟩ (kX5_in l g x2 0 7 v7 hw8) (va_cwS 3 hts gX5_mark_X5_in rfl rfl rfl hd_X5_in ⟨Nat.le_of_ble_eq_true rfl, Nat.le_of_ble_eq_true rfl⟩) ⟨rr_R_blind, rr_R_pre hK (hP.sub (ws' := ([] : va_W)) [] rfl)⟩ rfl rfl hl.1 rfl (lv_room (Nat.le_of_ble_eq_true rfl)) dX5_mark_11 ⟨Nat.zero_le _, Nat.zero_le _⟩) ?_
    obtain ⟨hg9, h⟩ := rr_c_some h
    refine rr_if_ne (tgt := 24) hx hb dX5_mark_14 (by decide) hg9 (fun c10 => ?_) (fun c10 => ?_)
    · rw [if_neg c10] at h
      refine lv_aload_n hx hb dX5_mark_24 rfl (lv_at hl 0 rfl) ?_
      refine lv_iload_n hx hb dX5_mark_25 rfl (lv_at hl 1 rfl) ?_
      obtain ⟨v11, hw12, h⟩ := rr_b_some h
      refine rr_callI (va_runV (As := [.int (rr_i x1)]) (rest := []) ⟨hx, hb, hml, hown, hts⟩ (kX5_isHost l g ad hh x1 σ v11 hw12) (cwV 1 hts gX5_mark_X5_isHost rfl rfl rfl ⟨rfl, hd_X5_isHost⟩ ⟨Nat.le_of_ble_eq_true rfl, Nat.le_of_ble_eq_true rfl⟩) ⟨rr_R_blind, va_recv hK.1 hP (ci := 5) (q0 := 0) rfl rfl, rr_R_pre hK hP⟩ rfl rfl hl.1 rfl (lv_room (Nat.le_of_ble_eq_true rfl)) dX5_mark_26 ⟨Nat.zero_le _, Nat.zero_le _⟩) ?_
      obtain ⟨hg13, h⟩ := rr_c_some h
      refine rr_if_ne (tgt := 39) hx hb dX5_mark_29 (by decide) hg13 (fun c14 => ?_) (fun c14 => ?_)
      · rw [if_neg c14] at h
        refine lv_iload_n hx hb dX5_mark_39 rfl (lv_at hl 2 rfl) ?_
        refine rr_iconst hx hb dX5_mark_40 ?_
        refine lv_aload_n hx hb dX5_mark_41 rfl (lv_at hl 0 rfl) ?_
        refine va_get (D := g.1) (ci := 5) (v := .ref (ad 1)) (C := RX5) (T := TX5) (N := 19) hx hb hts hinX5 hown hK.1 hP 0 rfl rfl 0 (by decide) hk_0 (fun _ h9 => h9) rfl dX5_mark_42 ?_
        refine lv_iload_n hx hb dX5_mark_45 rfl (lv_at hl 1 rfl) ?_
        obtain ⟨hg15, h⟩ := rr_c_some h
        refine rr_iald (f := (σ 0)) (N := 143) hx hb hK hP 1 rfl rfl (by decide) hg15 dX5_mark_46 ?_
        refine rr_imul hx hb dX5_mark_47 ?_
        obtain ⟨hg16, h⟩ := rr_c_some h
        refine rr_icmp_ge (tgt := 60) hx hb dX5_mark_48 (by decide) hg16.1 hg16.2 (fun c17 => ?_) (fun c17 => ?_)
        · rw [if_pos c17] at h
          refine rr_iconst hx hb dX5_mark_60 ?_
          exact hret _ _ _ _ _ _ h hP hD hS dX5_mark_61
        · rw [if_neg c17] at h
          refine lv_aload_n hx hb dX5_mark_51 rfl (lv_at hl 0 rfl) ?_
          refine lv_iload_n hx hb dX5_mark_52 rfl (lv_at hl 1 rfl) ?_
          refine lv_iload_n hx hb dX5_mark_53 rfl (lv_at hl 2 rfl) ?_
          obtain ⟨v18, hw19, h⟩ := rr_b_some h
          refine rr_allI hD hS hA (va_runV (As := [.int (rr_i x1), .int (rr_i x2)]) (rest := []) ⟨hx, hb, hml, hown, hts⟩ (kX5_markOf l g ad _ hh x1 x2 σ v18 hw19) (cwV 2 hts gX5_mark_X5_markOf rfl rfl rfl ⟨rfl, hd_X5_markOf⟩ ⟨Nat.le_of_ble_eq_true rfl, Nat.le_of_ble_eq_true rfl⟩) ⟨rr_P_blind, va_recv hK.1 hP (ci := 5) (q0 := 0) rfl rfl, rr_P_pre hK hP hD⟩ rfl rfl hl.1 rfl (lv_room (Nat.le_of_ble_eq_true rfl)) dX5_mark_54 ⟨Nat.zero_le _, Nat.zero_le _⟩) (fun H locs hP hD hS => ?_)
          refine lv_goto (tgt := 61) hx hb dX5_mark_57 (by decide) ?_
          exact hret _ _ _ _ _ _ h hP hD hS dX5_mark_61
      · rw [if_pos c14] at h
        refine lv_aload_n hx hb dX5_mark_32 rfl (lv_at hl 0 rfl) ?_
        refine rr_bipush hx hb dX5_mark_33 (by decide +kernel) ?_
        obtain ⟨v20, hw21, h⟩ := rr_b_some h
        refine rr_allI hD hS hA (va_runV (As := [.int (rr_i (-3))]) (rest := []) ⟨hx, hb, hml, hown, hts⟩ (kX5_refuses l g ad _ hh (-3) σ v20 hw21) (cwV 1 hts gX5_mark_X5_refuses rfl rfl rfl ⟨rfl, hd_X5_refuses⟩ ⟨Nat.le_of_ble_eq_true rfl, Nat.le_of_ble_eq_true rfl⟩) ⟨rr_P_blind, va_recv hK.1 hP (ci := 5) (q0 := 0) rfl rfl, rr_P_pre hK hP hD⟩ rfl rfl hl.1 rfl (lv_room (Nat.le_of_ble_eq_true rfl)) dX5_mark_35 ⟨Nat.zero_le _, Nat.zero_le _⟩) (fun H locs hP hD hS => ?_)
        exact hret _ _ _ _ _ _ h hP hD hS dX5_mark_38
    · rw [if_pos c10] at h
      refine lv_aload_n hx hb dX5_mark_17 rfl (lv_at hl 0 rfl) ?_
      refine rr_bipush hx hb dX5_mark_18 (by decide +kernel) ?_
      obtain ⟨v22, hw23, h⟩ := rr_b_some h
      refine rr_allI hD hS hA (va_runV (As := [.int (rr_i (-2))]) (rest := []) ⟨hx, hb, hml, hown, hts⟩ (kX5_refuses l g ad _ hh (-2) σ v22 hw23) (cwV 1 hts gX5_mark_X5_refuses rfl rfl rfl ⟨rfl, hd_X5_refuses⟩ ⟨Nat.le_of_ble_eq_true rfl, Nat.le_of_ble_eq_true rfl⟩) ⟨rr_P_blind, va_recv hK.1 hP (ci := 5) (q0 := 0) rfl rfl, rr_P_pre hK hP hD⟩ rfl rfl hl.1 rfl (lv_room (Nat.le_of_ble_eq_true rfl)) dX5_mark_20 ⟨Nat.zero_le _, Nat.zero_le _⟩) (fun H locs hP hD hS => ?_)
      exact hret _ _ _ _ _ _ h hP hD hS dX5_mark_23
-- RoomRingModel.at
abbrev rm_X5_at : Room := { frames := 1, cells := 0, slots := 0, locals := 22 }
theorem hd_X5_at : yX5_at.cls ≠ "java/lang/invoke/MethodHandle" ∧ yX5_at.cls ≠ "java/lang/invoke/VarHandle" ∧ (parseMethodDescriptor yX5_at.desc).map (fun d => d.parameters.length) = some 1 := by decide +kernel
set_option maxHeartbeats 4000000 in
set_option maxRecDepth 100000 in
theorem kX5_at (l : Launch) (g : rr_G) (ad : Nat → Nat) (sz : Nat) (hh : Int) (x1 : Int) (σ : rr_T) (out : (Int × rr_T)) (h : M5_at x1 σ = some out) : Met l yX5_at wsX5_at rm_X5_at (rr_P g [.ref (ad 0), .int (rr_i x1)] (rr_wM g ad σ hh) sz) (rr_Qi g out.1 (rr_wM g ad out.2 hh) (va_A (rr_wM g ad σ hh) sz)) 0 0 (va_A (rr_wM g ad σ hh) sz) := by
  refine rr_rwI (cc := cX5_at) (maxL := 2) (fun σ => rr_wM g ad σ hh) σ out (by decide) rfl (Nat.le_of_ble_eq_true rfl) ?_
  intro p e s m ar below meth c Q ls A hx hb hml hown hts hK hA hP hD hS hret hl
  have hP : va_P g.1 vwCl (rr_wM g ad σ hh) s.heap := hP
  have hD : va_D A (rr_wM g ad σ hh) := hD
  have hown : s.vm.findClass RX5 = some m.cls := hown
  have hl : lv_has ls 2 [(0, .ref (ad 0)), (1, .int (rr_i x1))] := hl
  have hinX5 : ∀ w ∈ u_ws RX5 TX5 19, w ∈ wsX5_at := by decide +kernel
  have hk_0 : (Cond.fieldLink RX5 22 "RoomRingModel" "owner" "[I").before ar s = true := hts _ (List.mem_of_getElem? (i := 1) (by decide +kernel))
  unfold M5_at at h
  refine lv_iload_n hx hb dX5_at_0 rfl (lv_at hl 1 rfl) ?_
  refine rr_iconst hx hb dX5_at_1 ?_
  refine rr_bipush hx hb dX5_at_2 (by decide +kernel) ?_
  obtain ⟨v1, hw2, h⟩ := rr_b_some h
  refine rr_callI (va_runS (As := [.int (rr_i x1), .int (rr_i 0), .int (rr_i 100)]) (rest := []) ⟨hx, hb, hml, hown, hts⟩ (kX5_in l g x1 0 100 v1 hw2) (va_cwS 3 hts gX5_at_X5_in rfl rfl rfl hd_X5_in ⟨Nat.le_of_ble_eq_true rfl, Nat.le_of_ble_eq_true rfl⟩) ⟨rr_R_blind, rr_R_pre hK (hP.sub (ws' := ([] : va_W)) [] rfl)⟩ rfl rfl hl.1 rfl (lv_room (Nat.le_of_ble_eq_true rfl)) dX5_at_4 ⟨Nat.zero_le _, Nat.zero_le _⟩) ?_
  obtain ⟨hg3, h⟩ := rr_c_some h
  refine rr_if_eq (tgt := 19) hx hb dX5_at_7 (by decide) hg3 (fun c4 => ?_) (fun c4 => ?_)
  · rw [if_pos c4] at h
    refine lv_aload_n hx hb dX5_at_19 rfl (lv_at hl 0 rfl) ?_
    refine rr_bipush hx hb dX5_at_20 (by decide +kernel) ?_
    obtain ⟨v5, hw6, h⟩ := rr_b_some h
    refine rr_allI hD hS hA (va_runV (As := [.int (rr_i (-2))]) (rest := []) ⟨hx, hb, hml, hown, hts⟩ (kX5_refuses l g ad _ hh (-2) σ v5 hw6) (cwV 1 hts gX5_at_X5_refuses rfl rfl rfl ⟨rfl, hd_X5_refuses⟩ ⟨Nat.le_of_ble_eq_true rfl, Nat.le_of_ble_eq_true rfl⟩) ⟨rr_P_blind, va_recv hK.1 hP (ci := 5) (q0 := 0) rfl rfl, rr_P_pre hK hP hD⟩ rfl rfl hl.1 rfl (lv_room (Nat.le_of_ble_eq_true rfl)) dX5_at_22 ⟨Nat.zero_le _, Nat.zero_le _⟩) (fun H locs hP hD hS => ?_)
    exact hret _ _ _ _ _ _ h hP hD hS dX5_at_25
  · rw [if_neg c4] at h
    refine lv_aload_n hx hb dX5_at_10 rfl (lv_at hl 0 rfl) ?_
    refine va_get (D := g.1) (ci := 5) (v := .ref (ad 5)) (C := RX5) (T := TX5) (N := 19) hx hb hts hinX5 hown hK.1 hP 0 rfl rfl 5 (by decide) hk_0 (fun _ h9 => h9) rfl dX5_at_11 ?_
    refine lv_iload_n hx hb dX5_at_14 rfl (lv_at hl 1 rfl) ?_
    obtain ⟨hg7, h⟩ := rr_c_some h
    refine rr_iald (f := (σ 5)) (N := 101) hx hb hK hP 5 rfl rfl (by decide) hg7 dX5_at_15 ?_
    refine lv_goto (tgt := 25) hx hb dX5_at_16 (by decide) ?_
    exact hret _ _ _ _ _ _ h hP hD hS dX5_at_25
-- RoomRingModel.name
abbrev rm_X5_name : Room := { frames := 1, cells := 0, slots := 0, locals := 21 }
theorem hd_X5_name : yX5_name.cls ≠ "java/lang/invoke/MethodHandle" ∧ yX5_name.cls ≠ "java/lang/invoke/VarHandle" ∧ (parseMethodDescriptor yX5_name.desc).map (fun d => d.parameters.length) = some 1 := by decide +kernel
set_option maxHeartbeats 4000000 in
set_option maxRecDepth 100000 in
theorem kX5_name (l : Launch) (g : rr_G) (ad : Nat → Nat) (sz : Nat) (hh : Int) (x1 : Int) (σ : rr_T) (out : (Int × rr_T)) (h : M5_name x1 σ = some out) : Met l yX5_name wsX5_name rm_X5_name (rr_P g [.ref (ad 0), .int (rr_i x1)] (rr_wM g ad σ hh) sz) (rr_Qi g out.1 (rr_wM g ad out.2 hh) (va_A (rr_wM g ad σ hh) sz)) 0 0 (va_A (rr_wM g ad σ hh) sz) := by
  refine rr_rwI (cc := cX5_name) (maxL := 4) (fun σ => rr_wM g ad σ hh) σ out (by decide) rfl (Nat.le_of_ble_eq_true rfl) ?_
  intro p e s m ar below meth c Q ls A hx hb hml hown hts hK hA hP hD hS hret hl
  have hP : va_P g.1 vwCl (rr_wM g ad σ hh) s.heap := hP
  have hD : va_D A (rr_wM g ad σ hh) := hD
  have hown : s.vm.findClass RX5 = some m.cls := hown
  have hl : lv_has ls 4 [(0, .ref (ad 0)), (1, .int (rr_i x1))] := hl
  unfold M5_name at h
  have hL5_name_15 : ∀ (K : Option (Int × rr_T)) (σ : rr_T) (H : Heap) (locs : List Loc), va_P g.1 vwCl (rr_wM g ad σ hh) H → va_D A (rr_wM g ad σ hh) → va_S A s.heap H locs → ∀ (n : Nat) (x2 : Int) (x3 : Int) (ls : Array Slot), L5_name_15 σ K n x2 x3 = some out → lv_has ls 4 [(0, .ref (ad 0)), (2, .int (rr_i x2)), (3, .int (rr_i x3))] → (∀ (ls : Array Slot), K = some out → lv_has ls 4 [] → W p l e rm_X5_name s m ar below meth c H locs 0 0 Q (F0 m 44 ls [])) → W p l e rm_X5_name s m ar below meth c H locs 0 0 Q (F0 m 15 ls []) := by
    intro K σ H locs hP hD hS n
    induction n with
    | zero => intro x2 x3 ls h hl hk; cases h
    | succ n ih =>
      intro x2 x3 ls h hl hk
      rw [L5_name_15_s] at h
      refine lv_iload_n hx hb dX5_name_15 rfl (lv_at hl 2 rfl) ?_
      refine rr_bipush hx hb dX5_name_16 (by decide +kernel) ?_
      obtain ⟨hg3, h⟩ := rr_c_some h
      refine rr_icmp_ge (tgt := 44) hx hb dX5_name_18 (by decide) hg3 (by decide) (fun c4 => ?_) (fun c4 => ?_)
      · rw [if_pos c4] at h
        exact hk ls h (lv_sub hl [] rfl)
      · rw [if_neg c4] at h
        refine lv_aload_n hx hb dX5_name_21 rfl (lv_at hl 0 rfl) ?_
        refine lv_iload_n hx hb dX5_name_22 rfl (lv_at hl 2 rfl) ?_
        obtain ⟨v5, hw6, h⟩ := rr_b_some h
        refine rr_callI (va_runV (As := [.int (rr_i x3)]) (rest := []) ⟨hx, hb, hml, hown, hts⟩ (kX5_isHost l g ad hh x3 σ v5 hw6) (cwV 1 hts gX5_name_X5_isHost rfl rfl rfl ⟨rfl, hd_X5_isHost⟩ ⟨Nat.le_of_ble_eq_true rfl, Nat.le_of_ble_eq_true rfl⟩) ⟨rr_R_blind, va_recv hK.1 hP (ci := 5) (q0 := 0) rfl rfl, rr_R_pre hK hP⟩ rfl rfl hl.1 rfl (lv_room (Nat.le_of_ble_eq_true rfl)) dX5_name_23 ⟨Nat.zero_le _, Nat.zero_le _⟩) ?_
        obtain ⟨hg7, h⟩ := rr_c_some h
        refine rr_if_eq (tgt := 38) hx hb dX5_name_26 (by decide) hg7 (fun c8 => ?_) (fun c8 => ?_)
        · rw [if_pos c8] at h
          refine rr_iinc (k := 2) (a := x3) (lv' := [(3, .int (rr_i (x3 + 1))), (0, .ref (ad 0)), (2, .int (rr_i x2))]) hx hb dX5_name_38 hl rfl (by decide) rfl (fun ls hl => ?_)
          refine lv_goto (tgt := 15) hx hb dX5_name_41 (by decide) ?_
          exact ih x2 (x3 + 1) ls h (lv_sub hl [1, 2, 0] rfl) hk
        · rw [if_neg c8] at h
          refine lv_iload_n hx hb dX5_name_29 rfl (lv_at hl 1 rfl) ?_
          obtain ⟨hg9, h⟩ := rr_c_some h
          refine rr_if_ne (tgt := 35) hx hb dX5_name_30 (by decide) hg9 (fun c10 => ?_) (fun c10 => ?_)
          · rw [if_neg c10] at h
            refine rr_iinc (k := 1) (a := x2) (lv' := [(2, .int (rr_i (x2 + (-1)))), (0, .ref (ad 0)), (3, .int (rr_i x3))]) hx hb dX5_name_35 hl rfl (by decide) rfl (fun ls hl => ?_)
            refine rr_iinc (k := 2) (a := x3) (lv' := [(3, .int (rr_i (x3 + 1))), (2, .int (rr_i (x2 + (-1)))), (0, .ref (ad 0))]) hx hb dX5_name_38 hl rfl (by decide) rfl (fun ls hl => ?_)
            refine lv_goto (tgt := 15) hx hb dX5_name_41 (by decide) ?_
            exact ih (x2 + (-1)) (x3 + 1) ls h (lv_sub hl [2, 1, 0] rfl) hk
          · rw [if_pos c10] at h
            refine lv_iload_n hx hb dX5_name_33 rfl (lv_at hl 2 rfl) ?_
            exact hret _ _ _ _ _ _ h hP hD hS dX5_name_34
  refine lv_iload_n hx hb dX5_name_0 rfl (lv_at hl 1 rfl) ?_
  obtain ⟨hg1, h⟩ := rr_c_some h
  refine rr_if_ge (tgt := 11) hx hb dX5_name_1 (by decide) hg1 (fun c2 => ?_) (fun c2 => ?_)
  · rw [if_pos c2] at h
    refine lv_iload_n hx hb dX5_name_11 rfl (lv_at hl 1 rfl) ?_
    refine lv_istore_n (lv' := [(2, .int (rr_i x1)), (0, .ref (ad 0)), (1, .int (rr_i x1))]) hx hb dX5_name_12 rfl hl (by decide) rfl (fun ls hl => ?_)
    refine rr_iconst hx hb dX5_name_13 ?_
    refine lv_istore_n (lv' := [(3, .int (rr_i 0)), (2, .int (rr_i x1)), (0, .ref (ad 0)), (1, .int (rr_i x1))]) hx hb dX5_name_14 rfl hl (by decide) rfl (fun ls hl => ?_)
    refine hL5_name_15 _ σ _ _ hP hD hS 1000 x1 0 ls h (lv_sub hl [2, 1, 0] rfl) (fun ls h hl => ?_)
    refine rr_iconst hx hb dX5_name_44 ?_
    exact hret _ _ _ _ _ _ h hP hD hS dX5_name_45
  · rw [if_neg c2] at h
    refine lv_aload_n hx hb dX5_name_4 rfl (lv_at hl 0 rfl) ?_
    refine rr_bipush hx hb dX5_name_5 (by decide +kernel) ?_
    obtain ⟨v11, hw12, h⟩ := rr_b_some h
    refine rr_allI hD hS hA (va_runV (As := [.int (rr_i (-2))]) (rest := []) ⟨hx, hb, hml, hown, hts⟩ (kX5_refuses l g ad _ hh (-2) σ v11 hw12) (cwV 1 hts gX5_name_X5_refuses rfl rfl rfl ⟨rfl, hd_X5_refuses⟩ ⟨Nat.le_of_ble_eq_true rfl, Nat.le_of_ble_eq_true rfl⟩) ⟨rr_P_blind, va_recv hK.1 hP (ci := 5) (q0 := 0) rfl rfl, rr_P_pre hK hP hD⟩ rfl rfl hl.1 rfl (lv_room (Nat.le_of_ble_eq_true rfl)) dX5_name_7 ⟨Nat.zero_le _, Nat.zero_le _⟩) (fun H locs hP hD hS => ?_)
    exact hret _ _ _ _ _ _ h hP hD hS dX5_name_10
-- RoomRingModel.shareOf
abbrev rm_X5_shareOf : Room := { frames := 0, cells := 0, slots := 0, locals := 0 }
theorem hd_X5_shareOf : yX5_shareOf.cls ≠ "java/lang/invoke/MethodHandle" ∧ yX5_shareOf.cls ≠ "java/lang/invoke/VarHandle" ∧ (parseMethodDescriptor yX5_shareOf.desc).map (fun d => d.parameters.length) = some 1 := by decide +kernel
set_option maxHeartbeats 4000000 in
set_option maxRecDepth 100000 in
theorem kX5_shareOf (l : Launch) (g : rr_G) (ad : Nat → Nat) (hh : Int) (x1 : Int) (σ : rr_T) (out : Int) (h : M5_shareOf x1 σ = some out) : Met l yX5_shareOf wsX5_shareOf rm_X5_shareOf (rr_R g [.ref (ad 0), .int (rr_i x1)] (rr_wM g ad σ hh)) (vp_Si (fun x => x = rr_i out)) 0 0 (fun _ => False) := by
  refine rr_roI (cc := cX5_shareOf) (maxL := 5) (by decide) rfl (Nat.le_of_ble_eq_true rfl) ?_
  intro p e s m ar below meth c Q ls hx hb hml hown hts hK hP hret hl
  have hown : s.vm.findClass RX5 = some m.cls := hown
  have hl : lv_has ls 5 [(0, .ref (ad 0)), (1, .int (rr_i x1))] := hl
  have hinX5 : ∀ w ∈ u_ws RX5 TX5 19, w ∈ wsX5_shareOf := by decide +kernel
  have hk_0 : (Cond.fieldLink RX5 22 "RoomRingModel" "owner" "[I").before ar s = true := hts _ (List.mem_of_getElem? (i := 1) (by decide +kernel))
  unfold M5_shareOf at h
  have hL5_shareOf_13 : ∀ (x1 : Int) (x2 : Int) (x3 : Int) (K : Int → Option Int) (n : Nat) (x4 : Int) (ls : Array Slot), L5_shareOf_13 σ x1 x2 x3 K n x4 = some out → lv_has ls 5 [(0, .ref (ad 0)), (1, .int (rr_i x1)), (2, .int (rr_i x2)), (3, .int (rr_i x3)), (4, .int (rr_i x4))] → (∀ (z4 : Int) (ls : Array Slot), K z4 = some out → lv_has ls 5 [(0, .ref (ad 0)), (1, .int (rr_i x1)), (2, .int (rr_i x2)), (3, .int (rr_i x3)), (4, .int (rr_i z4))] → W p l e rm_X5_shareOf s m ar below meth c s.heap [] 0 0 Q (F0 m 36 ls [])) → W p l e rm_X5_shareOf s m ar below meth c s.heap [] 0 0 Q (F0 m 13 ls []) := by
    intro x1 x2 x3 K n
    induction n with
    | zero => intro x4 ls h hl hk; cases h
    | succ n ih =>
      intro x4 ls h hl hk
      rw [L5_shareOf_13_s] at h
      refine lv_aload_n hx hb dX5_shareOf_13 rfl (lv_at hl 0 rfl) ?_
      refine va_get (D := g.1) (ci := 5) (v := .ref (ad 5)) (C := RX5) (T := TX5) (N := 19) hx hb hts hinX5 hown hK.1 hP 0 rfl rfl 5 (by decide) hk_0 (fun _ h9 => h9) rfl dX5_shareOf_14 ?_
      refine lv_iload hx hb dX5_shareOf_17 (lv_at hl 4 rfl) ?_
      obtain ⟨hg3, h⟩ := rr_c_some h
      refine rr_iald (f := (σ 5)) (N := 101) hx hb hK hP 5 rfl rfl (by decide) hg3 dX5_shareOf_19 ?_
      refine rr_iconst hx hb dX5_shareOf_20 ?_
      obtain ⟨hg4, h⟩ := rr_c_some h
      refine rr_icmp_ne (tgt := 36) hx hb dX5_shareOf_21 (by decide) hg4 (by decide) (fun c5 => ?_) (fun c5 => ?_)
      · rw [if_neg c5] at h
        exact hk x4 ls h (lv_sub hl [0, 1, 2, 3, 4] rfl)
      · rw [if_pos c5] at h
        refine lv_iload hx hb dX5_shareOf_24 (lv_at hl 4 rfl) ?_
        refine rr_iconst hx hb dX5_shareOf_26 ?_
        refine rr_iadd hx hb dX5_shareOf_27 ?_
        refine rr_bipush hx hb dX5_shareOf_28 (by decide +kernel) ?_
        obtain ⟨hg6, h⟩ := rr_c_some h
        refine rr_irem hx hb dX5_shareOf_30 ⟨hg6.1, hg6.2, by decide, by decide⟩ ?_
        refine lv_istore (lv' := [(4, .int (rr_i ((x4 + 1) % 101))), (0, .ref (ad 0)), (1, .int (rr_i x1)), (2, .int (rr_i x2)), (3, .int (rr_i x3))]) hx hb dX5_shareOf_31 hl (by decide) rfl (fun ls hl => ?_)
        refine lv_goto (tgt := 13) hx hb dX5_shareOf_33 (by decide) ?_
        exact ih ((x4 + 1) % 101) ls h (lv_sub hl [1, 2, 3, 4, 0] rfl) hk
  have hL5_shareOf_4 : ∀ (x1 : Int) (K : Int → Option Int) (n : Nat) (x2 : Int) (x3 : Int) (ls : Array Slot), L5_shareOf_4 σ x1 K n x2 x3 = some out → lv_has ls 5 [(0, .ref (ad 0)), (1, .int (rr_i x1)), (2, .int (rr_i x2)), (3, .int (rr_i x3))] → (∀ (z2 : Int) (ls : Array Slot), K z2 = some out → lv_has ls 5 [(2, .int (rr_i z2))] → W p l e rm_X5_shareOf s m ar below meth c s.heap [] 0 0 Q (F0 m 61 ls [])) → W p l e rm_X5_shareOf s m ar below meth c s.heap [] 0 0 Q (F0 m 4 ls []) := by
    intro x1 K n
    induction n with
    | zero => intro x2 x3 ls h hl hk; cases h
    | succ n ih =>
      intro x2 x3 ls h hl hk
      rw [L5_shareOf_4_s] at h
      refine lv_iload_n hx hb dX5_shareOf_4 rfl (lv_at hl 3 rfl) ?_
      refine rr_bipush hx hb dX5_shareOf_5 (by decide +kernel) ?_
      obtain ⟨hg1, h⟩ := rr_c_some h
      refine rr_icmp_ge (tgt := 61) hx hb dX5_shareOf_7 (by decide) hg1 (by decide) (fun c2 => ?_) (fun c2 => ?_)
      · rw [if_pos c2] at h
        exact hk x2 ls h (lv_sub hl [2] rfl)
      · rw [if_neg c2] at h
        refine lv_iload_n hx hb dX5_shareOf_10 rfl (lv_at hl 3 rfl) ?_
        refine lv_istore (lv' := [(4, .int (rr_i x3)), (0, .ref (ad 0)), (1, .int (rr_i x1)), (2, .int (rr_i x2)), (3, .int (rr_i x3))]) hx hb dX5_shareOf_11 hl (by decide) rfl (fun ls hl => ?_)
        refine hL5_shareOf_13 x1 x2 x3 _ 1000 x3 ls h (lv_sub hl [1, 2, 3, 4, 0] rfl) (fun y4_13 ls h hl => ?_)
        refine lv_iload_n hx hb dX5_shareOf_36 rfl (lv_at hl 2 rfl) ?_
        refine lv_aload_n hx hb dX5_shareOf_37 rfl (lv_at hl 0 rfl) ?_
        refine va_get (D := g.1) (ci := 5) (v := .ref (ad 5)) (C := RX5) (T := TX5) (N := 19) hx hb hts hinX5 hown hK.1 hP 0 rfl rfl 5 (by decide) hk_0 (fun _ h9 => h9) rfl dX5_shareOf_38 ?_
        refine lv_iload hx hb dX5_shareOf_41 (lv_at hl 4 rfl) ?_
        obtain ⟨hg7, h⟩ := rr_c_some h
        refine rr_iald (f := (σ 5)) (N := 101) hx hb hK hP 5 rfl rfl (by decide) hg7 dX5_shareOf_43 ?_
        refine lv_iload_n hx hb dX5_shareOf_44 rfl (lv_at hl 1 rfl) ?_
        obtain ⟨hg8, h⟩ := rr_c_some h
        refine rr_icmp_ne (tgt := 52) hx hb dX5_shareOf_45 (by decide) hg8.1 hg8.2 (fun c9 => ?_) (fun c9 => ?_)
        · rw [if_neg c9] at h
          refine rr_iconst hx hb dX5_shareOf_52 ?_
          refine rr_iadd hx hb dX5_shareOf_53 ?_
          refine lv_istore_n (lv' := [(2, .int (rr_i (x2 + 0))), (0, .ref (ad 0)), (1, .int (rr_i x1)), (3, .int (rr_i x3)), (4, .int (rr_i y4_13))]) hx hb dX5_shareOf_54 rfl hl (by decide) rfl (fun ls hl => ?_)
          refine rr_iinc (k := 3) (a := x3) (lv' := [(3, .int (rr_i (x3 + 1))), (2, .int (rr_i (x2 + 0))), (0, .ref (ad 0)), (1, .int (rr_i x1)), (4, .int (rr_i y4_13))]) hx hb dX5_shareOf_55 hl rfl (by decide) rfl (fun ls hl => ?_)
          refine lv_goto (tgt := 4) hx hb dX5_shareOf_58 (by decide) ?_
          exact ih (x2 + 0) (x3 + 1) ls h (lv_sub hl [2, 3, 1, 0] rfl) hk
        · rw [if_pos c9] at h
          refine rr_iconst hx hb dX5_shareOf_48 ?_
          refine lv_goto (tgt := 53) hx hb dX5_shareOf_49 (by decide) ?_
          refine rr_iadd hx hb dX5_shareOf_53 ?_
          refine lv_istore_n (lv' := [(2, .int (rr_i (x2 + 1))), (0, .ref (ad 0)), (1, .int (rr_i x1)), (3, .int (rr_i x3)), (4, .int (rr_i y4_13))]) hx hb dX5_shareOf_54 rfl hl (by decide) rfl (fun ls hl => ?_)
          refine rr_iinc (k := 3) (a := x3) (lv' := [(3, .int (rr_i (x3 + 1))), (2, .int (rr_i (x2 + 1))), (0, .ref (ad 0)), (1, .int (rr_i x1)), (4, .int (rr_i y4_13))]) hx hb dX5_shareOf_55 hl rfl (by decide) rfl (fun ls hl => ?_)
          refine lv_goto (tgt := 4) hx hb dX5_shareOf_58 (by decide) ?_
          exact ih (x2 + 1) (x3 + 1) ls h (lv_sub hl [2, 3, 1, 0] rfl) hk
  refine rr_iconst hx hb dX5_shareOf_0 ?_
  refine lv_istore_n (lv' := [(2, .int (rr_i 0)), (0, .ref (ad 0)), (1, .int (rr_i x1))]) hx hb dX5_shareOf_1 rfl hl (by decide) rfl (fun ls hl => ?_)
  refine rr_iconst hx hb dX5_shareOf_2 ?_
  refine lv_istore_n (lv' := [(3, .int (rr_i 0)), (2, .int (rr_i 0)), (0, .ref (ad 0)), (1, .int (rr_i x1))]) hx hb dX5_shareOf_3 rfl hl (by decide) rfl (fun ls hl => ?_)
  refine hL5_shareOf_4 x1 _ 1000 0 0 ls h (lv_sub hl [2, 3, 1, 0] rfl) (fun y2_4 ls h hl => ?_)
  refine lv_iload_n hx hb dX5_shareOf_61 rfl (lv_at hl 0 rfl) ?_
  exact hret _ _ _ h dX5_shareOf_62
-- RoomRingModel.share
abbrev rm_X5_share : Room := { frames := 2, cells := 0, slots := 0, locals := 42 }
theorem hd_X5_share : yX5_share.cls ≠ "java/lang/invoke/MethodHandle" ∧ yX5_share.cls ≠ "java/lang/invoke/VarHandle" ∧ (parseMethodDescriptor yX5_share.desc).map (fun d => d.parameters.length) = some 1 := by decide +kernel
set_option maxHeartbeats 4000000 in
set_option maxRecDepth 100000 in
theorem kX5_share (l : Launch) (g : rr_G) (ad : Nat → Nat) (sz : Nat) (hh : Int) (x1 : Int) (σ : rr_T) (out : (Int × rr_T)) (h : M5_share x1 σ = some out) : Met l yX5_share wsX5_share rm_X5_share (rr_P g [.ref (ad 0), .int (rr_i x1)] (rr_wM g ad σ hh) sz) (rr_Qi g out.1 (rr_wM g ad out.2 hh) (va_A (rr_wM g ad σ hh) sz)) 0 0 (va_A (rr_wM g ad σ hh) sz) := by
  refine rr_rwI (cc := cX5_share) (maxL := 2) (fun σ => rr_wM g ad σ hh) σ out (by decide) rfl (Nat.le_of_ble_eq_true rfl) ?_
  intro p e s m ar below meth c Q ls A hx hb hml hown hts hK hA hP hD hS hret hl
  have hP : va_P g.1 vwCl (rr_wM g ad σ hh) s.heap := hP
  have hD : va_D A (rr_wM g ad σ hh) := hD
  have hown : s.vm.findClass RX5 = some m.cls := hown
  have hl : lv_has ls 2 [(0, .ref (ad 0)), (1, .int (rr_i x1))] := hl
  unfold M5_share at h
  refine lv_iload_n hx hb dX5_share_0 rfl (lv_at hl 1 rfl) ?_
  obtain ⟨v1, hw2, h⟩ := rr_b_some h
  refine rr_callI (va_runS (As := [.int (rr_i x1)]) (rest := []) ⟨hx, hb, hml, hown, hts⟩ (kX5_isName l g x1 v1 hw2) (va_cwS 1 hts gX5_share_X5_isName rfl rfl rfl hd_X5_isName ⟨Nat.le_of_ble_eq_true rfl, Nat.le_of_ble_eq_true rfl⟩) ⟨rr_R_blind, rr_R_pre hK (hP.sub (ws' := ([] : va_W)) [] rfl)⟩ rfl rfl hl.1 rfl (lv_room (Nat.le_of_ble_eq_true rfl)) dX5_share_1 ⟨Nat.zero_le _, Nat.zero_le _⟩) ?_
  obtain ⟨hg3, h⟩ := rr_c_some h
  refine rr_if_ne (tgt := 14) hx hb dX5_share_4 (by decide) hg3 (fun c4 => ?_) (fun c4 => ?_)
  · rw [if_neg c4] at h
    refine lv_aload_n hx hb dX5_share_14 rfl (lv_at hl 0 rfl) ?_
    refine lv_iload_n hx hb dX5_share_15 rfl (lv_at hl 1 rfl) ?_
    obtain ⟨v5, hw6, h⟩ := rr_b_some h
    refine rr_callI (va_runV (As := [.int (rr_i x1)]) (rest := []) ⟨hx, hb, hml, hown, hts⟩ (kX5_isHost l g ad hh x1 σ v5 hw6) (cwV 1 hts gX5_share_X5_isHost rfl rfl rfl ⟨rfl, hd_X5_isHost⟩ ⟨Nat.le_of_ble_eq_true rfl, Nat.le_of_ble_eq_true rfl⟩) ⟨rr_R_blind, va_recv hK.1 hP (ci := 5) (q0 := 0) rfl rfl, rr_R_pre hK hP⟩ rfl rfl hl.1 rfl (lv_room (Nat.le_of_ble_eq_true rfl)) dX5_share_16 ⟨Nat.zero_le _, Nat.zero_le _⟩) ?_
    obtain ⟨hg7, h⟩ := rr_c_some h
    refine rr_if_eq (tgt := 30) hx hb dX5_share_19 (by decide) hg7 (fun c8 => ?_) (fun c8 => ?_)
    · rw [if_pos c8] at h
      refine lv_aload_n hx hb dX5_share_30 rfl (lv_at hl 0 rfl) ?_
      refine rr_bipush hx hb dX5_share_31 (by decide +kernel) ?_
      obtain ⟨v9, hw10, h⟩ := rr_b_some h
      refine rr_allI hD hS hA (va_runV (As := [.int (rr_i (-3))]) (rest := []) ⟨hx, hb, hml, hown, hts⟩ (kX5_refuses l g ad _ hh (-3) σ v9 hw10) (cwV 1 hts gX5_share_X5_refuses rfl rfl rfl ⟨rfl, hd_X5_refuses⟩ ⟨Nat.le_of_ble_eq_true rfl, Nat.le_of_ble_eq_true rfl⟩) ⟨rr_P_blind, va_recv hK.1 hP (ci := 5) (q0 := 0) rfl rfl, rr_P_pre hK hP hD⟩ rfl rfl hl.1 rfl (lv_room (Nat.le_of_ble_eq_true rfl)) dX5_share_33 ⟨Nat.zero_le _, Nat.zero_le _⟩) (fun H locs hP hD hS => ?_)
      exact hret _ _ _ _ _ _ h hP hD hS dX5_share_36
    · rw [if_neg c8] at h
      refine lv_aload_n hx hb dX5_share_22 rfl (lv_at hl 0 rfl) ?_
      refine lv_iload_n hx hb dX5_share_23 rfl (lv_at hl 1 rfl) ?_
      obtain ⟨v11, hw12, h⟩ := rr_b_some h
      refine rr_callI (va_runV (As := [.int (rr_i x1)]) (rest := []) ⟨hx, hb, hml, hown, hts⟩ (kX5_shareOf l g ad hh x1 σ v11 hw12) (cwV 1 hts gX5_share_X5_shareOf rfl rfl rfl ⟨rfl, hd_X5_shareOf⟩ ⟨Nat.le_of_ble_eq_true rfl, Nat.le_of_ble_eq_true rfl⟩) ⟨rr_R_blind, va_recv hK.1 hP (ci := 5) (q0 := 0) rfl rfl, rr_R_pre hK hP⟩ rfl rfl hl.1 rfl (lv_room (Nat.le_of_ble_eq_true rfl)) dX5_share_24 ⟨Nat.zero_le _, Nat.zero_le _⟩) ?_
      refine lv_goto (tgt := 36) hx hb dX5_share_27 (by decide) ?_
      exact hret _ _ _ _ _ _ h hP hD hS dX5_share_36
  · rw [if_pos c4] at h
    refine lv_aload_n hx hb dX5_share_7 rfl (lv_at hl 0 rfl) ?_
    refine rr_bipush hx hb dX5_share_8 (by decide +kernel) ?_
    obtain ⟨v13, hw14, h⟩ := rr_b_some h
    refine rr_allI hD hS hA (va_runV (As := [.int (rr_i (-2))]) (rest := []) ⟨hx, hb, hml, hown, hts⟩ (kX5_refuses l g ad _ hh (-2) σ v13 hw14) (cwV 1 hts gX5_share_X5_refuses rfl rfl rfl ⟨rfl, hd_X5_refuses⟩ ⟨Nat.le_of_ble_eq_true rfl, Nat.le_of_ble_eq_true rfl⟩) ⟨rr_P_blind, va_recv hK.1 hP (ci := 5) (q0 := 0) rfl rfl, rr_P_pre hK hP hD⟩ rfl rfl hl.1 rfl (lv_room (Nat.le_of_ble_eq_true rfl)) dX5_share_10 ⟨Nat.zero_le _, Nat.zero_le _⟩) (fun H locs hP hD hS => ?_)
    exact hret _ _ _ _ _ _ h hP hD hS dX5_share_13
-- RoomRingModel.has
abbrev rm_X5_has : Room := { frames := 2, cells := 0, slots := 0, locals := 42 }
theorem hd_X5_has : yX5_has.cls ≠ "java/lang/invoke/MethodHandle" ∧ yX5_has.cls ≠ "java/lang/invoke/VarHandle" ∧ (parseMethodDescriptor yX5_has.desc).map (fun d => d.parameters.length) = some 1 := by decide +kernel
set_option maxHeartbeats 4000000 in
set_option maxRecDepth 100000 in
theorem kX5_has (l : Launch) (g : rr_G) (ad : Nat → Nat) (sz : Nat) (hh : Int) (x1 : Int) (σ : rr_T) (out : (Int × rr_T)) (h : M5_has x1 σ = some out) : Met l yX5_has wsX5_has rm_X5_has (rr_P g [.ref (ad 0), .int (rr_i x1)] (rr_wM g ad σ hh) sz) (rr_Qi g out.1 (rr_wM g ad out.2 hh) (va_A (rr_wM g ad σ hh) sz)) 0 0 (va_A (rr_wM g ad σ hh) sz) := by
  refine rr_rwI (cc := cX5_has) (maxL := 3) (fun σ => rr_wM g ad σ hh) σ out (by decide) rfl (Nat.le_of_ble_eq_true rfl) ?_
  intro p e s m ar below meth c Q ls A hx hb hml hown hts hK hA hP hD hS hret hl
  have hP : va_P g.1 vwCl (rr_wM g ad σ hh) s.heap := hP
  have hD : va_D A (rr_wM g ad σ hh) := hD
  have hown : s.vm.findClass RX5 = some m.cls := hown
  have hl : lv_has ls 3 [(0, .ref (ad 0)), (1, .int (rr_i x1))] := hl
  have hinX5 : ∀ w ∈ u_ws RX5 TX5 19, w ∈ wsX5_has := by decide +kernel
  have hk_0 : (Cond.fieldLink RX5 25 "RoomRingModel" "keyHost" "[I").before ar s = true := hts _ (List.mem_of_getElem? (i := 1) (by decide +kernel))
  unfold M5_has at h
  refine lv_iload_n hx hb dX5_has_0 rfl (lv_at hl 1 rfl) ?_
  obtain ⟨v1, hw2, h⟩ := rr_b_some h
  refine rr_callI (va_runS (As := [.int (rr_i x1)]) (rest := []) ⟨hx, hb, hml, hown, hts⟩ (kX5_isKey l g x1 v1 hw2) (va_cwS 1 hts gX5_has_X5_isKey rfl rfl rfl hd_X5_isKey ⟨Nat.le_of_ble_eq_true rfl, Nat.le_of_ble_eq_true rfl⟩) ⟨rr_R_blind, rr_R_pre hK (hP.sub (ws' := ([] : va_W)) [] rfl)⟩ rfl rfl hl.1 rfl (lv_room (Nat.le_of_ble_eq_true rfl)) dX5_has_1 ⟨Nat.zero_le _, Nat.zero_le _⟩) ?_
  obtain ⟨hg3, h⟩ := rr_c_some h
  refine rr_if_ne (tgt := 14) hx hb dX5_has_4 (by decide) hg3 (fun c4 => ?_) (fun c4 => ?_)
  · rw [if_neg c4] at h
    refine lv_aload_n hx hb dX5_has_14 rfl (lv_at hl 0 rfl) ?_
    refine lv_iload_n hx hb dX5_has_15 rfl (lv_at hl 1 rfl) ?_
    obtain ⟨v5, hw6, h⟩ := rr_b_some h
    refine rr_callI (va_runV (As := [.int (rr_i x1)]) (rest := []) ⟨hx, hb, hml, hown, hts⟩ (kX5_rowOf l g ad hh x1 σ v5 hw6) (cwV 1 hts gX5_has_X5_rowOf rfl rfl rfl ⟨rfl, hd_X5_rowOf⟩ ⟨Nat.le_of_ble_eq_true rfl, Nat.le_of_ble_eq_true rfl⟩) ⟨rr_R_blind, va_recv hK.1 hP (ci := 5) (q0 := 0) rfl rfl, rr_R_pre hK hP⟩ rfl rfl hl.1 rfl (lv_room (Nat.le_of_ble_eq_true rfl)) dX5_has_16 ⟨Nat.zero_le _, Nat.zero_le _⟩) ?_
    refine lv_istore_n (lv' := [(2, .int (rr_i v5)), (0, .ref (ad 0)), (1, .int (rr_i x1))]) hx hb dX5_has_19 rfl hl (by decide) rfl (fun ls hl => ?_)
    refine lv_iload_n hx hb dX5_has_20 rfl (lv_at hl 0 rfl) ?_
    refine rr_iconst hx hb dX5_has_21 ?_
    obtain ⟨hg7, h⟩ := rr_c_some h
    refine rr_icmp_ne (tgt := 34) hx hb dX5_has_22 (by decide) hg7 (by decide) (fun c8 => ?_) (fun c8 => ?_)
    · rw [if_neg c8] at h
      refine lv_aload_n hx hb dX5_has_34 rfl (lv_at hl 1 rfl) ?_
      refine va_get (D := g.1) (ci := 5) (v := .ref (ad 6)) (C := RX5) (T := TX5) (N := 19) hx hb hts hinX5 hown hK.1 hP 0 rfl rfl 6 (by decide) hk_0 (fun _ h9 => h9) rfl dX5_has_35 ?_
      refine lv_iload_n hx hb dX5_has_38 rfl (lv_at hl 0 rfl) ?_
      refine rr_if_ge (tgt := 46) hx hb dX5_has_39 (by decide) hg7 (fun c9 => ?_) (fun c9 => ?_)
      · rw [if_pos c9] at h
        refine lv_iload_n hx hb dX5_has_46 rfl (lv_at hl 0 rfl) ?_
        obtain ⟨hg10, h⟩ := rr_c_some h
        refine rr_iald (f := (σ 6)) (N := 40) hx hb hK hP 6 rfl rfl (by decide) hg10 dX5_has_47 ?_
        exact hret _ _ _ _ _ _ h hP hD hS dX5_has_48
      · rw [if_neg c9] at h
        refine rr_iconst hx hb dX5_has_42 ?_
        refine lv_goto (tgt := 47) hx hb dX5_has_43 (by decide) ?_
        refine rr_iald (f := (σ 6)) (N := 40) hx hb hK hP 6 rfl rfl (by decide) (by decide) dX5_has_47 ?_
        exact hret _ _ _ _ _ _ h hP hD hS dX5_has_48
    · rw [if_pos c8] at h
      refine lv_aload_n hx hb dX5_has_25 rfl (lv_at hl 1 rfl) ?_
      refine rr_bipush hx hb dX5_has_26 (by decide +kernel) ?_
      obtain ⟨v11, hw12, h⟩ := rr_b_some h
      refine rr_allI hD hS hA (va_runV (As := [.int (rr_i (-3))]) (rest := []) ⟨hx, hb, hml, hown, hts⟩ (kX5_refuses l g ad _ hh (-3) σ v11 hw12) (cwV 1 hts gX5_has_X5_refuses rfl rfl rfl ⟨rfl, hd_X5_refuses⟩ ⟨Nat.le_of_ble_eq_true rfl, Nat.le_of_ble_eq_true rfl⟩) ⟨rr_P_blind, va_recv hK.1 hP (ci := 5) (q0 := 0) rfl rfl, rr_P_pre hK hP hD⟩ rfl rfl hl.1 rfl (lv_room (Nat.le_of_ble_eq_true rfl)) dX5_has_28 ⟨Nat.zero_le _, Nat.zero_le _⟩) (fun H locs hP hD hS => ?_)
      refine lv_goto (tgt := 48) hx hb dX5_has_31 (by decide) ?_
      exact hret _ _ _ _ _ _ h hP hD hS dX5_has_48
  · rw [if_pos c4] at h
    refine lv_aload_n hx hb dX5_has_7 rfl (lv_at hl 0 rfl) ?_
    refine rr_bipush hx hb dX5_has_8 (by decide +kernel) ?_
    obtain ⟨v13, hw14, h⟩ := rr_b_some h
    refine rr_allI hD hS hA (va_runV (As := [.int (rr_i (-2))]) (rest := []) ⟨hx, hb, hml, hown, hts⟩ (kX5_refuses l g ad _ hh (-2) σ v13 hw14) (cwV 1 hts gX5_has_X5_refuses rfl rfl rfl ⟨rfl, hd_X5_refuses⟩ ⟨Nat.le_of_ble_eq_true rfl, Nat.le_of_ble_eq_true rfl⟩) ⟨rr_P_blind, va_recv hK.1 hP (ci := 5) (q0 := 0) rfl rfl, rr_P_pre hK hP hD⟩ rfl rfl hl.1 rfl (lv_room (Nat.le_of_ble_eq_true rfl)) dX5_has_10 ⟨Nat.zero_le _, Nat.zero_le _⟩) (fun H locs hP hD hS => ?_)
    exact hret _ _ _ _ _ _ h hP hD hS dX5_has_13
-- RoomRingModel.aboutKey
abbrev rm_X5_aboutKey : Room := { frames := 1, cells := 0, slots := 0, locals := 20 }
theorem hd_X5_aboutKey : yX5_aboutKey.cls ≠ "java/lang/invoke/MethodHandle" ∧ yX5_aboutKey.cls ≠ "java/lang/invoke/VarHandle" ∧ (parseMethodDescriptor yX5_aboutKey.desc).map (fun d => d.parameters.length) = some 2 := by decide +kernel
set_option maxHeartbeats 4000000 in
set_option maxRecDepth 100000 in
theorem kX5_aboutKey (l : Launch) (g : rr_G) (ad : Nat → Nat) (hh : Int) (x1 : Int) (x2 : Int) (σ : rr_T) (out : Int) (h : M5_aboutKey x1 x2 σ = some out) : Met l yX5_aboutKey wsX5_aboutKey rm_X5_aboutKey (rr_R g [.ref (ad 0), .int (rr_i x1), .int (rr_i x2)] (rr_wM g ad σ hh)) (vp_Si (fun x => x = rr_i out)) 0 0 (fun _ => False) := by
  refine rr_roI (cc := cX5_aboutKey) (maxL := 7) (by decide) rfl (Nat.le_of_ble_eq_true rfl) ?_
  intro p e s m ar below meth c Q ls hx hb hml hown hts hK hP hret hl
  have hown : s.vm.findClass RX5 = some m.cls := hown
  have hl : lv_has ls 7 [(0, .ref (ad 0)), (1, .int (rr_i x1)), (2, .int (rr_i x2))] := hl
  have hinX5 : ∀ w ∈ u_ws RX5 TX5 19, w ∈ wsX5_aboutKey := by decide +kernel
  have hk_0 : (Cond.fieldLink RX5 7 "RoomRingModel" "now" "[I").before ar s = true := hts _ (List.mem_of_getElem? (i := 1) (by decide +kernel))
  have hk_1 : (Cond.fieldLink RX5 25 "RoomRingModel" "keyHost" "[I").before ar s = true := hts _ (List.mem_of_getElem? (i := 2) (by decide +kernel))
  have hk_2 : (Cond.fieldLink RX5 28 "RoomRingModel" "keyMark" "[I").before ar s = true := hts _ (List.mem_of_getElem? (i := 3) (by decide +kernel))
  have hk_3 : (Cond.fieldLink RX5 22 "RoomRingModel" "owner" "[I").before ar s = true := hts _ (List.mem_of_getElem? (i := 4) (by decide +kernel))
  unfold M5_aboutKey at h
  have hL5_aboutKey_46 : ∀ (x1 : Int) (x2 : Int) (K : Int → Int → Option Int) (n : Nat) (x4 : Int) (x5 : Int) (x6 : Int) (ls : Array Slot), L5_aboutKey_46 σ x1 x2 K n x4 x5 x6 = some out → lv_has ls 7 [(0, .ref (ad 0)), (1, .int (rr_i x1)), (2, .int (rr_i x2)), (4, .int (rr_i x4)), (5, .int (rr_i x5)), (6, .int (rr_i x6))] → (∀ (z4 : Int) (z5 : Int) (ls : Array Slot), K z4 z5 = some out → lv_has ls 7 [(2, .int (rr_i x2)), (4, .int (rr_i z4)), (5, .int (rr_i z5))] → W p l e rm_X5_aboutKey s m ar below meth c s.heap [] 0 0 Q (F0 m 93 ls [])) → W p l e rm_X5_aboutKey s m ar below meth c s.heap [] 0 0 Q (F0 m 46 ls []) := by
    intro x1 x2 K n
    induction n with
    | zero => intro x4 x5 x6 ls h hl hk; cases h
    | succ n ih =>
      intro x4 x5 x6 ls h hl hk
      rw [L5_aboutKey_46_s] at h
      refine lv_iload hx hb dX5_aboutKey_46 (lv_at hl 5 rfl) ?_
      refine lv_aload_n hx hb dX5_aboutKey_48 rfl (lv_at hl 0 rfl) ?_
      refine va_get (D := g.1) (ci := 5) (v := .ref (ad 7)) (C := RX5) (T := TX5) (N := 19) hx hb hts hinX5 hown hK.1 hP 0 rfl rfl 7 (by decide) hk_2 (fun _ h9 => h9) rfl dX5_aboutKey_49 ?_
      refine lv_iload_n hx hb dX5_aboutKey_52 rfl (lv_at hl 1 rfl) ?_
      obtain ⟨hg10, h⟩ := rr_c_some h
      refine rr_iald (f := (σ 7)) (N := 40) hx hb hK hP 7 rfl rfl (by decide) hg10 dX5_aboutKey_53 ?_
      obtain ⟨hg11, h⟩ := rr_c_some h
      refine rr_icmp_eq (tgt := 93) hx hb dX5_aboutKey_54 (by decide) hg11.1 hg11.2 (fun c12 => ?_) (fun c12 => ?_)
      · rw [if_pos c12] at h
        exact hk x4 x5 ls h (lv_sub hl [2, 3, 4] rfl)
      · rw [if_neg c12] at h
        refine lv_iload hx hb dX5_aboutKey_57 (lv_at hl 3 rfl) ?_
        refine lv_aload_n hx hb dX5_aboutKey_59 rfl (lv_at hl 0 rfl) ?_
        refine va_get (D := g.1) (ci := 5) (v := .ref (ad 5)) (C := RX5) (T := TX5) (N := 19) hx hb hts hinX5 hown hK.1 hP 0 rfl rfl 5 (by decide) hk_3 (fun _ h9 => h9) rfl dX5_aboutKey_60 ?_
        refine lv_iload hx hb dX5_aboutKey_63 (lv_at hl 5 rfl) ?_
        obtain ⟨hg13, h⟩ := rr_c_some h
        refine rr_iald (f := (σ 5)) (N := 101) hx hb hK hP 5 rfl rfl (by decide) hg13 dX5_aboutKey_65 ?_
        refine rr_iconst hx hb dX5_aboutKey_66 ?_
        obtain ⟨hg14, h⟩ := rr_c_some h
        refine rr_icmp_ne (tgt := 74) hx hb dX5_aboutKey_67 (by decide) hg14 (by decide) (fun c15 => ?_) (fun c15 => ?_)
        · rw [if_neg c15] at h
          refine rr_iconst hx hb dX5_aboutKey_74 ?_
          refine rr_iadd hx hb dX5_aboutKey_75 ?_
          refine lv_istore (lv' := [(4, .int (rr_i (x4 + 1))), (0, .ref (ad 0)), (1, .int (rr_i x1)), (2, .int (rr_i x2)), (5, .int (rr_i x5)), (6, .int (rr_i x6))]) hx hb dX5_aboutKey_76 hl (by decide) rfl (fun ls hl => ?_)
          refine rr_iinc (k := 4) (a := x5) (lv' := [(5, .int (rr_i (x5 + 1))), (4, .int (rr_i (x4 + 1))), (0, .ref (ad 0)), (1, .int (rr_i x1)), (2, .int (rr_i x2)), (6, .int (rr_i x6))]) hx hb dX5_aboutKey_78 hl rfl (by decide) rfl (fun ls hl => ?_)
          refine lv_iload hx hb dX5_aboutKey_81 (lv_at hl 5 rfl) ?_
          refine rr_iconst hx hb dX5_aboutKey_83 ?_
          refine rr_iadd hx hb dX5_aboutKey_84 ?_
          refine rr_bipush hx hb dX5_aboutKey_85 (by decide +kernel) ?_
          obtain ⟨hg16, h⟩ := rr_c_some h
          refine rr_irem hx hb dX5_aboutKey_87 ⟨hg16.1, hg16.2, by decide, by decide⟩ ?_
          refine lv_istore (lv' := [(6, .int (rr_i ((x6 + 1) % 101))), (5, .int (rr_i (x5 + 1))), (4, .int (rr_i (x4 + 1))), (0, .ref (ad 0)), (1, .int (rr_i x1)), (2, .int (rr_i x2))]) hx hb dX5_aboutKey_88 hl (by decide) rfl (fun ls hl => ?_)
          refine lv_goto (tgt := 46) hx hb dX5_aboutKey_90 (by decide) ?_
          exact ih (x4 + 1) (x5 + 1) ((x6 + 1) % 101) ls h (lv_sub hl [3, 4, 5, 2, 1, 0] rfl) hk
        · rw [if_pos c15] at h
          refine rr_iconst hx hb dX5_aboutKey_70 ?_
          refine lv_goto (tgt := 75) hx hb dX5_aboutKey_71 (by decide) ?_
          refine rr_iadd hx hb dX5_aboutKey_75 ?_
          refine lv_istore (lv' := [(4, .int (rr_i (x4 + 0))), (0, .ref (ad 0)), (1, .int (rr_i x1)), (2, .int (rr_i x2)), (5, .int (rr_i x5)), (6, .int (rr_i x6))]) hx hb dX5_aboutKey_76 hl (by decide) rfl (fun ls hl => ?_)
          refine rr_iinc (k := 4) (a := x5) (lv' := [(5, .int (rr_i (x5 + 1))), (4, .int (rr_i (x4 + 0))), (0, .ref (ad 0)), (1, .int (rr_i x1)), (2, .int (rr_i x2)), (6, .int (rr_i x6))]) hx hb dX5_aboutKey_78 hl rfl (by decide) rfl (fun ls hl => ?_)
          refine lv_iload hx hb dX5_aboutKey_81 (lv_at hl 5 rfl) ?_
          refine rr_iconst hx hb dX5_aboutKey_83 ?_
          refine rr_iadd hx hb dX5_aboutKey_84 ?_
          refine rr_bipush hx hb dX5_aboutKey_85 (by decide +kernel) ?_
          obtain ⟨hg17, h⟩ := rr_c_some h
          refine rr_irem hx hb dX5_aboutKey_87 ⟨hg17.1, hg17.2, by decide, by decide⟩ ?_
          refine lv_istore (lv' := [(6, .int (rr_i ((x6 + 1) % 101))), (5, .int (rr_i (x5 + 1))), (4, .int (rr_i (x4 + 0))), (0, .ref (ad 0)), (1, .int (rr_i x1)), (2, .int (rr_i x2))]) hx hb dX5_aboutKey_88 hl (by decide) rfl (fun ls hl => ?_)
          refine lv_goto (tgt := 46) hx hb dX5_aboutKey_90 (by decide) ?_
          exact ih (x4 + 0) (x5 + 1) ((x6 + 1) % 101) ls h (lv_sub hl [3, 4, 5, 2, 1, 0] rfl) hk
  refine lv_aload_n hx hb dX5_aboutKey_0 rfl (lv_at hl 0 rfl) ?_
  refine va_get (D := g.1) (ci := 5) (v := .ref (ad 1)) (C := RX5) (T := TX5) (N := 19) hx hb hts hinX5 hown hK.1 hP 0 rfl rfl 0 (by decide) hk_0 (fun _ h9 => h9) rfl dX5_aboutKey_1 ?_
  refine rr_bipush hx hb dX5_aboutKey_4 (by decide +kernel) ?_
  refine lv_iload_n hx hb dX5_aboutKey_6 rfl (lv_at hl 1 rfl) ?_
  refine rr_iadd hx hb dX5_aboutKey_7 ?_
  obtain ⟨hg1, h⟩ := rr_c_some h
  refine rr_iald (f := (σ 0)) (N := 143) hx hb hK hP 1 rfl rfl (by decide) hg1 dX5_aboutKey_8 ?_
  obtain ⟨v2, hw3, h⟩ := rr_b_some h
  refine rr_callI (va_runS (As := [.int (rr_i (σ 0 (100 + x1)))]) (rest := []) ⟨hx, hb, hml, hown, hts⟩ (kX5_placeOf l g (σ 0 (100 + x1)) v2 hw3) (va_cwS 1 hts gX5_aboutKey_X5_placeOf rfl rfl rfl hd_X5_placeOf ⟨Nat.le_of_ble_eq_true rfl, Nat.le_of_ble_eq_true rfl⟩) ⟨rr_R_blind, rr_R_pre hK (hP.sub (ws' := ([] : va_W)) [] rfl)⟩ rfl rfl hl.1 rfl (lv_room (Nat.le_of_ble_eq_true rfl)) dX5_aboutKey_9 ⟨Nat.zero_le _, Nat.zero_le _⟩) ?_
  refine lv_istore_n (lv' := [(3, .int (rr_i v2)), (0, .ref (ad 0)), (1, .int (rr_i x1)), (2, .int (rr_i x2))]) hx hb dX5_aboutKey_12 rfl hl (by decide) rfl (fun ls hl => ?_)
  refine lv_iload_n hx hb dX5_aboutKey_13 rfl (lv_at hl 3 rfl) ?_
  obtain ⟨hg4, h⟩ := rr_c_some h
  refine rr_if_eq (tgt := 27) hx hb dX5_aboutKey_14 (by decide) hg4 (fun c5 => ?_) (fun c5 => ?_)
  · rw [if_pos c5] at h
    refine lv_iload_n hx hb dX5_aboutKey_27 rfl (lv_at hl 3 rfl) ?_
    refine rr_if_ne (tgt := 35) hx hb dX5_aboutKey_28 (by decide) hg4 (fun c6 => ?_) (fun c6 => ?_)
    · rw [if_neg c6] at h
      refine rr_iconst hx hb dX5_aboutKey_35 ?_
      exact hret _ _ _ h dX5_aboutKey_36
    · rw [if_pos c6] at h
      refine lv_iload_n hx hb dX5_aboutKey_31 rfl (lv_at hl 0 rfl) ?_
      refine lv_goto (tgt := 36) hx hb dX5_aboutKey_32 (by decide) ?_
      exact hret _ _ _ h dX5_aboutKey_36
  · rw [if_neg c5] at h
    refine lv_aload_n hx hb dX5_aboutKey_17 rfl (lv_at hl 1 rfl) ?_
    refine va_get (D := g.1) (ci := 5) (v := .ref (ad 6)) (C := RX5) (T := TX5) (N := 19) hx hb hts hinX5 hown hK.1 hP 0 rfl rfl 6 (by decide) hk_1 (fun _ h9 => h9) rfl dX5_aboutKey_18 ?_
    refine lv_iload_n hx hb dX5_aboutKey_21 rfl (lv_at hl 2 rfl) ?_
    obtain ⟨hg7, h⟩ := rr_c_some h
    refine rr_iald (f := (σ 6)) (N := 40) hx hb hK hP 6 rfl rfl (by decide) hg7 dX5_aboutKey_22 ?_
    refine rr_iconst hx hb dX5_aboutKey_23 ?_
    obtain ⟨hg8, h⟩ := rr_c_some h
    refine rr_icmp_ne (tgt := 37) hx hb dX5_aboutKey_24 (by decide) hg8 (by decide) (fun c9 => ?_) (fun c9 => ?_)
    · rw [if_neg c9] at h
      refine rr_iconst hx hb dX5_aboutKey_37 ?_
      refine lv_istore (lv' := [(4, .int (rr_i 0)), (3, .int (rr_i v2)), (0, .ref (ad 0)), (1, .int (rr_i x1)), (2, .int (rr_i x2))]) hx hb dX5_aboutKey_38 hl (by decide) rfl (fun ls hl => ?_)
      refine rr_iconst hx hb dX5_aboutKey_40 ?_
      refine lv_istore (lv' := [(5, .int (rr_i 0)), (4, .int (rr_i 0)), (3, .int (rr_i v2)), (0, .ref (ad 0)), (1, .int (rr_i x1)), (2, .int (rr_i x2))]) hx hb dX5_aboutKey_41 hl (by decide) rfl (fun ls hl => ?_)
      refine lv_iload_n hx hb dX5_aboutKey_43 rfl (lv_at hl 2 rfl) ?_
      refine lv_istore (lv' := [(6, .int (rr_i v2)), (5, .int (rr_i 0)), (4, .int (rr_i 0)), (3, .int (rr_i v2)), (0, .ref (ad 0)), (1, .int (rr_i x1)), (2, .int (rr_i x2))]) hx hb dX5_aboutKey_44 hl (by decide) rfl (fun ls hl => ?_)
      refine hL5_aboutKey_46 x1 x2 _ 1000 0 0 v2 ls h (lv_sub hl [4, 5, 6, 2, 1, 0] rfl) (fun y4_46 y5_46 ls h hl => ?_)
      refine lv_iload_n hx hb dX5_aboutKey_93 rfl (lv_at hl 0 rfl) ?_
      refine rr_iconst hx hb dX5_aboutKey_94 ?_
      refine rr_icmp_ne (tgt := 103) hx hb dX5_aboutKey_95 (by decide) hg4 (by decide) (fun c18 => ?_) (fun c18 => ?_)
      · rw [if_neg c18] at h
        refine lv_iload hx hb dX5_aboutKey_103 (lv_at hl 2 rfl) ?_
        exact hret _ _ _ h dX5_aboutKey_105
      · rw [if_pos c18] at h
        refine lv_iload hx hb dX5_aboutKey_98 (lv_at hl 1 rfl) ?_
        refine lv_goto (tgt := 105) hx hb dX5_aboutKey_100 (by decide) ?_
        exact hret _ _ _ h dX5_aboutKey_105
    · rw [if_pos c9] at h
      refine lv_iload_n hx hb dX5_aboutKey_27 rfl (lv_at hl 3 rfl) ?_
      refine rr_if_ne (tgt := 35) hx hb dX5_aboutKey_28 (by decide) hg4 (fun c19 => ?_) (fun c19 => ?_)
      · rw [if_neg c19] at h
        refine rr_iconst hx hb dX5_aboutKey_35 ?_
        exact hret _ _ _ h dX5_aboutKey_36
      · rw [if_pos c19] at h
        refine lv_iload_n hx hb dX5_aboutKey_31 rfl (lv_at hl 0 rfl) ?_
        refine lv_goto (tgt := 36) hx hb dX5_aboutKey_32 (by decide) ?_
        exact hret _ _ _ h dX5_aboutKey_36
-- RoomRingModel.about
abbrev rm_X5_about : Room := { frames := 2, cells := 0, slots := 0, locals := 46 }
theorem hd_X5_about : yX5_about.cls ≠ "java/lang/invoke/MethodHandle" ∧ yX5_about.cls ≠ "java/lang/invoke/VarHandle" ∧ (parseMethodDescriptor yX5_about.desc).map (fun d => d.parameters.length) = some 2 := by decide +kernel
set_option maxHeartbeats 4000000 in
set_option maxRecDepth 100000 in
theorem kX5_about (l : Launch) (g : rr_G) (ad : Nat → Nat) (sz : Nat) (hh : Int) (x1 : Int) (x2 : Int) (σ : rr_T) (out : (Int × rr_T)) (h : M5_about x1 x2 σ = some out) : Met l yX5_about wsX5_about rm_X5_about (rr_P g [.ref (ad 0), .int (rr_i x1), .int (rr_i x2)] (rr_wM g ad σ hh) sz) (rr_Qi g out.1 (rr_wM g ad out.2 hh) (va_A (rr_wM g ad σ hh) sz)) 0 0 (va_A (rr_wM g ad σ hh) sz) := by
  refine rr_rwI (cc := cX5_about) (maxL := 4) (fun σ => rr_wM g ad σ hh) σ out (by decide) rfl (Nat.le_of_ble_eq_true rfl) ?_
  intro p e s m ar below meth c Q ls A hx hb hml hown hts hK hA hP hD hS hret hl
  have hP : va_P g.1 vwCl (rr_wM g ad σ hh) s.heap := hP
  have hD : va_D A (rr_wM g ad σ hh) := hD
  have hown : s.vm.findClass RX5 = some m.cls := hown
  have hl : lv_has ls 4 [(0, .ref (ad 0)), (1, .int (rr_i x1)), (2, .int (rr_i x2))] := hl
  unfold M5_about at h
  refine lv_iload_n hx hb dX5_about_0 rfl (lv_at hl 1 rfl) ?_
  obtain ⟨v1, hw2, h⟩ := rr_b_some h
  refine rr_callI (va_runS (As := [.int (rr_i x1)]) (rest := []) ⟨hx, hb, hml, hown, hts⟩ (kX5_isKey l g x1 v1 hw2) (va_cwS 1 hts gX5_about_X5_isKey rfl rfl rfl hd_X5_isKey ⟨Nat.le_of_ble_eq_true rfl, Nat.le_of_ble_eq_true rfl⟩) ⟨rr_R_blind, rr_R_pre hK (hP.sub (ws' := ([] : va_W)) [] rfl)⟩ rfl rfl hl.1 rfl (lv_room (Nat.le_of_ble_eq_true rfl)) dX5_about_1 ⟨Nat.zero_le _, Nat.zero_le _⟩) ?_
  obtain ⟨hg3, h⟩ := rr_c_some h
  refine rr_if_eq (tgt := 16) hx hb dX5_about_4 (by decide) hg3 (fun c4 => ?_) (fun c4 => ?_)
  · rw [if_pos c4] at h
    refine lv_aload_n hx hb dX5_about_16 rfl (lv_at hl 0 rfl) ?_
    refine rr_bipush hx hb dX5_about_17 (by decide +kernel) ?_
    obtain ⟨v5, hw6, h⟩ := rr_b_some h
    refine rr_allI hD hS hA (va_runV (As := [.int (rr_i (-2))]) (rest := []) ⟨hx, hb, hml, hown, hts⟩ (kX5_refuses l g ad _ hh (-2) σ v5 hw6) (cwV 1 hts gX5_about_X5_refuses rfl rfl rfl ⟨rfl, hd_X5_refuses⟩ ⟨Nat.le_of_ble_eq_true rfl, Nat.le_of_ble_eq_true rfl⟩) ⟨rr_P_blind, va_recv hK.1 hP (ci := 5) (q0 := 0) rfl rfl, rr_P_pre hK hP hD⟩ rfl rfl hl.1 rfl (lv_room (Nat.le_of_ble_eq_true rfl)) dX5_about_19 ⟨Nat.zero_le _, Nat.zero_le _⟩) (fun H locs hP hD hS => ?_)
    exact hret _ _ _ _ _ _ h hP hD hS dX5_about_22
  · rw [if_neg c4] at h
    refine lv_iload_n hx hb dX5_about_7 rfl (lv_at hl 2 rfl) ?_
    refine rr_iconst hx hb dX5_about_8 ?_
    refine rr_iconst hx hb dX5_about_9 ?_
    obtain ⟨v7, hw8, h⟩ := rr_b_some h
    refine rr_callI (va_runS (As := [.int (rr_i x2), .int (rr_i 0), .int (rr_i 2)]) (rest := []) ⟨hx, hb, hml, hown, hts⟩ (kX5_in l g x2 0 2 v7 hw8) (va_cwS 3 hts gX5_about_X5_in rfl rfl rfl hd_X5_in ⟨Nat.le_of_ble_eq_true rfl, Nat.le_of_ble_eq_true rfl⟩) ⟨rr_R_blind, rr_R_pre hK (hP.sub (ws' := ([] : va_W)) [] rfl)⟩ rfl rfl hl.1 rfl (lv_room (Nat.le_of_ble_eq_true rfl)) dX5_about_10 ⟨Nat.zero_le _, Nat.zero_le _⟩) ?_
    obtain ⟨hg9, h⟩ := rr_c_some h
    refine rr_if_ne (tgt := 23) hx hb dX5_about_13 (by decide) hg9 (fun c10 => ?_) (fun c10 => ?_)
    · rw [if_neg c10] at h
      refine lv_aload_n hx hb dX5_about_23 rfl (lv_at hl 0 rfl) ?_
      refine lv_iload_n hx hb dX5_about_24 rfl (lv_at hl 1 rfl) ?_
      obtain ⟨v11, hw12, h⟩ := rr_b_some h
      refine rr_callI (va_runV (As := [.int (rr_i x1)]) (rest := []) ⟨hx, hb, hml, hown, hts⟩ (kX5_rowOf l g ad hh x1 σ v11 hw12) (cwV 1 hts gX5_about_X5_rowOf rfl rfl rfl ⟨rfl, hd_X5_rowOf⟩ ⟨Nat.le_of_ble_eq_true rfl, Nat.le_of_ble_eq_true rfl⟩) ⟨rr_R_blind, va_recv hK.1 hP (ci := 5) (q0 := 0) rfl rfl, rr_R_pre hK hP⟩ rfl rfl hl.1 rfl (lv_room (Nat.le_of_ble_eq_true rfl)) dX5_about_25 ⟨Nat.zero_le _, Nat.zero_le _⟩) ?_
      refine lv_istore_n (lv' := [(3, .int (rr_i v11)), (0, .ref (ad 0)), (1, .int (rr_i x1)), (2, .int (rr_i x2))]) hx hb dX5_about_28 rfl hl (by decide) rfl (fun ls hl => ?_)
      refine lv_iload_n hx hb dX5_about_29 rfl (lv_at hl 0 rfl) ?_
      refine rr_iconst hx hb dX5_about_30 ?_
      obtain ⟨hg13, h⟩ := rr_c_some h
      refine rr_icmp_ne (tgt := 43) hx hb dX5_about_31 (by decide) hg13 (by decide) (fun c14 => ?_) (fun c14 => ?_)
      · rw [if_neg c14] at h
        refine lv_aload_n hx hb dX5_about_43 rfl (lv_at hl 1 rfl) ?_
        refine lv_iload_n hx hb dX5_about_44 rfl (lv_at hl 0 rfl) ?_
        refine rr_if_ge (tgt := 52) hx hb dX5_about_45 (by decide) hg13 (fun c15 => ?_) (fun c15 => ?_)
        · rw [if_pos c15] at h
          refine lv_iload_n hx hb dX5_about_52 rfl (lv_at hl 0 rfl) ?_
          refine lv_iload_n hx hb dX5_about_53 rfl (lv_at hl 3 rfl) ?_
          obtain ⟨v16, hw17, h⟩ := rr_b_some h
          refine rr_callI (va_runV (As := [.int (rr_i v11), .int (rr_i x2)]) (rest := []) ⟨hx, hb, hml, hown, hts⟩ (kX5_aboutKey l g ad hh v11 x2 σ v16 hw17) (cwV 2 hts gX5_about_X5_aboutKey rfl rfl rfl ⟨rfl, hd_X5_aboutKey⟩ ⟨Nat.le_of_ble_eq_true rfl, Nat.le_of_ble_eq_true rfl⟩) ⟨rr_R_blind, va_recv hK.1 hP (ci := 5) (q0 := 0) rfl rfl, rr_R_pre hK hP⟩ rfl rfl hl.1 rfl (lv_room (Nat.le_of_ble_eq_true rfl)) dX5_about_54 ⟨Nat.zero_le _, Nat.zero_le _⟩) ?_
          exact hret _ _ _ _ _ _ h hP hD hS dX5_about_57
        · rw [if_neg c15] at h
          refine rr_iconst hx hb dX5_about_48 ?_
          refine lv_goto (tgt := 53) hx hb dX5_about_49 (by decide) ?_
          refine lv_iload_n hx hb dX5_about_53 rfl (lv_at hl 3 rfl) ?_
          obtain ⟨v18, hw19, h⟩ := rr_b_some h
          refine rr_callI (va_runV (As := [.int (rr_i 0), .int (rr_i x2)]) (rest := []) ⟨hx, hb, hml, hown, hts⟩ (kX5_aboutKey l g ad hh 0 x2 σ v18 hw19) (cwV 2 hts gX5_about_X5_aboutKey rfl rfl rfl ⟨rfl, hd_X5_aboutKey⟩ ⟨Nat.le_of_ble_eq_true rfl, Nat.le_of_ble_eq_true rfl⟩) ⟨rr_R_blind, va_recv hK.1 hP (ci := 5) (q0 := 0) rfl rfl, rr_R_pre hK hP⟩ rfl rfl hl.1 rfl (lv_room (Nat.le_of_ble_eq_true rfl)) dX5_about_54 ⟨Nat.zero_le _, Nat.zero_le _⟩) ?_
          exact hret _ _ _ _ _ _ h hP hD hS dX5_about_57
      · rw [if_pos c14] at h
        refine lv_aload_n hx hb dX5_about_34 rfl (lv_at hl 1 rfl) ?_
        refine rr_bipush hx hb dX5_about_35 (by decide +kernel) ?_
        obtain ⟨v20, hw21, h⟩ := rr_b_some h
        refine rr_allI hD hS hA (va_runV (As := [.int (rr_i (-3))]) (rest := []) ⟨hx, hb, hml, hown, hts⟩ (kX5_refuses l g ad _ hh (-3) σ v20 hw21) (cwV 1 hts gX5_about_X5_refuses rfl rfl rfl ⟨rfl, hd_X5_refuses⟩ ⟨Nat.le_of_ble_eq_true rfl, Nat.le_of_ble_eq_true rfl⟩) ⟨rr_P_blind, va_recv hK.1 hP (ci := 5) (q0 := 0) rfl rfl, rr_P_pre hK hP hD⟩ rfl rfl hl.1 rfl (lv_room (Nat.le_of_ble_eq_true rfl)) dX5_about_37 ⟨Nat.zero_le _, Nat.zero_le _⟩) (fun H locs hP hD hS => ?_)
        refine lv_goto (tgt := 57) hx hb dX5_about_40 (by decide) ?_
        exact hret _ _ _ _ _ _ h hP hD hS dX5_about_57
    · rw [if_pos c10] at h
      refine lv_aload_n hx hb dX5_about_16 rfl (lv_at hl 0 rfl) ?_
      refine rr_bipush hx hb dX5_about_17 (by decide +kernel) ?_
      obtain ⟨v22, hw23, h⟩ := rr_b_some h
      refine rr_allI hD hS hA (va_runV (As := [.int (rr_i (-2))]) (rest := []) ⟨hx, hb, hml, hown, hts⟩ (kX5_refuses l g ad _ hh (-2) σ v22 hw23) (cwV 1 hts gX5_about_X5_refuses rfl rfl rfl ⟨rfl, hd_X5_refuses⟩ ⟨Nat.le_of_ble_eq_true rfl, Nat.le_of_ble_eq_true rfl⟩) ⟨rr_P_blind, va_recv hK.1 hP (ci := 5) (q0 := 0) rfl rfl, rr_P_pre hK hP hD⟩ rfl rfl hl.1 rfl (lv_room (Nat.le_of_ble_eq_true rfl)) dX5_about_19 ⟨Nat.zero_le _, Nat.zero_le _⟩) (fun H locs hP hD hS => ?_)
      exact hret _ _ _ _ _ _ h hP hD hS dX5_about_22
-- RoomRingModel.would
abbrev rm_X5_would : Room := { frames := 4, cells := 0, slots := 0, locals := 91 }
theorem hd_X5_would : yX5_would.cls ≠ "java/lang/invoke/MethodHandle" ∧ yX5_would.cls ≠ "java/lang/invoke/VarHandle" ∧ (parseMethodDescriptor yX5_would.desc).map (fun d => d.parameters.length) = some 1 := by decide +kernel
set_option maxHeartbeats 4000000 in
set_option maxRecDepth 100000 in
theorem kX5_would (l : Launch) (g : rr_G) (ad : Nat → Nat) (sz : Nat) (hh : Int) (x1 : Int) (σ : rr_T) (out : (Int × rr_T)) (h : M5_would x1 σ = some out) : Met l yX5_would wsX5_would rm_X5_would (rr_P g [.ref (ad 0), .int (rr_i x1)] (rr_wM g ad σ hh) sz) (rr_Qi g out.1 (rr_wM g ad out.2 hh) (va_A (rr_wM g ad σ hh) sz)) 0 0 (va_A (rr_wM g ad σ hh) sz) := by
  refine rr_rwI (cc := cX5_would) (maxL := 4) (fun σ => rr_wM g ad σ hh) σ out (by decide) rfl (Nat.le_of_ble_eq_true rfl) ?_
  intro p e s m ar below meth c Q ls A hx hb hml hown hts hK hA hP hD hS hret hl
  have hP : va_P g.1 vwCl (rr_wM g ad σ hh) s.heap := hP
  have hD : va_D A (rr_wM g ad σ hh) := hD
  have hown : s.vm.findClass RX5 = some m.cls := hown
  have hl : lv_has ls 4 [(0, .ref (ad 0)), (1, .int (rr_i x1))] := hl
  have hinX5 : ∀ w ∈ u_ws RX5 TX5 19, w ∈ wsX5_would := by decide +kernel
  have hk_0 : (Cond.fieldLink RX5 25 "RoomRingModel" "keyHost" "[I").before ar s = true := hts _ (List.mem_of_getElem? (i := 1) (by decide +kernel))
  unfold M5_would at h
  refine lv_aload_n hx hb dX5_would_0 rfl (lv_at hl 0 rfl) ?_
  refine lv_iload_n hx hb dX5_would_1 rfl (lv_at hl 1 rfl) ?_
  obtain ⟨v1, hw2, h⟩ := rr_b_some h
  refine rr_callI (va_runV (As := [.int (rr_i x1)]) (rest := []) ⟨hx, hb, hml, hown, hts⟩ (kX5_mayCome l g ad hh x1 σ v1 hw2) (cwV 1 hts gX5_would_X5_mayCome rfl rfl rfl ⟨rfl, hd_X5_mayCome⟩ ⟨Nat.le_of_ble_eq_true rfl, Nat.le_of_ble_eq_true rfl⟩) ⟨rr_R_blind, va_recv hK.1 hP (ci := 5) (q0 := 0) rfl rfl, rr_R_pre hK hP⟩ rfl rfl hl.1 rfl (lv_room (Nat.le_of_ble_eq_true rfl)) dX5_would_2 ⟨Nat.zero_le _, Nat.zero_le _⟩) ?_
  refine lv_istore_n (lv' := [(2, .int (rr_i v1)), (0, .ref (ad 0)), (1, .int (rr_i x1))]) hx hb dX5_would_5 rfl hl (by decide) rfl (fun ls hl => ?_)
  refine lv_iload_n hx hb dX5_would_6 rfl (lv_at hl 0 rfl) ?_
  obtain ⟨hg3, h⟩ := rr_c_some h
  refine rr_if_eq (tgt := 16) hx hb dX5_would_7 (by decide) hg3 (fun c4 => ?_) (fun c4 => ?_)
  · rw [if_pos c4] at h
    refine lv_aload_n hx hb dX5_would_16 rfl (lv_at hl 1 rfl) ?_
    obtain ⟨v5, hw6, h⟩ := rr_b_some h
    refine rr_allV hD hS hA (va_runV (As := []) (rest := []) ⟨hx, hb, hml, hown, hts⟩ (kX5_hold l g ad _ hh σ v5 hw6) (cwV 0 hts gX5_would_X5_hold rfl rfl rfl ⟨rfl, hd_X5_hold⟩ ⟨Nat.le_of_ble_eq_true rfl, Nat.le_of_ble_eq_true rfl⟩) ⟨rr_P_blind, va_recv hK.1 hP (ci := 5) (q0 := 0) rfl rfl, rr_P_pre hK hP hD⟩ rfl rfl hl.1 rfl (lv_room (Nat.le_of_ble_eq_true rfl)) dX5_would_17 ⟨Nat.zero_le _, Nat.zero_le _⟩) (fun H locs hP hD hS => ?_)
    refine lv_aload_n hx hb dX5_would_20 rfl (lv_at hl 1 rfl) ?_
    refine lv_iload_n hx hb dX5_would_21 rfl (lv_at hl 2 rfl) ?_
    obtain ⟨v7, hw8, h⟩ := rr_b_some h
    refine rr_allI hD hS hA (va_runV (As := [.int (rr_i x1)]) (rest := []) ⟨hx, hb, hml, hown, hts⟩ (kX5_doKey l g ad _ hh x1 v5 v7 hw8) (cwV 1 hts gX5_would_X5_doKey rfl rfl rfl ⟨rfl, hd_X5_doKey⟩ ⟨Nat.le_of_ble_eq_true rfl, Nat.le_of_ble_eq_true rfl⟩) ⟨rr_P_blind, va_recv hK.1 hP (ci := 5) (q0 := 0) rfl rfl, rr_P_pre hK hP hD⟩ rfl rfl hl.1 rfl (lv_room (Nat.le_of_ble_eq_true rfl)) dX5_would_22 ⟨Nat.zero_le _, Nat.zero_le _⟩) (fun H locs hP hD hS => ?_)
    refine lv_pop hx hb dX5_would_25 rfl ?_
    refine lv_aload_n hx hb dX5_would_26 rfl (lv_at hl 1 rfl) ?_
    obtain ⟨v9, hw10, h⟩ := rr_b_some h
    refine rr_allV hD hS hA (va_runV (As := []) (rest := []) ⟨hx, hb, hml, hown, hts⟩ (kX5_lay l g ad _ hh v7.2 v9 hw10) (cwV 0 hts gX5_would_X5_lay rfl rfl rfl ⟨rfl, hd_X5_lay⟩ ⟨Nat.le_of_ble_eq_true rfl, Nat.le_of_ble_eq_true rfl⟩) ⟨rr_P_blind, va_recv hK.1 hP (ci := 5) (q0 := 0) rfl rfl, rr_P_pre hK hP hD⟩ rfl rfl hl.1 rfl (lv_room (Nat.le_of_ble_eq_true rfl)) dX5_would_27 ⟨Nat.zero_le _, Nat.zero_le _⟩) (fun H locs hP hD hS => ?_)
    refine lv_aload_n hx hb dX5_would_30 rfl (lv_at hl 1 rfl) ?_
    refine va_get (D := g.1) (ci := 5) (v := .ref (ad 6)) (C := RX5) (T := TX5) (N := 19) hx hb hts hinX5 hown hK.1 hP 0 rfl rfl 6 (by decide) hk_0 (fun _ h9 => h9) rfl dX5_would_31 ?_
    refine lv_aload_n hx hb dX5_would_34 rfl (lv_at hl 1 rfl) ?_
    refine lv_iload_n hx hb dX5_would_35 rfl (lv_at hl 2 rfl) ?_
    obtain ⟨v11, hw12, h⟩ := rr_b_some h
    refine rr_callI (va_runV (As := [.int (rr_i x1)]) (rest := [.ref (ad 6)]) ⟨hx, hb, hml, hown, hts⟩ (kX5_rowOf l g ad hh x1 v9 v11 hw12) (cwV 1 hts gX5_would_X5_rowOf rfl rfl rfl ⟨rfl, hd_X5_rowOf⟩ ⟨Nat.le_of_ble_eq_true rfl, Nat.le_of_ble_eq_true rfl⟩) ⟨rr_R_blind, va_recv hK.1 hP (ci := 5) (q0 := 0) rfl rfl, rr_R_pre hK hP⟩ rfl rfl hl.1 rfl (lv_room (Nat.le_of_ble_eq_true rfl)) dX5_would_36 ⟨Nat.zero_le _, Nat.zero_le _⟩) ?_
    obtain ⟨hg13, h⟩ := rr_c_some h
    refine rr_iald (f := (v9 6)) (N := 40) hx hb hK hP 6 rfl rfl (by decide) hg13 dX5_would_39 ?_
    refine lv_istore_n (lv' := [(3, .int (rr_i (v9 6 v11))), (2, .int (rr_i v1)), (0, .ref (ad 0)), (1, .int (rr_i x1))]) hx hb dX5_would_40 rfl hl (by decide) rfl (fun ls hl => ?_)
    refine lv_aload_n hx hb dX5_would_41 rfl (lv_at hl 2 rfl) ?_
    obtain ⟨v14, hw15, h⟩ := rr_b_some h
    refine rr_allV hD hS hA (va_runV (As := []) (rest := []) ⟨hx, hb, hml, hown, hts⟩ (kX5_release l g ad _ hh v9 v14 hw15) (cwV 0 hts gX5_would_X5_release rfl rfl rfl ⟨rfl, hd_X5_release⟩ ⟨Nat.le_of_ble_eq_true rfl, Nat.le_of_ble_eq_true rfl⟩) ⟨rr_P_blind, va_recv hK.1 hP (ci := 5) (q0 := 0) rfl rfl, rr_P_pre hK hP hD⟩ rfl rfl hl.1 rfl (lv_room (Nat.le_of_ble_eq_true rfl)) dX5_would_42 ⟨Nat.zero_le _, Nat.zero_le _⟩) (fun H locs hP hD hS => ?_)
    refine lv_aload_n hx hb dX5_would_45 rfl (lv_at hl 2 rfl) ?_
    obtain ⟨v16, hw17, h⟩ := rr_b_some h
    refine rr_allV hD hS hA (va_runV (As := []) (rest := []) ⟨hx, hb, hml, hown, hts⟩ (kX5_lay l g ad _ hh v14 v16 hw17) (cwV 0 hts gX5_would_X5_lay rfl rfl rfl ⟨rfl, hd_X5_lay⟩ ⟨Nat.le_of_ble_eq_true rfl, Nat.le_of_ble_eq_true rfl⟩) ⟨rr_P_blind, va_recv hK.1 hP (ci := 5) (q0 := 0) rfl rfl, rr_P_pre hK hP hD⟩ rfl rfl hl.1 rfl (lv_room (Nat.le_of_ble_eq_true rfl)) dX5_would_46 ⟨Nat.zero_le _, Nat.zero_le _⟩) (fun H locs hP hD hS => ?_)
    refine lv_iload_n hx hb dX5_would_49 rfl (lv_at hl 0 rfl) ?_
    exact hret _ _ _ _ _ _ h hP hD hS dX5_would_50
  · rw [if_neg c4] at h
    refine lv_aload_n hx hb dX5_would_10 rfl (lv_at hl 1 rfl) ?_
    refine lv_iload_n hx hb dX5_would_11 rfl (lv_at hl 0 rfl) ?_
    obtain ⟨v18, hw19, h⟩ := rr_b_some h
    refine rr_allI hD hS hA (va_runV (As := [.int (rr_i v1)]) (rest := []) ⟨hx, hb, hml, hown, hts⟩ (kX5_refuses l g ad _ hh v1 σ v18 hw19) (cwV 1 hts gX5_would_X5_refuses rfl rfl rfl ⟨rfl, hd_X5_refuses⟩ ⟨Nat.le_of_ble_eq_true rfl, Nat.le_of_ble_eq_true rfl⟩) ⟨rr_P_blind, va_recv hK.1 hP (ci := 5) (q0 := 0) rfl rfl, rr_P_pre hK hP hD⟩ rfl rfl hl.1 rfl (lv_room (Nat.le_of_ble_eq_true rfl)) dX5_would_12 ⟨Nat.zero_le _, Nat.zero_le _⟩) (fun H locs hP hD hS => ?_)
    exact hret _ _ _ _ _ _ h hP hD hS dX5_would_15
-- RoomRingModel.without
abbrev rm_X5_without : Room := { frames := 4, cells := 0, slots := 0, locals := 91 }
theorem hd_X5_without : yX5_without.cls ≠ "java/lang/invoke/MethodHandle" ∧ yX5_without.cls ≠ "java/lang/invoke/VarHandle" ∧ (parseMethodDescriptor yX5_without.desc).map (fun d => d.parameters.length) = some 1 := by decide +kernel
set_option maxHeartbeats 4000000 in
set_option maxRecDepth 100000 in
theorem kX5_without (l : Launch) (g : rr_G) (ad : Nat → Nat) (sz : Nat) (hh : Int) (x1 : Int) (σ : rr_T) (out : (Int × rr_T)) (h : M5_without x1 σ = some out) : Met l yX5_without wsX5_without rm_X5_without (rr_P g [.ref (ad 0), .int (rr_i x1)] (rr_wM g ad σ hh) sz) (rr_Qi g out.1 (rr_wM g ad out.2 hh) (va_A (rr_wM g ad σ hh) sz)) 0 0 (va_A (rr_wM g ad σ hh) sz) := by
  refine rr_rwI (cc := cX5_without) (maxL := 3) (fun σ => rr_wM g ad σ hh) σ out (by decide) rfl (Nat.le_of_ble_eq_true rfl) ?_
  intro p e s m ar below meth c Q ls A hx hb hml hown hts hK hA hP hD hS hret hl
  have hP : va_P g.1 vwCl (rr_wM g ad σ hh) s.heap := hP
  have hD : va_D A (rr_wM g ad σ hh) := hD
  have hown : s.vm.findClass RX5 = some m.cls := hown
  have hl : lv_has ls 3 [(0, .ref (ad 0)), (1, .int (rr_i x1))] := hl
  unfold M5_without at h
  refine lv_iload_n hx hb dX5_without_0 rfl (lv_at hl 1 rfl) ?_
  obtain ⟨v1, hw2, h⟩ := rr_b_some h
  refine rr_callI (va_runS (As := [.int (rr_i x1)]) (rest := []) ⟨hx, hb, hml, hown, hts⟩ (kX5_isName l g x1 v1 hw2) (va_cwS 1 hts gX5_without_X5_isName rfl rfl rfl hd_X5_isName ⟨Nat.le_of_ble_eq_true rfl, Nat.le_of_ble_eq_true rfl⟩) ⟨rr_R_blind, rr_R_pre hK (hP.sub (ws' := ([] : va_W)) [] rfl)⟩ rfl rfl hl.1 rfl (lv_room (Nat.le_of_ble_eq_true rfl)) dX5_without_1 ⟨Nat.zero_le _, Nat.zero_le _⟩) ?_
  obtain ⟨hg3, h⟩ := rr_c_some h
  refine rr_if_ne (tgt := 14) hx hb dX5_without_4 (by decide) hg3 (fun c4 => ?_) (fun c4 => ?_)
  · rw [if_neg c4] at h
    refine lv_aload_n hx hb dX5_without_14 rfl (lv_at hl 0 rfl) ?_
    refine lv_iload_n hx hb dX5_without_15 rfl (lv_at hl 1 rfl) ?_
    obtain ⟨v5, hw6, h⟩ := rr_b_some h
    refine rr_callI (va_runV (As := [.int (rr_i x1)]) (rest := []) ⟨hx, hb, hml, hown, hts⟩ (kX5_isHost l g ad hh x1 σ v5 hw6) (cwV 1 hts gX5_without_X5_isHost rfl rfl rfl ⟨rfl, hd_X5_isHost⟩ ⟨Nat.le_of_ble_eq_true rfl, Nat.le_of_ble_eq_true rfl⟩) ⟨rr_R_blind, va_recv hK.1 hP (ci := 5) (q0 := 0) rfl rfl, rr_R_pre hK hP⟩ rfl rfl hl.1 rfl (lv_room (Nat.le_of_ble_eq_true rfl)) dX5_without_16 ⟨Nat.zero_le _, Nat.zero_le _⟩) ?_
    obtain ⟨hg7, h⟩ := rr_c_some h
    refine rr_if_ne (tgt := 29) hx hb dX5_without_19 (by decide) hg7 (fun c8 => ?_) (fun c8 => ?_)
    · rw [if_neg c8] at h
      refine lv_aload_n hx hb dX5_without_29 rfl (lv_at hl 0 rfl) ?_
      obtain ⟨v9, hw10, h⟩ := rr_b_some h
      refine rr_allV hD hS hA (va_runV (As := []) (rest := []) ⟨hx, hb, hml, hown, hts⟩ (kX5_hold l g ad _ hh σ v9 hw10) (cwV 0 hts gX5_without_X5_hold rfl rfl rfl ⟨rfl, hd_X5_hold⟩ ⟨Nat.le_of_ble_eq_true rfl, Nat.le_of_ble_eq_true rfl⟩) ⟨rr_P_blind, va_recv hK.1 hP (ci := 5) (q0 := 0) rfl rfl, rr_P_pre hK hP hD⟩ rfl rfl hl.1 rfl (lv_room (Nat.le_of_ble_eq_true rfl)) dX5_without_30 ⟨Nat.zero_le _, Nat.zero_le _⟩) (fun H locs hP hD hS => ?_)
      refine lv_aload_n hx hb dX5_without_33 rfl (lv_at hl 0 rfl) ?_
      refine lv_iload_n hx hb dX5_without_34 rfl (lv_at hl 1 rfl) ?_
      obtain ⟨v11, hw12, h⟩ := rr_b_some h
      refine rr_allI hD hS hA (va_runV (As := [.int (rr_i x1)]) (rest := []) ⟨hx, hb, hml, hown, hts⟩ (kX5_doGoes l g ad _ hh x1 v9 v11 hw12) (cwV 1 hts gX5_without_X5_doGoes rfl rfl rfl ⟨rfl, hd_X5_doGoes⟩ ⟨Nat.le_of_ble_eq_true rfl, Nat.le_of_ble_eq_true rfl⟩) ⟨rr_P_blind, va_recv hK.1 hP (ci := 5) (q0 := 0) rfl rfl, rr_P_pre hK hP hD⟩ rfl rfl hl.1 rfl (lv_room (Nat.le_of_ble_eq_true rfl)) dX5_without_35 ⟨Nat.zero_le _, Nat.zero_le _⟩) (fun H locs hP hD hS => ?_)
      refine lv_pop hx hb dX5_without_38 rfl ?_
      refine lv_aload_n hx hb dX5_without_39 rfl (lv_at hl 0 rfl) ?_
      obtain ⟨v13, hw14, h⟩ := rr_b_some h
      refine rr_allV hD hS hA (va_runV (As := []) (rest := []) ⟨hx, hb, hml, hown, hts⟩ (kX5_lay l g ad _ hh v11.2 v13 hw14) (cwV 0 hts gX5_without_X5_lay rfl rfl rfl ⟨rfl, hd_X5_lay⟩ ⟨Nat.le_of_ble_eq_true rfl, Nat.le_of_ble_eq_true rfl⟩) ⟨rr_P_blind, va_recv hK.1 hP (ci := 5) (q0 := 0) rfl rfl, rr_P_pre hK hP hD⟩ rfl rfl hl.1 rfl (lv_room (Nat.le_of_ble_eq_true rfl)) dX5_without_40 ⟨Nat.zero_le _, Nat.zero_le _⟩) (fun H locs hP hD hS => ?_)
      refine lv_aload_n hx hb dX5_without_43 rfl (lv_at hl 0 rfl) ?_
      obtain ⟨v15, hw16, h⟩ := rr_b_some h
      refine rr_callI (va_runV (As := []) (rest := []) ⟨hx, hb, hml, hown, hts⟩ (kX5_moved l g ad hh v13 v15 hw16) (cwV 0 hts gX5_without_X5_moved rfl rfl rfl ⟨rfl, hd_X5_moved⟩ ⟨Nat.le_of_ble_eq_true rfl, Nat.le_of_ble_eq_true rfl⟩) ⟨rr_R_blind, va_recv hK.1 hP (ci := 5) (q0 := 0) rfl rfl, rr_R_pre hK hP⟩ rfl rfl hl.1 rfl (lv_room (Nat.le_of_ble_eq_true rfl)) dX5_without_44 ⟨Nat.zero_le _, Nat.zero_le _⟩) ?_
      refine lv_istore_n (lv' := [(2, .int (rr_i v15)), (0, .ref (ad 0)), (1, .int (rr_i x1))]) hx hb dX5_without_47 rfl hl (by decide) rfl (fun ls hl => ?_)
      refine lv_aload_n hx hb dX5_without_48 rfl (lv_at hl 1 rfl) ?_
      obtain ⟨v17, hw18, h⟩ := rr_b_some h
      refine rr_allV hD hS hA (va_runV (As := []) (rest := []) ⟨hx, hb, hml, hown, hts⟩ (kX5_release l g ad _ hh v13 v17 hw18) (cwV 0 hts gX5_without_X5_release rfl rfl rfl ⟨rfl, hd_X5_release⟩ ⟨Nat.le_of_ble_eq_true rfl, Nat.le_of_ble_eq_true rfl⟩) ⟨rr_P_blind, va_recv hK.1 hP (ci := 5) (q0 := 0) rfl rfl, rr_P_pre hK hP hD⟩ rfl rfl hl.1 rfl (lv_room (Nat.le_of_ble_eq_true rfl)) dX5_without_49 ⟨Nat.zero_le _, Nat.zero_le _⟩) (fun H locs hP hD hS => ?_)
      refine lv_aload_n hx hb dX5_without_52 rfl (lv_at hl 1 rfl) ?_
      obtain ⟨v19, hw20, h⟩ := rr_b_some h
      refine rr_allV hD hS hA (va_runV (As := []) (rest := []) ⟨hx, hb, hml, hown, hts⟩ (kX5_lay l g ad _ hh v17 v19 hw20) (cwV 0 hts gX5_without_X5_lay rfl rfl rfl ⟨rfl, hd_X5_lay⟩ ⟨Nat.le_of_ble_eq_true rfl, Nat.le_of_ble_eq_true rfl⟩) ⟨rr_P_blind, va_recv hK.1 hP (ci := 5) (q0 := 0) rfl rfl, rr_P_pre hK hP hD⟩ rfl rfl hl.1 rfl (lv_room (Nat.le_of_ble_eq_true rfl)) dX5_without_53 ⟨Nat.zero_le _, Nat.zero_le _⟩) (fun H locs hP hD hS => ?_)
      refine lv_iload_n hx hb dX5_without_56 rfl (lv_at hl 0 rfl) ?_
      exact hret _ _ _ _ _ _ h hP hD hS dX5_without_57
    · rw [if_pos c8] at h
      refine lv_aload_n hx hb dX5_without_22 rfl (lv_at hl 0 rfl) ?_
      refine rr_bipush hx hb dX5_without_23 (by decide +kernel) ?_
      obtain ⟨v21, hw22, h⟩ := rr_b_some h
      refine rr_allI hD hS hA (va_runV (As := [.int (rr_i (-3))]) (rest := []) ⟨hx, hb, hml, hown, hts⟩ (kX5_refuses l g ad _ hh (-3) σ v21 hw22) (cwV 1 hts gX5_without_X5_refuses rfl rfl rfl ⟨rfl, hd_X5_refuses⟩ ⟨Nat.le_of_ble_eq_true rfl, Nat.le_of_ble_eq_true rfl⟩) ⟨rr_P_blind, va_recv hK.1 hP (ci := 5) (q0 := 0) rfl rfl, rr_P_pre hK hP hD⟩ rfl rfl hl.1 rfl (lv_room (Nat.le_of_ble_eq_true rfl)) dX5_without_25 ⟨Nat.zero_le _, Nat.zero_le _⟩) (fun H locs hP hD hS => ?_)
      exact hret _ _ _ _ _ _ h hP hD hS dX5_without_28
  · rw [if_pos c4] at h
    refine lv_aload_n hx hb dX5_without_7 rfl (lv_at hl 0 rfl) ?_
    refine rr_bipush hx hb dX5_without_8 (by decide +kernel) ?_
    obtain ⟨v23, hw24, h⟩ := rr_b_some h
    refine rr_allI hD hS hA (va_runV (As := [.int (rr_i (-2))]) (rest := []) ⟨hx, hb, hml, hown, hts⟩ (kX5_refuses l g ad _ hh (-2) σ v23 hw24) (cwV 1 hts gX5_without_X5_refuses rfl rfl rfl ⟨rfl, hd_X5_refuses⟩ ⟨Nat.le_of_ble_eq_true rfl, Nat.le_of_ble_eq_true rfl⟩) ⟨rr_P_blind, va_recv hK.1 hP (ci := 5) (q0 := 0) rfl rfl, rr_P_pre hK hP hD⟩ rfl rfl hl.1 rfl (lv_room (Nat.le_of_ble_eq_true rfl)) dX5_without_10 ⟨Nat.zero_le _, Nat.zero_le _⟩) (fun H locs hP hD hS => ?_)
    exact hret _ _ _ _ _ _ h hP hD hS dX5_without_13
