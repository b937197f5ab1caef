-- RoomRingModel.first
abbrev rm_X5_first : Room := { frames := 0, cells := 0, slots := 0, locals := 0 }
theorem hd_X5_first : yX5_first.cls ≠ "java/lang/invoke/MethodHandle" ∧ yX5_first.cls ≠ "java/lang/invoke/VarHandle" ∧ (parseMethodDescriptor yX5_first.desc).map (fun d => d.parameters.length) = some 2 := by decide +kernel
set_option maxHeartbeats 4000000 in
set_option maxRecDepth 100000 in
theorem kX5_first (l : Launch) (g : rr_G) (x0 : Int) (x1 : Int) (out : Int) (h : M5_first x0 x1 = some out) : Met l yX5_first wsX5_first rm_X5_first (rr_R g [.int (rr_i x0), .int (rr_i x1)] (([] : va_W))) (vp_Si (fun x => x = rr_i out)) 0 0 (fun _ => False) := by
  refine rr_roI (cc := cX5_first) (maxL := 2) (by decide) rfl (Nat.le_of_ble_eq_true rfl) ?_
  intro p e s m ar below meth c Q ls hx hb hml hown hts hK hP hret hl
  have hown : s.vm.findClass RX5 = some m.cls := hown
  have hl : lv_has ls 2 [(0, .int (rr_i x0)), (1, .int (rr_i x1))] := hl
  unfold M5_first at h
  refine rr_bipush hx hb dX5_first_0 (by decide +kernel) ?_
  refine lv_iload_n hx hb dX5_first_2 rfl (lv_at hl 0 rfl) ?_
  refine rr_imul hx hb dX5_first_3 ?_
  refine rr_bipush hx hb dX5_first_4 (by decide +kernel) ?_
  refine lv_iload_n hx hb dX5_first_6 rfl (lv_at hl 1 rfl) ?_
  refine rr_imul hx hb dX5_first_7 ?_
  refine rr_iadd hx hb dX5_first_8 ?_
  refine rr_iconst hx hb dX5_first_9 ?_
  refine rr_iadd hx hb dX5_first_10 ?_
  refine rr_bipush hx hb dX5_first_11 (by decide +kernel) ?_
  obtain ⟨hg1, h⟩ := rr_c_some h
  refine rr_irem hx hb dX5_first_13 ⟨hg1.1, hg1.2, by decide, by decide⟩ ?_
  exact hret _ _ _ h dX5_first_14
-- RoomRingModel.layMarks
abbrev rm_X5_layMarks : Room := { frames := 1, cells := 0, slots := 0, locals := 21 }
theorem hd_X5_layMarks : yX5_layMarks.cls ≠ "java/lang/invoke/MethodHandle" ∧ yX5_layMarks.cls ≠ "java/lang/invoke/VarHandle" ∧ (parseMethodDescriptor yX5_layMarks.desc).map (fun d => d.parameters.length) = some 0 := by decide +kernel
set_option maxHeartbeats 4000000 in
set_option maxRecDepth 100000 in
theorem kX5_layMarks (l : Launch) (g : rr_G) (ad : Nat → Nat) (sz : Nat) (hh : Int) (σ : rr_T) (out : rr_T) (h : M5_layMarks σ = some out) : Met l yX5_layMarks wsX5_layMarks rm_X5_layMarks (rr_P g [.ref (ad 0)] (rr_wM g ad σ hh) sz) (rr_Qv g (rr_wM g ad out hh) (va_A (rr_wM g ad σ hh) sz)) 0 0 (va_A (rr_wM g ad σ hh) sz) := by
  refine rr_rwV (cc := cX5_layMarks) (maxL := 4) (fun σ => rr_wM g ad σ hh) σ out (by decide) rfl (Nat.le_of_ble_eq_true rfl) ?_
  intro p e s m ar below meth c Q ls A hx hb hml hown hts hK hA hP hD hS hret hl
  have hP : va_P g.1 vwCl (rr_wM g ad σ hh) s.heap := hP
  have hD : va_D A (rr_wM g ad σ hh) := hD
  have hown : s.vm.findClass RX5 = some m.cls := hown
  have hl : lv_has ls 4 [(0, .ref (ad 0))] := hl
  have hinX5 : ∀ w ∈ u_ws RX5 TX5 19, w ∈ wsX5_layMarks := by decide +kernel
  have hk_0 : (Cond.fieldLink RX5 22 "RoomRingModel" "owner" "[I").before ar s = true := hts _ (List.mem_of_getElem? (i := 1) (by decide +kernel))
  have hk_1 : (Cond.fieldLink RX5 7 "RoomRingModel" "now" "[I").before ar s = true := hts _ (List.mem_of_getElem? (i := 2) (by decide +kernel))
  unfold M5_layMarks at h
  have hL5_layMarks_2 : ∀ (K : rr_T → Option rr_T) (n : Nat) (x1 : Int) (σ : rr_T) (H : Heap) (locs : List Loc) (ls : Array Slot), L5_layMarks_2 K n x1 σ = some out → va_P g.1 vwCl (rr_wM g ad σ hh) H → va_D A (rr_wM g ad σ hh) → va_S A s.heap H locs → lv_has ls 4 [(0, .ref (ad 0)), (1, .int (rr_i x1))] → (∀ (τ9 : rr_T) (H : Heap) (locs : List Loc) (ls : Array Slot), K τ9 = some out → va_P g.1 vwCl (rr_wM g ad τ9 hh) H → va_D A (rr_wM g ad τ9 hh) → va_S A s.heap H locs → lv_has ls 4 [(0, .ref (ad 0))] → W p l e rm_X5_layMarks s m ar below meth c H locs 0 0 Q (F0 m 21 ls [])) → W p l e rm_X5_layMarks s m ar below meth c H locs 0 0 Q (F0 m 2 ls []) := by
    intro K n
    induction n with
    | zero => intro x1 σ H locs ls h hP hD hS hl hk; cases h
    | succ n ih =>
      intro x1 σ H locs ls h hP hD hS hl hk
      rw [L5_layMarks_2_s] at h
      refine lv_iload_n hx hb dX5_layMarks_2 rfl (lv_at hl 1 rfl) ?_
      refine rr_bipush hx hb dX5_layMarks_3 (by decide +kernel) ?_
      obtain ⟨hg1, h⟩ := rr_c_some h
      refine rr_icmp_ge (tgt := 21) hx hb dX5_layMarks_5 (by decide) hg1 (by decide) (fun c2 => ?_) (fun c2 => ?_)
      · rw [if_pos c2] at h
        exact hk σ _ _ ls h hP hD hS (lv_sub hl [0] rfl)
      · rw [if_neg c2] at h
        refine lv_aload_n hx hb dX5_layMarks_8 rfl (lv_at hl 0 rfl) ?_
        refine va_get (D := g.1) (ci := 5) (v := .ref (ad 5)) (C := RX5) (T := TX5) (N := 19) hx hb hts hinX5 hown hK.1 hP 0 rfl rfl 5 (by decide) hk_0 (fun _ h9 => h9) rfl dX5_layMarks_9 ?_
        refine lv_iload_n hx hb dX5_layMarks_12 rfl (lv_at hl 1 rfl) ?_
        refine rr_iconst hx hb dX5_layMarks_13 ?_
        obtain ⟨hg3, h⟩ := rr_c_some h
        refine rr_iast (f := (σ 5)) (N := 101) hx hb hK hP hD hS 5 rfl rfl (by decide) hg3 dX5_layMarks_14 (fun H locs hP hD hS => ?_)
        have hP : va_P g.1 vwCl (rr_wM g ad (rr_s σ 5 x1 (-1)) hh) H := hP
        have hD : va_D A (rr_wM g ad (rr_s σ 5 x1 (-1)) hh) := hD
        refine rr_iinc (k := 1) (a := x1) (lv' := [(1, .int (rr_i (x1 + 1))), (0, .ref (ad 0))]) hx hb dX5_layMarks_15 hl rfl (by decide) rfl (fun ls hl => ?_)
        refine lv_goto (tgt := 2) hx hb dX5_layMarks_18 (by decide) ?_
        exact ih (x1 + 1) (rr_s σ 5 x1 (-1)) _ _ ls h hP hD hS (lv_sub hl [1, 0] rfl) hk
  have hL5_layMarks_49 : ∀ (x1 : Int) (x2 : Int) (K : Int → Option rr_T) (σ : rr_T) (H : Heap) (locs : List Loc), va_P g.1 vwCl (rr_wM g ad σ hh) H → va_D A (rr_wM g ad σ hh) → va_S A s.heap H locs → ∀ (n : Nat) (x3 : Int) (ls : Array Slot), L5_layMarks_49 σ x1 x2 K n x3 = some out → lv_has ls 4 [(0, .ref (ad 0)), (1, .int (rr_i x1)), (2, .int (rr_i x2)), (3, .int (rr_i x3))] → (∀ (z3 : Int) (ls : Array Slot), K z3 = some out → lv_has ls 4 [(0, .ref (ad 0)), (1, .int (rr_i x1)), (2, .int (rr_i x2)), (3, .int (rr_i z3))] → W p l e rm_X5_layMarks s m ar below meth c H locs 0 0 Q (F0 m 69 ls [])) → W p l e rm_X5_layMarks s m ar below meth c H locs 0 0 Q (F0 m 49 ls []) := by
    intro x1 x2 K σ H locs hP hD hS n
    induction n with
    | zero => intro x3 ls h hl hk; cases h
    | succ n ih =>
      intro x3 ls h hl hk
      rw [L5_layMarks_49_s] at h
      refine lv_aload_n hx hb dX5_layMarks_49 rfl (lv_at hl 0 rfl) ?_
      refine va_get (D := g.1) (ci := 5) (v := .ref (ad 5)) (C := RX5) (T := TX5) (N := 19) hx hb hts hinX5 hown hK.1 hP 0 rfl rfl 5 (by decide) hk_0 (fun _ h9 => h9) rfl dX5_layMarks_50 ?_
      refine lv_iload_n hx hb dX5_layMarks_53 rfl (lv_at hl 3 rfl) ?_
      obtain ⟨hg11, h⟩ := rr_c_some h
      refine rr_iald (f := (σ 5)) (N := 101) hx hb hK hP 5 rfl rfl (by decide) hg11 dX5_layMarks_54 ?_
      refine rr_iconst hx hb dX5_layMarks_55 ?_
      obtain ⟨hg12, h⟩ := rr_c_some h
      refine rr_icmp_eq (tgt := 69) hx hb dX5_layMarks_56 (by decide) hg12 (by decide) (fun c13 => ?_) (fun c13 => ?_)
      · rw [if_pos c13] at h
        exact hk x3 ls h (lv_sub hl [0, 1, 2, 3] rfl)
      · rw [if_neg c13] at h
        refine lv_iload_n hx hb dX5_layMarks_59 rfl (lv_at hl 3 rfl) ?_
        refine rr_iconst hx hb dX5_layMarks_60 ?_
        refine rr_iadd hx hb dX5_layMarks_61 ?_
        refine rr_bipush hx hb dX5_layMarks_62 (by decide +kernel) ?_
        obtain ⟨hg14, h⟩ := rr_c_some h
        refine rr_irem hx hb dX5_layMarks_64 ⟨hg14.1, hg14.2, by decide, by decide⟩ ?_
        refine lv_istore_n (lv' := [(3, .int (rr_i ((x3 + 1) % 101))), (0, .ref (ad 0)), (1, .int (rr_i x1)), (2, .int (rr_i x2))]) hx hb dX5_layMarks_65 rfl hl (by decide) rfl (fun ls hl => ?_)
        refine lv_goto (tgt := 49) hx hb dX5_layMarks_66 (by decide) ?_
        exact ih ((x3 + 1) % 101) ls h (lv_sub hl [1, 2, 3, 0] rfl) hk
  have hL5_layMarks_31 : ∀ (x1 : Int) (K : rr_T → Option rr_T) (n : Nat) (x2 : Int) (σ : rr_T) (H : Heap) (locs : List Loc) (ls : Array Slot), L5_layMarks_31 x1 K n x2 σ = some out → va_P g.1 vwCl (rr_wM g ad σ hh) H → va_D A (rr_wM g ad σ hh) → va_S A s.heap H locs → lv_has ls 4 [(0, .ref (ad 0)), (1, .int (rr_i x1)), (2, .int (rr_i x2))] → (∀ (τ9 : rr_T) (H : Heap) (locs : List Loc) (ls : Array Slot), K τ9 = some out → va_P g.1 vwCl (rr_wM g ad τ9 hh) H → va_D A (rr_wM g ad τ9 hh) → va_S A s.heap H locs → lv_has ls 4 [(0, .ref (ad 0)), (1, .int (rr_i x1))] → W p l e rm_X5_layMarks s m ar below meth c H locs 0 0 Q (F0 m 82 ls [])) → W p l e rm_X5_layMarks s m ar below meth c H locs 0 0 Q (F0 m 31 ls []) := by
    intro x1 K n
    induction n with
    | zero => intro x2 σ H locs ls h hP hD hS hl hk; cases h
    | succ n ih =>
      intro x2 σ H locs ls h hP hD hS hl hk
      rw [L5_layMarks_31_s] at h
      refine lv_iload_n hx hb dX5_layMarks_31 rfl (lv_at hl 2 rfl) ?_
      refine rr_iconst hx hb dX5_layMarks_32 ?_
      refine lv_aload_n hx hb dX5_layMarks_33 rfl (lv_at hl 0 rfl) ?_
      refine va_get (D := g.1) (ci := 5) (v := .ref (ad 1)) (C := RX5) (T := TX5) (N := 19) hx hb hts hinX5 hown hK.1 hP 0 rfl rfl 0 (by decide) hk_1 (fun _ h9 => h9) rfl dX5_layMarks_34 ?_
      refine lv_iload_n hx hb dX5_layMarks_37 rfl (lv_at hl 1 rfl) ?_
      obtain ⟨hg6, h⟩ := rr_c_some h
      refine rr_iald (f := (σ 0)) (N := 143) hx hb hK hP 1 rfl rfl (by decide) hg6 dX5_layMarks_38 ?_
      refine rr_imul hx hb dX5_layMarks_39 ?_
      obtain ⟨hg7, h⟩ := rr_c_some h
      refine rr_icmp_ge (tgt := 82) hx hb dX5_layMarks_40 (by decide) hg7.1 hg7.2 (fun c8 => ?_) (fun c8 => ?_)
      · rw [if_pos c8] at h
        exact hk σ _ _ ls h hP hD hS (lv_sub hl [0, 1] rfl)
      · rw [if_neg c8] at h
        refine lv_iload_n hx hb dX5_layMarks_43 rfl (lv_at hl 1 rfl) ?_
        refine lv_iload_n hx hb dX5_layMarks_44 rfl (lv_at hl 2 rfl) ?_
        obtain ⟨v9, hw10, h⟩ := rr_b_some h
        refine rr_callI (va_runS (As := [.int (rr_i x1), .int (rr_i x2)]) (rest := []) ⟨hx, hb, hml, hown, hts⟩ (kX5_first l g x1 x2 v9 hw10) (va_cwS 2 hts gX5_layMarks_X5_first rfl rfl rfl hd_X5_first ⟨Nat.le_of_ble_eq_true rfl, Nat.le_of_ble_eq_true rfl⟩) ⟨rr_R_blind, rr_R_pre hK (hP.sub (ws' := ([] : va_W)) [] rfl)⟩ rfl rfl hl.1 rfl (lv_room (Nat.le_of_ble_eq_true rfl)) dX5_layMarks_45 ⟨Nat.zero_le _, Nat.zero_le _⟩) ?_
        refine lv_istore_n (lv' := [(3, .int (rr_i v9)), (0, .ref (ad 0)), (1, .int (rr_i x1)), (2, .int (rr_i x2))]) hx hb dX5_layMarks_48 rfl hl (by decide) rfl (fun ls hl => ?_)
        refine hL5_layMarks_49 x1 x2 _ σ _ _ hP hD hS 1000 v9 ls h (lv_sub hl [1, 2, 3, 0] rfl) (fun y3_49 ls h hl => ?_)
        refine lv_aload_n hx hb dX5_layMarks_69 rfl (lv_at hl 0 rfl) ?_
        refine va_get (D := g.1) (ci := 5) (v := .ref (ad 5)) (C := RX5) (T := TX5) (N := 19) hx hb hts hinX5 hown hK.1 hP 0 rfl rfl 5 (by decide) hk_0 (fun _ h9 => h9) rfl dX5_layMarks_70 ?_
        refine lv_iload_n hx hb dX5_layMarks_73 rfl (lv_at hl 3 rfl) ?_
        refine lv_iload_n hx hb dX5_layMarks_74 rfl (lv_at hl 1 rfl) ?_
        obtain ⟨hg15, h⟩ := rr_c_some h
        refine rr_iast (f := (σ 5)) (N := 101) hx hb hK hP hD hS 5 rfl rfl (by decide) hg15 dX5_layMarks_75 (fun H locs hP hD hS => ?_)
        have hP : va_P g.1 vwCl (rr_wM g ad (rr_s σ 5 y3_49 x1) hh) H := hP
        have hD : va_D A (rr_wM g ad (rr_s σ 5 y3_49 x1) hh) := hD
        refine rr_iinc (k := 2) (a := x2) (lv' := [(2, .int (rr_i (x2 + 1))), (0, .ref (ad 0)), (1, .int (rr_i x1)), (3, .int (rr_i y3_49))]) hx hb dX5_layMarks_76 hl rfl (by decide) rfl (fun ls hl => ?_)
        refine lv_goto (tgt := 31) hx hb dX5_layMarks_79 (by decide) ?_
        exact ih (x2 + 1) (rr_s σ 5 y3_49 x1) _ _ ls h hP hD hS (lv_sub hl [1, 2, 0] rfl) hk
  have hL5_layMarks_23 : ∀ (K : rr_T → Option rr_T) (n : Nat) (x1 : Int) (σ : rr_T) (H : Heap) (locs : List Loc) (ls : Array Slot), L5_layMarks_23 K n x1 σ = some out → va_P g.1 vwCl (rr_wM g ad σ hh) H → va_D A (rr_wM g ad σ hh) → va_S A s.heap H locs → lv_has ls 4 [(0, .ref (ad 0)), (1, .int (rr_i x1))] → (∀ (τ9 : rr_T) (H : Heap) (locs : List Loc) (ls : Array Slot), K τ9 = some out → va_P g.1 vwCl (rr_wM g ad τ9 hh) H → va_D A (rr_wM g ad τ9 hh) → va_S A s.heap H locs → lv_has ls 4 [] → W p l e rm_X5_layMarks s m ar below meth c H locs 0 0 Q (F0 m 88 ls [])) → W p l e rm_X5_layMarks s m ar below meth c H locs 0 0 Q (F0 m 23 ls []) := by
    intro K n
    induction n with
    | zero => intro x1 σ H locs ls h hP hD hS hl hk; cases h
    | succ n ih =>
      intro x1 σ H locs ls h hP hD hS hl hk
      rw [L5_layMarks_23_s] at h
      refine lv_iload_n hx hb dX5_layMarks_23 rfl (lv_at hl 1 rfl) ?_
      refine rr_bipush hx hb dX5_layMarks_24 (by decide +kernel) ?_
      obtain ⟨hg4, h⟩ := rr_c_some h
      refine rr_icmp_ge (tgt := 88) hx hb dX5_layMarks_26 (by decide) hg4 (by decide) (fun c5 => ?_) (fun c5 => ?_)
      · rw [if_pos c5] at h
        exact hk σ _ _ ls h hP hD hS (lv_sub hl [] rfl)
      · rw [if_neg c5] at h
        refine rr_iconst hx hb dX5_layMarks_29 ?_
        refine lv_istore_n (lv' := [(2, .int (rr_i 0)), (0, .ref (ad 0)), (1, .int (rr_i x1))]) hx hb dX5_layMarks_30 rfl hl (by decide) rfl (fun ls hl => ?_)
        refine hL5_layMarks_31 x1 _ 1000 0 σ _ _ ls h hP hD hS (lv_sub hl [1, 2, 0] rfl) (fun σ_31 H locs ls h hP hD hS hl => ?_)
        refine rr_iinc (k := 1) (a := x1) (lv' := [(1, .int (rr_i (x1 + 1))), (0, .ref (ad 0))]) hx hb dX5_layMarks_82 hl rfl (by decide) rfl (fun ls hl => ?_)
        refine lv_goto (tgt := 23) hx hb dX5_layMarks_85 (by decide) ?_
        exact ih (x1 + 1) σ_31 _ _ ls h hP hD hS (lv_sub hl [1, 0] rfl) hk
  refine rr_iconst hx hb dX5_layMarks_0 ?_
  refine lv_istore_n (lv' := [(1, .int (rr_i 0)), (0, .ref (ad 0))]) hx hb dX5_layMarks_1 rfl hl (by decide) rfl (fun ls hl => ?_)
  refine hL5_layMarks_2 _ 1000 0 σ _ _ ls h hP hD hS (lv_sub hl [1, 0] rfl) (fun σ_2 H locs ls h hP hD hS hl => ?_)
  refine rr_iconst hx hb dX5_layMarks_21 ?_
  refine lv_istore_n (lv' := [(1, .int (rr_i 0)), (0, .ref (ad 0))]) hx hb dX5_layMarks_22 rfl hl (by decide) rfl (fun ls hl => ?_)
  refine hL5_layMarks_23 _ 1000 0 σ_2 _ _ ls h hP hD hS (lv_sub hl [1, 0] rfl) (fun σ_23 H locs ls h hP hD hS hl => ?_)
  exact hret _ _ _ _ _ h hP hD hS dX5_layMarks_88
-- RoomRingModel.weights
abbrev rm_X5_weights : Room := { frames := 0, cells := 0, slots := 0, locals := 0 }
theorem hd_X5_weights : yX5_weights.cls ≠ "java/lang/invoke/MethodHandle" ∧ yX5_weights.cls ≠ "java/lang/invoke/VarHandle" ∧ (parseMethodDescriptor yX5_weights.desc).map (fun d => d.parameters.length) = some 0 := by decide +kernel
set_option maxHeartbeats 4000000 in
set_option maxRecDepth 100000 in
theorem kX5_weights (l : Launch) (g : rr_G) (ad : Nat → Nat) (hh : Int) (σ : rr_T) (out : Int) (h : M5_weights σ = some out) : Met l yX5_weights wsX5_weights rm_X5_weights (rr_R g [.ref (ad 0)] (rr_wM g ad σ hh)) (vp_Si (fun x => x = rr_i out)) 0 0 (fun _ => False) := by
  refine rr_roI (cc := cX5_weights) (maxL := 3) (by decide) rfl (Nat.le_of_ble_eq_true rfl) ?_
  intro p e s m ar below meth c Q ls hx hb hml hown hts hK hP hret hl
  have hown : s.vm.findClass RX5 = some m.cls := hown
  have hl : lv_has ls 3 [(0, .ref (ad 0))] := hl
  have hinX5 : ∀ w ∈ u_ws RX5 TX5 19, w ∈ wsX5_weights := by decide +kernel
  have hk_0 : (Cond.fieldLink RX5 7 "RoomRingModel" "now" "[I").before ar s = true := hts _ (List.mem_of_getElem? (i := 1) (by decide +kernel))
  unfold M5_weights at h
  have hL5_weights_4 : ∀ (K : Int → Option Int) (n : Nat) (x1 : Int) (x2 : Int) (ls : Array Slot), L5_weights_4 σ K n x1 x2 = some out → lv_has ls 3 [(0, .ref (ad 0)), (1, .int (rr_i x1)), (2, .int (rr_i x2))] → (∀ (z1 : Int) (ls : Array Slot), K z1 = some out → lv_has ls 3 [(1, .int (rr_i z1))] → W p l e rm_X5_weights s m ar below meth c s.heap [] 0 0 Q (F0 m 25 ls [])) → W p l e rm_X5_weights s m ar below meth c s.heap [] 0 0 Q (F0 m 4 ls []) := by
    intro K n
    induction n with
    | zero => intro x1 x2 ls h hl hk; cases h
    | succ n ih =>
      intro x1 x2 ls h hl hk
      rw [L5_weights_4_s] at h
      refine lv_iload_n hx hb dX5_weights_4 rfl (lv_at hl 2 rfl) ?_
      refine rr_bipush hx hb dX5_weights_5 (by decide +kernel) ?_
      obtain ⟨hg1, h⟩ := rr_c_some h
      refine rr_icmp_ge (tgt := 25) hx hb dX5_weights_7 (by decide) hg1 (by decide) (fun c2 => ?_) (fun c2 => ?_)
      · rw [if_pos c2] at h
        exact hk x1 ls h (lv_sub hl [1] rfl)
      · rw [if_neg c2] at h
        refine lv_iload_n hx hb dX5_weights_10 rfl (lv_at hl 1 rfl) ?_
        refine lv_aload_n hx hb dX5_weights_11 rfl (lv_at hl 0 rfl) ?_
        refine va_get (D := g.1) (ci := 5) (v := .ref (ad 1)) (C := RX5) (T := TX5) (N := 19) hx hb hts hinX5 hown hK.1 hP 0 rfl rfl 0 (by decide) hk_0 (fun _ h9 => h9) rfl dX5_weights_12 ?_
        refine lv_iload_n hx hb dX5_weights_15 rfl (lv_at hl 2 rfl) ?_
        obtain ⟨hg3, h⟩ := rr_c_some h
        refine rr_iald (f := (σ 0)) (N := 143) hx hb hK hP 1 rfl rfl (by decide) hg3 dX5_weights_16 ?_
        refine rr_iadd hx hb dX5_weights_17 ?_
        refine lv_istore_n (lv' := [(1, .int (rr_i (x1 + (σ 0 x2)))), (0, .ref (ad 0)), (2, .int (rr_i x2))]) hx hb dX5_weights_18 rfl hl (by decide) rfl (fun ls hl => ?_)
        refine rr_iinc (k := 2) (a := x2) (lv' := [(2, .int (rr_i (x2 + 1))), (1, .int (rr_i (x1 + (σ 0 x2)))), (0, .ref (ad 0))]) hx hb dX5_weights_19 hl rfl (by decide) rfl (fun ls hl => ?_)
        refine lv_goto (tgt := 4) hx hb dX5_weights_22 (by decide) ?_
        exact ih (x1 + (σ 0 x2)) (x2 + 1) ls h (lv_sub hl [2, 1, 0] rfl) hk
  refine rr_iconst hx hb dX5_weights_0 ?_
  refine lv_istore_n (lv' := [(1, .int (rr_i 0)), (0, .ref (ad 0))]) hx hb dX5_weights_1 rfl hl (by decide) rfl (fun ls hl => ?_)
  refine rr_iconst hx hb dX5_weights_2 ?_
  refine lv_istore_n (lv' := [(2, .int (rr_i 0)), (1, .int (rr_i 0)), (0, .ref (ad 0))]) hx hb dX5_weights_3 rfl hl (by decide) rfl (fun ls hl => ?_)
  refine hL5_weights_4 _ 1000 0 0 ls h (lv_sub hl [2, 1, 0] rfl) (fun y1_4 ls h hl => ?_)
  refine lv_iload_n hx hb dX5_weights_25 rfl (lv_at hl 0 rfl) ?_
  exact hret _ _ _ h dX5_weights_26
-- RoomRingModel.placeOf
abbrev rm_X5_placeOf : Room := { frames := 0, cells := 0, slots := 0, locals := 0 }
theorem hd_X5_placeOf : yX5_placeOf.cls ≠ "java/lang/invoke/MethodHandle" ∧ yX5_placeOf.cls ≠ "java/lang/invoke/VarHandle" ∧ (parseMethodDescriptor yX5_placeOf.desc).map (fun d => d.parameters.length) = some 1 := by decide +kernel
set_option maxHeartbeats 4000000 in
set_option maxRecDepth 100000 in
theorem kX5_placeOf (l : Launch) (g : rr_G) (x0 : Int) (out : Int) (h : M5_placeOf x0 = some out) : Met l yX5_placeOf wsX5_placeOf rm_X5_placeOf (rr_R g [.int (rr_i x0)] (([] : va_W))) (vp_Si (fun x => x = rr_i out)) 0 0 (fun _ => False) := by
  refine rr_roI (cc := cX5_placeOf) (maxL := 1) (by decide) rfl (Nat.le_of_ble_eq_true rfl) ?_
  intro p e s m ar below meth c Q ls hx hb hml hown hts hK hP hret hl
  have hown : s.vm.findClass RX5 = some m.cls := hown
  have hl : lv_has ls 1 [(0, .int (rr_i x0))] := hl
  unfold M5_placeOf at h
  refine rr_bipush hx hb dX5_placeOf_0 (by decide +kernel) ?_
  refine lv_iload_n hx hb dX5_placeOf_2 rfl (lv_at hl 0 rfl) ?_
  refine rr_imul hx hb dX5_placeOf_3 ?_
  refine rr_bipush hx hb dX5_placeOf_4 (by decide +kernel) ?_
  refine rr_iadd hx hb dX5_placeOf_6 ?_
  refine rr_bipush hx hb dX5_placeOf_7 (by decide +kernel) ?_
  obtain ⟨hg1, h⟩ := rr_c_some h
  refine rr_irem hx hb dX5_placeOf_9 ⟨hg1.1, hg1.2, by decide, by decide⟩ ?_
  exact hret _ _ _ h dX5_placeOf_10
-- RoomRingModel.bound
abbrev rm_X5_bound : Room := { frames := 1, cells := 0, slots := 0, locals := 22 }
theorem hd_X5_bound : yX5_bound.cls ≠ "java/lang/invoke/MethodHandle" ∧ yX5_bound.cls ≠ "java/lang/invoke/VarHandle" ∧ (parseMethodDescriptor yX5_bound.desc).map (fun d => d.parameters.length) = some 1 := by decide +kernel
set_option maxHeartbeats 4000000 in
set_option maxRecDepth 100000 in
theorem kX5_bound (l : Launch) (g : rr_G) (ad : Nat → Nat) (hh : Int) (x1 : Int) (σ : rr_T) (out : Int) (h : M5_bound x1 σ = some out) : Met l yX5_bound wsX5_bound rm_X5_bound (rr_R g [.ref (ad 0), .int (rr_i x1)] (rr_wM g ad σ hh)) (vp_Si (fun x => x = rr_i out)) 0 0 (fun _ => False) := by
  refine rr_roI (cc := cX5_bound) (maxL := 4) (by decide) rfl (Nat.le_of_ble_eq_true rfl) ?_
  intro p e s m ar below meth c Q ls hx hb hml hown hts hK hP hret hl
  have hown : s.vm.findClass RX5 = some m.cls := hown
  have hl : lv_has ls 4 [(0, .ref (ad 0)), (1, .int (rr_i x1))] := hl
  have hinX5 : ∀ w ∈ u_ws RX5 TX5 19, w ∈ wsX5_bound := by decide +kernel
  have hk_0 : (Cond.fieldLink RX5 7 "RoomRingModel" "now" "[I").before ar s = true := hts _ (List.mem_of_getElem? (i := 1) (by decide +kernel))
  unfold M5_bound at h
  refine lv_aload_n hx hb dX5_bound_0 rfl (lv_at hl 0 rfl) ?_
  refine va_get (D := g.1) (ci := 5) (v := .ref (ad 1)) (C := RX5) (T := TX5) (N := 19) hx hb hts hinX5 hown hK.1 hP 0 rfl rfl 0 (by decide) hk_0 (fun _ h9 => h9) rfl dX5_bound_1 ?_
  refine rr_sipush hx hb dX5_bound_4 (by decide +kernel) ?_
  refine rr_iald (f := (σ 0)) (N := 143) hx hb hK hP 1 rfl rfl (by decide) (by decide) dX5_bound_7 ?_
  refine lv_aload_n hx hb dX5_bound_8 rfl (lv_at hl 0 rfl) ?_
  refine va_get (D := g.1) (ci := 5) (v := .ref (ad 1)) (C := RX5) (T := TX5) (N := 19) hx hb hts hinX5 hown hK.1 hP 0 rfl rfl 0 (by decide) hk_0 (fun _ h9 => h9) rfl dX5_bound_9 ?_
  refine lv_iload_n hx hb dX5_bound_12 rfl (lv_at hl 1 rfl) ?_
  obtain ⟨hg1, h⟩ := rr_c_some h
  refine rr_iald (f := (σ 0)) (N := 143) hx hb hK hP 1 rfl rfl (by decide) hg1 dX5_bound_13 ?_
  refine rr_imul hx hb dX5_bound_14 ?_
  refine rr_bipush hx hb dX5_bound_15 (by decide +kernel) ?_
  refine lv_aload_n hx hb dX5_bound_17 rfl (lv_at hl 0 rfl) ?_
  refine va_get (D := g.1) (ci := 5) (v := .ref (ad 1)) (C := RX5) (T := TX5) (N := 19) hx hb hts hinX5 hown hK.1 hP 0 rfl rfl 0 (by decide) hk_0 (fun _ h9 => h9) rfl dX5_bound_18 ?_
  refine rr_sipush hx hb dX5_bound_21 (by decide +kernel) ?_
  refine rr_iald (f := (σ 0)) (N := 143) hx hb hK hP 1 rfl rfl (by decide) (by decide) dX5_bound_24 ?_
  refine rr_iadd hx hb dX5_bound_25 ?_
  refine rr_imul hx hb dX5_bound_26 ?_
  refine lv_istore_n (lv' := [(2, .int (rr_i (((σ 0 140) * (σ 0 x1)) * (100 + (σ 0 141))))), (0, .ref (ad 0)), (1, .int (rr_i x1))]) hx hb dX5_bound_27 rfl hl (by decide) rfl (fun ls hl => ?_)
  refine rr_bipush hx hb dX5_bound_28 (by decide +kernel) ?_
  refine lv_aload_n hx hb dX5_bound_30 rfl (lv_at hl 1 rfl) ?_
  obtain ⟨v2, hw3, h⟩ := rr_b_some h
  refine rr_callI (va_runV (As := []) (rest := [.int (rr_i 100)]) ⟨hx, hb, hml, hown, hts⟩ (kX5_weights l g ad hh σ v2 hw3) (cwV 0 hts gX5_bound_X5_weights rfl rfl rfl ⟨rfl, hd_X5_weights⟩ ⟨Nat.le_of_ble_eq_true rfl, Nat.le_of_ble_eq_true rfl⟩) ⟨rr_R_blind, va_recv hK.1 hP (ci := 5) (q0 := 0) rfl rfl, rr_R_pre hK hP⟩ rfl rfl hl.1 rfl (lv_room (Nat.le_of_ble_eq_true rfl)) dX5_bound_31 ⟨Nat.zero_le _, Nat.zero_le _⟩) ?_
  refine rr_imul hx hb dX5_bound_34 ?_
  refine lv_istore_n (lv' := [(3, .int (rr_i (100 * v2))), (2, .int (rr_i (((σ 0 140) * (σ 0 x1)) * (100 + (σ 0 141))))), (0, .ref (ad 0)), (1, .int (rr_i x1))]) hx hb dX5_bound_35 rfl hl (by decide) rfl (fun ls hl => ?_)
  refine lv_iload_n hx hb dX5_bound_36 rfl (lv_at hl 0 rfl) ?_
  obtain ⟨hg4, h⟩ := rr_c_some h
  refine rr_if_ne (tgt := 44) hx hb dX5_bound_37 (by decide) hg4 (fun c5 => ?_) (fun c5 => ?_)
  · rw [if_neg c5] at h
    refine lv_iload_n hx hb dX5_bound_44 rfl (lv_at hl 1 rfl) ?_
    refine lv_iload_n hx hb dX5_bound_45 rfl (lv_at hl 0 rfl) ?_
    refine rr_iadd hx hb dX5_bound_46 ?_
    refine rr_iconst hx hb dX5_bound_47 ?_
    refine rr_isub hx hb dX5_bound_48 ?_
    refine lv_iload_n hx hb dX5_bound_49 rfl (lv_at hl 0 rfl) ?_
    obtain ⟨hg6, h⟩ := rr_c_some h
    refine rr_idiv hx hb dX5_bound_50 ⟨hg6.1.1, hg6.1.2, hg6.2.1, hg6.2.2⟩ ?_
    exact hret _ _ _ h dX5_bound_51
  · rw [if_pos c5] at h
    refine rr_iconst hx hb dX5_bound_40 ?_
    refine lv_goto (tgt := 51) hx hb dX5_bound_41 (by decide) ?_
    exact hret _ _ _ h dX5_bound_51
-- RoomRingModel.isRoom
abbrev rm_X5_isRoom : Room := { frames := 2, cells := 0, slots := 0, locals := 45 }
theorem hd_X5_isRoom : yX5_isRoom.cls ≠ "java/lang/invoke/MethodHandle" ∧ yX5_isRoom.cls ≠ "java/lang/invoke/VarHandle" ∧ (parseMethodDescriptor yX5_isRoom.desc).map (fun d => d.parameters.length) = some 1 := by decide +kernel
set_option maxHeartbeats 4000000 in
set_option maxRecDepth 100000 in
theorem kX5_isRoom (l : Launch) (g : rr_G) (ad : Nat → Nat) (hh : Int) (x1 : Int) (σ : rr_T) (out : Int) (h : M5_isRoom x1 σ = some out) : Met l yX5_isRoom wsX5_isRoom rm_X5_isRoom (rr_R g [.ref (ad 0), .int (rr_i x1)] (rr_wM g ad σ hh)) (vp_Si (fun x => x = rr_i out)) 0 0 (fun _ => False) := by
  refine rr_roZ (cc := cX5_isRoom) (maxL := 3) (by decide) rfl (Nat.le_of_ble_eq_true rfl) ?_
  intro p e s m ar below meth c Q ls hx hb hml hown hts hK hP hret hl
  have hown : s.vm.findClass RX5 = some m.cls := hown
  have hl : lv_has ls 3 [(0, .ref (ad 0)), (1, .int (rr_i x1))] := hl
  have hinX5 : ∀ w ∈ u_ws RX5 TX5 19, w ∈ wsX5_isRoom := by decide +kernel
  have hk_0 : (Cond.fieldLink RX5 22 "RoomRingModel" "owner" "[I").before ar s = true := hts _ (List.mem_of_getElem? (i := 1) (by decide +kernel))
  have hk_1 : (Cond.fieldLink RX5 31 "RoomRingModel" "load" "[I").before ar s = true := hts _ (List.mem_of_getElem? (i := 2) (by decide +kernel))
  unfold M5_isRoom at h
  refine lv_aload_n hx hb dX5_isRoom_0 rfl (lv_at hl 0 rfl) ?_
  refine va_get (D := g.1) (ci := 5) (v := .ref (ad 5)) (C := RX5) (T := TX5) (N := 19) hx hb hts hinX5 hown hK.1 hP 0 rfl rfl 5 (by decide) hk_0 (fun _ h9 => h9) rfl dX5_isRoom_1 ?_
  refine lv_iload_n hx hb dX5_isRoom_4 rfl (lv_at hl 1 rfl) ?_
  obtain ⟨hg1, h⟩ := rr_c_some h
  refine rr_iald (f := (σ 5)) (N := 101) hx hb hK hP 5 rfl rfl (by decide) hg1 dX5_isRoom_5 ?_
  refine lv_istore_n (lv' := [(2, .int (rr_i (σ 5 x1))), (0, .ref (ad 0)), (1, .int (rr_i x1))]) hx hb dX5_isRoom_6 rfl hl (by decide) rfl (fun ls hl => ?_)
  refine lv_iload_n hx hb dX5_isRoom_7 rfl (lv_at hl 0 rfl) ?_
  refine rr_iconst hx hb dX5_isRoom_8 ?_
  obtain ⟨hg2, h⟩ := rr_c_some h
  refine rr_icmp_eq (tgt := 46) hx hb dX5_isRoom_9 (by decide) hg2 (by decide) (fun c3 => ?_) (fun c3 => ?_)
  · rw [if_pos c3] at h
    refine rr_iconst hx hb dX5_isRoom_46 ?_
    exact hret _ _ _ h (by decide) dX5_isRoom_47
  · rw [if_neg c3] at h
    refine lv_aload_n hx hb dX5_isRoom_12 rfl (lv_at hl 1 rfl) ?_
    refine va_get (D := g.1) (ci := 5) (v := .ref (ad 8)) (C := RX5) (T := TX5) (N := 19) hx hb hts hinX5 hown hK.1 hP 0 rfl rfl 8 (by decide) hk_1 (fun _ h9 => h9) rfl dX5_isRoom_13 ?_
    refine lv_iload_n hx hb dX5_isRoom_16 rfl (lv_at hl 0 rfl) ?_
    refine rr_if_ge (tgt := 24) hx hb dX5_isRoom_17 (by decide) hg2 (fun c4 => ?_) (fun c4 => ?_)
    · rw [if_pos c4] at h
      refine lv_iload_n hx hb dX5_isRoom_24 rfl (lv_at hl 0 rfl) ?_
      obtain ⟨hg5, h⟩ := rr_c_some h
      refine rr_iald (f := (σ 8)) (N := 100) hx hb hK hP 8 rfl rfl (by decide) hg5 dX5_isRoom_25 ?_
      refine lv_aload_n hx hb dX5_isRoom_26 rfl (lv_at hl 1 rfl) ?_
      refine lv_iload_n hx hb dX5_isRoom_27 rfl (lv_at hl 0 rfl) ?_
      refine rr_if_ge (tgt := 35) hx hb dX5_isRoom_28 (by decide) hg2 (fun c6 => ?_) (fun c6 => ?_)
      · rw [if_pos c6] at h
        refine lv_iload_n hx hb dX5_isRoom_35 rfl (lv_at hl 0 rfl) ?_
        obtain ⟨v7, hw8, h⟩ := rr_b_some h
        refine rr_callI (va_runV (As := [.int (rr_i (σ 5 x1))]) (rest := [.int (rr_i (σ 8 (σ 5 x1)))]) ⟨hx, hb, hml, hown, hts⟩ (kX5_bound l g ad hh (σ 5 x1) σ v7 hw8) (cwV 1 hts gX5_isRoom_X5_bound rfl rfl rfl ⟨rfl, hd_X5_bound⟩ ⟨Nat.le_of_ble_eq_true rfl, Nat.le_of_ble_eq_true rfl⟩) ⟨rr_R_blind, va_recv hK.1 hP (ci := 5) (q0 := 0) rfl rfl, rr_R_pre hK hP⟩ rfl rfl hl.1 rfl (lv_room (Nat.le_of_ble_eq_true rfl)) dX5_isRoom_36 ⟨Nat.zero_le _, Nat.zero_le _⟩) ?_
        obtain ⟨hg9, h⟩ := rr_c_some h
        refine rr_icmp_ge (tgt := 46) hx hb dX5_isRoom_39 (by decide) hg9.1 hg9.2 (fun c10 => ?_) (fun c10 => ?_)
        · rw [if_pos c10] at h
          refine rr_iconst hx hb dX5_isRoom_46 ?_
          exact hret _ _ _ h (by decide) dX5_isRoom_47
        · rw [if_neg c10] at h
          refine rr_iconst hx hb dX5_isRoom_42 ?_
          refine lv_goto (tgt := 47) hx hb dX5_isRoom_43 (by decide) ?_
          exact hret _ _ _ h (by decide) dX5_isRoom_47
      · rw [if_neg c6] at h
        refine rr_iconst hx hb dX5_isRoom_31 ?_
        refine lv_goto (tgt := 36) hx hb dX5_isRoom_32 (by decide) ?_
        obtain ⟨v11, hw12, h⟩ := rr_b_some h
        refine rr_callI (va_runV (As := [.int (rr_i 0)]) (rest := [.int (rr_i (σ 8 (σ 5 x1)))]) ⟨hx, hb, hml, hown, hts⟩ (kX5_bound l g ad hh 0 σ v11 hw12) (cwV 1 hts gX5_isRoom_X5_bound rfl rfl rfl ⟨rfl, hd_X5_bound⟩ ⟨Nat.le_of_ble_eq_true rfl, Nat.le_of_ble_eq_true rfl⟩) ⟨rr_R_blind, va_recv hK.1 hP (ci := 5) (q0 := 0) rfl rfl, rr_R_pre hK hP⟩ rfl rfl hl.1 rfl (lv_room (Nat.le_of_ble_eq_true rfl)) dX5_isRoom_36 ⟨Nat.zero_le _, Nat.zero_le _⟩) ?_
        obtain ⟨hg13, h⟩ := rr_c_some h
        refine rr_icmp_ge (tgt := 46) hx hb dX5_isRoom_39 (by decide) hg13.1 hg13.2 (fun c14 => ?_) (fun c14 => ?_)
        · rw [if_pos c14] at h
          refine rr_iconst hx hb dX5_isRoom_46 ?_
          exact hret _ _ _ h (by decide) dX5_isRoom_47
        · rw [if_neg c14] at h
          refine rr_iconst hx hb dX5_isRoom_42 ?_
          refine lv_goto (tgt := 47) hx hb dX5_isRoom_43 (by decide) ?_
          exact hret _ _ _ h (by decide) dX5_isRoom_47
    · rw [if_neg c4] at h
      refine rr_iconst hx hb dX5_isRoom_20 ?_
      refine lv_goto (tgt := 25) hx hb dX5_isRoom_21 (by decide) ?_
      refine rr_iald (f := (σ 8)) (N := 100) hx hb hK hP 8 rfl rfl (by decide) (by decide) dX5_isRoom_25 ?_
      refine lv_aload_n hx hb dX5_isRoom_26 rfl (lv_at hl 1 rfl) ?_
      refine lv_iload_n hx hb dX5_isRoom_27 rfl (lv_at hl 0 rfl) ?_
      refine rr_if_ge (tgt := 35) hx hb dX5_isRoom_28 (by decide) hg2 (fun c15 => ?_) (fun c15 => ?_)
      · rw [if_pos c15] at h
        refine lv_iload_n hx hb dX5_isRoom_35 rfl (lv_at hl 0 rfl) ?_
        obtain ⟨v16, hw17, h⟩ := rr_b_some h
        refine rr_callI (va_runV (As := [.int (rr_i (σ 5 x1))]) (rest := [.int (rr_i (σ 8 0))]) ⟨hx, hb, hml, hown, hts⟩ (kX5_bound l g ad hh (σ 5 x1) σ v16 hw17) (cwV 1 hts gX5_isRoom_X5_bound rfl rfl rfl ⟨rfl, hd_X5_bound⟩ ⟨Nat.le_of_ble_eq_true rfl, Nat.le_of_ble_eq_true rfl⟩) ⟨rr_R_blind, va_recv hK.1 hP (ci := 5) (q0 := 0) rfl rfl, rr_R_pre hK hP⟩ rfl rfl hl.1 rfl (lv_room (Nat.le_of_ble_eq_true rfl)) dX5_isRoom_36 ⟨Nat.zero_le _, Nat.zero_le _⟩) ?_
        obtain ⟨hg18, h⟩ := rr_c_some h
        refine rr_icmp_ge (tgt := 46) hx hb dX5_isRoom_39 (by decide) hg18.1 hg18.2 (fun c19 => ?_) (fun c19 => ?_)
        · rw [if_pos c19] at h
          refine rr_iconst hx hb dX5_isRoom_46 ?_
          exact hret _ _ _ h (by decide) dX5_isRoom_47
        · rw [if_neg c19] at h
          refine rr_iconst hx hb dX5_isRoom_42 ?_
          refine lv_goto (tgt := 47) hx hb dX5_isRoom_43 (by decide) ?_
          exact hret _ _ _ h (by decide) dX5_isRoom_47
      · rw [if_neg c15] at h
        refine rr_iconst hx hb dX5_isRoom_31 ?_
        refine lv_goto (tgt := 36) hx hb dX5_isRoom_32 (by decide) ?_
        obtain ⟨v20, hw21, h⟩ := rr_b_some h
        refine rr_callI (va_runV (As := [.int (rr_i 0)]) (rest := [.int (rr_i (σ 8 0))]) ⟨hx, hb, hml, hown, hts⟩ (kX5_bound l g ad hh 0 σ v20 hw21) (cwV 1 hts gX5_isRoom_X5_bound rfl rfl rfl ⟨rfl, hd_X5_bound⟩ ⟨Nat.le_of_ble_eq_true rfl, Nat.le_of_ble_eq_true rfl⟩) ⟨rr_R_blind, va_recv hK.1 hP (ci := 5) (q0 := 0) rfl rfl, rr_R_pre hK hP⟩ rfl rfl hl.1 rfl (lv_room (Nat.le_of_ble_eq_true rfl)) dX5_isRoom_36 ⟨Nat.zero_le _, Nat.zero_le _⟩) ?_
        obtain ⟨hg22, h⟩ := rr_c_some h
        refine rr_icmp_ge (tgt := 46) hx hb dX5_isRoom_39 (by decide) hg22.1 hg22.2 (fun c23 => ?_) (fun c23 => ?_)
        · rw [if_pos c23] at h
          refine rr_iconst hx hb dX5_isRoom_46 ?_
          exact hret _ _ _ h (by decide) dX5_isRoom_47
        · rw [if_neg c23] at h
          refine rr_iconst hx hb dX5_isRoom_42 ?_
          refine lv_goto (tgt := 47) hx hb dX5_isRoom_43 (by decide) ?_
          exact hret _ _ _ h (by decide) dX5_isRoom_47
-- RoomRingModel.lay
abbrev rm_X5_lay : Room := { frames := 3, cells := 0, slots := 0, locals := 67 }
theorem hd_X5_lay : yX5_lay.cls ≠ "java/lang/invoke/MethodHandle" ∧ yX5_lay.cls ≠ "java/lang/invoke/VarHandle" ∧ (parseMethodDescriptor yX5_lay.desc).map (fun d => d.parameters.length) = some 0 := by decide +kernel
set_option maxHeartbeats 4000000 in
set_option maxRecDepth 100000 in
theorem kX5_lay (l : Launch) (g : rr_G) (ad : Nat → Nat) (sz : Nat) (hh : Int) (σ : rr_T) (out : rr_T) (h : M5_lay σ = some out) : Met l yX5_lay wsX5_lay rm_X5_lay (rr_P g [.ref (ad 0)] (rr_wM g ad σ hh) sz) (rr_Qv g (rr_wM g ad out hh) (va_A (rr_wM g ad σ hh) sz)) 0 0 (va_A (rr_wM g ad σ hh) sz) := by
  refine rr_rwV (cc := cX5_lay) (maxL := 5) (fun σ => rr_wM g ad σ hh) σ out (by decide) rfl (Nat.le_of_ble_eq_true rfl) ?_
  intro p e s m ar below meth c Q ls A hx hb hml hown hts hK hA hP hD hS hret hl
  have hP : va_P g.1 vwCl (rr_wM g ad σ hh) s.heap := hP
  have hD : va_D A (rr_wM g ad σ hh) := hD
  have hown : s.vm.findClass RX5 = some m.cls := hown
  have hl : lv_has ls 5 [(0, .ref (ad 0))] := hl
  have hinX5 : ∀ w ∈ u_ws RX5 TX5 19, w ∈ wsX5_lay := by decide +kernel
  have hk_0 : (Cond.fieldLink RX5 31 "RoomRingModel" "load" "[I").before ar s = true := hts _ (List.mem_of_getElem? (i := 1) (by decide +kernel))
  have hk_1 : (Cond.fieldLink RX5 7 "RoomRingModel" "now" "[I").before ar s = true := hts _ (List.mem_of_getElem? (i := 2) (by decide +kernel))
  have hk_2 : (Cond.fieldLink RX5 25 "RoomRingModel" "keyHost" "[I").before ar s = true := hts _ (List.mem_of_getElem? (i := 3) (by decide +kernel))
  have hk_3 : (Cond.fieldLink RX5 22 "RoomRingModel" "owner" "[I").before ar s = true := hts _ (List.mem_of_getElem? (i := 4) (by decide +kernel))
  have hk_4 : (Cond.fieldLink RX5 28 "RoomRingModel" "keyMark" "[I").before ar s = true := hts _ (List.mem_of_getElem? (i := 5) (by decide +kernel))
  unfold M5_lay at h
  have hL5_lay_6 : ∀ (K : rr_T → Option rr_T) (n : Nat) (x1 : Int) (σ : rr_T) (H : Heap) (locs : List Loc) (ls : Array Slot), L5_lay_6 K n x1 σ = some out → va_P g.1 vwCl (rr_wM g ad σ hh) H → va_D A (rr_wM g ad σ hh) → va_S A s.heap H locs → lv_has ls 5 [(0, .ref (ad 0)), (1, .int (rr_i x1))] → (∀ (τ9 : rr_T) (H : Heap) (locs : List Loc) (ls : Array Slot), K τ9 = some out → va_P g.1 vwCl (rr_wM g ad τ9 hh) H → va_D A (rr_wM g ad τ9 hh) → va_S A s.heap H locs → lv_has ls 5 [(0, .ref (ad 0))] → W p l e rm_X5_lay s m ar below meth c H locs 0 0 Q (F0 m 25 ls [])) → W p l e rm_X5_lay s m ar below meth c H locs 0 0 Q (F0 m 6 ls []) := by
    intro K n
    induction n with
    | zero => intro x1 σ H locs ls h hP hD hS hl hk; cases h
    | succ n ih =>
      intro x1 σ H locs ls h hP hD hS hl hk
      rw [L5_lay_6_s] at h
      refine lv_iload_n hx hb dX5_lay_6 rfl (lv_at hl 1 rfl) ?_
      refine rr_bipush hx hb dX5_lay_7 (by decide +kernel) ?_
      obtain ⟨hg3, h⟩ := rr_c_some h
      refine rr_icmp_ge (tgt := 25) hx hb dX5_lay_9 (by decide) hg3 (by decide) (fun c4 => ?_) (fun c4 => ?_)
      · rw [if_pos c4] at h
        exact hk σ _ _ ls h hP hD hS (lv_sub hl [0] rfl)
      · rw [if_neg c4] at h
        refine lv_aload_n hx hb dX5_lay_12 rfl (lv_at hl 0 rfl) ?_
        refine va_get (D := g.1) (ci := 5) (v := .ref (ad 8)) (C := RX5) (T := TX5) (N := 19) hx hb hts hinX5 hown hK.1 hP 0 rfl rfl 8 (by decide) hk_0 (fun _ h9 => h9) rfl dX5_lay_13 ?_
        refine lv_iload_n hx hb dX5_lay_16 rfl (lv_at hl 1 rfl) ?_
        refine rr_iconst hx hb dX5_lay_17 ?_
        obtain ⟨hg5, h⟩ := rr_c_some h
        refine rr_iast (f := (σ 8)) (N := 100) hx hb hK hP hD hS 8 rfl rfl (by decide) hg5 dX5_lay_18 (fun H locs hP hD hS => ?_)
        have hP : va_P g.1 vwCl (rr_wM g ad (rr_s σ 8 x1 0) hh) H := hP
        have hD : va_D A (rr_wM g ad (rr_s σ 8 x1 0) hh) := hD
        refine rr_iinc (k := 1) (a := x1) (lv' := [(1, .int (rr_i (x1 + 1))), (0, .ref (ad 0))]) hx hb dX5_lay_19 hl rfl (by decide) rfl (fun ls hl => ?_)
        refine lv_goto (tgt := 6) hx hb dX5_lay_22 (by decide) ?_
        exact ih (x1 + 1) (rr_s σ 8 x1 0) _ _ ls h hP hD hS (lv_sub hl [1, 0] rfl) hk
  have hL5_lay_68 : ∀ (x1 : Int) (x2 : Int) (K : Int → Option rr_T) (σ : rr_T) (H : Heap) (locs : List Loc), va_P g.1 vwCl (rr_wM g ad σ hh) H → va_D A (rr_wM g ad σ hh) → va_S A s.heap H locs → ∀ (n : Nat) (x3 : Int) (x4 : Int) (ls : Array Slot), L5_lay_68 σ x1 x2 K n x3 x4 = some out → lv_has ls 5 [(0, .ref (ad 0)), (1, .int (rr_i x1)), (2, .int (rr_i x2)), (3, .int (rr_i x3)), (4, .int (rr_i x4))] → (∀ (z3 : Int) (ls : Array Slot), K z3 = some out → lv_has ls 5 [(0, .ref (ad 0)), (1, .int (rr_i x1)), (2, .int (rr_i x2)), (3, .int (rr_i z3))] → W p l e rm_X5_lay s m ar below meth c H locs 0 0 Q (F0 m 100 ls [])) → W p l e rm_X5_lay s m ar below meth c H locs 0 0 Q (F0 m 68 ls []) := by
    intro x1 x2 K σ H locs hP hD hS n
    induction n with
    | zero => intro x3 x4 ls h hl hk; cases h
    | succ n ih =>
      intro x3 x4 ls h hl hk
      rw [L5_lay_68_s] at h
      refine lv_iload hx hb dX5_lay_68 (lv_at hl 4 rfl) ?_
      refine rr_bipush hx hb dX5_lay_70 (by decide +kernel) ?_
      obtain ⟨hg15, h⟩ := rr_c_some h
      refine rr_icmp_ge (tgt := 100) hx hb dX5_lay_72 (by decide) hg15 (by decide) (fun c16 => ?_) (fun c16 => ?_)
      · rw [if_pos c16] at h
        exact hk x3 ls h (lv_sub hl [0, 1, 2, 3] rfl)
      · rw [if_neg c16] at h
        refine lv_iload_n hx hb dX5_lay_75 rfl (lv_at hl 1 rfl) ?_
        obtain ⟨hg17, h⟩ := rr_c_some h
        refine rr_if_ne (tgt := 100) hx hb dX5_lay_76 (by decide) hg17 (fun c18 => ?_) (fun c18 => ?_)
        · rw [if_neg c18] at h
          exact hk x3 ls h (lv_sub hl [0, 1, 2, 3] rfl)
        · rw [if_pos c18] at h
          refine lv_aload_n hx hb dX5_lay_79 rfl (lv_at hl 0 rfl) ?_
          refine lv_iload_n hx hb dX5_lay_80 rfl (lv_at hl 3 rfl) ?_
          obtain ⟨v19, hw20, h⟩ := rr_b_some h
          refine rr_callI (va_runV (As := [.int (rr_i x3)]) (rest := []) ⟨hx, hb, hml, hown, hts⟩ (kX5_isRoom l g ad hh x3 σ v19 hw20) (cwV 1 hts gX5_lay_X5_isRoom rfl rfl rfl ⟨rfl, hd_X5_isRoom⟩ ⟨Nat.le_of_ble_eq_true rfl, Nat.le_of_ble_eq_true rfl⟩) ⟨rr_R_blind, va_recv hK.1 hP (ci := 5) (q0 := 0) rfl rfl, rr_R_pre hK hP⟩ rfl rfl hl.1 rfl (lv_room (Nat.le_of_ble_eq_true rfl)) dX5_lay_81 ⟨Nat.zero_le _, Nat.zero_le _⟩) ?_
          obtain ⟨hg21, h⟩ := rr_c_some h
          refine rr_if_ne (tgt := 100) hx hb dX5_lay_84 (by decide) hg21 (fun c22 => ?_) (fun c22 => ?_)
          · rw [if_neg c22] at h
            exact hk x3 ls h (lv_sub hl [0, 1, 2, 3] rfl)
          · rw [if_pos c22] at h
            refine lv_iload_n hx hb dX5_lay_87 rfl (lv_at hl 3 rfl) ?_
            refine rr_iconst hx hb dX5_lay_88 ?_
            refine rr_iadd hx hb dX5_lay_89 ?_
            refine rr_bipush hx hb dX5_lay_90 (by decide +kernel) ?_
            obtain ⟨hg23, h⟩ := rr_c_some h
            refine rr_irem hx hb dX5_lay_92 ⟨hg23.1, hg23.2, by decide, by decide⟩ ?_
            refine lv_istore_n (lv' := [(3, .int (rr_i ((x3 + 1) % 101))), (0, .ref (ad 0)), (1, .int (rr_i x1)), (2, .int (rr_i x2)), (4, .int (rr_i x4))]) hx hb dX5_lay_93 rfl hl (by decide) rfl (fun ls hl => ?_)
            refine rr_iinc (k := 4) (a := x4) (lv' := [(4, .int (rr_i (x4 + 1))), (3, .int (rr_i ((x3 + 1) % 101))), (0, .ref (ad 0)), (1, .int (rr_i x1)), (2, .int (rr_i x2))]) hx hb dX5_lay_94 hl rfl (by decide) rfl (fun ls hl => ?_)
            refine lv_goto (tgt := 68) hx hb dX5_lay_97 (by decide) ?_
            exact ih ((x3 + 1) % 101) (x4 + 1) ls h (lv_sub hl [2, 3, 4, 1, 0] rfl) hk
  have hL5_lay_40 : ∀ (x1 : Int) (K : rr_T → Option rr_T) (n : Nat) (x2 : Int) (σ : rr_T) (H : Heap) (locs : List Loc) (ls : Array Slot), L5_lay_40 x1 K n x2 σ = some out → va_P g.1 vwCl (rr_wM g ad σ hh) H → va_D A (rr_wM g ad σ hh) → va_S A s.heap H locs → lv_has ls 5 [(0, .ref (ad 0)), (1, .int (rr_i x1)), (2, .int (rr_i x2))] → (∀ (τ9 : rr_T) (H : Heap) (locs : List Loc) (ls : Array Slot), K τ9 = some out → va_P g.1 vwCl (rr_wM g ad τ9 hh) H → va_D A (rr_wM g ad τ9 hh) → va_S A s.heap H locs → lv_has ls 5 [] → W p l e rm_X5_lay s m ar below meth c H locs 0 0 Q (F0 m 152 ls [])) → W p l e rm_X5_lay s m ar below meth c H locs 0 0 Q (F0 m 40 ls []) := by
    intro x1 K n
    induction n with
    | zero => intro x2 σ H locs ls h hP hD hS hl hk; cases h
    | succ n ih =>
      intro x2 σ H locs ls h hP hD hS hl hk
      rw [L5_lay_40_s] at h
      refine lv_iload_n hx hb dX5_lay_40 rfl (lv_at hl 2 rfl) ?_
      refine lv_aload_n hx hb dX5_lay_41 rfl (lv_at hl 0 rfl) ?_
      refine va_get (D := g.1) (ci := 5) (v := .ref (ad 1)) (C := RX5) (T := TX5) (N := 19) hx hb hts hinX5 hown hK.1 hP 0 rfl rfl 0 (by decide) hk_1 (fun _ h9 => h9) rfl dX5_lay_42 ?_
      refine rr_sipush hx hb dX5_lay_45 (by decide +kernel) ?_
      refine rr_iald (f := (σ 0)) (N := 143) hx hb hK hP 1 rfl rfl (by decide) (by decide) dX5_lay_48 ?_
      obtain ⟨hg10, h⟩ := rr_c_some h
      refine rr_icmp_ge (tgt := 152) hx hb dX5_lay_49 (by decide) hg10.1 hg10.2 (fun c11 => ?_) (fun c11 => ?_)
      · rw [if_pos c11] at h
        exact hk σ _ _ ls h hP hD hS (lv_sub hl [] rfl)
      · rw [if_neg c11] at h
        refine lv_aload_n hx hb dX5_lay_52 rfl (lv_at hl 0 rfl) ?_
        refine va_get (D := g.1) (ci := 5) (v := .ref (ad 1)) (C := RX5) (T := TX5) (N := 19) hx hb hts hinX5 hown hK.1 hP 0 rfl rfl 0 (by decide) hk_1 (fun _ h9 => h9) rfl dX5_lay_53 ?_
        refine rr_bipush hx hb dX5_lay_56 (by decide +kernel) ?_
        refine lv_iload_n hx hb dX5_lay_58 rfl (lv_at hl 2 rfl) ?_
        refine rr_iadd hx hb dX5_lay_59 ?_
        obtain ⟨hg12, h⟩ := rr_c_some h
        refine rr_iald (f := (σ 0)) (N := 143) hx hb hK hP 1 rfl rfl (by decide) hg12 dX5_lay_60 ?_
        obtain ⟨v13, hw14, h⟩ := rr_b_some h
        refine rr_callI (va_runS (As := [.int (rr_i (σ 0 (100 + x2)))]) (rest := []) ⟨hx, hb, hml, hown, hts⟩ (kX5_placeOf l g (σ 0 (100 + x2)) v13 hw14) (va_cwS 1 hts gX5_lay_X5_placeOf rfl rfl rfl hd_X5_placeOf ⟨Nat.le_of_ble_eq_true rfl, Nat.le_of_ble_eq_true rfl⟩) ⟨rr_R_blind, rr_R_pre hK (hP.sub (ws' := ([] : va_W)) [] rfl)⟩ rfl rfl hl.1 rfl (lv_room (Nat.le_of_ble_eq_true rfl)) dX5_lay_61 ⟨Nat.zero_le _, Nat.zero_le _⟩) ?_
        refine lv_istore_n (lv' := [(3, .int (rr_i v13)), (0, .ref (ad 0)), (1, .int (rr_i x1)), (2, .int (rr_i x2))]) hx hb dX5_lay_64 rfl hl (by decide) rfl (fun ls hl => ?_)
        refine rr_iconst hx hb dX5_lay_65 ?_
        refine lv_istore (lv' := [(4, .int (rr_i 0)), (3, .int (rr_i v13)), (0, .ref (ad 0)), (1, .int (rr_i x1)), (2, .int (rr_i x2))]) hx hb dX5_lay_66 hl (by decide) rfl (fun ls hl => ?_)
        refine hL5_lay_68 x1 x2 _ σ _ _ hP hD hS 1000 v13 0 ls h (lv_sub hl [2, 3, 4, 1, 0] rfl) (fun y3_68 ls h hl => ?_)
        refine lv_aload_n hx hb dX5_lay_100 rfl (lv_at hl 0 rfl) ?_
        refine va_get (D := g.1) (ci := 5) (v := .ref (ad 6)) (C := RX5) (T := TX5) (N := 19) hx hb hts hinX5 hown hK.1 hP 0 rfl rfl 6 (by decide) hk_2 (fun _ h9 => h9) rfl dX5_lay_101 ?_
        refine lv_iload_n hx hb dX5_lay_104 rfl (lv_at hl 2 rfl) ?_
        refine lv_iload_n hx hb dX5_lay_105 rfl (lv_at hl 1 rfl) ?_
        obtain ⟨hg24, h⟩ := rr_c_some h
        refine rr_if_eq (tgt := 113) hx hb dX5_lay_106 (by decide) hg24 (fun c25 => ?_) (fun c25 => ?_)
        · rw [if_pos c25] at h
          refine lv_aload_n hx hb dX5_lay_113 rfl (lv_at hl 0 rfl) ?_
          refine va_get (D := g.1) (ci := 5) (v := .ref (ad 5)) (C := RX5) (T := TX5) (N := 19) hx hb hts hinX5 hown hK.1 hP 0 rfl rfl 5 (by decide) hk_3 (fun _ h9 => h9) rfl dX5_lay_114 ?_
          refine lv_iload_n hx hb dX5_lay_117 rfl (lv_at hl 3 rfl) ?_
          obtain ⟨hg26, h⟩ := rr_c_some h
          refine rr_iald (f := (σ 5)) (N := 101) hx hb hK hP 5 rfl rfl (by decide) hg26 dX5_lay_118 ?_
          obtain ⟨hg27, h⟩ := rr_c_some h
          refine rr_iast (f := (σ 6)) (N := 40) hx hb hK hP hD hS 6 rfl rfl (by decide) hg27 dX5_lay_119 (fun H locs hP hD hS => ?_)
          have hP : va_P g.1 vwCl (rr_wM g ad (rr_s σ 6 x2 (σ 5 y3_68)) hh) H := hP
          have hD : va_D A (rr_wM g ad (rr_s σ 6 x2 (σ 5 y3_68)) hh) := hD
          refine lv_aload_n hx hb dX5_lay_120 rfl (lv_at hl 0 rfl) ?_
          refine va_get (D := g.1) (ci := 5) (v := .ref (ad 7)) (C := RX5) (T := TX5) (N := 19) hx hb hts hinX5 hown hK.1 hP 0 rfl rfl 7 (by decide) hk_4 (fun _ h9 => h9) rfl dX5_lay_121 ?_
          refine lv_iload_n hx hb dX5_lay_124 rfl (lv_at hl 2 rfl) ?_
          refine lv_iload_n hx hb dX5_lay_125 rfl (lv_at hl 3 rfl) ?_
          refine rr_iast (f := (σ 7)) (N := 40) hx hb hK hP hD hS 7 rfl rfl (by decide) hg27 dX5_lay_126 (fun H locs hP hD hS => ?_)
          have hP : va_P g.1 vwCl (rr_wM g ad (rr_s (rr_s σ 6 x2 (σ 5 y3_68)) 7 x2 y3_68) hh) H := hP
          have hD : va_D A (rr_wM g ad (rr_s (rr_s σ 6 x2 (σ 5 y3_68)) 7 x2 y3_68) hh) := hD
          refine lv_iload_n hx hb dX5_lay_127 rfl (lv_at hl 1 rfl) ?_
          refine rr_if_ne (tgt := 146) hx hb dX5_lay_128 (by decide) hg24 (fun c28 => ?_) (fun c28 => ?_)
          · rw [if_neg c28] at h
            refine rr_iinc (k := 2) (a := x2) (lv' := [(2, .int (rr_i (x2 + 1))), (0, .ref (ad 0)), (1, .int (rr_i x1)), (3, .int (rr_i y3_68))]) hx hb dX5_lay_146 hl rfl (by decide) rfl (fun ls hl => ?_)
            refine lv_goto (tgt := 40) hx hb dX5_lay_149 (by decide) ?_
            exact ih (x2 + 1) (rr_s (rr_s σ 6 x2 (σ 5 y3_68)) 7 x2 y3_68) _ _ ls h hP hD hS (lv_sub hl [1, 2, 0] rfl) hk
          · rw [if_pos c28] at h
            refine lv_aload_n hx hb dX5_lay_131 rfl (lv_at hl 0 rfl) ?_
            refine va_get (D := g.1) (ci := 5) (v := .ref (ad 8)) (C := RX5) (T := TX5) (N := 19) hx hb hts hinX5 hown hK.1 hP 0 rfl rfl 8 (by decide) hk_0 (fun _ h9 => h9) rfl dX5_lay_132 ?_
            refine lv_aload_n hx hb dX5_lay_135 rfl (lv_at hl 0 rfl) ?_
            refine va_get (D := g.1) (ci := 5) (v := .ref (ad 5)) (C := RX5) (T := TX5) (N := 19) hx hb hts hinX5 hown hK.1 hP 0 rfl rfl 5 (by decide) hk_3 (fun _ h9 => h9) rfl dX5_lay_136 ?_
            refine lv_iload_n hx hb dX5_lay_139 rfl (lv_at hl 3 rfl) ?_
            refine rr_iald (f := (σ 5)) (N := 101) hx hb hK hP 5 rfl rfl (by decide) hg26 dX5_lay_140 ?_
            refine lv_dup2_11 hx hb dX5_lay_141 rfl rfl ?_
            obtain ⟨hg29, h⟩ := rr_c_some h
            refine rr_iald (f := (σ 8)) (N := 100) hx hb hK hP 8 rfl rfl (by decide) hg29 dX5_lay_142 ?_
            refine rr_iconst hx hb dX5_lay_143 ?_
            refine rr_iadd hx hb dX5_lay_144 ?_
            refine rr_iast (f := (σ 8)) (N := 100) hx hb hK hP hD hS 8 rfl rfl (by decide) hg29 dX5_lay_145 (fun H locs hP hD hS => ?_)
            have hP : va_P g.1 vwCl (rr_wM g ad (rr_s (rr_s (rr_s σ 6 x2 (σ 5 y3_68)) 7 x2 y3_68) 8 (σ 5 y3_68) ((σ 8 (σ 5 y3_68)) + 1)) hh) H := hP
            have hD : va_D A (rr_wM g ad (rr_s (rr_s (rr_s σ 6 x2 (σ 5 y3_68)) 7 x2 y3_68) 8 (σ 5 y3_68) ((σ 8 (σ 5 y3_68)) + 1)) hh) := hD
            refine rr_iinc (k := 2) (a := x2) (lv' := [(2, .int (rr_i (x2 + 1))), (0, .ref (ad 0)), (1, .int (rr_i x1)), (3, .int (rr_i y3_68))]) hx hb dX5_lay_146 hl rfl (by decide) rfl (fun ls hl => ?_)
            refine lv_goto (tgt := 40) hx hb dX5_lay_149 (by decide) ?_
            exact ih (x2 + 1) (rr_s (rr_s (rr_s σ 6 x2 (σ 5 y3_68)) 7 x2 y3_68) 8 (σ 5 y3_68) ((σ 8 (σ 5 y3_68)) + 1)) _ _ ls h hP hD hS (lv_sub hl [1, 2, 0] rfl) hk
        · rw [if_neg c25] at h
          refine rr_iconst hx hb dX5_lay_109 ?_
          refine lv_goto (tgt := 119) hx hb dX5_lay_110 (by decide) ?_
          obtain ⟨hg30, h⟩ := rr_c_some h
          refine rr_iast (f := (σ 6)) (N := 40) hx hb hK hP hD hS 6 rfl rfl (by decide) hg30 dX5_lay_119 (fun H locs hP hD hS => ?_)
          have hP : va_P g.1 vwCl (rr_wM g ad (rr_s σ 6 x2 (-1)) hh) H := hP
          have hD : va_D A (rr_wM g ad (rr_s σ 6 x2 (-1)) hh) := hD
          refine lv_aload_n hx hb dX5_lay_120 rfl (lv_at hl 0 rfl) ?_
          refine va_get (D := g.1) (ci := 5) (v := .ref (ad 7)) (C := RX5) (T := TX5) (N := 19) hx hb hts hinX5 hown hK.1 hP 0 rfl rfl 7 (by decide) hk_4 (fun _ h9 => h9) rfl dX5_lay_121 ?_
          refine lv_iload_n hx hb dX5_lay_124 rfl (lv_at hl 2 rfl) ?_
          refine lv_iload_n hx hb dX5_lay_125 rfl (lv_at hl 3 rfl) ?_
          refine rr_iast (f := (σ 7)) (N := 40) hx hb hK hP hD hS 7 rfl rfl (by decide) hg30 dX5_lay_126 (fun H locs hP hD hS => ?_)
          have hP : va_P g.1 vwCl (rr_wM g ad (rr_s (rr_s σ 6 x2 (-1)) 7 x2 y3_68) hh) H := hP
          have hD : va_D A (rr_wM g ad (rr_s (rr_s σ 6 x2 (-1)) 7 x2 y3_68) hh) := hD
          refine lv_iload_n hx hb dX5_lay_127 rfl (lv_at hl 1 rfl) ?_
          refine rr_if_ne (tgt := 146) hx hb dX5_lay_128 (by decide) hg24 (fun c31 => ?_) (fun c31 => ?_)
          · rw [if_neg c31] at h
            refine rr_iinc (k := 2) (a := x2) (lv' := [(2, .int (rr_i (x2 + 1))), (0, .ref (ad 0)), (1, .int (rr_i x1)), (3, .int (rr_i y3_68))]) hx hb dX5_lay_146 hl rfl (by decide) rfl (fun ls hl => ?_)
            refine lv_goto (tgt := 40) hx hb dX5_lay_149 (by decide) ?_
            exact ih (x2 + 1) (rr_s (rr_s σ 6 x2 (-1)) 7 x2 y3_68) _ _ ls h hP hD hS (lv_sub hl [1, 2, 0] rfl) hk
          · rw [if_pos c31] at h
            refine lv_aload_n hx hb dX5_lay_131 rfl (lv_at hl 0 rfl) ?_
            refine va_get (D := g.1) (ci := 5) (v := .ref (ad 8)) (C := RX5) (T := TX5) (N := 19) hx hb hts hinX5 hown hK.1 hP 0 rfl rfl 8 (by decide) hk_0 (fun _ h9 => h9) rfl dX5_lay_132 ?_
            refine lv_aload_n hx hb dX5_lay_135 rfl (lv_at hl 0 rfl) ?_
            refine va_get (D := g.1) (ci := 5) (v := .ref (ad 5)) (C := RX5) (T := TX5) (N := 19) hx hb hts hinX5 hown hK.1 hP 0 rfl rfl 5 (by decide) hk_3 (fun _ h9 => h9) rfl dX5_lay_136 ?_
            refine lv_iload_n hx hb dX5_lay_139 rfl (lv_at hl 3 rfl) ?_
            obtain ⟨hg32, h⟩ := rr_c_some h
            refine rr_iald (f := (σ 5)) (N := 101) hx hb hK hP 5 rfl rfl (by decide) hg32 dX5_lay_140 ?_
            refine lv_dup2_11 hx hb dX5_lay_141 rfl rfl ?_
            obtain ⟨hg33, h⟩ := rr_c_some h
            refine rr_iald (f := (σ 8)) (N := 100) hx hb hK hP 8 rfl rfl (by decide) hg33 dX5_lay_142 ?_
            refine rr_iconst hx hb dX5_lay_143 ?_
            refine rr_iadd hx hb dX5_lay_144 ?_
            refine rr_iast (f := (σ 8)) (N := 100) hx hb hK hP hD hS 8 rfl rfl (by decide) hg33 dX5_lay_145 (fun H locs hP hD hS => ?_)
            have hP : va_P g.1 vwCl (rr_wM g ad (rr_s (rr_s (rr_s σ 6 x2 (-1)) 7 x2 y3_68) 8 (σ 5 y3_68) ((σ 8 (σ 5 y3_68)) + 1)) hh) H := hP
            have hD : va_D A (rr_wM g ad (rr_s (rr_s (rr_s σ 6 x2 (-1)) 7 x2 y3_68) 8 (σ 5 y3_68) ((σ 8 (σ 5 y3_68)) + 1)) hh) := hD
            refine rr_iinc (k := 2) (a := x2) (lv' := [(2, .int (rr_i (x2 + 1))), (0, .ref (ad 0)), (1, .int (rr_i x1)), (3, .int (rr_i y3_68))]) hx hb dX5_lay_146 hl rfl (by decide) rfl (fun ls hl => ?_)
            refine lv_goto (tgt := 40) hx hb dX5_lay_149 (by decide) ?_
            exact ih (x2 + 1) (rr_s (rr_s (rr_s σ 6 x2 (-1)) 7 x2 y3_68) 8 (σ 5 y3_68) ((σ 8 (σ 5 y3_68)) + 1)) _ _ ls h hP hD hS (lv_sub hl [1, 2, 0] rfl) hk
  refine lv_aload_n hx hb dX5_lay_0 rfl (lv_at hl 0 rfl) ?_
  obtain ⟨v1, hw2, h⟩ := rr_b_some h
  refine rr_allV hD hS hA (va_runV (As := []) (rest := []) ⟨hx, hb, hml, hown, hts⟩ (kX5_layMarks l g ad _ hh σ v1 hw2) (cwV 0 hts gX5_lay_X5_layMarks rfl rfl rfl ⟨rfl, hd_X5_layMarks⟩ ⟨Nat.le_of_ble_eq_true rfl, Nat.le_of_ble_eq_true rfl⟩) ⟨rr_P_blind, va_recv hK.1 hP (ci := 5) (q0 := 0) rfl rfl, rr_P_pre hK hP hD⟩ rfl rfl hl.1 rfl (lv_room (Nat.le_of_ble_eq_true rfl)) dX5_lay_1 ⟨Nat.zero_le _, Nat.zero_le _⟩) (fun H locs hP hD hS => ?_)
  refine rr_iconst hx hb dX5_lay_4 ?_
  refine lv_istore_n (lv' := [(1, .int (rr_i 0)), (0, .ref (ad 0))]) hx hb dX5_lay_5 rfl hl (by decide) rfl (fun ls hl => ?_)
  refine hL5_lay_6 _ 1000 0 v1 _ _ ls h hP hD hS (lv_sub hl [1, 0] rfl) (fun σ_6 H locs ls h hP hD hS hl => ?_)
  refine lv_aload_n hx hb dX5_lay_25 rfl (lv_at hl 0 rfl) ?_
  obtain ⟨v6, hw7, h⟩ := rr_b_some h
  refine rr_callI (va_runV (As := []) (rest := []) ⟨hx, hb, hml, hown, hts⟩ (kX5_weights l g ad hh σ_6 v6 hw7) (cwV 0 hts gX5_lay_X5_weights rfl rfl rfl ⟨rfl, hd_X5_weights⟩ ⟨Nat.le_of_ble_eq_true rfl, Nat.le_of_ble_eq_true rfl⟩) ⟨rr_R_blind, va_recv hK.1 hP (ci := 5) (q0 := 0) rfl rfl, rr_R_pre hK hP⟩ rfl rfl hl.1 rfl (lv_room (Nat.le_of_ble_eq_true rfl)) dX5_lay_26 ⟨Nat.zero_le _, Nat.zero_le _⟩) ?_
  obtain ⟨hg8, h⟩ := rr_c_some h
  refine rr_if_ne (tgt := 36) hx hb dX5_lay_29 (by decide) hg8 (fun c9 => ?_) (fun c9 => ?_)
  · rw [if_neg c9] at h
    refine rr_iconst hx hb dX5_lay_36 ?_
    refine lv_istore_n (lv' := [(1, .int (rr_i 0)), (0, .ref (ad 0))]) hx hb dX5_lay_37 rfl hl (by decide) rfl (fun ls hl => ?_)
    refine rr_iconst hx hb dX5_lay_38 ?_
    refine lv_istore_n (lv' := [(2, .int (rr_i 0)), (1, .int (rr_i 0)), (0, .ref (ad 0))]) hx hb dX5_lay_39 rfl hl (by decide) rfl (fun ls hl => ?_)
    refine hL5_lay_40 0 _ 1000 0 σ_6 _ _ ls h hP hD hS (lv_sub hl [2, 1, 0] rfl) (fun σ_40 H locs ls h hP hD hS hl => ?_)
    exact hret _ _ _ _ _ h hP hD hS dX5_lay_152
  · rw [if_pos c9] at h
    refine rr_iconst hx hb dX5_lay_32 ?_
    refine lv_goto (tgt := 37) hx hb dX5_lay_33 (by decide) ?_
    refine lv_istore_n (lv' := [(1, .int (rr_i 1)), (0, .ref (ad 0))]) hx hb dX5_lay_37 rfl hl (by decide) rfl (fun ls hl => ?_)
    refine rr_iconst hx hb dX5_lay_38 ?_
    refine lv_istore_n (lv' := [(2, .int (rr_i 0)), (1, .int (rr_i 1)), (0, .ref (ad 0))]) hx hb dX5_lay_39 rfl hl (by decide) rfl (fun ls hl => ?_)
    refine hL5_lay_40 1 _ 1000 0 σ_6 _ _ ls h hP hD hS (lv_sub hl [2, 1, 0] rfl) (fun σ_40 H locs ls h hP hD hS hl => ?_)
    exact hret _ _ _ _ _ h hP hD hS dX5_lay_152
-- RoomRingModel.in
abbrev rm_X5_in : Room := { frames := 0, cells := 0, slots := 0, locals := 0 }
theorem hd_X5_in : yX5_in.cls ≠ "java/lang/invoke/MethodHandle" ∧ yX5_in.cls ≠ "java/lang/invoke/VarHandle" ∧ (parseMethodDescriptor yX5_in.desc).map (fun d => d.parameters.length) = some 3 := by decide +kernel
set_option maxHeartbeats 4000000 in
set_option maxRecDepth 100000 in
theorem kX5_in (l : Launch) (g : rr_G) (x0 : Int) (x1 : Int) (x2 : Int) (out : Int) (h : M5_in x0 x1 x2 = some out) : Met l yX5_in wsX5_in rm_X5_in (rr_R g [.int (rr_i x0), .int (rr_i x1), .int (rr_i x2)] (([] : va_W))) (vp_Si (fun x => x = rr_i out)) 0 0 (fun _ => False) := by
  refine rr_roZ (cc := cX5_in) (maxL := 3) (by decide) rfl (Nat.le_of_ble_eq_true rfl) ?_
  intro p e s m ar below meth c Q ls hx hb hml hown hts hK hP hret hl
  have hown : s.vm.findClass RX5 = some m.cls := hown
  have hl : lv_has ls 3 [(0, .int (rr_i x0)), (1, .int (rr_i x1)), (2, .int (rr_i x2))] := hl
  unfold M5_in at h
  refine lv_iload_n hx hb dX5_in_0 rfl (lv_at hl 0 rfl) ?_
  refine lv_iload_n hx hb dX5_in_1 rfl (lv_at hl 1 rfl) ?_
  obtain ⟨hg1, h⟩ := rr_c_some h
  refine rr_icmp_lt (tgt := 14) hx hb dX5_in_2 (by decide) hg1.1 hg1.2 (fun c2 => ?_) (fun c2 => ?_)
  · rw [if_pos c2] at h
    refine rr_iconst hx hb dX5_in_14 ?_
    exact hret _ _ _ h (by decide) dX5_in_15
  · rw [if_neg c2] at h
    refine lv_iload_n hx hb dX5_in_5 rfl (lv_at hl 0 rfl) ?_
    refine lv_iload_n hx hb dX5_in_6 rfl (lv_at hl 2 rfl) ?_
    obtain ⟨hg3, h⟩ := rr_c_some h
    refine rr_icmp_gt (tgt := 14) hx hb dX5_in_7 (by decide) hg1.1 hg3 (fun c4 => ?_) (fun c4 => ?_)
    · rw [if_pos c4] at h
      refine rr_iconst hx hb dX5_in_14 ?_
      exact hret _ _ _ h (by decide) dX5_in_15
    · rw [if_neg c4] at h
      refine rr_iconst hx hb dX5_in_10 ?_
      refine lv_goto (tgt := 15) hx hb dX5_in_11 (by decide) ?_
      exact hret _ _ _ h (by decide) dX5_in_15
-- RoomRingModel.refuses
abbrev rm_X5_refuses : Room := { frames := 0, cells := 0, slots := 0, locals := 0 }
theorem hd_X5_refuses : yX5_refuses.cls ≠ "java/lang/invoke/MethodHandle" ∧ yX5_refuses.cls ≠ "java/lang/invoke/VarHandle" ∧ (parseMethodDescriptor yX5_refuses.desc).map (fun d => d.parameters.length) = some 1 := by decide +kernel
set_option maxHeartbeats 4000000 in
set_option maxRecDepth 100000 in
theorem kX5_refuses (l : Launch) (g : rr_G) (ad : Nat → Nat) (sz : Nat) (hh : Int) (x1 : Int) (σ : rr_T) (out : (Int × rr_T)) (h : M5_refuses x1 σ = some out) : Met l yX5_refuses wsX5_refuses rm_X5_refuses (rr_P g [.ref (ad 0), .int (rr_i x1)] (rr_wM g ad σ hh) sz) (rr_Qi g out.1 (rr_wM g ad out.2 hh) (va_A (rr_wM g ad σ hh) sz)) 0 0 (va_A (rr_wM g ad σ hh) sz) := by
  refine rr_rwI (cc := cX5_refuses) (maxL := 2) (fun σ => rr_wM g ad σ hh) σ out (by decide) rfl (Nat.le_of_ble_eq_true rfl) ?_
  intro p e s m ar below meth c Q ls A hx hb hml hown hts hK hA hP hD hS hret hl
  have hP : va_P g.1 vwCl (rr_wM g ad σ hh) s.heap := hP
  have hD : va_D A (rr_wM g ad σ hh) := hD
  have hown : s.vm.findClass RX5 = some m.cls := hown
  have hl : lv_has ls 2 [(0, .ref (ad 0)), (1, .int (rr_i x1))] := hl
  have hinX5 : ∀ w ∈ u_ws RX5 TX5 19, w ∈ wsX5_refuses := by decide +kernel
  have hk_0 : (Cond.fieldLink RX5 19 "RoomRingModel" "refused" "[I").before ar s = true := hts _ (List.mem_of_getElem? (i := 1) (by decide +kernel))
  unfold M5_refuses at h
  refine lv_aload_n hx hb dX5_refuses_0 rfl (lv_at hl 0 rfl) ?_
  refine va_get (D := g.1) (ci := 5) (v := .ref (ad 4)) (C := RX5) (T := TX5) (N := 19) hx hb hts hinX5 hown hK.1 hP 0 rfl rfl 4 (by decide) hk_0 (fun _ h9 => h9) rfl dX5_refuses_1 ?_
  refine rr_bipush hx hb dX5_refuses_4 (by decide +kernel) ?_
  refine lv_iload_n hx hb dX5_refuses_6 rfl (lv_at hl 1 rfl) ?_
  refine rr_isub hx hb dX5_refuses_7 ?_
  refine lv_dup2_11 hx hb dX5_refuses_8 rfl rfl ?_
  obtain ⟨hg1, h⟩ := rr_c_some h
  refine rr_iald (f := (σ 4)) (N := 3) hx hb hK hP 4 rfl rfl (by decide) hg1 dX5_refuses_9 ?_
  refine rr_iconst hx hb dX5_refuses_10 ?_
  refine rr_iadd hx hb dX5_refuses_11 ?_
  refine rr_iast (f := (σ 4)) (N := 3) hx hb hK hP hD hS 4 rfl rfl (by decide) hg1 dX5_refuses_12 (fun H locs hP hD hS => ?_)
  have hP : va_P g.1 vwCl (rr_wM g ad (rr_s σ 4 ((-2) - x1) ((σ 4 ((-2) - x1)) + 1)) hh) H := hP
  have hD : va_D A (rr_wM g ad (rr_s σ 4 ((-2) - x1) ((σ 4 ((-2) - x1)) + 1)) hh) := hD
  refine lv_iload_n hx hb dX5_refuses_13 rfl (lv_at hl 1 rfl) ?_
  exact hret _ _ _ _ _ _ h hP hD hS dX5_refuses_14
-- RoomRingModel.hold
abbrev rm_X5_hold : Room := { frames := 0, cells := 0, slots := 0, locals := 0 }
theorem hd_X5_hold : yX5_hold.cls ≠ "java/lang/invoke/MethodHandle" ∧ yX5_hold.cls ≠ "java/lang/invoke/VarHandle" ∧ (parseMethodDescriptor yX5_hold.desc).map (fun d => d.parameters.length) = some 0 := by decide +kernel
set_option maxHeartbeats 4000000 in
set_option maxRecDepth 100000 in
theorem kX5_hold (l : Launch) (g : rr_G) (ad : Nat → Nat) (sz : Nat) (hh : Int) (σ : rr_T) (out : rr_T) (h : M5_hold σ = some out) : Met l yX5_hold wsX5_hold rm_X5_hold (rr_P g [.ref (ad 0)] (rr_wM g ad σ hh) sz) (rr_Qv g (rr_wM g ad out hh) (va_A (rr_wM g ad σ hh) sz)) 0 0 (va_A (rr_wM g ad σ hh) sz) := by
  refine rr_rwV (cc := cX5_hold) (maxL := 2) (fun σ => rr_wM g ad σ hh) σ out (by decide) rfl (Nat.le_of_ble_eq_true rfl) ?_
  intro p e s m ar below meth c Q ls A hx hb hml hown hts hK hA hP hD hS hret hl
  have hP : va_P g.1 vwCl (rr_wM g ad σ hh) s.heap := hP
  have hD : va_D A (rr_wM g ad σ hh) := hD
  have hown : s.vm.findClass RX5 = some m.cls := hown
  have hl : lv_has ls 2 [(0, .ref (ad 0))] := hl
  have hinX5 : ∀ w ∈ u_ws RX5 TX5 19, w ∈ wsX5_hold := by decide +kernel
  have hk_0 : (Cond.fieldLink RX5 13 "RoomRingModel" "held" "[I").before ar s = true := hts _ (List.mem_of_getElem? (i := 1) (by decide +kernel))
  have hk_1 : (Cond.fieldLink RX5 7 "RoomRingModel" "now" "[I").before ar s = true := hts _ (List.mem_of_getElem? (i := 2) (by decide +kernel))
  have hk_2 : (Cond.fieldLink RX5 34 "RoomRingModel" "heldHost" "[I").before ar s = true := hts _ (List.mem_of_getElem? (i := 3) (by decide +kernel))
  have hk_3 : (Cond.fieldLink RX5 25 "RoomRingModel" "keyHost" "[I").before ar s = true := hts _ (List.mem_of_getElem? (i := 4) (by decide +kernel))
  unfold M5_hold at h
  have hL5_hold_2 : ∀ (K : rr_T → Option rr_T) (n : Nat) (x1 : Int) (σ : rr_T) (H : Heap) (locs : List Loc) (ls : Array Slot), L5_hold_2 K n x1 σ = some out → va_P g.1 vwCl (rr_wM g ad σ hh) H → va_D A (rr_wM g ad σ hh) → va_S A s.heap H locs → lv_has ls 2 [(0, .ref (ad 0)), (1, .int (rr_i x1))] → (∀ (τ9 : rr_T) (H : Heap) (locs : List Loc) (ls : Array Slot), K τ9 = some out → va_P g.1 vwCl (rr_wM g ad τ9 hh) H → va_D A (rr_wM g ad τ9 hh) → va_S A s.heap H locs → lv_has ls 2 [(0, .ref (ad 0))] → W p l e rm_X5_hold s m ar below meth c H locs 0 0 Q (F0 m 27 ls [])) → W p l e rm_X5_hold s m ar below meth c H locs 0 0 Q (F0 m 2 ls []) := by
    intro K n
    induction n with
    | zero => intro x1 σ H locs ls h hP hD hS hl hk; cases h
    | succ n ih =>
      intro x1 σ H locs ls h hP hD hS hl hk
      rw [L5_hold_2_s] at h
      refine lv_iload_n hx hb dX5_hold_2 rfl (lv_at hl 1 rfl) ?_
      refine rr_sipush hx hb dX5_hold_3 (by decide +kernel) ?_
      obtain ⟨hg1, h⟩ := rr_c_some h
      refine rr_icmp_ge (tgt := 27) hx hb dX5_hold_6 (by decide) hg1 (by decide) (fun c2 => ?_) (fun c2 => ?_)
      · rw [if_pos c2] at h
        exact hk σ _ _ ls h hP hD hS (lv_sub hl [0] rfl)
      · rw [if_neg c2] at h
        refine lv_aload_n hx hb dX5_hold_9 rfl (lv_at hl 0 rfl) ?_
        refine va_get (D := g.1) (ci := 5) (v := .ref (ad 2)) (C := RX5) (T := TX5) (N := 19) hx hb hts hinX5 hown hK.1 hP 0 rfl rfl 1 (by decide) hk_0 (fun _ h9 => h9) rfl dX5_hold_10 ?_
        refine lv_iload_n hx hb dX5_hold_13 rfl (lv_at hl 1 rfl) ?_
        refine lv_aload_n hx hb dX5_hold_14 rfl (lv_at hl 0 rfl) ?_
        refine va_get (D := g.1) (ci := 5) (v := .ref (ad 1)) (C := RX5) (T := TX5) (N := 19) hx hb hts hinX5 hown hK.1 hP 0 rfl rfl 0 (by decide) hk_1 (fun _ h9 => h9) rfl dX5_hold_15 ?_
        refine lv_iload_n hx hb dX5_hold_18 rfl (lv_at hl 1 rfl) ?_
        obtain ⟨hg3, h⟩ := rr_c_some h
        refine rr_iald (f := (σ 0)) (N := 143) hx hb hK hP 1 rfl rfl (by decide) hg3 dX5_hold_19 ?_
        refine rr_iast (f := (σ 1)) (N := 143) hx hb hK hP hD hS 2 rfl rfl (by decide) hg3 dX5_hold_20 (fun H locs hP hD hS => ?_)
        have hP : va_P g.1 vwCl (rr_wM g ad (rr_s σ 1 x1 (σ 0 x1)) hh) H := hP
        have hD : va_D A (rr_wM g ad (rr_s σ 1 x1 (σ 0 x1)) hh) := hD
        refine rr_iinc (k := 1) (a := x1) (lv' := [(1, .int (rr_i (x1 + 1))), (0, .ref (ad 0))]) hx hb dX5_hold_21 hl rfl (by decide) rfl (fun ls hl => ?_)
        refine lv_goto (tgt := 2) hx hb dX5_hold_24 (by decide) ?_
        exact ih (x1 + 1) (rr_s σ 1 x1 (σ 0 x1)) _ _ ls h hP hD hS (lv_sub hl [1, 0] rfl) hk
  have hL5_hold_29 : ∀ (K : rr_T → Option rr_T) (n : Nat) (x1 : Int) (σ : rr_T) (H : Heap) (locs : List Loc) (ls : Array Slot), L5_hold_29 K n x1 σ = some out → va_P g.1 vwCl (rr_wM g ad σ hh) H → va_D A (rr_wM g ad σ hh) → va_S A s.heap H locs → lv_has ls 2 [(0, .ref (ad 0)), (1, .int (rr_i x1))] → (∀ (τ9 : rr_T) (H : Heap) (locs : List Loc) (ls : Array Slot), K τ9 = some out → va_P g.1 vwCl (rr_wM g ad τ9 hh) H → va_D A (rr_wM g ad τ9 hh) → va_S A s.heap H locs → lv_has ls 2 [] → W p l e rm_X5_hold s m ar below meth c H locs 0 0 Q (F0 m 53 ls [])) → W p l e rm_X5_hold s m ar below meth c H locs 0 0 Q (F0 m 29 ls []) := by
    intro K n
    induction n with
    | zero => intro x1 σ H locs ls h hP hD hS hl hk; cases h
    | succ n ih =>
      intro x1 σ H locs ls h hP hD hS hl hk
      rw [L5_hold_29_s] at h
      refine lv_iload_n hx hb dX5_hold_29 rfl (lv_at hl 1 rfl) ?_
      refine rr_bipush hx hb dX5_hold_30 (by decide +kernel) ?_
      obtain ⟨hg4, h⟩ := rr_c_some h
      refine rr_icmp_ge (tgt := 53) hx hb dX5_hold_32 (by decide) hg4 (by decide) (fun c5 => ?_) (fun c5 => ?_)
      · rw [if_pos c5] at h
        exact hk σ _ _ ls h hP hD hS (lv_sub hl [] rfl)
      · rw [if_neg c5] at h
        refine lv_aload_n hx hb dX5_hold_35 rfl (lv_at hl 0 rfl) ?_
        refine va_get (D := g.1) (ci := 5) (v := .ref (ad 9)) (C := RX5) (T := TX5) (N := 19) hx hb hts hinX5 hown hK.1 hP 0 rfl rfl 9 (by decide) hk_2 (fun _ h9 => h9) rfl dX5_hold_36 ?_
        refine lv_iload_n hx hb dX5_hold_39 rfl (lv_at hl 1 rfl) ?_
        refine lv_aload_n hx hb dX5_hold_40 rfl (lv_at hl 0 rfl) ?_
        refine va_get (D := g.1) (ci := 5) (v := .ref (ad 6)) (C := RX5) (T := TX5) (N := 19) hx hb hts hinX5 hown hK.1 hP 0 rfl rfl 6 (by decide) hk_3 (fun _ h9 => h9) rfl dX5_hold_41 ?_
        refine lv_iload_n hx hb dX5_hold_44 rfl (lv_at hl 1 rfl) ?_
        obtain ⟨hg6, h⟩ := rr_c_some h
        refine rr_iald (f := (σ 6)) (N := 40) hx hb hK hP 6 rfl rfl (by decide) hg6 dX5_hold_45 ?_
        refine rr_iast (f := (σ 9)) (N := 40) hx hb hK hP hD hS 9 rfl rfl (by decide) hg6 dX5_hold_46 (fun H locs hP hD hS => ?_)
        have hP : va_P g.1 vwCl (rr_wM g ad (rr_s σ 9 x1 (σ 6 x1)) hh) H := hP
        have hD : va_D A (rr_wM g ad (rr_s σ 9 x1 (σ 6 x1)) hh) := hD
        refine rr_iinc (k := 1) (a := x1) (lv' := [(1, .int (rr_i (x1 + 1))), (0, .ref (ad 0))]) hx hb dX5_hold_47 hl rfl (by decide) rfl (fun ls hl => ?_)
        refine lv_goto (tgt := 29) hx hb dX5_hold_50 (by decide) ?_
        exact ih (x1 + 1) (rr_s σ 9 x1 (σ 6 x1)) _ _ ls h hP hD hS (lv_sub hl [1, 0] rfl) hk
  refine rr_iconst hx hb dX5_hold_0 ?_
  refine lv_istore_n (lv' := [(1, .int (rr_i 0)), (0, .ref (ad 0))]) hx hb dX5_hold_1 rfl hl (by decide) rfl (fun ls hl => ?_)
  refine hL5_hold_2 _ 1000 0 σ _ _ ls h hP hD hS (lv_sub hl [1, 0] rfl) (fun σ_2 H locs ls h hP hD hS hl => ?_)
  refine rr_iconst hx hb dX5_hold_27 ?_
  refine lv_istore_n (lv' := [(1, .int (rr_i 0)), (0, .ref (ad 0))]) hx hb dX5_hold_28 rfl hl (by decide) rfl (fun ls hl => ?_)
  refine hL5_hold_29 _ 1000 0 σ_2 _ _ ls h hP hD hS (lv_sub hl [1, 0] rfl) (fun σ_29 H locs ls h hP hD hS hl => ?_)
  exact hret _ _ _ _ _ h hP hD hS dX5_hold_53
-- RoomRingModel.release
abbrev rm_X5_release : Room := { frames := 0, cells := 0, slots := 0, locals := 0 }
theorem hd_X5_release : yX5_release.cls ≠ "java/lang/invoke/MethodHandle" ∧ yX5_release.cls ≠ "java/lang/invoke/VarHandle" ∧ (parseMethodDescriptor yX5_release.desc).map (fun d => d.parameters.length) = some 0 := by decide +kernel
set_option maxHeartbeats 4000000 in
set_option maxRecDepth 100000 in
theorem kX5_release (l : Launch) (g : rr_G) (ad : Nat → Nat) (sz : Nat) (hh : Int) (σ : rr_T) (out : rr_T) (h : M5_release σ = some out) : Met l yX5_release wsX5_release rm_X5_release (rr_P g [.ref (ad 0)] (rr_wM g ad σ hh) sz) (rr_Qv g (rr_wM g ad out hh) (va_A (rr_wM g ad σ hh) sz)) 0 0 (va_A (rr_wM g ad σ hh) sz) := by
  refine rr_rwV (cc := cX5_release) (maxL := 2) (fun σ => rr_wM g ad σ hh) σ out (by decide) rfl (Nat.le_of_ble_eq_true rfl) ?_
  intro p e s m ar below meth c Q ls A hx hb hml hown hts hK hA hP hD hS hret hl
  have hP : va_P g.1 vwCl (rr_wM g ad σ hh) s.heap := hP
  have hD : va_D A (rr_wM g ad σ hh) := hD
  have hown : s.vm.findClass RX5 = some m.cls := hown
  have hl : lv_has ls 2 [(0, .ref (ad 0))] := hl
  have hinX5 : ∀ w ∈ u_ws RX5 TX5 19, w ∈ wsX5_release := by decide +kernel
  have hk_0 : (Cond.fieldLink RX5 7 "RoomRingModel" "now" "[I").before ar s = true := hts _ (List.mem_of_getElem? (i := 1) (by decide +kernel))
  have hk_1 : (Cond.fieldLink RX5 13 "RoomRingModel" "held" "[I").before ar s = true := hts _ (List.mem_of_getElem? (i := 2) (by decide +kernel))
  unfold M5_release at h
  have hL5_release_2 : ∀ (K : rr_T → Option rr_T) (n : Nat) (x1 : Int) (σ : rr_T) (H : Heap) (locs : List Loc) (ls : Array Slot), L5_release_2 K n x1 σ = some out → va_P g.1 vwCl (rr_wM g ad σ hh) H → va_D A (rr_wM g ad σ hh) → va_S A s.heap H locs → lv_has ls 2 [(0, .ref (ad 0)), (1, .int (rr_i x1))] → (∀ (τ9 : rr_T) (H : Heap) (locs : List Loc) (ls : Array Slot), K τ9 = some out → va_P g.1 vwCl (rr_wM g ad τ9 hh) H → va_D A (rr_wM g ad τ9 hh) → va_S A s.heap H locs → lv_has ls 2 [] → W p l e rm_X5_release s m ar below meth c H locs 0 0 Q (F0 m 27 ls [])) → W p l e rm_X5_release s m ar below meth c H locs 0 0 Q (F0 m 2 ls []) := by
    intro K n
    induction n with
    | zero => intro x1 σ H locs ls h hP hD hS hl hk; cases h
    | succ n ih =>
      intro x1 σ H locs ls h hP hD hS hl hk
      rw [L5_release_2_s] at h
      refine lv_iload_n hx hb dX5_release_2 rfl (lv_at hl 1 rfl) ?_
      refine rr_sipush hx hb dX5_release_3 (by decide +kernel) ?_
      obtain ⟨hg1, h⟩ := rr_c_some h
      refine rr_icmp_ge (tgt := 27) hx hb dX5_release_6 (by decide) hg1 (by decide) (fun c2 => ?_) (fun c2 => ?_)
      · rw [if_pos c2] at h
        exact hk σ _ _ ls h hP hD hS (lv_sub hl [] rfl)
      · rw [if_neg c2] at h
        refine lv_aload_n hx hb dX5_release_9 rfl (lv_at hl 0 rfl) ?_
        refine va_get (D := g.1) (ci := 5) (v := .ref (ad 1)) (C := RX5) (T := TX5) (N := 19) hx hb hts hinX5 hown hK.1 hP 0 rfl rfl 0 (by decide) hk_0 (fun _ h9 => h9) rfl dX5_release_10 ?_
        refine lv_iload_n hx hb dX5_release_13 rfl (lv_at hl 1 rfl) ?_
        refine lv_aload_n hx hb dX5_release_14 rfl (lv_at hl 0 rfl) ?_
        refine va_get (D := g.1) (ci := 5) (v := .ref (ad 2)) (C := RX5) (T := TX5) (N := 19) hx hb hts hinX5 hown hK.1 hP 0 rfl rfl 1 (by decide) hk_1 (fun _ h9 => h9) rfl dX5_release_15 ?_
        refine lv_iload_n hx hb dX5_release_18 rfl (lv_at hl 1 rfl) ?_
        obtain ⟨hg3, h⟩ := rr_c_some h
        refine rr_iald (f := (σ 1)) (N := 143) hx hb hK hP 2 rfl rfl (by decide) hg3 dX5_release_19 ?_
        refine rr_iast (f := (σ 0)) (N := 143) hx hb hK hP hD hS 1 rfl rfl (by decide) hg3 dX5_release_20 (fun H locs hP hD hS => ?_)
        have hP : va_P g.1 vwCl (rr_wM g ad (rr_s σ 0 x1 (σ 1 x1)) hh) H := hP
        have hD : va_D A (rr_wM g ad (rr_s σ 0 x1 (σ 1 x1)) hh) := hD
        refine rr_iinc (k := 1) (a := x1) (lv' := [(1, .int (rr_i (x1 + 1))), (0, .ref (ad 0))]) hx hb dX5_release_21 hl rfl (by decide) rfl (fun ls hl => ?_)
        refine lv_goto (tgt := 2) hx hb dX5_release_24 (by decide) ?_
        exact ih (x1 + 1) (rr_s σ 0 x1 (σ 1 x1)) _ _ ls h hP hD hS (lv_sub hl [1, 0] rfl) hk
  refine rr_iconst hx hb dX5_release_0 ?_
  refine lv_istore_n (lv' := [(1, .int (rr_i 0)), (0, .ref (ad 0))]) hx hb dX5_release_1 rfl hl (by decide) rfl (fun ls hl => ?_)
  refine hL5_release_2 _ 1000 0 σ _ _ ls h hP hD hS (lv_sub hl [1, 0] rfl) (fun σ_2 H locs ls h hP hD hS hl => ?_)
  exact hret _ _ _ _ _ h hP hD hS dX5_release_27
-- RoomRingModel.moved
abbrev rm_X5_moved : Room := { frames := 0, cells := 0, slots := 0, locals := 0 }
theorem hd_X5_moved : yX5_moved.cls ≠ "java/lang/invoke/MethodHandle" ∧ yX5_moved.cls ≠ "java/lang/invoke/VarHandle" ∧ (parseMethodDescriptor yX5_moved.desc).map (fun d => d.parameters.length) = some 0 := by decide +kernel
set_option maxHeartbeats 4000000 in
set_option maxRecDepth 100000 in
theorem kX5_moved (l : Launch) (g : rr_G) (ad : Nat → Nat) (hh : Int) (σ : rr_T) (out : Int) (h : M5_moved σ = some out) : Met l yX5_moved wsX5_moved rm_X5_moved (rr_R g [.ref (ad 0)] (rr_wM g ad σ hh)) (vp_Si (fun x => x = rr_i out)) 0 0 (fun _ => False) := by
  refine rr_roI (cc := cX5_moved) (maxL := 4) (by decide) rfl (Nat.le_of_ble_eq_true rfl) ?_
  intro p e s m ar below meth c Q ls hx hb hml hown hts hK hP hret hl
  have hown : s.vm.findClass RX5 = some m.cls := hown
  have hl : lv_has ls 4 [(0, .ref (ad 0))] := hl
  have hinX5 : ∀ w ∈ u_ws RX5 TX5 19, w ∈ wsX5_moved := by decide +kernel
  have hk_0 : (Cond.fieldLink RX5 7 "RoomRingModel" "now" "[I").before ar s = true := hts _ (List.mem_of_getElem? (i := 1) (by decide +kernel))
  have hk_1 : (Cond.fieldLink RX5 13 "RoomRingModel" "held" "[I").before ar s = true := hts _ (List.mem_of_getElem? (i := 2) (by decide +kernel))
  have hk_2 : (Cond.fieldLink RX5 25 "RoomRingModel" "keyHost" "[I").before ar s = true := hts _ (List.mem_of_getElem? (i := 3) (by decide +kernel))
  have hk_3 : (Cond.fieldLink RX5 34 "RoomRingModel" "heldHost" "[I").before ar s = true := hts _ (List.mem_of_getElem? (i := 4) (by decide +kernel))
  unfold M5_moved at h
  have hL5_moved_18 : ∀ (x2 : Int) (K : Int → Option Int) (n : Nat) (x1 : Int) (x3 : Int) (ls : Array Slot), L5_moved_18 σ x2 K n x1 x3 = some out → lv_has ls 4 [(0, .ref (ad 0)), (1, .int (rr_i x1)), (2, .int (rr_i x2)), (3, .int (rr_i x3))] → (∀ (z1 : Int) (ls : Array Slot), K z1 = some out → lv_has ls 4 [(0, .ref (ad 0)), (1, .int (rr_i z1)), (2, .int (rr_i x2))] → W p l e rm_X5_moved s m ar below meth c s.heap [] 0 0 Q (F0 m 80 ls [])) → W p l e rm_X5_moved s m ar below meth c s.heap [] 0 0 Q (F0 m 18 ls []) := by
    intro x2 K n
    induction n with
    | zero => intro x1 x3 ls h hl hk; cases h
    | succ n ih =>
      intro x1 x3 ls h hl hk
      rw [L5_moved_18_s] at h
      refine lv_iload_n hx hb dX5_moved_18 rfl (lv_at hl 3 rfl) ?_
      refine lv_aload_n hx hb dX5_moved_19 rfl (lv_at hl 0 rfl) ?_
      refine va_get (D := g.1) (ci := 5) (v := .ref (ad 2)) (C := RX5) (T := TX5) (N := 19) hx hb hts hinX5 hown hK.1 hP 0 rfl rfl 1 (by decide) hk_1 (fun _ h9 => h9) rfl dX5_moved_20 ?_
      refine rr_sipush hx hb dX5_moved_23 (by decide +kernel) ?_
      refine rr_iald (f := (σ 1)) (N := 143) hx hb hK hP 2 rfl rfl (by decide) (by decide) dX5_moved_26 ?_
      obtain ⟨hg3, h⟩ := rr_c_some h
      refine rr_icmp_ge (tgt := 80) hx hb dX5_moved_27 (by decide) hg3.1 hg3.2 (fun c4 => ?_) (fun c4 => ?_)
      · rw [if_pos c4] at h
        exact hk x1 ls h (lv_sub hl [0, 1, 2] rfl)
      · rw [if_neg c4] at h
        refine lv_iload_n hx hb dX5_moved_30 rfl (lv_at hl 1 rfl) ?_
        refine lv_aload_n hx hb dX5_moved_31 rfl (lv_at hl 0 rfl) ?_
        refine va_get (D := g.1) (ci := 5) (v := .ref (ad 1)) (C := RX5) (T := TX5) (N := 19) hx hb hts hinX5 hown hK.1 hP 0 rfl rfl 0 (by decide) hk_0 (fun _ h9 => h9) rfl dX5_moved_32 ?_
        refine rr_bipush hx hb dX5_moved_35 (by decide +kernel) ?_
        refine lv_iload_n hx hb dX5_moved_37 rfl (lv_at hl 2 rfl) ?_
        refine rr_iadd hx hb dX5_moved_38 ?_
        obtain ⟨hg5, h⟩ := rr_c_some h
        refine rr_iald (f := (σ 0)) (N := 143) hx hb hK hP 1 rfl rfl (by decide) hg5 dX5_moved_39 ?_
        refine lv_aload_n hx hb dX5_moved_40 rfl (lv_at hl 0 rfl) ?_
        refine va_get (D := g.1) (ci := 5) (v := .ref (ad 2)) (C := RX5) (T := TX5) (N := 19) hx hb hts hinX5 hown hK.1 hP 0 rfl rfl 1 (by decide) hk_1 (fun _ h9 => h9) rfl dX5_moved_41 ?_
        refine rr_bipush hx hb dX5_moved_44 (by decide +kernel) ?_
        refine lv_iload_n hx hb dX5_moved_46 rfl (lv_at hl 3 rfl) ?_
        refine rr_iadd hx hb dX5_moved_47 ?_
        obtain ⟨hg6, h⟩ := rr_c_some h
        refine rr_iald (f := (σ 1)) (N := 143) hx hb hK hP 2 rfl rfl (by decide) hg6 dX5_moved_48 ?_
        obtain ⟨hg7, h⟩ := rr_c_some h
        refine rr_icmp_ne (tgt := 71) hx hb dX5_moved_49 (by decide) hg7.1 hg7.2 (fun c8 => ?_) (fun c8 => ?_)
        · rw [if_neg c8] at h
          refine rr_iconst hx hb dX5_moved_71 ?_
          refine rr_iadd hx hb dX5_moved_72 ?_
          refine lv_istore_n (lv' := [(1, .int (rr_i (x1 + 0))), (0, .ref (ad 0)), (2, .int (rr_i x2)), (3, .int (rr_i x3))]) hx hb dX5_moved_73 rfl hl (by decide) rfl (fun ls hl => ?_)
          refine rr_iinc (k := 3) (a := x3) (lv' := [(3, .int (rr_i (x3 + 1))), (1, .int (rr_i (x1 + 0))), (0, .ref (ad 0)), (2, .int (rr_i x2))]) hx hb dX5_moved_74 hl rfl (by decide) rfl (fun ls hl => ?_)
          refine lv_goto (tgt := 18) hx hb dX5_moved_77 (by decide) ?_
          exact ih (x1 + 0) (x3 + 1) ls h (lv_sub hl [2, 1, 3, 0] rfl) hk
        · rw [if_pos c8] at h
          refine lv_aload_n hx hb dX5_moved_52 rfl (lv_at hl 0 rfl) ?_
          refine va_get (D := g.1) (ci := 5) (v := .ref (ad 6)) (C := RX5) (T := TX5) (N := 19) hx hb hts hinX5 hown hK.1 hP 0 rfl rfl 6 (by decide) hk_2 (fun _ h9 => h9) rfl dX5_moved_53 ?_
          refine lv_iload_n hx hb dX5_moved_56 rfl (lv_at hl 2 rfl) ?_
          obtain ⟨hg9, h⟩ := rr_c_some h
          refine rr_iald (f := (σ 6)) (N := 40) hx hb hK hP 6 rfl rfl (by decide) hg9 dX5_moved_57 ?_
          refine lv_aload_n hx hb dX5_moved_58 rfl (lv_at hl 0 rfl) ?_
          refine va_get (D := g.1) (ci := 5) (v := .ref (ad 9)) (C := RX5) (T := TX5) (N := 19) hx hb hts hinX5 hown hK.1 hP 0 rfl rfl 9 (by decide) hk_3 (fun _ h9 => h9) rfl dX5_moved_59 ?_
          refine lv_iload_n hx hb dX5_moved_62 rfl (lv_at hl 3 rfl) ?_
          obtain ⟨hg10, h⟩ := rr_c_some h
          refine rr_iald (f := (σ 9)) (N := 40) hx hb hK hP 9 rfl rfl (by decide) hg10 dX5_moved_63 ?_
          obtain ⟨hg11, h⟩ := rr_c_some h
          refine rr_icmp_eq (tgt := 71) hx hb dX5_moved_64 (by decide) hg11.1 hg11.2 (fun c12 => ?_) (fun c12 => ?_)
          · rw [if_pos c12] at h
            refine rr_iconst hx hb dX5_moved_71 ?_
            refine rr_iadd hx hb dX5_moved_72 ?_
            refine lv_istore_n (lv' := [(1, .int (rr_i (x1 + 0))), (0, .ref (ad 0)), (2, .int (rr_i x2)), (3, .int (rr_i x3))]) hx hb dX5_moved_73 rfl hl (by decide) rfl (fun ls hl => ?_)
            refine rr_iinc (k := 3) (a := x3) (lv' := [(3, .int (rr_i (x3 + 1))), (1, .int (rr_i (x1 + 0))), (0, .ref (ad 0)), (2, .int (rr_i x2))]) hx hb dX5_moved_74 hl rfl (by decide) rfl (fun ls hl => ?_)
            refine lv_goto (tgt := 18) hx hb dX5_moved_77 (by decide) ?_
            exact ih (x1 + 0) (x3 + 1) ls h (lv_sub hl [2, 1, 3, 0] rfl) hk
          · rw [if_neg c12] at h
            refine rr_iconst hx hb dX5_moved_67 ?_
            refine lv_goto (tgt := 72) hx hb dX5_moved_68 (by decide) ?_
            refine rr_iadd hx hb dX5_moved_72 ?_
            refine lv_istore_n (lv' := [(1, .int (rr_i (x1 + 1))), (0, .ref (ad 0)), (2, .int (rr_i x2)), (3, .int (rr_i x3))]) hx hb dX5_moved_73 rfl hl (by decide) rfl (fun ls hl => ?_)
            refine rr_iinc (k := 3) (a := x3) (lv' := [(3, .int (rr_i (x3 + 1))), (1, .int (rr_i (x1 + 1))), (0, .ref (ad 0)), (2, .int (rr_i x2))]) hx hb dX5_moved_74 hl rfl (by decide) rfl (fun ls hl => ?_)
            refine lv_goto (tgt := 18) hx hb dX5_moved_77 (by decide) ?_
            exact ih (x1 + 1) (x3 + 1) ls h (lv_sub hl [2, 1, 3, 0] rfl) hk
  have hL5_moved_4 : ∀ (K : Int → Option Int) (n : Nat) (x1 : Int) (x2 : Int) (ls : Array Slot), L5_moved_4 σ K n x1 x2 = some out → lv_has ls 4 [(0, .ref (ad 0)), (1, .int (rr_i x1)), (2, .int (rr_i x2))] → (∀ (z1 : Int) (ls : Array Slot), K z1 = some out → lv_has ls 4 [(1, .int (rr_i z1))] → W p l e rm_X5_moved s m ar below meth c s.heap [] 0 0 Q (F0 m 86 ls [])) → W p l e rm_X5_moved s m ar below meth c s.heap [] 0 0 Q (F0 m 4 ls []) := by
    intro K n
    induction n with
    | zero => intro x1 x2 ls h hl hk; cases h
    | succ n ih =>
      intro x1 x2 ls h hl hk
      rw [L5_moved_4_s] at h
      refine lv_iload_n hx hb dX5_moved_4 rfl (lv_at hl 2 rfl) ?_
      refine lv_aload_n hx hb dX5_moved_5 rfl (lv_at hl 0 rfl) ?_
      refine va_get (D := g.1) (ci := 5) (v := .ref (ad 1)) (C := RX5) (T := TX5) (N := 19) hx hb hts hinX5 hown hK.1 hP 0 rfl rfl 0 (by decide) hk_0 (fun _ h9 => h9) rfl dX5_moved_6 ?_
      refine rr_sipush hx hb dX5_moved_9 (by decide +kernel) ?_
      refine rr_iald (f := (σ 0)) (N := 143) hx hb hK hP 1 rfl rfl (by decide) (by decide) dX5_moved_12 ?_
      obtain ⟨hg1, h⟩ := rr_c_some h
      refine rr_icmp_ge (tgt := 86) hx hb dX5_moved_13 (by decide) hg1.1 hg1.2 (fun c2 => ?_) (fun c2 => ?_)
      · rw [if_pos c2] at h
        exact hk x1 ls h (lv_sub hl [1] rfl)
      · rw [if_neg c2] at h
        refine rr_iconst hx hb dX5_moved_16 ?_
        refine lv_istore_n (lv' := [(3, .int (rr_i 0)), (0, .ref (ad 0)), (1, .int (rr_i x1)), (2, .int (rr_i x2))]) hx hb dX5_moved_17 rfl hl (by decide) rfl (fun ls hl => ?_)
        refine hL5_moved_18 x2 _ 1000 x1 0 ls h (lv_sub hl [1, 2, 3, 0] rfl) (fun y1_18 ls h hl => ?_)
        refine rr_iinc (k := 2) (a := x2) (lv' := [(2, .int (rr_i (x2 + 1))), (0, .ref (ad 0)), (1, .int (rr_i y1_18))]) hx hb dX5_moved_80 hl rfl (by decide) rfl (fun ls hl => ?_)
        refine lv_goto (tgt := 4) hx hb dX5_moved_83 (by decide) ?_
        exact ih y1_18 (x2 + 1) ls h (lv_sub hl [1, 2, 0] rfl) hk
  refine rr_iconst hx hb dX5_moved_0 ?_
  refine lv_istore_n (lv' := [(1, .int (rr_i 0)), (0, .ref (ad 0))]) hx hb dX5_moved_1 rfl hl (by decide) rfl (fun ls hl => ?_)
  refine rr_iconst hx hb dX5_moved_2 ?_
  refine lv_istore_n (lv' := [(2, .int (rr_i 0)), (1, .int (rr_i 0)), (0, .ref (ad 0))]) hx hb dX5_moved_3 rfl hl (by decide) rfl (fun ls hl => ?_)
  refine hL5_moved_4 _ 1000 0 0 ls h (lv_sub hl [2, 1, 0] rfl) (fun y1_4 ls h hl => ?_)
  refine lv_iload_n hx hb dX5_moved_86 rfl (lv_at hl 0 rfl) ?_
  exact hret _ _ _ h dX5_moved_87
-- RoomRingModel.push
abbrev rm_X5_push : Room := { frames := 4, cells := 0, slots := 0, locals := 91 }
theorem hd_X5_push : yX5_push.cls ≠ "java/lang/invoke/MethodHandle" ∧ yX5_push.cls ≠ "java/lang/invoke/VarHandle" ∧ (parseMethodDescriptor yX5_push.desc).map (fun d => d.parameters.length) = some 0 := by decide +kernel
set_option maxHeartbeats 4000000 in
set_option maxRecDepth 100000 in
theorem kX5_push (l : Launch) (g : rr_G) (ad : Nat → Nat) (sz : Nat) (hh : Int) (σ : rr_T) (out : rr_T) (h : M5_push σ = some out) : Met l yX5_push wsX5_push rm_X5_push (rr_P g [.ref (ad 0)] (rr_wM g ad σ hh) sz) (rr_Qv g (rr_wM g ad out hh) (va_A (rr_wM g ad σ hh) sz)) 0 0 (va_A (rr_wM g ad σ hh) sz) := by
  refine rr_rwV (cc := cX5_push) (maxL := 2) (fun σ => rr_wM g ad σ hh) σ out (by decide) rfl (Nat.le_of_ble_eq_true rfl) ?_
  intro p e s m ar below meth c Q ls A hx hb hml hown hts hK hA hP hD hS hret hl
  have hP : va_P g.1 vwCl (rr_wM g ad σ hh) s.heap := hP
  have hD : va_D A (rr_wM g ad σ hh) := hD
  have hown : s.vm.findClass RX5 = some m.cls := hown
  have hl : lv_has ls 2 [(0, .ref (ad 0))] := hl
  have hinX5 : ∀ w ∈ u_ws RX5 TX5 19, w ∈ wsX5_push := by decide +kernel
  have hk_0 : (Cond.fieldLink RX5 7 "RoomRingModel" "now" "[I").before ar s = true := hts _ (List.mem_of_getElem? (i := 1) (by decide +kernel))
  have hk_1 : (Cond.fieldLink RX5 78 "RoomRingModel" "pasts" "I").before ar s = true := hts _ (List.mem_of_getElem? (i := 2) (by decide +kernel))
  have hk_2 : (Cond.fieldLink RX5 16 "RoomRingModel" "past" "[I").before ar s = true := hts _ (List.mem_of_getElem? (i := 3) (by decide +kernel))
  have hk_3 : (Cond.fieldLink RX5 13 "RoomRingModel" "held" "[I").before ar s = true := hts _ (List.mem_of_getElem? (i := 4) (by decide +kernel))
  unfold M5_push at h
  have hL5_push_67 : ∀ (K : rr_T → Option rr_T) (n : Nat) (x1 : Int) (σ : rr_T) (H : Heap) (locs : List Loc) (ls : Array Slot), L5_push_67 K n x1 σ = some out → va_P g.1 vwCl (rr_wM g ad σ hh) H → va_D A (rr_wM g ad σ hh) → va_S A s.heap H locs → lv_has ls 2 [(0, .ref (ad 0)), (1, .int (rr_i x1))] → (∀ (τ9 : rr_T) (H : Heap) (locs : List Loc) (ls : Array Slot), K τ9 = some out → va_P g.1 vwCl (rr_wM g ad τ9 hh) H → va_D A (rr_wM g ad τ9 hh) → va_S A s.heap H locs → lv_has ls 2 [(0, .ref (ad 0))] → W p l e rm_X5_push s m ar below meth c H locs 0 0 Q (F0 m 101 ls [])) → W p l e rm_X5_push s m ar below meth c H locs 0 0 Q (F0 m 67 ls []) := by
    intro K n
    induction n with
    | zero => intro x1 σ H locs ls h hP hD hS hl hk; cases h
    | succ n ih =>
      intro x1 σ H locs ls h hP hD hS hl hk
      rw [L5_push_67_s] at h
      refine lv_iload_n hx hb dX5_push_67 rfl (lv_at hl 1 rfl) ?_
      refine rr_sipush hx hb dX5_push_68 (by decide +kernel) ?_
      obtain ⟨hg7, h⟩ := rr_c_some h
      refine rr_icmp_ge (tgt := 101) hx hb dX5_push_71 (by decide) hg7 (by decide) (fun c8 => ?_) (fun c8 => ?_)
      · rw [if_pos c8] at h
        exact hk σ _ _ ls h hP hD hS (lv_sub hl [0] rfl)
      · rw [if_neg c8] at h
        refine lv_aload_n hx hb dX5_push_74 rfl (lv_at hl 0 rfl) ?_
        refine va_get (D := g.1) (ci := 5) (v := .ref (ad 3)) (C := RX5) (T := TX5) (N := 19) hx hb hts hinX5 hown hK.1 hP 0 rfl rfl 2 (by decide) hk_2 (fun _ h9 => h9) rfl dX5_push_75 ?_
        refine rr_sipush hx hb dX5_push_78 (by decide +kernel) ?_
        refine lv_aload_n hx hb dX5_push_81 rfl (lv_at hl 0 rfl) ?_
        refine va_get (D := g.1) (ci := 5) (v := .int (rr_i (σ 3 0))) (C := RX5) (T := TX5) (N := 19) hx hb hts hinX5 hown hK.1 hP 0 rfl rfl 3 (by decide) hk_1 (fun _ h9 => h9) rfl dX5_push_82 ?_
        refine rr_imul hx hb dX5_push_85 ?_
        refine lv_iload_n hx hb dX5_push_86 rfl (lv_at hl 1 rfl) ?_
        refine rr_iadd hx hb dX5_push_87 ?_
        refine lv_aload_n hx hb dX5_push_88 rfl (lv_at hl 0 rfl) ?_
        refine va_get (D := g.1) (ci := 5) (v := .ref (ad 2)) (C := RX5) (T := TX5) (N := 19) hx hb hts hinX5 hown hK.1 hP 0 rfl rfl 1 (by decide) hk_3 (fun _ h9 => h9) rfl dX5_push_89 ?_
        refine lv_iload_n hx hb dX5_push_92 rfl (lv_at hl 1 rfl) ?_
        obtain ⟨hg9, h⟩ := rr_c_some h
        refine rr_iald (f := (σ 1)) (N := 143) hx hb hK hP 2 rfl rfl (by decide) hg9 dX5_push_93 ?_
        obtain ⟨hg10, h⟩ := rr_c_some h
        refine rr_iast (f := (σ 2)) (N := 715) hx hb hK hP hD hS 3 rfl rfl (by decide) hg10 dX5_push_94 (fun H locs hP hD hS => ?_)
        have hP : va_P g.1 vwCl (rr_wM g ad (rr_s σ 2 ((143 * (σ 3 0)) + x1) (σ 1 x1)) hh) H := hP
        have hD : va_D A (rr_wM g ad (rr_s σ 2 ((143 * (σ 3 0)) + x1) (σ 1 x1)) hh) := hD
        refine rr_iinc (k := 1) (a := x1) (lv' := [(1, .int (rr_i (x1 + 1))), (0, .ref (ad 0))]) hx hb dX5_push_95 hl rfl (by decide) rfl (fun ls hl => ?_)
        refine lv_goto (tgt := 67) hx hb dX5_push_98 (by decide) ?_
        exact ih (x1 + 1) (rr_s σ 2 ((143 * (σ 3 0)) + x1) (σ 1 x1)) _ _ ls h hP hD hS (lv_sub hl [1, 0] rfl) hk
  have hL5_push_26 : ∀ (K : rr_T → Option rr_T) (n : Nat) (x1 : Int) (σ : rr_T) (H : Heap) (locs : List Loc) (ls : Array Slot), L5_push_26 K n x1 σ = some out → va_P g.1 vwCl (rr_wM g ad σ hh) H → va_D A (rr_wM g ad σ hh) → va_S A s.heap H locs → lv_has ls 2 [(0, .ref (ad 0)), (1, .int (rr_i x1))] → (∀ (τ9 : rr_T) (H : Heap) (locs : List Loc) (ls : Array Slot), K τ9 = some out → va_P g.1 vwCl (rr_wM g ad τ9 hh) H → va_D A (rr_wM g ad τ9 hh) → va_S A s.heap H locs → lv_has ls 2 [(0, .ref (ad 0))] → W p l e rm_X5_push s m ar below meth c H locs 0 0 Q (F0 m 55 ls [])) → W p l e rm_X5_push s m ar below meth c H locs 0 0 Q (F0 m 26 ls []) := by
    intro K n
    induction n with
    | zero => intro x1 σ H locs ls h hP hD hS hl hk; cases h
    | succ n ih =>
      intro x1 σ H locs ls h hP hD hS hl hk
      rw [L5_push_26_s] at h
      refine lv_iload_n hx hb dX5_push_26 rfl (lv_at hl 1 rfl) ?_
      refine rr_sipush hx hb dX5_push_27 (by decide +kernel) ?_
      obtain ⟨hg11, h⟩ := rr_c_some h
      refine rr_icmp_ge (tgt := 55) hx hb dX5_push_30 (by decide) hg11 (by decide) (fun c12 => ?_) (fun c12 => ?_)
      · rw [if_pos c12] at h
        exact hk σ _ _ ls h hP hD hS (lv_sub hl [0] rfl)
      · rw [if_neg c12] at h
        refine lv_aload_n hx hb dX5_push_33 rfl (lv_at hl 0 rfl) ?_
        refine va_get (D := g.1) (ci := 5) (v := .ref (ad 3)) (C := RX5) (T := TX5) (N := 19) hx hb hts hinX5 hown hK.1 hP 0 rfl rfl 2 (by decide) hk_2 (fun _ h9 => h9) rfl dX5_push_34 ?_
        refine lv_iload_n hx hb dX5_push_37 rfl (lv_at hl 1 rfl) ?_
        refine lv_aload_n hx hb dX5_push_38 rfl (lv_at hl 0 rfl) ?_
        refine va_get (D := g.1) (ci := 5) (v := .ref (ad 3)) (C := RX5) (T := TX5) (N := 19) hx hb hts hinX5 hown hK.1 hP 0 rfl rfl 2 (by decide) hk_2 (fun _ h9 => h9) rfl dX5_push_39 ?_
        refine lv_iload_n hx hb dX5_push_42 rfl (lv_at hl 1 rfl) ?_
        refine rr_sipush hx hb dX5_push_43 (by decide +kernel) ?_
        refine rr_iadd hx hb dX5_push_46 ?_
        obtain ⟨hg13, h⟩ := rr_c_some h
        refine rr_iald (f := (σ 2)) (N := 715) hx hb hK hP 3 rfl rfl (by decide) hg13 dX5_push_47 ?_
        obtain ⟨hg14, h⟩ := rr_c_some h
        refine rr_iast (f := (σ 2)) (N := 715) hx hb hK hP hD hS 3 rfl rfl (by decide) hg14 dX5_push_48 (fun H locs hP hD hS => ?_)
        have hP : va_P g.1 vwCl (rr_wM g ad (rr_s σ 2 x1 (σ 2 (x1 + 143))) hh) H := hP
        have hD : va_D A (rr_wM g ad (rr_s σ 2 x1 (σ 2 (x1 + 143))) hh) := hD
        refine rr_iinc (k := 1) (a := x1) (lv' := [(1, .int (rr_i (x1 + 1))), (0, .ref (ad 0))]) hx hb dX5_push_49 hl rfl (by decide) rfl (fun ls hl => ?_)
        refine lv_goto (tgt := 26) hx hb dX5_push_52 (by decide) ?_
        exact ih (x1 + 1) (rr_s σ 2 x1 (σ 2 (x1 + 143))) _ _ ls h hP hD hS (lv_sub hl [1, 0] rfl) hk
  refine lv_aload_n hx hb dX5_push_0 rfl (lv_at hl 0 rfl) ?_
  obtain ⟨v1, hw2, h⟩ := rr_b_some h
  refine rr_allV hD hS hA (va_runV (As := []) (rest := []) ⟨hx, hb, hml, hown, hts⟩ (kX5_lay l g ad _ hh σ v1 hw2) (cwV 0 hts gX5_push_X5_lay rfl rfl rfl ⟨rfl, hd_X5_lay⟩ ⟨Nat.le_of_ble_eq_true rfl, Nat.le_of_ble_eq_true rfl⟩) ⟨rr_P_blind, va_recv hK.1 hP (ci := 5) (q0 := 0) rfl rfl, rr_P_pre hK hP hD⟩ rfl rfl hl.1 rfl (lv_room (Nat.le_of_ble_eq_true rfl)) dX5_push_1 ⟨Nat.zero_le _, Nat.zero_le _⟩) (fun H locs hP hD hS => ?_)
  refine lv_aload_n hx hb dX5_push_4 rfl (lv_at hl 0 rfl) ?_
  refine va_get (D := g.1) (ci := 5) (v := .ref (ad 1)) (C := RX5) (T := TX5) (N := 19) hx hb hts hinX5 hown hK.1 hP 0 rfl rfl 0 (by decide) hk_0 (fun _ h9 => h9) rfl dX5_push_5 ?_
  refine rr_sipush hx hb dX5_push_8 (by decide +kernel) ?_
  refine lv_aload_n hx hb dX5_push_11 rfl (lv_at hl 0 rfl) ?_
  obtain ⟨v3, hw4, h⟩ := rr_b_some h
  refine rr_callI (va_runV (As := []) (rest := [.int (rr_i 142), .ref (ad 1)]) ⟨hx, hb, hml, hown, hts⟩ (kX5_moved l g ad hh v1 v3 hw4) (cwV 0 hts gX5_push_X5_moved rfl rfl rfl ⟨rfl, hd_X5_moved⟩ ⟨Nat.le_of_ble_eq_true rfl, Nat.le_of_ble_eq_true rfl⟩) ⟨rr_R_blind, va_recv hK.1 hP (ci := 5) (q0 := 0) rfl rfl, rr_R_pre hK hP⟩ rfl rfl hl.1 rfl (lv_room (Nat.le_of_ble_eq_true rfl)) dX5_push_12 ⟨Nat.zero_le _, Nat.zero_le _⟩) ?_
  refine rr_iast (f := (v1 0)) (N := 143) hx hb hK hP hD hS 1 rfl rfl (by decide) (by decide) dX5_push_15 (fun H locs hP hD hS => ?_)
  have hP : va_P g.1 vwCl (rr_wM g ad (rr_s v1 0 142 v3) hh) H := hP
  have hD : va_D A (rr_wM g ad (rr_s v1 0 142 v3) hh) := hD
  refine lv_aload_n hx hb dX5_push_16 rfl (lv_at hl 0 rfl) ?_
  refine va_get (D := g.1) (ci := 5) (v := .int (rr_i (v1 3 0))) (C := RX5) (T := TX5) (N := 19) hx hb hts hinX5 hown hK.1 hP 0 rfl rfl 3 (by decide) hk_1 (fun _ h9 => h9) rfl dX5_push_17 ?_
  refine rr_iconst hx hb dX5_push_20 ?_
  obtain ⟨hg5, h⟩ := rr_c_some h
  refine rr_icmp_ne (tgt := 65) hx hb dX5_push_21 (by decide) hg5 (by decide) (fun c6 => ?_) (fun c6 => ?_)
  · rw [if_neg c6] at h
    refine rr_iconst hx hb dX5_push_65 ?_
    refine lv_istore_n (lv' := [(1, .int (rr_i 0)), (0, .ref (ad 0))]) hx hb dX5_push_66 rfl hl (by decide) rfl (fun ls hl => ?_)
    refine hL5_push_67 _ 1000 0 (rr_s v1 0 142 v3) _ _ ls h hP hD hS (lv_sub hl [1, 0] rfl) (fun σ_67 H locs ls h hP hD hS hl => ?_)
    refine lv_aload_n hx hb dX5_push_101 rfl (lv_at hl 0 rfl) ?_
    refine lv_dup hx hb dX5_push_102 rfl ?_
    refine va_get (D := g.1) (ci := 5) (v := .int (rr_i (σ_67 3 0))) (C := RX5) (T := TX5) (N := 19) hx hb hts hinX5 hown hK.1 hP 0 rfl rfl 3 (by decide) hk_1 (fun _ h9 => h9) rfl dX5_push_103 ?_
    refine rr_iconst hx hb dX5_push_106 ?_
    refine rr_iadd hx hb dX5_push_107 ?_
    refine va_put (D := g.1) (ci := 5) (v := .int (rr_i ((σ_67 3 0) + 1))) (ty := .int) (C := RX5) (T := TX5) (N := 19) hx hb hts hinX5 tyX5 tyX5_ok nmX5 hown hK.1 hP hD hS 0 rfl rfl 3 (by decide) hk_1 (fun _ h9 => h9) rfl (by decide +kernel) rfl rfl (Nat.le_of_ble_eq_true rfl) dX5_push_108 (fun H locs hP hD hS => ?_)
    have hP : va_P g.1 vwCl (rr_wM g ad (rr_t σ_67 3 ((σ_67 3 0) + 1)) hh) H := hP
    have hD : va_D A (rr_wM g ad (rr_t σ_67 3 ((σ_67 3 0) + 1)) hh) := hD
    exact hret _ _ _ _ _ h hP hD hS dX5_push_111
  · rw [if_pos c6] at h
    refine rr_iconst hx hb dX5_push_24 ?_
    refine lv_istore_n (lv' := [(1, .int (rr_i 0)), (0, .ref (ad 0))]) hx hb dX5_push_25 rfl hl (by decide) rfl (fun ls hl => ?_)
    refine hL5_push_26 _ 1000 0 (rr_s v1 0 142 v3) _ _ ls h hP hD hS (lv_sub hl [1, 0] rfl) (fun σ_26 H locs ls h hP hD hS hl => ?_)
    refine lv_aload_n hx hb dX5_push_55 rfl (lv_at hl 0 rfl) ?_
    refine lv_dup hx hb dX5_push_56 rfl ?_
    refine va_get (D := g.1) (ci := 5) (v := .int (rr_i (σ_26 3 0))) (C := RX5) (T := TX5) (N := 19) hx hb hts hinX5 hown hK.1 hP 0 rfl rfl 3 (by decide) hk_1 (fun _ h9 => h9) rfl dX5_push_57 ?_
    refine rr_iconst hx hb dX5_push_60 ?_
    refine rr_isub hx hb dX5_push_61 ?_
    refine va_put (D := g.1) (ci := 5) (v := .int (rr_i ((σ_26 3 0) - 1))) (ty := .int) (C := RX5) (T := TX5) (N := 19) hx hb hts hinX5 tyX5 tyX5_ok nmX5 hown hK.1 hP hD hS 0 rfl rfl 3 (by decide) hk_1 (fun _ h9 => h9) rfl (by decide +kernel) rfl rfl (Nat.le_of_ble_eq_true rfl) dX5_push_62 (fun H locs hP hD hS => ?_)
    have hP : va_P g.1 vwCl (rr_wM g ad (rr_t σ_26 3 ((σ_26 3 0) - 1)) hh) H := hP
    have hD : va_D A (rr_wM g ad (rr_t σ_26 3 ((σ_26 3 0) - 1)) hh) := hD
    refine rr_iconst hx hb dX5_push_65 ?_
    refine lv_istore_n (lv' := [(1, .int (rr_i 0)), (0, .ref (ad 0))]) hx hb dX5_push_66 rfl hl (by decide) rfl (fun ls hl => ?_)
    refine hL5_push_67 _ 1000 0 (rr_t σ_26 3 ((σ_26 3 0) - 1)) _ _ ls h hP hD hS (lv_sub hl [1, 0] rfl) (fun σ_67 H locs ls h hP hD hS hl => ?_)
    refine lv_aload_n hx hb dX5_push_101 rfl (lv_at hl 0 rfl) ?_
    refine lv_dup hx hb dX5_push_102 rfl ?_
    refine va_get (D := g.1) (ci := 5) (v := .int (rr_i (σ_67 3 0))) (C := RX5) (T := TX5) (N := 19) hx hb hts hinX5 hown hK.1 hP 0 rfl rfl 3 (by decide) hk_1 (fun _ h9 => h9) rfl dX5_push_103 ?_
    refine rr_iconst hx hb dX5_push_106 ?_
    refine rr_iadd hx hb dX5_push_107 ?_
    refine va_put (D := g.1) (ci := 5) (v := .int (rr_i ((σ_67 3 0) + 1))) (ty := .int) (C := RX5) (T := TX5) (N := 19) hx hb hts hinX5 tyX5 tyX5_ok nmX5 hown hK.1 hP hD hS 0 rfl rfl 3 (by decide) hk_1 (fun _ h9 => h9) rfl (by decide +kernel) rfl rfl (Nat.le_of_ble_eq_true rfl) dX5_push_108 (fun H locs hP hD hS => ?_)
    have hP : va_P g.1 vwCl (rr_wM g ad (rr_t σ_67 3 ((σ_67 3 0) + 1)) hh) H := hP
    have hD : va_D A (rr_wM g ad (rr_t σ_67 3 ((σ_67 3 0) + 1)) hh) := hD
    exact hret _ _ _ _ _ h hP hD hS dX5_push_111
