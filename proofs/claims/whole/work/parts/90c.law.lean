set_option maxHeartbeats 4000000 in
set_option maxRecDepth 100000 in
theorem law_loop {p : Program} {l : Launch} {e : Env} {s : State} {m : MethodId} {below : List Frame} {meth : Method} {c : Code} {b L : Nat} {xs : Nat → Int32} {g : rr_G} {Sim : Nat → (Nat → rr_T) → rr_T → Prop} (hok : rr_ok Sim) (C0 : lw_At p s m meth c b L xs) (hK : rr_K g s) (hL : L ≤ 1536) (a : Nat) (bd : Nat → Nat) : ∀ (n k : Nat) (i : Int), i = 3 * (k : Int) → 3 * k ≤ L + 2 → 513 ≤ k + n → ∀ (Ω : Nat → rr_T) (σ : rr_T) (hh : Int) (ad : Nat → Nat) (H : Heap) (locs : List Loc) (ls : Array Slot), Sim k Ω σ → va_P g.1 vwCl (rr_wC g a ad Ω ++ rr_wM g bd σ hh) H → va_D (fun q : Nat => s.heap.size ≤ q) (rr_wC g a ad Ω ++ rr_wM g bd σ hh) → va_S (fun q : Nat => s.heap.size ≤ q) s.heap H locs → lv_has ls 4 [(0, .ref b), (1, .ref a), (2, .ref (bd 0)), (3, .int (rr_i i))] → W p l e room_1 s m #[Value.ref b] below meth c H locs 66 2940 (lw_Z below #[Value.ref b] s) (F0 m 18 ls []) := by
  obtain ⟨hx, hb, hr, hml, hown, hts, hX, hbl, hlocks, hgv⟩ := id C0
  have hbA : ¬ (fun q : Nat => s.heap.size ≤ q) b := Nat.not_le.mpr hbl
  intro n
  induction n with
  | zero =>
    intro k i hi h3 hn
    exact absurd hn (by omega)
  | succ n ih =>
    intro k i hi h3 hn Ω σ hh ad H locs ls hsim hP hD hS hl
    refine lv_iload_n hx hb dL_law_18 rfl (lv_at hl 3 rfl) ?_
    refine lv_aload_n hx hb dL_law_19 rfl (lv_at hl 0 rfl) ?_
    refine va_slen hx hb hX hbl hbA hS dL_law_20 ?_
    have eL : Int32.ofNat L = rr_i (L : Int) := rfl
    rw [eL]
    refine rr_iconst hx hb dL_law_21 ?_
    refine rr_isub hx hb dL_law_22 ?_
    refine rr_icmp_gt (tgt := 659) hx hb dL_law_23 (by decide) ⟨by omega, by omega⟩ ⟨by omega, by omega⟩ (fun c1 => ?_) (fun c1 => ?_)
    · refine rr_iconst hx hb dL_law_659 ?_
      refine va_forget (fun q hq => hS.2.2 q hq) ?_
      refine W.widen (k := 600000) (n := 7302250) (Nat.le_of_ble_eq_true rfl) (Nat.le_of_ble_eq_true rfl) ?_
      exact lw_ret hx hb hr hlocks dL_law_660
    · have hi3 : 0 ≤ i ∧ i + 3 ≤ (L : Int) := ⟨by omega, by omega⟩
      have hk5 : k < 512 := by omega
      refine lv_aload_n hx hb dL_law_26 rfl (lv_at hl 0 rfl) ?_
      refine lv_iload_n hx hb dL_law_27 rfl (lv_at hl 3 rfl) ?_
      refine va_sld hx hb hX hbl hbA hS (rr_in ⟨by omega, by omega⟩ (by omega)) dL_law_28 ?_
      refine rr_bipush hx hb dL_law_29 (by decide +kernel) ?_
      refine lv_iand hx hb dL_law_31 ?_
      obtain ⟨j, hj, ej⟩ := pk_andE (xs (rr_i i).toNatClampNeg) (m := rr_i 31) 5 (by decide +kernel)
      rw [ej, ← rr_i_nat]
      have hv : (rr_i (j : Int)).toInt = (j : Int) := rr_to_i ⟨by omega, by omega⟩
      have hgo : ∀ (Ω : Nat → rr_T) (σ : rr_T) (hh : Int) (ad : Nat → Nat) (H : Heap) (locs : List Loc) (ls : Array Slot), Sim (k + 1) Ω σ → va_P g.1 vwCl (rr_wC g a ad Ω ++ rr_wM g bd σ hh) H → va_D (fun q : Nat => s.heap.size ≤ q) (rr_wC g a ad Ω ++ rr_wM g bd σ hh) → va_S (fun q : Nat => s.heap.size ≤ q) s.heap H locs → lv_has ls 4 [(0, .ref b), (1, .ref a), (2, .ref (bd 0)), (3, .int (rr_i i))] → W p l e room_1 s m #[Value.ref b] below meth c H locs 66 2940 (lw_Z below #[Value.ref b] s) (F0 m 653 ls []) := by
        intro Ω σ hh ad H locs ls hsim hP hD hS hl
        refine rr_iinc (k := 3) (a := i) (lv' := [(3, .int (rr_i (i + 3))), (0, .ref b), (1, .ref a), (2, .ref (bd 0))]) hx hb dL_law_653 hl rfl (by decide) rfl (fun ls hl => ?_)
        refine lv_goto (tgt := 18) hx hb dL_law_656 (by decide) ?_
        exact ih (k + 1) (i + 3) (by omega) (by omega) (by omega) Ω σ hh ad _ _ ls hsim hP hD hS (lv_sub hl [1, 2, 3, 0] rfl)
      by_cases q0 : (j : Int) = 0
      · refine lv_tableIn (off := 104) (tgt := 136) hx hb dL_law_32 (by rw [hv, q0]; decide) (by rw [hv, q0]; decide) (by rw [hv, q0]; rfl) (by decide) ?_
        exact law_c0 hok C0 hK hL i hi3 k hk5 Ω σ hh a ad bd _ _ ls hsim hP hD hS hl hgo
      by_cases q1 : (j : Int) = 1
      · refine lv_tableIn (off := 137) (tgt := 169) hx hb dL_law_32 (by rw [hv, q1]; decide) (by rw [hv, q1]; decide) (by rw [hv, q1]; rfl) (by decide) ?_
        exact law_c1 hok C0 hK hL i hi3 k hk5 Ω σ hh a ad bd _ _ ls hsim hP hD hS hl hgo
      by_cases q2 : (j : Int) = 2
      · refine lv_tableIn (off := 170) (tgt := 202) hx hb dL_law_32 (by rw [hv, q2]; decide) (by rw [hv, q2]; decide) (by rw [hv, q2]; rfl) (by decide) ?_
        exact law_c2 hok C0 hK hL i hi3 k hk5 Ω σ hh a ad bd _ _ ls hsim hP hD hS hl hgo
      by_cases q3 : (j : Int) = 3
      · refine lv_tableIn (off := 193) (tgt := 225) hx hb dL_law_32 (by rw [hv, q3]; decide) (by rw [hv, q3]; decide) (by rw [hv, q3]; rfl) (by decide) ?_
        exact law_c3 hok C0 hK hL i hi3 k hk5 Ω σ hh a ad bd _ _ ls hsim hP hD hS hl hgo
      by_cases q4 : (j : Int) = 4
      · refine lv_tableIn (off := 216) (tgt := 248) hx hb dL_law_32 (by rw [hv, q4]; decide) (by rw [hv, q4]; decide) (by rw [hv, q4]; rfl) (by decide) ?_
        exact law_c4 hok C0 hK hL i hi3 k hk5 Ω σ hh a ad bd _ _ ls hsim hP hD hS hl hgo
      by_cases q5 : (j : Int) = 5
      · refine lv_tableIn (off := 239) (tgt := 271) hx hb dL_law_32 (by rw [hv, q5]; decide) (by rw [hv, q5]; decide) (by rw [hv, q5]; rfl) (by decide) ?_
        exact law_c5 hok C0 hK hL i hi3 k hk5 Ω σ hh a ad bd _ _ ls hsim hP hD hS hl hgo
      by_cases q6 : (j : Int) = 6
      · refine lv_tableIn (off := 262) (tgt := 294) hx hb dL_law_32 (by rw [hv, q6]; decide) (by rw [hv, q6]; decide) (by rw [hv, q6]; rfl) (by decide) ?_
        exact law_c6 hok C0 hK hL i hi3 k hk5 Ω σ hh a ad bd _ _ ls hsim hP hD hS hl hgo
      by_cases q7 : (j : Int) = 7
      · refine lv_tableIn (off := 295) (tgt := 327) hx hb dL_law_32 (by rw [hv, q7]; decide) (by rw [hv, q7]; decide) (by rw [hv, q7]; rfl) (by decide) ?_
        exact law_c7 hok C0 hK hL i hi3 k hk5 Ω σ hh a ad bd _ _ ls hsim hP hD hS hl hgo
      by_cases q8 : (j : Int) = 8
      · refine lv_tableIn (off := 328) (tgt := 360) hx hb dL_law_32 (by rw [hv, q8]; decide) (by rw [hv, q8]; decide) (by rw [hv, q8]; rfl) (by decide) ?_
        exact law_c8 hok C0 hK hL i hi3 k hk5 Ω σ hh a ad bd _ _ ls hsim hP hD hS hl hgo
      by_cases q9 : (j : Int) = 9
      · refine lv_tableIn (off := 351) (tgt := 383) hx hb dL_law_32 (by rw [hv, q9]; decide) (by rw [hv, q9]; decide) (by rw [hv, q9]; rfl) (by decide) ?_
        exact law_c9 hok C0 hK hL i hi3 k hk5 Ω σ hh a ad bd _ _ ls hsim hP hD hS hl hgo
      by_cases q10 : (j : Int) = 10
      · refine lv_tableIn (off := 374) (tgt := 406) hx hb dL_law_32 (by rw [hv, q10]; decide) (by rw [hv, q10]; decide) (by rw [hv, q10]; rfl) (by decide) ?_
        exact law_c10 hok C0 hK hL i hi3 k hk5 Ω σ hh a ad bd _ _ ls hsim hP hD hS hl hgo
      by_cases q11 : (j : Int) = 11
      · refine lv_tableIn (off := 397) (tgt := 429) hx hb dL_law_32 (by rw [hv, q11]; decide) (by rw [hv, q11]; decide) (by rw [hv, q11]; rfl) (by decide) ?_
        exact law_c11 hok C0 hK hL i hi3 k hk5 Ω σ hh a ad bd _ _ ls hsim hP hD hS hl hgo
      by_cases q12 : (j : Int) = 12
      · refine lv_tableIn (off := 420) (tgt := 452) hx hb dL_law_32 (by rw [hv, q12]; decide) (by rw [hv, q12]; decide) (by rw [hv, q12]; rfl) (by decide) ?_
        exact law_c12 hok C0 hK hL i hi3 k hk5 Ω σ hh a ad bd _ _ ls hsim hP hD hS hl hgo
      by_cases q13 : (j : Int) = 13
      · refine lv_tableIn (off := 453) (tgt := 485) hx hb dL_law_32 (by rw [hv, q13]; decide) (by rw [hv, q13]; decide) (by rw [hv, q13]; rfl) (by decide) ?_
        exact law_c13 hok C0 hK hL i hi3 k hk5 Ω σ hh a ad bd _ _ ls hsim hP hD hS hl hgo
      by_cases q14 : (j : Int) = 14
      · refine lv_tableIn (off := 476) (tgt := 508) hx hb dL_law_32 (by rw [hv, q14]; decide) (by rw [hv, q14]; decide) (by rw [hv, q14]; rfl) (by decide) ?_
        exact law_c14 hok C0 hK hL i hi3 k hk5 Ω σ hh a ad bd _ _ ls hsim hP hD hS hl hgo
      by_cases q15 : (j : Int) = 15
      · refine lv_tableIn (off := 499) (tgt := 531) hx hb dL_law_32 (by rw [hv, q15]; decide) (by rw [hv, q15]; decide) (by rw [hv, q15]; rfl) (by decide) ?_
        exact law_c15 hok C0 hK hL i hi3 k hk5 Ω σ hh a ad bd _ _ ls hsim hP hD hS hl hgo
      by_cases q16 : (j : Int) = 16
      · refine lv_tableIn (off := 522) (tgt := 554) hx hb dL_law_32 (by rw [hv, q16]; decide) (by rw [hv, q16]; decide) (by rw [hv, q16]; rfl) (by decide) ?_
        exact law_c16 hok C0 hK hL i hi3 k hk5 Ω σ hh a ad bd _ _ ls hsim hP hD hS hl hgo
      by_cases q17 : (j : Int) = 17
      · refine lv_tableIn (off := 545) (tgt := 577) hx hb dL_law_32 (by rw [hv, q17]; decide) (by rw [hv, q17]; decide) (by rw [hv, q17]; rfl) (by decide) ?_
        exact law_c17 hok C0 hK hL i hi3 k hk5 Ω σ hh a ad bd _ _ ls hsim hP hD hS hl hgo
      by_cases q18 : (j : Int) = 18
      · refine lv_tableIn (off := 558) (tgt := 590) hx hb dL_law_32 (by rw [hv, q18]; decide) (by rw [hv, q18]; decide) (by rw [hv, q18]; rfl) (by decide) ?_
        exact law_c18 hok C0 hK hL i hi3 k hk5 Ω σ hh a ad bd _ _ ls hsim hP hD hS hl hgo
      by_cases q19 : (j : Int) = 19
      · refine lv_tableIn (off := 571) (tgt := 603) hx hb dL_law_32 (by rw [hv, q19]; decide) (by rw [hv, q19]; decide) (by rw [hv, q19]; rfl) (by decide) ?_
        exact law_c19 hok C0 hK hL i hi3 k hk5 Ω σ hh a ad bd _ _ ls hsim hP hD hS hl hgo
      by_cases q20 : (j : Int) = 20
      · refine lv_tableIn (off := 584) (tgt := 616) hx hb dL_law_32 (by rw [hv, q20]; decide) (by rw [hv, q20]; decide) (by rw [hv, q20]; rfl) (by decide) ?_
        exact law_c20 hok C0 hK hL i hi3 k hk5 Ω σ hh a ad bd _ _ ls hsim hP hD hS hl hgo
      by_cases q21 : (j : Int) = 21
      · refine lv_tableIn (off := 607) (tgt := 639) hx hb dL_law_32 (by rw [hv, q21]; decide) (by rw [hv, q21]; decide) (by rw [hv, q21]; rfl) (by decide) ?_
        exact law_c21 hok C0 hK hL i hi3 k hk5 Ω σ hh a ad bd _ _ ls hsim hP hD hS hl hgo
      refine lv_tableOut (tgt := 653) hx hb dL_law_32 (by rw [hv]; omega) (by decide) ?_
      exact hgo Ω σ hh ad _ _ ls (hok.2.2.2.2.2.2.2.2.2.2.2.2.2.2.2.2.2.2.2.2.2.2.1 k Ω σ hsim) hP hD hS hl
set_option maxHeartbeats 4000000 in
set_option maxRecDepth 100000 in
/-- THE LAW, from its entry, over a relation that keeps its laws -/
theorem whole_open {Sim : Nat → (Nat → rr_T) → rr_T → Prop} (hok : rr_ok Sim) {p : Program} {e : Env} {s : State} {m : MethodId} {below : List Frame} {meth : Method} {c : Code} (l : Launch) {b L : Nat} {xs : Nat → Int32} (hL : L ≤ 1536) (C0 : lw_At p s m meth c b L xs) : W p l e room_1 s m #[Value.ref b] below meth c s.heap [] 0 0 (lw_Z below #[Value.ref b] s) (entryFrame m ([Value.ref b] : List Value).toArray 4) := by
  obtain ⟨hx, hb, hr, hml, hown, hts0, hX, hbl, hlocks, hgv⟩ := id C0
  have hown : s.vm.findClass RL = some m.cls := hown
  have hA : ∀ q : Nat, s.heap.size ≤ q → (fun q : Nat => s.heap.size ≤ q) q := fun _ h => h
  have hts : ∀ w ∈ wsL_law, w.before #[Value.ref b] s = true := fun w h => hts0 w (wsL_law_in w h)
  obtain ⟨cX0, iSX0, hKnX0⟩ := u_known (C := RX0) (T := TX0) (N := 2) (n := 2) hts0 inX0 (hts0 (.instantiable RX0 2) (List.mem_of_getElem? (i := 187) (by decide +kernel)))
  obtain ⟨cX1, iSX1, hKnX1⟩ := u_known (C := RX1) (T := TX1) (N := 8) (n := 8) hts0 inX1 (hts0 (.instantiable RX1 8) (List.mem_of_getElem? (i := 81) (by decide +kernel)))
  obtain ⟨cX2, iSX2, hKnX2⟩ := u_known (C := RX2) (T := TX2) (N := 10) (n := 10) hts0 inX2 (hts0 (.instantiable RX2 10) (List.mem_of_getElem? (i := 204) (by decide +kernel)))
  obtain ⟨cX3, iSX3, hKnX3⟩ := u_known (C := RX3) (T := TX3) (N := 7) (n := 7) hts0 inX3 (hts0 (.instantiable RX3 7) (List.mem_of_getElem? (i := 87) (by decide +kernel)))
  obtain ⟨cX4, iSX4, hKnX4⟩ := u_known (C := RX4) (T := TX4) (N := 7) (n := 7) hts0 inX4 (hts0 (.instantiable RX4 7) (List.mem_of_getElem? (i := 73) (by decide +kernel)))
  obtain ⟨cX5, iSX5, hKnX5⟩ := u_known (C := RX5) (T := TX5) (N := 19) (n := 19) hts0 inX5 (hts0 (.instantiable RX5 19) (List.mem_of_getElem? (i := 548) (by decide +kernel)))
  obtain ⟨dC, dI, hKc⟩ : ∃ (dC : Nat → ClassId) (dI : Nat → Nat → Nat), ∀ (k : Nat) (q : vw_C), vwCl[k]? = some q → u_Kn s q.1 q.2.1 q.2.2 (dC k) (dI k) := by
    refine ⟨fun k => if k = 0 then cX0 else if k = 1 then cX1 else if k = 2 then cX2 else if k = 3 then cX3 else if k = 4 then cX4 else cX5, fun k => if k = 0 then iSX0 else if k = 1 then iSX1 else if k = 2 then iSX2 else if k = 3 then iSX3 else if k = 4 then iSX4 else iSX5, ?_⟩
    intro k q hq
    match k, hq with
    | 0, hq => cases hq; exact hKnX0
    | 1, hq => cases hq; exact hKnX1
    | 2, hq => cases hq; exact hKnX2
    | 3, hq => cases hq; exact hKnX3
    | 4, hq => cases hq; exact hKnX4
    | 5, hq => cases hq; exact hKnX5
    | k + 6, hq => simp [vwCl] at hq
  obtain ⟨cI, kI, compI, fI, eI, dI1⟩ := Cond.arrayClass_spec (hts0 (.arrayClass .int) (List.mem_of_getElem? (i := 126) (by decide +kernel)))
  obtain ⟨cZ, kZ, compZ, fZ, eZ, dZ1⟩ := Cond.arrayClass_spec (hts0 (.arrayClass .boolean) (List.mem_of_getElem? (i := 637) (by decide +kernel)))
  have hao : va_AO "RoomRing$Stock" s := va_AO.of (hts0 (.arrayOver (.object "RoomRing$Stock")) (List.mem_of_getElem? (i := 193) (by decide +kernel)))
  obtain ⟨compO, cO, kO, f1O, i1O, eO, dO1, fO⟩ := Cond.arrayOver_spec hao
  have hK : rr_K ((dC, dI), cI, cZ, cO) s := by
    refine ⟨⟨hKc, fun k q h => ?_⟩, hao, va_Nw.of rfl (hts0 (.methodLinkNest RX1 11 yX3_init RX4) (List.mem_of_getElem? (i := 88) (by decide +kernel))), va_Nw.of rfl (hts0 (.methodLinkNest RX0 21 yX3_init RX4) (List.mem_of_getElem? (i := 194) (by decide +kernel))), va_Nw.of rfl (hts0 (.methodLinkNest RX4 28 yX2_init RX4) (List.mem_of_getElem? (i := 205) (by decide +kernel))), va_Nw.of rfl (hts0 (.methodLinkNest RX3 60 yX4_isName RX4) (List.mem_of_getElem? (i := 290) (by decide +kernel))), va_Nw.of rfl (hts0 (.methodLinkNest RX3 64 yX4_isWeight RX4) (List.mem_of_getElem? (i := 293) (by decide +kernel))), va_Nw.of rfl (hts0 (.methodLinkNest RX3 70 yX4_isKey RX4) (List.mem_of_getElem? (i := 312) (by decide +kernel)))⟩
    match k, h with
    | 0, h => cases h; exact ⟨fun n z => ⟨fun k h => (by cases h), kI, eI, compI, dI1⟩, fI⟩
    | 1, h => cases h; exact ⟨fun n z => ⟨fun k h => (by cases h), kZ, eZ, compZ, dZ1⟩, fZ⟩
    | 2, h => cases h; exact ⟨fun n z => ⟨fun k h => (by cases h), kO, eO, compO, dO1⟩, kO, compO, eO, dO1, f1O, fO⟩
    | k + 3, h => simp at h
  generalize ((dC, dI), cI, cZ, cO) = g at hK
  have hS : va_S (fun q : Nat => s.heap.size ≤ q) s.heap s.heap [] := va_S.rf
  have hP : va_P g.1 vwCl [] s.heap := fun k q h => by simp at h
  have hD : va_D (fun q : Nat => s.heap.size ≤ q) [] := ⟨fun i j p q h => by simp at h, fun k q h => by simp at h⟩
  have hl := lv_entry ([.ref b]) (n := 4) (Nat.le_of_ble_eq_true rfl)
  rw [lg_entry_eq]
  generalize (lg_sl ([.ref b]) ++ List.replicate (4 - (lg_sl ([.ref b])).length) Slot.unset).toArray = ls at hl ⊢
  have hl : lv_has ls 4 [(0, .ref b)] := hl
  obtain ⟨o1, o5, ho1, ho5, hsim0⟩ := hok.2.2.2.2.2.2.2.2.2.2.2.2.2.2.2.2.2.2.2.2.2.2.2
  refine va_new (ci := 4) (fs := [.null, .null, .null, .null, .int (rr_i 0), .int (rr_i 0), .int (rr_i 0)]) (C := RX4) (T := TX4) (N := 7) hx hb hts0 inX4 tyX4 tyX4_ok hown (hts0 (.classLink RL 7 RX4) (List.mem_of_getElem? (i := 72) (by decide +kernel))) (hts0 (.instantiable RX4 7) (List.mem_of_getElem? (i := 73) (by decide +kernel))) (hts0 (.initialized RX4) (List.mem_of_getElem? (i := 64) (by decide +kernel))) hK.1 hP hD hS hA rfl (fun j hj => by rcases (show j = 0 ∨ j = 1 ∨ j = 2 ∨ j = 3 ∨ j = 4 ∨ j = 5 ∨ j = 6 by omega) with rfl | rfl | rfl | rfl | rfl | rfl | rfl <;> rfl) (Nat.le_of_ble_eq_true rfl) (Nat.le_of_ble_eq_true rfl) dL_law_0 (fun q4 H hP hD hS => ?_)
  have hP : va_P g.1 vwCl ([(q4, .inr (4, [.null, .null, .null, .null, .int (rr_i 0), .int (rr_i 0), .int (rr_i 0)]))]) H := hP
  have hD : va_D (fun q : Nat => s.heap.size ≤ q) ([(q4, .inr (4, [.null, .null, .null, .null, .int (rr_i 0), .int (rr_i 0), .int (rr_i 0)]))]) := hD
  refine lv_dup hx hb dL_law_3 rfl ?_
  refine rr_partN (wc := [(q4, .inr (4, [.null, .null, .null, .null, .int (rr_i 0), .int (rr_i 0), .int (rr_i 0)]))]) (wr := []) hP hD hS hA [0] [] rfl rfl (by decide) (by decide) (va_runI (As := []) (rest := [.ref q4]) ⟨hx, hb, hml, hown, hts⟩ (kX4_init l g q4 _ o1 ho1) (cwI 0 hts gL_law_X4_init rfl rfl rfl (hts0 (.initialized RX4) (List.mem_of_getElem? (i := 64) (by decide +kernel))) (hts0 (.methodLink RL 9 yX4_init) (List.mem_of_getElem? (i := 74) (by decide +kernel))) (hts0 (.instanceMethod yX4_init) (List.mem_of_getElem? (i := 75) (by decide +kernel))) rfl hd_X4_init ⟨Nat.le_of_ble_eq_true rfl, Nat.le_of_ble_eq_true rfl⟩) ⟨rr_P_blind, rr_P_pre hK (hP.sub (ws' := [(q4, .inr (4, [.null, .null, .null, .null, .int (rr_i 0), .int (rr_i 0), .int (rr_i 0)]))]) [0] rfl) (hD.sub (ws' := [(q4, .inr (4, [.null, .null, .null, .null, .int (rr_i 0), .int (rr_i 0), .int (rr_i 0)]))]) [0] (by decide) rfl)⟩ rfl rfl hl.1 rfl (lv_room (Nat.le_of_ble_eq_true rfl)) dL_law_4 ⟨Nat.le_of_ble_eq_true rfl, Nat.le_of_ble_eq_true rfl⟩) (fun uX4 H locs hu hP hD hS => ?_)
  rw [← hu]
  have hP : va_P g.1 vwCl (rr_wC g (uX4 0) (fun k => uX4 (1 + k)) (rr_iC o1)) H := hP
  have hD : va_D (fun q : Nat => s.heap.size ≤ q) (rr_wC g (uX4 0) (fun k => uX4 (1 + k)) (rr_iC o1)) := hD
  refine lv_astore_n (lv' := [(1, .ref (uX4 0)), (0, .ref b)]) hx hb dL_law_7 rfl hl (by decide) rfl (fun ls hl => ?_)
  refine va_new (ci := 5) (fs := [.null, .null, .null, .int (rr_i 0), .null, .null, .null, .null, .null, .null, .null, .null, .int (rr_i 0), .int (rr_i 0), .int (rr_i 0), .int (rr_i 0), .null, .null, .long (rr_l 0)]) (C := RX5) (T := TX5) (N := 19) hx hb hts0 inX5 tyX5 tyX5_ok hown (hts0 (.classLink RL 10 RX5) (List.mem_of_getElem? (i := 547) (by decide +kernel))) (hts0 (.instantiable RX5 19) (List.mem_of_getElem? (i := 548) (by decide +kernel))) (hts0 (.initialized RX5) (List.mem_of_getElem? (i := 69) (by decide +kernel))) hK.1 hP hD hS hA rfl (fun j hj => by rcases (show j = 0 ∨ j = 1 ∨ j = 2 ∨ j = 3 ∨ j = 4 ∨ j = 5 ∨ j = 6 ∨ j = 7 ∨ j = 8 ∨ j = 9 ∨ j = 10 ∨ j = 11 ∨ j = 12 ∨ j = 13 ∨ j = 14 ∨ j = 15 ∨ j = 16 ∨ j = 17 ∨ j = 18 by omega) with rfl | rfl | rfl | rfl | rfl | rfl | rfl | rfl | rfl | rfl | rfl | rfl | rfl | rfl | rfl | rfl | rfl | rfl | rfl <;> rfl) (Nat.le_of_ble_eq_true rfl) (Nat.le_of_ble_eq_true rfl) dL_law_8 (fun q5 H hP hD hS => ?_)
  have hP : va_P g.1 vwCl (rr_wC g (uX4 0) (fun k => uX4 (1 + k)) (rr_iC o1) ++ [(q5, .inr (5, [.null, .null, .null, .int (rr_i 0), .null, .null, .null, .null, .null, .null, .null, .null, .int (rr_i 0), .int (rr_i 0), .int (rr_i 0), .int (rr_i 0), .null, .null, .long (rr_l 0)]))]) H := hP
  have hD : va_D (fun q : Nat => s.heap.size ≤ q) (rr_wC g (uX4 0) (fun k => uX4 (1 + k)) (rr_iC o1) ++ [(q5, .inr (5, [.null, .null, .null, .int (rr_i 0), .null, .null, .null, .null, .null, .null, .null, .null, .int (rr_i 0), .int (rr_i 0), .int (rr_i 0), .int (rr_i 0), .null, .null, .long (rr_l 0)]))]) := hD
  refine lv_dup hx hb dL_law_11 rfl ?_
  refine rr_partN (wc := [(q5, .inr (5, [.null, .null, .null, .int (rr_i 0), .null, .null, .null, .null, .null, .null, .null, .null, .int (rr_i 0), .int (rr_i 0), .int (rr_i 0), .int (rr_i 0), .null, .null, .long (rr_l 0)]))]) (wr := rr_wC g (uX4 0) (fun k => uX4 (1 + k)) (rr_iC o1)) hP hD hS hA [52] [0, 1, 2, 3, 4, 5, 6, 7, 8, 9, 10, 11, 12, 13, 14, 15, 16, 17, 18, 19, 20, 21, 22, 23, 24, 25, 26, 27, 28, 29, 30, 31, 32, 33, 34, 35, 36, 37, 38, 39, 40, 41, 42, 43, 44, 45, 46, 47, 48, 49, 50, 51] rfl rfl (by decide) (by decide) (va_runI (As := []) (rest := [.ref q5]) ⟨hx, hb, hml, hown, hts⟩ (kX5_init l g q5 _ o5 ho5) (cwI 0 hts gL_law_X5_init rfl rfl rfl (hts0 (.initialized RX5) (List.mem_of_getElem? (i := 69) (by decide +kernel))) (hts0 (.methodLink RL 12 yX5_init) (List.mem_of_getElem? (i := 549) (by decide +kernel))) (hts0 (.instanceMethod yX5_init) (List.mem_of_getElem? (i := 550) (by decide +kernel))) rfl hd_X5_init ⟨Nat.le_of_ble_eq_true rfl, Nat.le_of_ble_eq_true rfl⟩) ⟨rr_P_blind, rr_P_pre hK (hP.sub (ws' := [(q5, .inr (5, [.null, .null, .null, .int (rr_i 0), .null, .null, .null, .null, .null, .null, .null, .null, .int (rr_i 0), .int (rr_i 0), .int (rr_i 0), .int (rr_i 0), .null, .null, .long (rr_l 0)]))]) [52] rfl) (hD.sub (ws' := [(q5, .inr (5, [.null, .null, .null, .int (rr_i 0), .null, .null, .null, .null, .null, .null, .null, .null, .int (rr_i 0), .int (rr_i 0), .int (rr_i 0), .int (rr_i 0), .null, .null, .long (rr_l 0)]))]) [52] (by decide) rfl)⟩ rfl rfl hl.1 rfl (lv_room (Nat.le_of_ble_eq_true rfl)) dL_law_12 ⟨Nat.le_of_ble_eq_true rfl, Nat.le_of_ble_eq_true rfl⟩) (fun uX5 H locs hu hP hD hS => ?_)
  rw [← hu]
  have hP : va_P g.1 vwCl (rr_wC g (uX4 0) (fun k => uX4 (1 + k)) (rr_iC o1) ++ rr_wM g uX5 o5 0) H := hP
  have hD : va_D (fun q : Nat => s.heap.size ≤ q) (rr_wC g (uX4 0) (fun k => uX4 (1 + k)) (rr_iC o1) ++ rr_wM g uX5 o5 0) := hD
  refine lv_astore_n (lv' := [(2, .ref (uX5 0)), (1, .ref (uX4 0)), (0, .ref b)]) hx hb dL_law_15 rfl hl (by decide) rfl (fun ls hl => ?_)
  refine rr_iconst hx hb dL_law_16 ?_
  refine lv_istore_n (lv' := [(3, .int (rr_i 0)), (2, .ref (uX5 0)), (1, .ref (uX4 0)), (0, .ref b)]) hx hb dL_law_17 rfl hl (by decide) rfl (fun ls hl => ?_)
  refine W.widen (k := 66) (n := 2940) (Nat.le_of_ble_eq_true rfl) (Nat.le_of_ble_eq_true rfl) ?_
  exact law_loop hok C0 hK hL (uX4 0) uX5 513 0 0 rfl (by omega) (by omega) _ _ _ (fun k => uX4 (1 + k)) _ _ ls hsim0 hP hD hS (lv_sub hl [3, 2, 1, 0] rfl)
