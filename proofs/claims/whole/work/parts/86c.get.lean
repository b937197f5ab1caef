/-! What is asked of a state. -/
theorem A_at {σ : rr_T} {ν : Int → Int} (hs : St σ ν) (hl : LC σ ν) {p : Int} (p0 : 0 ≤ p) (p1 : p < 101) : M3_nameOf (σ 7 p) σ = some (sp_o ν 100 p) ∧ (-1 ≤ sp_o ν 100 p ∧ sp_o ν 100 p < 100) := by
  have hc := hs.1
  rcases hl.1 p p0 p1 with ⟨a, b⟩ | ⟨a, b, c, d⟩
  · rw [M3_nameOf_e hs (by omega), a, b, if_neg (by omega)]; exact ⟨rfl, by decide⟩
  · have hn := hs.2.2.2.2.1 (σ 7 p) a b
    rw [M3_nameOf_e hs (by omega), if_pos ⟨a, b⟩, c]; exact ⟨rfl, by omega⟩
theorem O_at : rr_k1 Sim M4_at M5_at := fun k Ω τ x _ h hx => by
  show P2 k (M4_at x Ω) (M5_at x τ)
  unfold M4_at M5_at
  refine P_ca hx ?_
  by_cases q : 0 ≤ x ∧ x ≤ 100
  · refine P_bb (by rw [M5_in_e hx (by decide) (by decide), if_pos q]) (P_cb (show rr_g 1 by decide) (P_fb (by decide) (P_fa (by omega) (P_ta (by omega) (P_ca (by omega) ?_)))))
    obtain ⟨e, -⟩ := A_at h.1 h.2.1 q.1 (show x < 101 by omega)
    exact P_cb (by omega) (P_ba e (P_ok (Sim_up h) (h.2.2.1.1 x q.1 (by omega)).symm))
  · refine P_bb (by rw [M5_in_e hx (by decide) (by decide), if_neg q]) (P_cb (show rr_g 0 by decide) (P_tb rfl ?_))
    by_cases q2 : x < 0
    · exact P_ta q2 (P_no h (by decide))
    · exact P_fa q2 (P_fa (by omega) (P_no h (by decide)))
theorem O_has : rr_k1 Sim M4_has M5_has := fun k Ω τ x _ h hx => by
  show P2 k (M4_has x Ω) (M5_has x τ)
  unfold M4_has M5_has
  have hkc := h.1.2.1
  have e140 : τ 0 140 = Ω 0 4 0 := h.1.2.2.2.2.2.2.2.2.2.1
  by_cases q : 0 ≤ x ∧ x ≤ 999
  · refine P_ba (key_y q).1 (P_bb (key_y q).2 (P_ca (show rr_g 1 by decide) (P_cb (show rr_g 1 by decide) (P_fa (by decide) (P_fb (by decide) ?_)))))
    rcases M_key h.1 hx with ⟨i, i1, ei, e1, e2⟩ | ⟨hno, e1, e2⟩
    · refine P_ba e1 (P_bb e2 (P_ca (by omega) (P_cb (by omega) (P_ta (by omega) (P_fb (by omega) (P_tb (by omega) (P_ca (by omega) (P_cb (by omega) (P_ba (C_hname h.1 h.2.1 i1) (P_ok (Sim_up h) ?_))))))))))
      exact (h.2.2.1.2.1 i (by omega)).1.symm
    · exact P_ba e1 (P_bb e2 (P_ca (show rr_g (-1) by decide) (P_cb (show rr_g (-1) by decide) (P_fa (by decide) (P_tb rfl (P_no h (by decide)))))))
  · exact P_ba (key_n hx q).1 (P_bb (key_n hx q).2 (P_ca (show rr_g 0 by decide) (P_cb (show rr_g 0 by decide) (P_ta rfl (P_tb rfl (P_no h (by decide)))))))
/-- the host at a place in the list of names -/
theorem L5_name_e {σ τ : rr_T} (h : St σ (τ 0)) {x : Int} (hx : 0 ≤ x ∧ rr_g x) : ∀ (d n m w : Nat), m + d = 100 → d < n → (w : Int) ≤ x → (w : Int) ≤ σ 3 0 → (∀ i : Int, 0 ≤ i → i < w → σ 0 i < m) → (∀ i : Int, w ≤ i → i < σ 3 0 → m ≤ σ 0 i) → L5_name_15 τ (some (-1, τ)) n (x - w) m = some (if x < σ 3 0 then σ 0 x else -1, τ) := by
  have hc := h.1
  intro d
  induction d with
  | zero =>
    intro n m w h1 h2 h3 h4 h5 h6
    cases n with
    | zero => omega
    | succ n =>
      have : (w : Int) = σ 3 0 := by
        rcases Int.lt_or_le (w : Int) (σ 3 0) with z | z
        · have a := h6 w (by omega) z
          have b := (h.2.2.2.2.1 w (by omega) z).2.1
          omega
        · omega
      rw [L5_name_15_s, rr_c_pos (by omega), if_pos (by omega), if_neg (by omega)]
  | succ d ih =>
    intro n m w h1 h2 h3 h4 h5 h6
    cases n with
    | zero => omega
    | succ n =>
      apply wp_eq
      rw [L5_name_15_s]
      refine wp_c (by omega) (wp_f (by omega) ?_)
      rw [show (m : Int) + 1 = ((m + 1 : Nat) : Int) by omega]
      rcases M_host h (show (0 : Int) ≤ m by omega) (show (m : Int) < 100 by omega) with ⟨i, i1, i2, i3, i4, i5⟩ | ⟨i1, i2, i3, i4⟩
      · have ew : (i : Int) = w := by
          rcases Int.lt_trichotomy (i : Int) w with z | z | z
          · have := h5 i (by omega) z; omega
          · exact z
          · have a := h6 w (by omega) (by omega)
            have b := h.2.2.2.2.2.1 w i (by omega) z i1
            omega
        refine wp_be i5 (wp_c (show rr_g 1 by decide) (wp_f (by decide) (wp_c (by omega) (wp_if (fun q => ?_) (fun q => ?_)))))
        · refine wp_some ?_
          rw [if_pos (by omega), show x = (i : Int) by omega, i2]
        · rw [show x - (w : Int) + -1 = x - ((w + 1 : Nat) : Int) by omega]
          refine wp_e (ih n (m + 1) (w + 1) (by omega) (by omega) (by omega) (by omega) (fun j a b => ?_) (fun j a b => ?_)) rfl
          · rcases Int.lt_or_le j w with z | z
            · have := h5 j a z; omega
            · rw [show j = (i : Int) by omega, i2]; omega
          · have := h.2.2.2.2.2.1 i j (by omega) (by omega) b; omega
      · refine wp_be i4 (wp_c (show rr_g 0 by decide) (wp_t rfl ?_))
        refine wp_e (ih n (m + 1) w (by omega) (by omega) h3 h4 (fun j a b => by have := h5 j a b; omega) (fun j a b => ?_)) rfl
        have a1 := h6 j a b
        have a2 := i1 j (by omega) b
        omega
theorem O_name : rr_k1 Sim M4_name M5_name := fun k Ω τ x _ h hx => by
  show P2 k (M4_name x Ω) (M5_name x τ)
  have hc := h.1.1
  unfold M4_name M5_name
  refine P_ca hx (P_cb hx ?_)
  by_cases q : 0 ≤ x
  · refine P_ta q (P_tb q (P_ba (M3_nameOf_e h.1 hx) ?_))
    have e := L5_name_e h.1 ⟨q, hx⟩ 100 1000 0 0 (by omega) (by omega) (by omega) (by omega) (fun i a b => by omega) (fun i a b => by have := (h.1.2.2.2.2.1 i (by omega) b).1; omega)
    rw [show x - ((0 : Nat) : Int) = x by omega] at e
    have e2 : L5_name_15 τ (some (-1, τ)) 1000 x 0 = _ := e
    rw [e2]
    refine P_ok (Sim_up h) ?_
    by_cases q2 : x < Ω 0 3 0
    · rw [if_pos ⟨q, q2⟩, if_pos q2]
    · rw [if_neg (by omega), if_neg q2]
  · exact P_fa q (P_fb q (P_no h (by decide)))
/-- a host's keys -/
theorem L_keyOf {σ τ : rr_T} (hs : St σ (τ 0)) (hl : LC σ (τ 0)) (hm : LM τ (τ 0)) {i : Nat} (hi : (i : Int) < σ 3 0) {x2 : Int} (hx2 : 0 ≤ x2 ∧ x2 ≤ 40) : ∀ (d n m : Nat) (x3 : Int), m + d = (σ 4 0).toNat → d < n → 0 ≤ x3 ∧ x3 ≤ x2 → ∃ v : Int, L1_keyOfHost_5 σ i x2 (some (-1)) n x3 m = some v ∧ L5_ofHost_45 τ (σ 0 i) (some (-1)) n (x2 - x3) m = some v := by
  have hc := hs.1
  have hkc := hs.2.1
  have e140 : τ 0 140 = σ 4 0 := hs.2.2.2.2.2.2.2.2.2.1
  have hn := hs.2.2.2.2.1 i (by omega) hi
  intro d
  induction d with
  | zero =>
    intro n m x3 h1 h2 h3
    cases n with
    | zero => omega
    | succ n => exact ⟨-1, by rw [L1_keyOfHost_5_s, rr_c_pos (by omega), if_pos (by omega)], by rw [L5_ofHost_45_s, rr_c_pos (by omega), if_pos (by omega)]⟩
  | succ d ih =>
    intro n m x3 h1 h2 h3
    cases n with
    | zero => omega
    | succ n =>
      have hk := hs.2.2.2.2.2.2.2.1 m (by omega) (by omega)
      obtain ⟨l0, l1, l2, -, -⟩ := (hl.2.2.1 m (by omega)).2 (by omega)
      have lm := (hm.2.1 m (by omega)).1
      have hh := hs.2.2.2.2.1 (σ 11 m) l0 l1
      have two : ∀ A B : Option Int, rr_wp A (fun v => rr_wp B (fun w => w = v)) → ∃ v : Int, A = some v ∧ B = some v := fun A B hh => by
        obtain ⟨v, v1, w, w1, w2⟩ := hh
        exact ⟨v, v1, by rw [w1, w2]⟩
      rw [L1_keyOfHost_5_s, L5_ofHost_45_s, show (m : Int) + 1 = ((m + 1 : Nat) : Int) by omega]
      apply two
      refine wp_c (by omega) (wp_f (by omega) (wp_c (by omega) (wp_c (by omega) ?_)))
      by_cases q : σ 11 m = i
      · have q2 : τ 6 m = σ 0 i := by rw [lm, ← l2, q]
        refine wp_t q (wp_c (by omega) ?_)
        by_cases q3 : x3 = x2
        · refine wp_t q3 (wp_some ?_)
          exact wp_c (by omega) (wp_f (by omega) (wp_c (by omega) (wp_c (by omega) (wp_t q2 (wp_c (by omega) (wp_t (by omega) (wp_c (by omega) (wp_some hk.2.2))))))))
        · obtain ⟨v, v1, v2⟩ := ih n (m + 1) (x3 + 1) (by omega) (by omega) (by omega)
          refine wp_f q3 (wp_e v1 ?_)
          rw [show x2 - (x3 + 1) = x2 - x3 + -1 by omega] at v2
          exact wp_c (by omega) (wp_f (by omega) (wp_c (by omega) (wp_c (by omega) (wp_t q2 (wp_c (by omega) (wp_f (by omega) (wp_e v2 rfl)))))))
      · have q2 : ¬ τ 6 m = σ 0 i := fun e => q (St_inj hs l0 l1 (by omega) hi (by rw [l2, ← lm, e]))
        obtain ⟨v, v1, v2⟩ := ih n (m + 1) x3 (by omega) (by omega) h3
        refine wp_f q (wp_e v1 ?_)
        exact wp_c (by omega) (wp_f (by omega) (wp_c (by omega) (wp_c (by omega) (wp_f q2 (wp_e v2 rfl)))))
theorem A_fact {σ τ : rr_T} (hs : St σ (τ 0)) (hl : LC σ (τ 0)) (hm : LM τ (τ 0)) {i : Nat} (hi : (i : Int) < σ 3 0) {x : Int} (hx : 0 ≤ x ∧ x ≤ 42) : ∃ v : Int, M1_hostFact i x σ = some v ∧ M5_ofHost (σ 0 i) x τ = some v := by
  have hc := hs.1
  have hn := hs.2.2.2.2.1 i (by omega) hi
  have hb := hl.2.1 i (by omega) hi
  by_cases q : 3 ≤ x
  · obtain ⟨v, v1, v2⟩ := L_keyOf hs hl hm hi (x2 := x - 3) (by omega) (σ 4 0).toNat 1000 0 0 (by omega) (by have := hs.2.1; omega) (by omega)
    rw [show x - 3 - 0 = x - 3 by omega] at v2
    refine ⟨v, ?_, ?_⟩
    · unfold M1_hostFact M1_keyOfHost
      rw [rr_c_pos (by omega), if_neg (by omega), if_neg (by omega), if_neg (by omega), b_eta1]
      exact v1
    · unfold M5_ofHost
      rw [rr_c_pos (by omega), if_pos q]
      exact v2
  · have hc3 : x = 0 ∨ x = 1 ∨ x = 2 := by omega
    unfold M1_hostFact M5_ofHost
    rcases hc3 with rfl | rfl | rfl
    · refine ⟨σ 1 i, ?_, ?_⟩
      · rw [rr_c_pos (by decide), if_pos rfl, rr_c_pos (by omega)]
      · rw [rr_c_pos (by decide), if_neg (by decide), if_pos rfl, rr_c_pos (by omega), hn.2.2.2.2]
    · refine ⟨σ 9 i, ?_, ?_⟩
      · rw [rr_c_pos (by decide), if_neg (by decide), if_pos rfl, rr_c_pos (by omega)]
      · rw [rr_c_pos (by decide), if_neg (by decide), if_neg (by decide), if_pos rfl, b_eta1, M5_bound_e (St_Nu hs) hn.1 hn.2.1, hb.1]
    · refine ⟨σ 10 i, ?_, ?_⟩
      · rw [rr_c_pos (by decide), if_neg (by decide), if_neg (by decide), if_pos rfl, rr_c_pos (by omega)]
      · rw [rr_c_pos (by decide), if_neg (by decide), if_neg (by decide), if_neg (by decide), rr_c_pos (by omega), hm.2.2 _ hn.1 hn.2.1, hb.2]
theorem O_of : rr_k2 Sim M4_of M5_of := fun k Ω τ x y _ h hx hy => by
  show P2 k (M4_of x y Ω) (M5_of x y τ)
  have hc := h.1.1
  unfold M4_of M5_of
  by_cases q : 0 ≤ x ∧ x < 100
  · refine P_ba (name_y q).1 (P_bb (name_y q).2 (P_ca (show rr_g 1 by decide) (P_cb (show rr_g 1 by decide) (P_fa (by decide) (P_fb (by decide) (P_ca hy ?_))))))
    by_cases q2 : 0 ≤ y ∧ y ≤ 42
    · refine P_bb (by rw [M5_in_e hy (by decide) (by decide), if_pos q2]) (P_cb (show rr_g 1 by decide) (P_fb (by decide) (P_fa (by omega) (P_ta (by omega) ?_))))
      rcases M_host h.1 q.1 q.2 with ⟨i, i1, i2, i3, i4, i5⟩ | ⟨i1, i2, i3, i4⟩
      · obtain ⟨v, v1, v2⟩ := A_fact h.1 h.2.1 h.2.2.1 i1 q2
        rw [i2] at v2
        exact P_ba i4 (P_bb i5 (P_ca (by omega) (P_cb (show rr_g 1 by decide) (P_ta (by omega) (P_fb (by decide) (P_ba v1 (P_bb v2 (P_ok (Sim_up h) rfl))))))))
      · exact P_ba i3 (P_bb i4 (P_ca (show rr_g (-1) by decide) (P_cb (show rr_g 0 by decide) (P_fa (by decide) (P_tb rfl (P_no h (by decide)))))))
    · refine P_bb (by rw [M5_in_e hy (by decide) (by decide), if_neg q2]) (P_cb (show rr_g 0 by decide) (P_tb rfl ?_))
      by_cases q3 : y < 0
      · exact P_ta q3 (P_no h (by decide))
      · exact P_fa q3 (P_fa (by omega) (P_no h (by decide)))
  · exact P_ba (name_n hx q).1 (P_bb (name_n hx q).2 (P_ca (show rr_g 0 by decide) (P_cb (show rr_g 0 by decide) (P_ta rfl (P_tb rfl (P_no h (by decide)))))))
