/-! Keys, and the way that they go. -/
theorem sp_h_no {ν : Int → Int} (h : Nu ν) {i : Nat} (hi : (i : Int) < ν 140) : sp_h ν i = -1 ↔ ps_sm ν 100 = 0 := by
  unfold sp_h
  by_cases q : ps_sm ν 100 = 0
  · rw [if_pos q]; exact ⟨fun _ => q, fun _ => rfl⟩
  · rw [if_neg q]
    have := (sp_q_host h q i hi).1
    exact ⟨fun e => by omega, fun e => absurd e q⟩
theorem L5_about_e {τ : rr_T} (hN : Nu (τ 0)) (hm : LM τ (τ 0)) (hw : ps_sm (τ 0) 100 ≠ 0) {i : Nat} (hi : (i : Int) < τ 0 140) {x2 : Int} {K : Int → Int → Option Int} : ∀ (d n s : Nat), s + d = sp_t (τ 0) i → d < n → L5_aboutKey_46 τ i x2 K n (sp_pc (sp_o (τ 0) 100) (sp_k (τ 0) i) s) s ((sp_k (τ 0) i + s) % 101) = K (sp_p (τ 0) i) (sp_t (τ 0) i) := by
  have ht := (sp_found hN hw i hi).1
  have hq : τ 7 i = sp_q (τ 0) i := (hm.2.1 i hi).2 hw
  have hk := sp_k_r (τ 0) i
  have hkc := hN.2.2.1
  have hqr := sp_q_r (τ 0) i
  have hqe : sp_q (τ 0) i = (sp_k (τ 0) i + sp_t (τ 0) i) % 101 := rfl
  intro d
  induction d with
  | zero =>
    intro n s h1 h2
    cases n with
    | zero => omega
    | succ n =>
      have es : s = sp_t (τ 0) i := by omega
      rw [L5_aboutKey_46_s, rr_c_pos (by omega), rr_c_pos (by omega), if_pos (by rw [hq, hqe, es]), es]
      rfl
  | succ d ih =>
    intro n s h1 h2
    cases n with
    | zero => omega
    | succ n =>
      have hr : 0 ≤ (sp_k (τ 0) i + s) % 101 ∧ (sp_k (τ 0) i + s) % 101 < 101 := by omega
      have ho := hm.1 _ hr.1 hr.2
      have hor := @sp_o_or (τ 0) 100 ((sp_k (τ 0) i + s) % 101)
      have e1 : ((sp_k (τ 0) i + s) % 101 + 1) % 101 = (sp_k (τ 0) i + ((s + 1 : Nat) : Int)) % 101 := by omega
      have e2 : (s : Int) + 1 = ((s + 1 : Nat) : Int) := by omega
      rw [L5_aboutKey_46_s, rr_c_pos (by omega), rr_c_pos (by omega), if_neg (by omega), rr_c_pos (by omega), rr_c_pos (by omega), e1, e2]
      by_cases q : τ 5 ((sp_k (τ 0) i + s) % 101) = -1
      · rw [if_pos q, rr_c_pos (by omega)]
        have e3 : sp_pc (sp_o (τ 0) 100) (sp_k (τ 0) i) s + 0 = sp_pc (sp_o (τ 0) 100) (sp_k (τ 0) i) (s + 1) := by
          show _ = sp_pc (sp_o (τ 0) 100) (sp_k (τ 0) i) s + (if sp_o (τ 0) 100 ((sp_k (τ 0) i + s) % 101) = -1 then 0 else 1)
          rw [if_pos (by rw [← ho]; exact q)]
        rw [e3]
        exact ih n (s + 1) (by omega) (by omega)
      · rw [if_neg q, rr_c_pos (by omega)]
        have e3 : sp_pc (sp_o (τ 0) 100) (sp_k (τ 0) i) s + 1 = sp_pc (sp_o (τ 0) 100) (sp_k (τ 0) i) (s + 1) := by
          show _ = sp_pc (sp_o (τ 0) 100) (sp_k (τ 0) i) s + (if sp_o (τ 0) 100 ((sp_k (τ 0) i + s) % 101) = -1 then 0 else 1)
          rw [if_neg (by rw [← ho]; exact q)]
        rw [e3]
        exact ih n (s + 1) (by omega) (by omega)
/-- what a key's fact is -/
def sp_f (ν : Int → Int) (i : Nat) (x : Int) : Int := if x = 0 then sp_k ν i else if ps_sm ν 100 = 0 then -1 else if x = 1 then sp_p ν i else sp_t ν i
theorem M5_about_e {τ : rr_T} (hN : Nu (τ 0)) (hm : LM τ (τ 0)) {i : Nat} (hi : (i : Int) < τ 0 140) {x : Int} (hx : 0 ≤ x ∧ x ≤ 2) : M5_aboutKey i x τ = some (sp_f (τ 0) i x) := by
  have hkc := hN.2.2.1
  have hk := hN.2.2.2.2 i (by omega) hi
  have hh := (hm.2.1 i hi).1
  have hr := sp_h_r hN hi
  have hno := sp_h_no hN hi
  apply wp_eq
  unfold M5_aboutKey sp_f
  refine wp_c (by omega) (wp_be (M5_placeOf_e (by omega)) (wp_c (by omega) ?_))
  by_cases q : x = 0
  · exact wp_t q (wp_t q (wp_some (by rw [if_pos q]; rfl)))
  · refine wp_f q (wp_c (by omega) (wp_c (by omega) ?_))
    by_cases q2 : ps_sm (τ 0) 100 = 0
    · exact wp_t (by rw [hh]; exact hno.2 q2) (wp_f q (wp_some (by rw [if_neg q, if_pos q2])))
    · refine wp_f (by rw [hh]; exact fun e => q2 (hno.1 e)) ?_
      have ht := (sp_found hN q2 i hi).1
      have e := L5_about_e hN hm q2 hi (x2 := x) (K := fun y4_46 y5_46 => if x = 1 then some y4_46 else some y5_46) (sp_t (τ 0) i) 1000 0 (by omega) (by omega)
      have e0 : (sp_k (τ 0) i + ((0 : Nat) : Int)) % 101 = (53 * τ 0 (100 + (i : Int)) + 17) % 101 := by unfold sp_k; omega
      rw [e0] at e
      rw [if_neg q2]
      have e3 : L5_aboutKey_46 τ i x (fun y4_46 y5_46 => if x = 1 then some y4_46 else some y5_46) 1000 0 0 ((53 * τ 0 (100 + (i : Int)) + 17) % 101) = (if x = 1 then some (sp_p (τ 0) i) else some (sp_t (τ 0) i : Int)) := e
      rw [e3]
      by_cases q3 : x = 1
      · exact wp_t q3 (wp_some (by rw [if_neg q, if_pos q3]))
      · exact wp_f q3 (wp_some (by rw [if_neg q, if_neg q3]))
theorem M1_fact_e {σ : rr_T} {ν : Int → Int} (hs : St σ ν) (hl : LC σ ν) {i : Nat} (hi : (i : Int) < σ 4 0) {x : Int} (hx : 0 ≤ x ∧ x ≤ 2) : M1_keyFact i x σ = some (sp_f ν i x) := by
  have hc := hs.1
  have hkc := hs.2.1
  have hk := hs.2.2.2.2.2.2.2.1 i (by omega) hi
  have e140 : ν 140 = σ 4 0 := hs.2.2.2.2.2.2.2.2.2.1
  have h0 := St_zero hs
  have hL := hl.2.2.1 i (by omega)
  apply wp_eq
  unfold M1_keyFact sp_f
  refine wp_c (by omega) ?_
  by_cases q : x = 0
  · exact wp_t q (wp_be (M1_placeOfKey_e (by omega) (by omega)) (wp_some (by rw [if_pos q]; unfold sp_k; rw [hk.2.2])))
  · refine wp_f q ?_
    rw [if_neg q]
    by_cases q2 : ps_sm ν 100 = 0
    · rw [if_pos q2]
      obtain ⟨-, l2, l3⟩ := hL.1 (h0.1 q2)
      exact wp_if (fun _ => wp_c (by omega) (wp_some l2)) (fun _ => wp_c (by omega) (wp_some l3))
    · rw [if_neg q2]
      have hp : 0 < σ 3 0 := by
        have : ¬ σ 3 0 = 0 := fun e => q2 (h0.2 e)
        omega
      obtain ⟨-, -, -, l2, l3⟩ := hL.2 hp
      exact wp_if (fun z => wp_c (by omega) (wp_some (by rw [if_pos z]; exact l2))) (fun z => wp_c (by omega) (wp_some (by rw [if_neg z]; exact l3)))
theorem O_about : rr_k2 Sim M4_about M5_about := fun k Ω τ x y _ h hx hy => by
  show P2 k (M4_about x y Ω) (M5_about x y τ)
  have hkc := h.1.2.1
  have e140 : τ 0 140 = Ω 0 4 0 := h.1.2.2.2.2.2.2.2.2.2.1
  unfold M4_about M5_about
  by_cases q : 0 ≤ x ∧ x ≤ 999
  · refine P_ba (key_y q).1 (P_bb (key_y q).2 (P_ca (show rr_g 1 by decide) (P_cb (show rr_g 1 by decide) (P_fa (by decide) (P_fb (by decide) (P_ca hy ?_))))))
    by_cases q2 : 0 ≤ y ∧ y ≤ 2
    · refine P_bb (by rw [M5_in_e hy (by decide) (by decide), if_pos q2]) (P_cb (show rr_g 1 by decide) (P_fb (by decide) (P_fa (by omega) (P_ta (by omega) ?_))))
      rcases M_key h.1 hx with ⟨i, i1, ei, e1, e2⟩ | ⟨hno, e1, e2⟩
      · exact P_ba e1 (P_bb e2 (P_ca (by omega) (P_cb (by omega) (P_ta (by omega) (P_fb (by omega) (P_tb (by omega) (P_ba (M1_fact_e h.1 h.2.1 i1 q2) (P_bb (M5_about_e (St_Nu h.1) h.2.2.1 (by omega) q2) (P_ok (Sim_up h) rfl)))))))))
      · exact P_ba e1 (P_bb e2 (P_ca (show rr_g (-1) by decide) (P_cb (show rr_g (-1) by decide) (P_fa (by decide) (P_tb rfl (P_no h (by decide)))))))
    · refine P_bb (by rw [M5_in_e hy (by decide) (by decide), if_neg q2]) (P_cb (show rr_g 0 by decide) (P_tb rfl ?_))
      by_cases q3 : y < 0
      · exact P_ta q3 (P_no h (by decide))
      · exact P_fa q3 (P_fa (by omega) (P_no h (by decide)))
  · exact P_ba (key_n hx q).1 (P_bb (key_n hx q).2 (P_ca (show rr_g 0 by decide) (P_cb (show rr_g 0 by decide) (P_ta rfl (P_tb rfl (P_no h (by decide)))))))
