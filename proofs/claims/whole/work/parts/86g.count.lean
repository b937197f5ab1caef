/-! What is counted, and the digest. -/
theorem sp_l_no {ν : Int → Int} (h : Nu ν) {n : Int} (hn : ν n = 0) : ∀ i : Nat, (i : Int) ≤ ν 140 → sp_l ν i n = 0 := by
  intro i
  induction i with
  | zero => intro _; rfl
  | succ i ih =>
    intro hi
    rw [sp_l_s]
    by_cases q : ps_sm ν 100 = 0
    · rw [if_pos q]; exact ih (by omega)
    · rw [if_neg q, u_n]
      · exact ih (by omega)
      · intro e
        have := (sp_q_host h q i (by omega)).2.2
        rw [← e, hn] at this
        omega
theorem sp_pc_r (o : Int → Int) (p : Int) : ∀ t : Nat, 0 ≤ sp_pc o p t ∧ sp_pc o p t ≤ t := by
  intro t
  induction t with
  | zero => exact ⟨Int.le_refl _, Int.le_refl _⟩
  | succ t ih =>
    show 0 ≤ sp_pc o p t + (if o ((p + t) % 101) = -1 then 0 else 1) ∧ sp_pc o p t + (if o ((p + t) % 101) = -1 then 0 else 1) ≤ ((t + 1 : Nat) : Int)
    by_cases q : o ((p + t) % 101) = -1
    · rw [if_pos q]; omega
    · rw [if_neg q]; omega
theorem sp_p_r {ν : Int → Int} (h : Nu ν) (hw : ps_sm ν 100 ≠ 0) {i : Nat} (hi : (i : Int) < ν 140) : 0 ≤ sp_p ν i ∧ sp_p ν i ≤ 101 := by
  have a := sp_pc_r (sp_o ν 100) (sp_k ν i) (sp_t ν i)
  have b := (sp_found h hw i hi).1
  unfold sp_p
  omega
theorem sp_f_r {ν : Int → Int} (h : Nu ν) {i : Nat} (hi : (i : Int) < ν 140) (x : Int) : -1 ≤ sp_f ν i x ∧ sp_f ν i x ≤ 101 := by
  have hk := sp_k_r ν i
  unfold sp_f
  by_cases q : x = 0
  · rw [if_pos q]; omega
  · rw [if_neg q]
    by_cases q2 : ps_sm ν 100 = 0
    · rw [if_pos q2]; omega
    · rw [if_neg q2]
      have a := sp_p_r h q2 hi
      have b := (sp_found h q2 i hi).1
      by_cases q3 : x = 1
      · rw [if_pos q3]; omega
      · rw [if_neg q3]; omega
def cf (ν : Int → Int) (n : Int) (y : Int × Int) : Int × Int := if 0 < ν n then (if sp_l ν (ν 140).toNat n = sp_b ν n then y.1 + 1 else y.1, if sp_l ν (ν 140).toNat n ≤ y.2 then y.2 else sp_l ν (ν 140).toNat n) else y
theorem cf_y {ν : Int → Int} {n : Int} (h : 0 < ν n) (y : Int × Int) : cf ν n y = (if sp_l ν (ν 140).toNat n = sp_b ν n then y.1 + 1 else y.1, if sp_l ν (ν 140).toNat n ≤ y.2 then y.2 else sp_l ν (ν 140).toNat n) := if_pos h
theorem cf_n {ν : Int → Int} {n : Int} (h : ¬ 0 < ν n) (y : Int × Int) : cf ν n y = y := if_neg h
theorem sp_l_40 {ν : Int → Int} (h : Nu ν) (n : Int) : 0 ≤ sp_l ν (ν 140).toNat n ∧ sp_l ν (ν 140).toNat n ≤ 40 := by
  have a := sp_l_nn ν (ν 140).toNat n
  have b := sp_l_le ν (ν 140).toNat n
  have c := h.2.2.1
  omega
theorem cf_1 {ν : Int → Int} (h : Nu ν) (n : Int) {y : Int × Int} (hy : 0 ≤ y.2 ∧ y.2 ≤ 40) : (y.1 ≤ (cf ν n y).1 ∧ (cf ν n y).1 ≤ y.1 + 1) ∧ 0 ≤ (cf ν n y).2 ∧ (cf ν n y).2 ≤ 40 := by
  have hl := sp_l_40 h n
  by_cases q : 0 < ν n
  · rw [cf_y q]
    have a1 : ∀ (c : Prop) [Decidable c], y.1 ≤ (if c then y.1 + 1 else y.1) ∧ (if c then y.1 + 1 else y.1) ≤ y.1 + 1 := fun c _ => by
      by_cases z : c
      · rw [if_pos z]; omega
      · rw [if_neg z]; omega
    have a2 : ∀ (c : Prop) [Decidable c], 0 ≤ (if c then y.2 else sp_l ν (ν 140).toNat n) ∧ (if c then y.2 else sp_l ν (ν 140).toNat n) ≤ 40 := fun c _ => by
      by_cases z : c
      · rw [if_pos z]; omega
      · rw [if_neg z]; omega
    exact ⟨a1 _, a2 _⟩
  · rw [cf_n q]; omega
theorem cf_b {ν : Int → Int} (h : Nu ν) : ∀ m : Nat, (0 ≤ (ps_it (cf ν) m (0, 0)).1 ∧ (ps_it (cf ν) m (0, 0)).1 ≤ m) ∧ 0 ≤ (ps_it (cf ν) m (0, 0)).2 ∧ (ps_it (cf ν) m (0, 0)).2 ≤ 40 := by
  intro m
  induction m with
  | zero => exact ⟨⟨Int.le_refl _, Int.le_refl _⟩, Int.le_refl _, show (0 : Int) ≤ 40 by decide⟩
  | succ m ih =>
    rw [ps_it_s]
    have := cf_1 h m ih.2
    omega
theorem cf_bh {ν N : Int → Int} (h : Nu ν) : ∀ m : Nat, (0 ≤ (ps_ih N (cf ν) m (0, 0)).1 ∧ (ps_ih N (cf ν) m (0, 0)).1 ≤ m) ∧ 0 ≤ (ps_ih N (cf ν) m (0, 0)).2 ∧ (ps_ih N (cf ν) m (0, 0)).2 ≤ 40 := by
  intro m
  induction m with
  | zero => exact ⟨⟨Int.le_refl _, Int.le_refl _⟩, Int.le_refl _, show (0 : Int) ≤ 40 by decide⟩
  | succ m ih =>
    rw [ps_ih_s]
    have := cf_1 h (N m) ih.2
    omega
theorem L5_byHosts_e {τ : rr_T} (hN : Nu (τ 0)) (hm : LM τ (τ 0)) {x : Int} {K : Int → Int → Option Int} : ∀ (d n m : Nat), m + d = 100 → d < n → L5_byHosts_7 τ x K n (ps_it (cf (τ 0)) m (0, 0)).1 (ps_it (cf (τ 0)) m (0, 0)).2 m = K (ps_it (cf (τ 0)) 100 (0, 0)).1 (ps_it (cf (τ 0)) 100 (0, 0)).2 := by
  intro d
  induction d with
  | zero =>
    intro n m h1 h2
    cases n with
    | zero => omega
    | succ n => rw [L5_byHosts_7_s, rr_c_pos (by omega), if_pos (by omega), show m = 100 by omega]
  | succ d ih =>
    intro n m h1 h2
    cases n with
    | zero => omega
    | succ n =>
      have hb := cf_b hN m
      have hl := sp_l_40 hN m
      have h8 := hm.2.2 m (by omega) (by omega)
      have hbn := sp_b_nn hN (show (0 : Int) ≤ m by omega) (show (m : Int) < 100 by omega)
      have hbl := sp_b_le hN (show (0 : Int) ≤ m by omega) (show (m : Int) < 100 by omega)
      have IH := ih n (m + 1) (by omega) (by omega)
      rw [ps_it_s] at IH
      rw [L5_byHosts_7_s, rr_c_pos (by omega), if_neg (by omega), M5_isHost_e hN (by omega) (by omega), Option.bind_some, show (m : Int) + 1 = ((m + 1 : Nat) : Int) by omega]
      by_cases q : 0 < τ 0 m
      · rw [if_pos q, rr_c_pos (show rr_g 1 by decide), if_neg (by decide), rr_c_pos (by omega), M5_bound_e hN (by omega) (by omega), Option.bind_some, rr_c_pos (by omega), h8]
        rw [cf_y q] at IH
        by_cases q2 : sp_l (τ 0) (τ 0 140).toNat m = sp_b (τ 0) m
        · rw [if_pos q2, rr_c_pos (by omega)]
          rw [if_pos q2] at IH
          by_cases q3 : sp_l (τ 0) (τ 0 140).toNat m ≤ (ps_it (cf (τ 0)) m (0, 0)).2
          · rw [if_pos q3]; rw [if_pos q3] at IH; exact IH
          · rw [if_neg q3]; rw [if_neg q3] at IH; exact IH
        · rw [if_neg q2, rr_c_pos (by omega), Int.add_zero]
          rw [if_neg q2] at IH
          by_cases q3 : sp_l (τ 0) (τ 0 140).toNat m ≤ (ps_it (cf (τ 0)) m (0, 0)).2
          · rw [if_pos q3]; rw [if_pos q3] at IH; exact IH
          · rw [if_neg q3]; rw [if_neg q3] at IH; exact IH
      · have hw := hN.1 m (by omega) (by omega)
        have hl0 : sp_l (τ 0) (τ 0 140).toNat m = 0 := sp_l_no hN (by omega) _ (by have := hN.2.2.1; omega)
        rw [cf_n q] at IH
        rw [if_neg q, rr_c_pos (show rr_g 0 by decide), if_pos rfl, rr_c_pos (by omega), rr_c_pos (by omega), if_pos (by omega), Int.add_zero]
        exact IH
theorem L1_full_e {σ : rr_T} {ν : Int → Int} (hs : St σ ν) (hl : LC σ ν) {K : Int → Option Int} : ∀ (d n m : Nat), m + d = (σ 3 0).toNat → d < n → L1_fullHosts_4 σ K n (ps_ih (σ 0) (cf ν) m (0, 0)).1 m = K (ps_ih (σ 0) (cf ν) (σ 3 0).toNat (0, 0)).1 := by
  have hc := hs.1
  have hN := St_Nu hs
  intro d
  induction d with
  | zero =>
    intro n m h1 h2
    cases n with
    | zero => omega
    | succ n => rw [L1_fullHosts_4_s, rr_c_pos (by omega), if_pos (by omega), show m = (σ 3 0).toNat by omega]
  | succ d ih =>
    intro n m h1 h2
    cases n with
    | zero => omega
    | succ n =>
      have hn := hs.2.2.2.2.1 m (by omega) (by omega)
      have hb := hl.2.1 m (by omega) (by omega)
      have h1' := sp_l_40 hN (σ 0 m)
      have hbn := sp_b_nn hN hn.1 hn.2.1
      have hbl := sp_b_le hN hn.1 hn.2.1
      have IH := ih n (m + 1) (by omega) (by omega)
      rw [ps_ih_s, cf_y (by omega)] at IH
      rw [L1_fullHosts_4_s, rr_c_pos (by omega), if_neg (by omega), rr_c_pos (by omega), rr_c_pos (by omega), hb.1, hb.2, show (m : Int) + 1 = ((m + 1 : Nat) : Int) by omega]
      by_cases q : sp_l ν (ν 140).toNat (σ 0 m) = sp_b ν (σ 0 m)
      · rw [if_pos q]; rw [if_pos q] at IH; exact IH
      · rw [if_neg q]; rw [if_neg q] at IH; exact IH
theorem L1_most_e {σ : rr_T} {ν : Int → Int} (hs : St σ ν) (hl : LC σ ν) {K : Int → Option Int} : ∀ (d n m : Nat), m + d = (σ 3 0).toNat → d < n → L1_mostLoad_4 σ K n (ps_ih (σ 0) (cf ν) m (0, 0)).2 m = K (ps_ih (σ 0) (cf ν) (σ 3 0).toNat (0, 0)).2 := by
  have hc := hs.1
  have hN := St_Nu hs
  intro d
  induction d with
  | zero =>
    intro n m h1 h2
    cases n with
    | zero => omega
    | succ n => rw [L1_mostLoad_4_s, rr_c_pos (by omega), if_pos (by omega), show m = (σ 3 0).toNat by omega]
  | succ d ih =>
    intro n m h1 h2
    cases n with
    | zero => omega
    | succ n =>
      have hn := hs.2.2.2.2.1 m (by omega) (by omega)
      have hb := hl.2.1 m (by omega) (by omega)
      have h1' := sp_l_40 hN (σ 0 m)
      have hb2 := cf_bh (N := σ 0) hN m
      have IH := ih n (m + 1) (by omega) (by omega)
      rw [ps_ih_s, cf_y (by omega)] at IH
      rw [L1_mostLoad_4_s, rr_c_pos (by omega), if_neg (by omega), rr_c_pos (by omega), rr_c_pos (by omega), hb.2, show (m : Int) + 1 = ((m + 1 : Nat) : Int) by omega]
      by_cases q : sp_l ν (ν 140).toNat (σ 0 m) ≤ (ps_ih (σ 0) (cf ν) m (0, 0)).2
      · rw [if_neg (show ¬ (ps_ih (σ 0) (cf ν) m (0, 0)).2 < sp_l ν (ν 140).toNat (σ 0 m) by omega)]; rw [if_pos q] at IH; exact IH
      · rw [if_pos (show (ps_ih (σ 0) (cf ν) m (0, 0)).2 < sp_l ν (ν 140).toNat (σ 0 m) by omega)]; rw [if_neg q] at IH; exact IH
/-- marks passed, by all keys -/
def sp_a (ν : Int → Int) (j : Int) : Int := if ps_sm ν 100 = 0 then 0 else sp_p ν j.toNat
theorem sp_a_r {ν : Int → Int} (h : Nu ν) : ∀ m : Nat, (m : Int) ≤ ν 140 → 0 ≤ ps_sm (sp_a ν) m ∧ ps_sm (sp_a ν) m ≤ 101 * m := by
  intro m
  induction m with
  | zero => intro _; exact ⟨Int.le_refl _, Int.le_refl _⟩
  | succ m ih =>
    intro hm
    rw [ps_sm_s]
    have := ih (by omega)
    have : 0 ≤ sp_a ν m ∧ sp_a ν m ≤ 101 := by
      unfold sp_a
      by_cases q : ps_sm ν 100 = 0
      · rw [if_pos q]; omega
      · rw [if_neg q]; exact sp_p_r h q (by omega)
    omega
theorem L1_passed_e {σ : rr_T} {ν : Int → Int} (hs : St σ ν) (hl : LC σ ν) {K : Int → Option Int} : ∀ (d n m : Nat), m + d = (σ 4 0).toNat → d < n → L1_allPassed_4 σ K n (ps_sm (sp_a ν) m) m = K (ps_sm (sp_a ν) (σ 4 0).toNat) := by
  have hc := hs.1
  have hkc := hs.2.1
  have e140 : ν 140 = σ 4 0 := hs.2.2.2.2.2.2.2.2.2.1
  have h0 := St_zero hs
  have hN := St_Nu hs
  intro d
  induction d with
  | zero =>
    intro n m h1 h2
    cases n with
    | zero => omega
    | succ n => rw [L1_allPassed_4_s, rr_c_pos (by omega), if_pos (by omega), show m = (σ 4 0).toNat by omega]
  | succ d ih =>
    intro n m h1 h2
    cases n with
    | zero => omega
    | succ n =>
      have hL := hl.2.2.1 m (by omega)
      have IH := ih n (m + 1) (by omega) (by omega)
      rw [ps_sm_s] at IH
      have em : (((m : Int)).toNat) = m := by omega
      rw [L1_allPassed_4_s, show (m : Int) + 1 = ((m + 1 : Nat) : Int) by omega]
      by_cases q : ps_sm ν 100 = 0
      · obtain ⟨-, l2, -⟩ := hL.1 (h0.1 q)
        rw [rr_c_pos (by omega), if_neg (by omega), rr_c_pos (by omega), rr_c_pos (by omega), if_pos l2]
        unfold sp_a at IH
        rw [if_pos q, Int.add_zero] at IH
        exact IH
      · have hp : 0 < σ 3 0 := by
          have : ¬ σ 3 0 = 0 := fun e => q (h0.2 e)
          omega
        obtain ⟨-, -, -, l2, -⟩ := hL.2 hp
        have r := sp_p_r hN q (i := m) (by omega)
        have ea : sp_a ν m = sp_p ν m := by unfold sp_a; rw [if_neg q, em]
        rw [rr_c_pos (by omega), if_neg (by omega), rr_c_pos (by omega), rr_c_pos (by omega), if_neg (by omega), l2]
        rw [ea] at IH
        exact IH
theorem L5_passed_e {τ : rr_T} (hN : Nu (τ 0)) (hm : LM τ (τ 0)) {K : Int → Option Int} : ∀ (d n m : Nat), m + d = (τ 0 140).toNat → d < n → L5_passedAll_4 τ K n (ps_sm (sp_a (τ 0)) m) m = K (ps_sm (sp_a (τ 0)) (τ 0 140).toNat) := by
  have hkc := hN.2.2.1
  intro d
  induction d with
  | zero =>
    intro n m h1 h2
    cases n with
    | zero => omega
    | succ n => rw [L5_passedAll_4_s, rr_c_pos (by omega), if_pos (by omega), show m = (τ 0 140).toNat by omega]
  | succ d ih =>
    intro n m h1 h2
    cases n with
    | zero => omega
    | succ n =>
      have IH := ih n (m + 1) (by omega) (by omega)
      rw [ps_sm_s] at IH
      have em : (((m : Int)).toNat) = m := by omega
      have hh := (hm.2.1 m (by omega)).1
      have hr := sp_h_r hN (i := m) (by omega)
      have hno := sp_h_no hN (i := m) (by omega)
      rw [L5_passedAll_4_s, rr_c_pos (by omega), if_neg (by omega), rr_c_pos (by omega), rr_c_pos (by omega), show (m : Int) + 1 = ((m + 1 : Nat) : Int) by omega]
      by_cases q : ps_sm (τ 0) 100 = 0
      · rw [if_pos (by rw [hh]; exact hno.2 q)]
        unfold sp_a at IH ⊢
        rw [if_pos q] at IH
        exact IH
      · have ea : sp_a (τ 0) m = sp_p (τ 0) m := by unfold sp_a; rw [if_neg q, em]
        have ef : sp_f (τ 0) m 1 = sp_p (τ 0) m := by unfold sp_f; rw [if_neg (by decide), if_neg q, if_pos rfl]
        rw [if_neg (by rw [hh]; exact fun e => q (hno.1 e)), M5_about_e hN hm (by omega) (by decide), Option.bind_some, ef]
        rw [ea] at IH
        exact IH
theorem A_count {k : Nat} {Ω : Nat → rr_T} {τ : rr_T} (h : Sim k Ω τ) {x : Int} (hx : 0 ≤ x ∧ x ≤ 8) : ∃ v : Int, M4_count x Ω = some (v, Ω) ∧ M5_counted x τ = some v ∧ rr_g v := by
  obtain ⟨hs, hl, hm, -⟩ := h
  have hc := hs.1
  have hkc := hs.2.1
  have hN := St_Nu hs
  have e140 : τ 0 140 = Ω 0 4 0 := hs.2.2.2.2.2.2.2.2.2.1
  have e141 : τ 0 141 = Ω 0 5 0 := hs.2.2.2.2.2.2.2.2.2.2.1
  have e142 : τ 0 142 = Ω 0 6 0 := hs.2.2.2.2.2.2.2.2.2.2.2
  have h5 := hs.2.2.1
  have h6 := hs.2.2.2.1
  have hwr : 0 ≤ ps_sm (τ 0) 100 ∧ ps_sm (τ 0) 100 ≤ 24 := ⟨ps_sm_nn (fun n a b => (hN.1 n a b).1), hN.2.1⟩
  have fold := St_fold_all hs (f := cf (τ 0)) (x := (0, 0)) (fun n a b e y => cf_n (by omega) y)
  have b100 := cf_b hN 100
  have full1 : M1_fullHosts (Ω 0) = some (ps_it (cf (τ 0)) 100 (0, 0)).1 := by
    rw [fold]; exact L1_full_e hs hl (K := fun y => some y) (Ω 0 3 0).toNat 1000 0 (by omega) (by omega)
  have most1 : M1_mostLoad (Ω 0) = some (ps_it (cf (τ 0)) 100 (0, 0)).2 := by
    rw [fold]; exact L1_most_e hs hl (K := fun y => some y) (Ω 0 3 0).toNat 1000 0 (by omega) (by omega)
  have by5 : ∀ x : Int, rr_g x → M5_byHosts x τ = if x = 0 then some (ps_it (cf (τ 0)) 100 (0, 0)).2 else some (ps_it (cf (τ 0)) 100 (0, 0)).1 := fun x hx => by
    have e := L5_byHosts_e hN hm (x := x) (K := fun y2_7 y3_7 => rr_c (rr_g x) (if x = 0 then some y3_7 else some y2_7)) 100 1000 0 (by omega) (by omega)
    rw [rr_c_pos hx] at e
    exact e
  have pas1 : M1_allPassed (Ω 0) = some (ps_sm (sp_a (τ 0)) (Ω 0 4 0).toNat) := L1_passed_e hs hl (K := fun y => some y) (Ω 0 4 0).toNat 1000 0 (by omega) (by omega)
  have pas5 : M5_passedAll τ = some (ps_sm (sp_a (τ 0)) (τ 0 140).toNat) := L5_passed_e hN hm (K := fun y => some y) (τ 0 140).toNat 1000 0 (by omega) (by omega)
  have par := sp_a_r hN (Ω 0 4 0).toNat (by omega)
  have two : ∀ (A : Option (Int × (Nat → rr_T))) (B : Option Int), (∃ v, rr_g v ∧ rr_wp A (fun a => a = (v, Ω)) ∧ rr_wp B (fun b => b = v)) → ∃ v : Int, A = some (v, Ω) ∧ B = some v ∧ rr_g v := fun A B hh => by
    obtain ⟨v, hv, ha, hb⟩ := hh
    exact ⟨v, wp_eq ha, wp_eq hb, hv⟩
  apply two
  unfold M4_count M5_counted
  have hc9 : x = 0 ∨ x = 1 ∨ x = 2 ∨ x = 3 ∨ x = 4 ∨ x = 5 ∨ x = 6 ∨ x = 7 ∨ x = 8 := by omega
  rcases hc9 with rfl | rfl | rfl | rfl | rfl | rfl | rfl | rfl | rfl
  · exact ⟨Ω 0 3 0, by omega, wp_c (by decide) (wp_t rfl (wp_some rfl)), wp_c (by decide) (wp_t rfl (wp_be (M5_hostMany_e hs) (wp_some rfl)))⟩
  · exact ⟨Ω 0 4 0, by omega, wp_c (by decide) (wp_f (by decide) (wp_t rfl (wp_some rfl))), wp_c (by decide) (wp_f (by decide) (wp_t rfl (wp_some e140)))⟩
  · exact ⟨Ω 0 5 0, by omega, wp_c (by decide) (wp_f (by decide) (wp_f (by decide) (wp_t rfl (wp_some rfl)))), wp_c (by decide) (wp_f (by decide) (wp_f (by decide) (wp_t rfl (wp_some e141))))⟩
  · exact ⟨2 * ps_sm (τ 0) 100, by omega, wp_c (by decide) (wp_f (by decide) (wp_f (by decide) (wp_f (by decide) (wp_t rfl (wp_be (M3_allWeights_e hs) (wp_some rfl)))))), wp_c (by decide) (wp_f (by decide) (wp_f (by decide) (wp_f (by decide) (wp_t rfl (wp_be (show M5_marks τ = some (2 * ps_sm (τ 0) 100) by unfold M5_marks; rw [M5_weights_e]; rfl) (wp_some rfl))))))⟩
  · exact ⟨Ω 0 6 0, by omega, wp_c (by decide) (wp_f (by decide) (wp_f (by decide) (wp_f (by decide) (wp_f (by decide) (wp_t rfl (wp_some rfl)))))), wp_c (by decide) (wp_f (by decide) (wp_f (by decide) (wp_f (by decide) (wp_f (by decide) (wp_t rfl (wp_some e142))))))⟩
  · exact ⟨_, by omega, wp_c (by decide) (wp_f (by decide) (wp_f (by decide) (wp_f (by decide) (wp_f (by decide) (wp_f (by decide) (wp_t rfl (wp_be full1 (wp_some rfl)))))))), wp_c (by decide) (wp_f (by decide) (wp_f (by decide) (wp_f (by decide) (wp_f (by decide) (wp_f (by decide) (wp_t rfl (wp_be (by rw [by5 1 (by decide), if_neg (by decide)]) (wp_some rfl))))))))⟩
  · exact ⟨_, by omega, wp_c (by decide) (wp_f (by decide) (wp_f (by decide) (wp_f (by decide) (wp_f (by decide) (wp_f (by decide) (wp_f (by decide) (wp_t rfl (wp_be pas1 (wp_some rfl))))))))), wp_c (by decide) (wp_f (by decide) (wp_f (by decide) (wp_f (by decide) (wp_f (by decide) (wp_f (by decide) (wp_f (by decide) (wp_t rfl (wp_be pas5 (wp_some (by rw [e140]))))))))))⟩
  · exact ⟨_, by omega, wp_c (by decide) (wp_f (by decide) (wp_f (by decide) (wp_f (by decide) (wp_f (by decide) (wp_f (by decide) (wp_f (by decide) (wp_f (by decide) (wp_t rfl (wp_be most1 (wp_some rfl)))))))))), wp_c (by decide) (wp_f (by decide) (wp_f (by decide) (wp_f (by decide) (wp_f (by decide) (wp_f (by decide) (wp_f (by decide) (wp_f (by decide) (wp_t rfl (wp_be (by rw [by5 0 (by decide), if_pos rfl]) (wp_some rfl))))))))))⟩
  · exact ⟨ps_sm (τ 0) 100, by omega, wp_c (by decide) (wp_f (by decide) (wp_f (by decide) (wp_f (by decide) (wp_f (by decide) (wp_f (by decide) (wp_f (by decide) (wp_f (by decide) (wp_f (by decide) (wp_t rfl (wp_be (M3_allWeights_e hs) (wp_some rfl))))))))))), wp_c (by decide) (wp_f (by decide) (wp_f (by decide) (wp_f (by decide) (wp_f (by decide) (wp_f (by decide) (wp_f (by decide) (wp_f (by decide) (wp_f (by decide) (wp_be (M5_weights_e τ) (wp_some rfl))))))))))⟩
theorem O_count : rr_k1 Sim M4_count M5_count := fun k Ω τ x _ h hx => by
  show P2 k (M4_count x Ω) (M5_count x τ)
  by_cases q : 0 ≤ x ∧ x ≤ 8
  · obtain ⟨v, v1, v2, -⟩ := A_count h q
    unfold M5_count
    rw [v1]
    exact P_bb (by rw [M5_in_e hx (by decide) (by decide), if_pos q]) (P_cb (show rr_g 1 by decide) (P_fb (by decide) (P_bb v2 (P_ok (Sim_up h) rfl))))
  · unfold M4_count M5_count
    refine P_bb (by rw [M5_in_e hx (by decide) (by decide), if_neg q]) (P_cb (show rr_g 0 by decide) (P_tb rfl (P_ca hx ?_)))
    exact P_fa (by omega) (P_fa (by omega) (P_fa (by omega) (P_fa (by omega) (P_fa (by omega) (P_fa (by omega) (P_fa (by omega) (P_fa (by omega) (P_fa (by omega) (P_no h (by decide))))))))))
