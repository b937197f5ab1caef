/-! The model's laying is the row's. -/
theorem L5_weights_e (τ : rr_T) (K : Int → Option Int) : ∀ (d n m : Nat), m + d = 100 → d < n → L5_weights_4 τ K n (ps_sm (τ 0) m) m = K (ps_sm (τ 0) 100) := by
  intro d
  induction d with
  | zero =>
    intro n m h1 h2
    cases n with
    | zero => omega
    | succ n =>
      have : m = 100 := by omega
      subst this
      rw [L5_weights_4_s, rr_c_pos (by omega), if_pos (by omega)]
  | succ d ih =>
    intro n m h1 h2
    cases n with
    | zero => omega
    | succ n =>
      rw [L5_weights_4_s, rr_c_pos (by omega), if_neg (by omega), rr_c_pos (by omega)]
      exact ih n (m + 1) (by omega) (by omega)
theorem M5_weights_e (τ : rr_T) : M5_weights τ = some (ps_sm (τ 0) 100) := L5_weights_e τ _ 100 1000 0 (by omega) (by omega)
theorem M5_bound_e {τ : rr_T} (h : Nu (τ 0)) {n : Int} (h0 : 0 ≤ n) (h1 : n < 100) : M5_bound n τ = some (sp_b (τ 0) n) := by
  have a := sp_above h h0 h1
  have b := sp_by_r h
  unfold M5_bound
  unfold sp_by at b
  rw [rr_c_pos (by omega), M5_weights_e, Option.bind_some, rr_c_pos (by omega)]
  unfold sp_b sp_by
  by_cases e : 100 * ps_sm (τ 0) 100 = 0
  · rw [if_pos e, if_pos e]
  · rw [if_neg e, if_neg e, rr_c_pos ⟨⟨by omega, by omega⟩, ⟨by omega, by omega⟩⟩]
theorem M5_first_e {n j : Int} (h : 0 ≤ n ∧ n < 1000 ∧ 0 ≤ j ∧ j < 1000) : M5_first n j = some (sp_1 n j) := by
  unfold M5_first
  rw [rr_c_pos (by omega)]
  rfl
theorem M5_placeOf_e {k : Int} (h : 0 ≤ k ∧ k ≤ 999) : M5_placeOf k = some ((53 * k + 17) % 101) := by
  unfold M5_placeOf
  rw [rr_c_pos (by omega)]
theorem w_layMarks_2 {σ0 : rr_T} {K : rr_T → Option rr_T} {P : rr_T → Prop} (hK : ∀ σ : rr_T, (∀ k, k ≠ 5 → σ k = σ0 k) → (∀ p : Int, 0 ≤ p → p < 101 → σ 5 p = -1) → rr_wp (K σ) P) : ∀ (d n m : Nat) (σ : rr_T), m + d = 101 → d < n → (∀ k, k ≠ 5 → σ k = σ0 k) → (∀ p : Int, 0 ≤ p → p < m → σ 5 p = -1) → rr_wp (L5_layMarks_2 K n m σ) P := by
  intro d
  induction d with
  | zero =>
    intro n m σ h1 h2 h3 h4
    cases n with
    | zero => omega
    | succ n =>
      rw [L5_layMarks_2_s]
      refine wp_c (by omega) (wp_t (by omega) (hK σ h3 (fun p a b => h4 p a (by omega))))
  | succ d ih =>
    intro n m σ h1 h2 h3 h4
    cases n with
    | zero => omega
    | succ n =>
      rw [L5_layMarks_2_s]
      refine wp_c (by omega) (wp_f (by omega) (wp_c (by omega) ?_))
      refine ih n (m + 1) _ (by omega) (by omega) (fun k hk => by rw [s_n hk, h3 k hk]) (fun p a b => ?_)
      rw [s_s, u_e]
      split
      · rfl
      · exact h4 p a (by omega)
/-- the first place that is free -/
theorem L5_layMarks_49_e {σ : rr_T} {x1 x2 : Int} {K : Int → Option rr_T} {o : Int → Int} (ho : ∀ p : Int, 0 ≤ p → p < 101 → σ 5 p = o p) (hr : ∀ p : Int, 0 ≤ p → p < 101 → -1 ≤ o p ∧ o p < 100) {p : Int} (p0 : 0 ≤ p) (p1 : p < 101) (hf : ps_oc o 101 < 101) : ∀ (d n s : Nat), s + d = ps_ft (sp_F o) 101 p → d < n → L5_layMarks_49 σ x1 x2 K n ((p + s) % 101) = K ((p + ps_ft (sp_F o) 101 p) % 101) := by
  obtain ⟨-, a2, a3⟩ := ps_ft_spec (sp_F o) 101 p p0 p1 (sp_pl_ex hf p p0 p1)
  generalize ps_ft (sp_F o) 101 p = t at a2 a3
  intro d
  induction d with
  | zero =>
    intro n s h1 h2
    cases n with
    | zero => omega
    | succ n =>
      have : s = t := by omega
      subst this
      have e := ho ((p + s) % 101) (by omega) (by omega)
      have f : o ((p + s) % 101) = -1 := of_decide_eq_true a2
      rw [L5_layMarks_49_s, e, f, rr_c_pos (by omega), rr_c_pos (by omega), if_pos rfl]
  | succ d ih =>
    intro n s h1 h2
    cases n with
    | zero => omega
    | succ n =>
      have e := ho ((p + s) % 101) (by omega) (by omega)
      have r := hr ((p + s) % 101) (by omega) (by omega)
      have f : ¬ o ((p + s) % 101) = -1 := of_decide_eq_false (a3 s (by omega))
      rw [L5_layMarks_49_s, e, rr_c_pos (by omega), rr_c_pos (by omega), if_neg f, rr_c_pos (by omega)]
      have := ih n (s + 1) (by omega) (by omega)
      rw [← this]
      congr 1
      omega
theorem sp_F_cong {o o2 : Int → Int} (h : ∀ p : Int, 0 ≤ p → p < 101 → o p = o2 p) (n j : Int) : sp_pl o n j = sp_pl o2 n j := by
  unfold sp_pl
  have hr := sp_1_r n j
  rw [ps_ft_cong (R := sp_F o2) hr.1 hr.2 (fun q a b => by show decide (o q = -1) = decide (o2 q = -1); rw [h q a b])]
theorem sp_m_r {ν : Int → Int} (n : Nat) (hn : n < 100) (t : Nat) (p : Int) : -1 ≤ sp_m n (sp_o ν n) t p ∧ sp_m n (sp_o ν n) t p < 100 := by
  rcases sp_m_or n (sp_o ν n) t p with q | q
  · rw [q]
    rcases sp_o_or (ν := ν) n p with r | r <;> omega
  · rw [q.1]; omega
theorem w_layMarks_31 {σ0 : rr_T} (h : Nu (σ0 0)) {K : rr_T → Option rr_T} {P : rr_T → Prop} (n1 : Nat) (hn1 : n1 < 100) (hK : ∀ σ : rr_T, (∀ k, k ≠ 5 → σ k = σ0 k) → (∀ p : Int, 0 ≤ p → p < 101 → σ 5 p = sp_o (σ0 0) (n1 + 1) p) → rr_wp (K σ) P) : ∀ (d n j : Nat) (σ : rr_T), j + d = (2 * σ0 0 n1).toNat → d < n → (∀ k, k ≠ 5 → σ k = σ0 k) → (∀ p : Int, 0 ≤ p → p < 101 → σ 5 p = sp_m n1 (sp_o (σ0 0) n1) j p) → rr_wp (L5_layMarks_31 n1 K n j σ) P := by
  have h4 := h.1 n1 (by omega) (by omega)
  intro d
  induction d with
  | zero =>
    intro n j σ h1 h2 hk hp
    cases n with
    | zero => omega
    | succ n =>
      rw [L5_layMarks_31_s, hk 0 (by decide)]
      refine wp_c (by omega) (wp_c (by omega) (wp_t (by omega) (hK σ hk (fun p a b => ?_))))
      rw [hp p a b, sp_o_s, show j = (2 * σ0 0 n1).toNat by omega]
  | succ d ih =>
    intro n j σ h1 h2 hk hp
    cases n with
    | zero => omega
    | succ n =>
      have hf := sp_m_free h n1 hn1 j (by omega)
      rw [L5_layMarks_31_s, hk 0 (by decide)]
      refine wp_c (by omega) (wp_c (by omega) (wp_f (by omega) (wp_be (M5_first_e (by omega)) ?_)))
      have hr := sp_1_r n1 j
      have e := L5_layMarks_49_e (x1 := n1) (x2 := j) (K := (fun y3_49 => rr_c (0 ≤ y3_49 ∧ y3_49 < 101) (L5_layMarks_31 n1 K n (j + 1) (rr_s σ 5 y3_49 n1)))) hp (fun p _ _ => sp_m_r n1 hn1 j p) hr.1 hr.2 (by omega) (ps_ft (sp_F (sp_m n1 (sp_o (σ0 0) n1) j)) 101 (sp_1 n1 j)) 1000 0 (by omega) (by have := (ps_ft_spec (sp_F (sp_m n1 (sp_o (σ0 0) n1) j)) 101 (sp_1 n1 j) hr.1 hr.2 (sp_pl_ex (by omega) _ hr.1 hr.2)).1; omega)
      rw [show (sp_1 n1 j + ((0 : Nat) : Int)) % 101 = sp_1 n1 j by omega] at e
      rw [e]
      refine wp_c (by omega) ?_
      refine ih n (j + 1) _ (by omega) (by omega) (fun k hk2 => by rw [s_n hk2, hk k hk2]) (fun p a b => ?_)
      rw [s_s, sp_m_s]
      show rr_u (σ 5) (sp_pl (sp_m n1 (sp_o (σ0 0) n1) j) n1 j) n1 p = _
      rw [u_e, u_e]
      split
      · rfl
      · exact hp p a b
theorem w_layMarks_23 {σ0 : rr_T} (h : Nu (σ0 0)) {K : rr_T → Option rr_T} {P : rr_T → Prop} (hK : ∀ σ : rr_T, (∀ k, k ≠ 5 → σ k = σ0 k) → (∀ p : Int, 0 ≤ p → p < 101 → σ 5 p = sp_o (σ0 0) 100 p) → rr_wp (K σ) P) : ∀ (d n m : Nat) (σ : rr_T), m + d = 100 → d < n → (∀ k, k ≠ 5 → σ k = σ0 k) → (∀ p : Int, 0 ≤ p → p < 101 → σ 5 p = sp_o (σ0 0) m p) → rr_wp (L5_layMarks_23 K n m σ) P := by
  intro d
  induction d with
  | zero =>
    intro n m σ h1 h2 hk hp
    cases n with
    | zero => omega
    | succ n =>
      have : m = 100 := by omega
      subst this
      rw [L5_layMarks_23_s]
      exact wp_c (by omega) (wp_t (by omega) (hK σ hk hp))
  | succ d ih =>
    intro n m σ h1 h2 hk hp
    cases n with
    | zero => omega
    | succ n =>
      have h4 := h.1 m (by omega) (by omega)
      rw [L5_layMarks_23_s]
      refine wp_c (by omega) (wp_f (by omega) ?_)
      exact w_layMarks_31 h m (by omega) (fun σ2 hk2 hp2 => ih n (m + 1) σ2 (by omega) (by omega) hk2 hp2) (2 * σ0 0 m).toNat 1000 0 σ (by omega) (by omega) hk hp
theorem M5_layMarks_w {σ0 : rr_T} (h : Nu (σ0 0)) : rr_wp (M5_layMarks σ0) (fun σ => (∀ k, k ≠ 5 → σ k = σ0 k) ∧ ∀ p : Int, 0 ≤ p → p < 101 → σ 5 p = sp_o (σ0 0) 100 p) := by
  unfold M5_layMarks
  refine w_layMarks_2 (σ0 := σ0) (fun σ hk hp => ?_) 101 1000 0 σ0 (by omega) (by omega) (fun _ _ => rfl) (fun p a b => by omega)
  exact w_layMarks_23 (σ0 := σ0) h (fun σ2 hk2 hp2 => wp_some ⟨hk2, hp2⟩) 100 1000 0 σ (by omega) (by omega) hk hp
theorem M5_isRoom_e {σ : rr_T} (h : Nu (σ 0)) (ho : ∀ p : Int, 0 ≤ p → p < 101 → σ 5 p = sp_o (σ 0) 100 p) {ld : Int → Int} (hl : ∀ n : Int, 0 ≤ n → n < 100 → σ 8 n = ld n) (hr : ∀ n : Int, 0 ≤ ld n ∧ ld n ≤ 40) {p : Int} (p0 : 0 ≤ p) (p1 : p < 101) : M5_isRoom p σ = some (if sp_R (σ 0) ld p = true then 1 else 0) := by
  unfold M5_isRoom sp_R
  rw [rr_c_pos ⟨p0, p1⟩, ho p p0 p1]
  rcases sp_o_or (ν := σ 0) 100 p with r | r
  · rw [r, rr_c_pos (by omega), if_pos rfl]
    simp
  · have h1 := sp_b_nn h r.1 (by omega)
    have h2 := sp_b_le h r.1 (by omega)
    have h3 := hr (sp_o (σ 0) 100 p)
    generalize hq : sp_o (σ 0) 100 p = q at r h1 h2 h3
    rw [rr_c_pos (by omega), if_neg (by omega), if_pos r.1, rr_c_pos ⟨r.1, by omega⟩, if_pos r.1, M5_bound_e h r.1 (by omega), Option.bind_some, hl q r.1 (by omega), rr_c_pos (by omega)]
    by_cases e : sp_b (σ 0) q ≤ ld q
    · rw [if_pos e, if_neg]
      intro hd
      have := (of_decide_eq_true hd).2
      omega
    · rw [if_neg e, if_pos]
      exact decide_eq_true ⟨by omega, by omega⟩
theorem w_lay_6 {σ0 : rr_T} {K : rr_T → Option rr_T} {P : rr_T → Prop} (hK : ∀ σ : rr_T, (∀ k, k ≠ 8 → σ k = σ0 k) → (∀ p : Int, 0 ≤ p → p < 100 → σ 8 p = 0) → rr_wp (K σ) P) : ∀ (d n m : Nat) (σ : rr_T), m + d = 100 → d < n → (∀ k, k ≠ 8 → σ k = σ0 k) → (∀ p : Int, 0 ≤ p → p < m → σ 8 p = 0) → rr_wp (L5_lay_6 K n m σ) P := by
  intro d
  induction d with
  | zero =>
    intro n m σ h1 h2 h3 h4
    cases n with
    | zero => omega
    | succ n =>
      rw [L5_lay_6_s]
      refine wp_c (by omega) (wp_t (by omega) (hK σ h3 (fun p a b => h4 p a (by omega))))
  | succ d ih =>
    intro n m σ h1 h2 h3 h4
    cases n with
    | zero => omega
    | succ n =>
      rw [L5_lay_6_s]
      refine wp_c (by omega) (wp_f (by omega) (wp_c (by omega) ?_))
      refine ih n (m + 1) _ (by omega) (by omega) (fun k hk => by rw [s_n hk, h3 k hk]) (fun p a b => ?_)
      rw [s_s, u_e]
      split
      · rfl
      · exact h4 p a (by omega)
/-- the first place with room -/
theorem L5_lay_68_e {σ : rr_T} (h : Nu (σ 0)) (hw : ps_sm (σ 0) 100 ≠ 0) {x2 : Int} {K : Int → Option rr_T} (i : Nat) (hi : (i : Int) < σ 0 140) (ho : ∀ p : Int, 0 ≤ p → p < 101 → σ 5 p = sp_o (σ 0) 100 p) (hl : ∀ n : Int, 0 ≤ n → n < 100 → σ 8 n = sp_l (σ 0) i n) : ∀ (d n s : Nat), s + d = sp_t (σ 0) i → d < n → L5_lay_68 σ 0 x2 K n ((sp_k (σ 0) i + s) % 101) s = K (sp_q (σ 0) i) := by
  obtain ⟨a1, a2, a3⟩ := sp_found h hw i hi
  have h40 := h.2.2.1
  have hlr : ∀ n : Int, 0 ≤ sp_l (σ 0) i n ∧ sp_l (σ 0) i n ≤ 40 := fun n => ⟨sp_l_nn _ _ _, by have := sp_l_le (σ 0) i n; omega⟩
  intro d
  induction d with
  | zero =>
    intro n s h1 h2
    cases n with
    | zero => omega
    | succ n =>
      have : s = sp_t (σ 0) i := by omega
      subst this
      have e := M5_isRoom_e h ho hl hlr (p := sp_q (σ 0) i) (sp_q_r _ _).1 (sp_q_r _ _).2
      rw [a2, if_pos rfl] at e
      show L5_lay_68 σ 0 x2 K (n + 1) (sp_q (σ 0) i) _ = _
      rw [L5_lay_68_s, rr_c_pos (by omega), if_neg (by omega), rr_c_pos (by decide), if_pos rfl, e, Option.bind_some, rr_c_pos (by decide), if_neg (by decide)]
  | succ d ih =>
    intro n s h1 h2
    cases n with
    | zero => omega
    | succ n =>
      have e := M5_isRoom_e h ho hl hlr (p := (sp_k (σ 0) i + s) % 101) (by omega) (by omega)
      rw [a3 s (by omega), if_neg (by decide)] at e
      rw [L5_lay_68_s, rr_c_pos (by omega), if_neg (by omega), rr_c_pos (by decide), if_pos rfl, e, Option.bind_some, rr_c_pos (by decide), if_pos rfl, rr_c_pos (by omega)]
      have := ih n (s + 1) (by omega) (by omega)
      rw [← this]
      congr 1
      omega
theorem L5_lay_68_n {σ : rr_T} {x2 : Int} {K : Int → Option rr_T} {p : Int} (n : Nat) : L5_lay_68 σ 1 x2 K (n + 1) p 0 = K p := by
  rw [L5_lay_68_s, rr_c_pos (by decide), if_neg (by decide), rr_c_pos (by decide), if_neg (by decide)]
/-- what laying leaves in the model -/
def LM (τ : rr_T) (ν : Int → Int) : Prop := (∀ p : Int, 0 ≤ p → p < 101 → τ 5 p = sp_o ν 100 p) ∧ (∀ i : Nat, (i : Int) < ν 140 → τ 6 i = sp_h ν i ∧ (ps_sm ν 100 ≠ 0 → τ 7 i = sp_q ν i)) ∧ (∀ n : Int, 0 ≤ n → n < 100 → τ 8 n = sp_l ν (ν 140).toNat n)
theorem w_lay_40 {σ0 : rr_T} (h : Nu (σ0 0)) (hw : ps_sm (σ0 0) 100 ≠ 0) {K : rr_T → Option rr_T} {P : rr_T → Prop} (hK : ∀ σ : rr_T, (∀ k, k ≠ 5 → k ≠ 6 → k ≠ 7 → k ≠ 8 → σ k = σ0 k) → LM σ (σ0 0) → rr_wp (K σ) P) : ∀ (d n i : Nat) (σ : rr_T), i + d = (σ0 0 140).toNat → d < n → (∀ k, k ≠ 5 → k ≠ 6 → k ≠ 7 → k ≠ 8 → σ k = σ0 k) → (∀ p : Int, 0 ≤ p → p < 101 → σ 5 p = sp_o (σ0 0) 100 p) → (∀ j : Nat, j < i → σ 6 j = sp_h (σ0 0) j ∧ σ 7 j = sp_q (σ0 0) j) → (∀ n : Int, 0 ≤ n → n < 100 → σ 8 n = sp_l (σ0 0) i n) → rr_wp (L5_lay_40 0 K n i σ) P := by
  have h40 := h.2.2.1
  intro d
  induction d with
  | zero =>
    intro n i σ h1 h2 hk ho hh hl
    cases n with
    | zero => omega
    | succ n =>
      have hi : (σ0 0 140).toNat = i := by omega
      rw [L5_lay_40_s, hk 0 (by decide) (by decide) (by decide) (by decide)]
      refine wp_c (by omega) (wp_t (by omega) (hK σ hk ⟨ho, fun j hj => ?_, ?_⟩))
      · have := hh j (by omega)
        exact ⟨this.1, fun _ => this.2⟩
      · rw [hi]; exact hl
  | succ d ih =>
    intro n i σ h1 h2 hk ho hh hl
    cases n with
    | zero => omega
    | succ n =>
      have hk0 := hk 0 (by decide) (by decide) (by decide) (by decide)
      have hkey := h.2.2.2.2 i (by omega) (by omega)
      obtain ⟨a1, a2, a3⟩ := sp_found h hw i (by omega)
      have qr := sp_q_r (σ0 0) i
      have qh := sp_q_host h hw i (by omega)
      rw [L5_lay_40_s, hk0]
      refine wp_c (by omega) (wp_f (by omega) (wp_c (by omega) (wp_be (M5_placeOf_e hkey) ?_)))
      have e := L5_lay_68_e (σ := σ) (by rw [hk0]; exact h) (by rw [hk0]; exact hw) (x2 := i) (K := fun y3_68 => rr_c (rr_g 0) (if (0 : Int) = 0 then rr_c (0 ≤ y3_68 ∧ y3_68 < 101) (rr_c (0 ≤ (i : Int) ∧ (i : Int) < 40) (if (0 : Int) = 0 then rr_c (0 ≤ (σ 5 y3_68) ∧ (σ 5 y3_68) < 100) (L5_lay_40 0 K n ((i : Int) + 1) (rr_s (rr_s (rr_s σ 6 i (σ 5 y3_68)) 7 i y3_68) 8 (σ 5 y3_68) ((σ 8 (σ 5 y3_68)) + 1))) else L5_lay_40 0 K n ((i : Int) + 1) (rr_s (rr_s σ 6 i (σ 5 y3_68)) 7 i y3_68))) else rr_c (0 ≤ (i : Int) ∧ (i : Int) < 40) (if (0 : Int) = 0 then rr_c (0 ≤ y3_68 ∧ y3_68 < 101) (rr_c (0 ≤ (σ 5 y3_68) ∧ (σ 5 y3_68) < 100) (L5_lay_40 0 K n ((i : Int) + 1) (rr_s (rr_s (rr_s σ 6 i (-1)) 7 i y3_68) 8 (σ 5 y3_68) ((σ 8 (σ 5 y3_68)) + 1)))) else L5_lay_40 0 K n ((i : Int) + 1) (rr_s (rr_s σ 6 i (-1)) 7 i y3_68)))) i (by rw [hk0]; omega) (by rw [hk0]; exact ho) (by rw [hk0]; exact hl) (sp_t (σ0 0) i) 1000 0 (by rw [hk0]; omega) (by omega)
      rw [hk0, show (sp_k (σ0 0) i + ((0 : Nat) : Int)) % 101 = sp_k (σ0 0) i by have := sp_k_r (σ0 0) i; omega] at e
      refine Eq.mpr (congrArg (fun z => rr_wp z P) e) ?_
      rw [ho _ qr.1 qr.2, hl _ qh.1 qh.2.1]
      refine wp_c (by decide) (wp_t rfl (wp_c qr (wp_c (by omega) (wp_t rfl (wp_c ⟨qh.1, qh.2.1⟩ ?_)))))
      refine ih n (i + 1) _ (by omega) (by omega) (fun k k5 k6 k7 k8 => by rw [s_n k8, s_n k7, s_n k6, hk k k5 k6 k7 k8]) ?_ ?_ ?_
      · intro p a b
        rw [s_n (by decide), s_n (by decide), s_n (by decide), ho p a b]
      · intro j hj
        rw [s_n (by decide : (6 : Nat) ≠ 8), s_n (by decide : (6 : Nat) ≠ 7), s_s, s_n (by decide : (7 : Nat) ≠ 8), s_s, u_e, u_e]
        by_cases ej : j = i
        · subst ej
          rw [if_pos rfl, if_pos rfl]
          refine ⟨?_, rfl⟩
          unfold sp_h
          rw [if_neg hw]
        · rw [if_neg (by omega), if_neg (by omega)]
          rw [s_n (by decide : (7 : Nat) ≠ 6)]
          exact hh j (by omega)
      · intro m a b
        rw [s_s, s_n (by decide), s_n (by decide), sp_l_s, if_neg hw, u_e, u_e]
        split
        · rfl
        · exact hl m a b
