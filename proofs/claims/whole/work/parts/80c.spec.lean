/-! The model's row nu: weights by names at 0 .. 99, keys at 100 .., how many at 140, extra at 141. What laying makes of it. -/
def sp_1 (n j : Int) : Int := (41 * n + 29 * j + 5) % 101
def sp_F (o : Int → Int) : Int → Bool := fun p => decide (o p = -1)
def sp_pl (o : Int → Int) (n j : Int) : Int := (sp_1 n j + ps_ft (sp_F o) 101 (sp_1 n j)) % 101
def sp_m (n : Int) (o : Int → Int) : Nat → (Int → Int)
  | 0 => o
  | t + 1 => rr_u (sp_m n o t) (sp_pl (sp_m n o t) n t) n
theorem sp_m_s (n : Int) (o : Int → Int) (t : Nat) : sp_m n o (t + 1) = rr_u (sp_m n o t) (sp_pl (sp_m n o t) n t) n := rfl
def sp_o (ν : Int → Int) (n : Nat) : Int → Int := ps_it (fun k o => sp_m k o (2 * ν k).toNat) n (fun _ => -1)
theorem sp_o_s (ν : Int → Int) (n : Nat) : sp_o ν (n + 1) = sp_m n (sp_o ν n) (2 * ν n).toNat := rfl
def sp_by (ν : Int → Int) : Int := 100 * ps_sm ν 100
def sp_b (ν : Int → Int) (n : Int) : Int := if sp_by ν = 0 then 0 else (ν 140 * ν n * (100 + ν 141) + sp_by ν - 1) / sp_by ν
def sp_k (ν : Int → Int) (i : Int) : Int := (53 * ν (100 + i) + 17) % 101
def sp_R (ν : Int → Int) (ld : Int → Int) : Int → Bool := fun p => decide (¬ sp_o ν 100 p = -1 ∧ ld (sp_o ν 100 p) < sp_b ν (sp_o ν 100 p))
def sp_l (ν : Int → Int) : Nat → (Int → Int)
  | 0 => fun _ => 0
  | i + 1 => if ps_sm ν 100 = 0 then sp_l ν i else rr_u (sp_l ν i) (sp_o ν 100 ((sp_k ν i + ps_ft (sp_R ν (sp_l ν i)) 101 (sp_k ν i)) % 101)) (sp_l ν i (sp_o ν 100 ((sp_k ν i + ps_ft (sp_R ν (sp_l ν i)) 101 (sp_k ν i)) % 101)) + 1)
def sp_t (ν : Int → Int) (i : Nat) : Nat := ps_ft (sp_R ν (sp_l ν i)) 101 (sp_k ν i)
def sp_q (ν : Int → Int) (i : Nat) : Int := (sp_k ν i + sp_t ν i) % 101
def sp_h (ν : Int → Int) (i : Nat) : Int := if ps_sm ν 100 = 0 then -1 else sp_o ν 100 (sp_q ν i)
theorem sp_l_s (ν : Int → Int) (i : Nat) : sp_l ν (i + 1) = if ps_sm ν 100 = 0 then sp_l ν i else rr_u (sp_l ν i) (sp_o ν 100 (sp_q ν i)) (sp_l ν i (sp_o ν 100 (sp_q ν i)) + 1) := rfl
/-- marks on the way -/
def sp_pc (o : Int → Int) (p : Int) : Nat → Int
  | 0 => 0
  | t + 1 => sp_pc o p t + (if o ((p + t) % 101) = -1 then 0 else 1)
def sp_p (ν : Int → Int) (i : Nat) : Int := sp_pc (sp_o ν 100) (sp_k ν i) (sp_t ν i)
/-- what is known of a row -/
def Nu (ν : Int → Int) : Prop := (∀ n : Int, 0 ≤ n → n < 100 → 0 ≤ ν n ∧ ν n ≤ 4) ∧ ps_sm ν 100 ≤ 24 ∧ (0 ≤ ν 140 ∧ ν 140 ≤ 40) ∧ (0 ≤ ν 141 ∧ ν 141 ≤ 200) ∧ (∀ i : Int, 0 ≤ i → i < ν 140 → 0 ≤ ν (100 + i) ∧ ν (100 + i) ≤ 999)
theorem sp_1_r (n j : Int) : 0 ≤ sp_1 n j ∧ sp_1 n j < 101 := by unfold sp_1; omega
theorem sp_pl_r (o : Int → Int) (n j : Int) : 0 ≤ sp_pl o n j ∧ sp_pl o n j < 101 := by unfold sp_pl; omega
theorem sp_k_r (ν : Int → Int) (i : Int) : 0 ≤ sp_k ν i ∧ sp_k ν i < 101 := by unfold sp_k; omega
theorem sp_q_r (ν : Int → Int) (i : Nat) : 0 ≤ sp_q ν i ∧ sp_q ν i < 101 := by unfold sp_q; omega
theorem sp_pl_ex {o : Int → Int} (h : ps_oc o 101 < 101) (p : Int) (h0 : 0 ≤ p) (h1 : p < 101) : ∃ t : Nat, t < 101 ∧ sp_F o ((p + t) % 101) = true := by
  obtain ⟨q, a, b, e⟩ := ps_oc_free o 101 h
  exact ps_ft_ex h0 h1 a (by omega) (by unfold sp_F; simp [e])
theorem sp_pl_free {o : Int → Int} (h : ps_oc o 101 < 101) (n j : Int) : o (sp_pl o n j) = -1 := by
  have hr := sp_1_r n j
  obtain ⟨-, a, -⟩ := ps_ft_spec (sp_F o) 101 (sp_1 n j) hr.1 hr.2 (sp_pl_ex h _ hr.1 hr.2)
  unfold sp_F at a
  unfold sp_pl
  exact of_decide_eq_true a
theorem sp_m_oc (n : Int) (o : Int → Int) (t : Nat) : ps_oc (sp_m n o t) 101 ≤ ps_oc o 101 + t := by
  generalize hz : (101 : Nat) = z
  induction t with
  | zero => exact Nat.le_add_right _ _
  | succ t ih =>
    have h := ps_oc_u (sp_m n o t) (sp_pl (sp_m n o t) n t) n (sp_pl_r _ _ _).1 z
    rw [sp_m_s]
    split at h <;> omega
theorem sp_o_oc {ν : Int → Int} (hn : ∀ n : Int, 0 ≤ n → n < 100 → 0 ≤ ν n ∧ ν n ≤ 4) : ∀ n : Nat, n ≤ 100 → (ps_oc (sp_o ν n) 101 : Int) ≤ 2 * ps_sm ν n
  | 0, _ => by
    show ((ps_oc (fun _ => -1) 101 : Nat) : Int) ≤ 0
    rw [ps_oc_none]; exact Int.le_refl _
  | n + 1, h => by
    have ih := sp_o_oc hn n (by omega)
    have h1 := sp_m_oc n (sp_o ν n) (2 * ν n).toNat
    have h2 := hn n (by omega) (by omega)
    rw [sp_o_s, ps_sm_s]
    omega
theorem sp_o_48 {ν : Int → Int} (h : Nu ν) (n : Nat) (hn : n ≤ 100) : ps_oc (sp_o ν n) 101 ≤ 48 := by
  have h1 := sp_o_oc h.1 n hn
  have h2 := ps_sm_mono (f := ν) hn (fun k a b => (h.1 k a (by omega)).1)
  have h3 := h.2.1
  omega
/-- within a host's marks there is room -/
theorem sp_m_free {ν : Int → Int} (h : Nu ν) (n : Nat) (hn : n < 100) (t : Nat) (ht : (t : Int) ≤ 2 * ν n) : ps_oc (sp_m n (sp_o ν n) t) 101 ≤ 48 := by
  have h1 := sp_o_oc h.1 n (by omega)
  have h2 := sp_m_oc n (sp_o ν n) t
  have h3 := ps_sm_mono (f := ν) (show n + 1 ≤ 100 by omega) (fun k a b => (h.1 k a (by omega)).1)
  rw [ps_sm_s] at h3
  have h4 := h.2.1
  omega
theorem sp_m_or (n : Int) (o : Int → Int) : ∀ (t : Nat) (p : Int), sp_m n o t p = o p ∨ (sp_m n o t p = n ∧ 0 < t)
  | 0, p => Or.inl rfl
  | t + 1, p => by
    rw [sp_m_s]
    by_cases e : p = sp_pl (sp_m n o t) n t
    · right; rw [e, u_s]; exact ⟨rfl, by omega⟩
    · rw [u_n e]
      rcases sp_m_or n o t p with q | q
      · exact Or.inl q
      · exact Or.inr ⟨q.1, by omega⟩
theorem sp_o_or {ν : Int → Int} : ∀ (n : Nat) (p : Int), sp_o ν n p = -1 ∨ (0 ≤ sp_o ν n p ∧ sp_o ν n p < n ∧ 0 < ν (sp_o ν n p))
  | 0, p => Or.inl rfl
  | n + 1, p => by
    rw [sp_o_s]
    rcases sp_m_or n (sp_o ν n) (2 * ν n).toNat p with q | q
    · rw [q]
      rcases sp_o_or (ν := ν) n p with r | r
      · exact Or.inl r
      · exact Or.inr ⟨r.1, by omega, r.2.2⟩
    · rw [q.1]
      exact Or.inr ⟨by omega, by omega, by omega⟩
theorem sp_m_keep (n : Int) (o : Int → Int) (p : Int) (hp : o p ≠ -1) (t : Nat) (h : ps_oc o 101 + t ≤ 101) : sp_m n o t p = o p := by
  induction t with
  | zero => rfl
  | succ t ih =>
    have ih := ih (by omega)
    have hf := sp_pl_free (o := sp_m n o t) (by have := sp_m_oc n o t; omega) n t
    rw [sp_m_s, u_n, ih]
    intro e
    rw [← e, ih] at hf
    exact hp hf
theorem sp_o_keep {ν : Int → Int} (h : Nu ν) (p : Int) (m : Nat) (hp : sp_o ν m p ≠ -1) : ∀ d : Nat, m + d ≤ 100 → sp_o ν (m + d) p = sp_o ν m p
  | 0, _ => rfl
  | d + 1, hd => by
    have ih := sp_o_keep h p m hp d (by omega)
    show sp_o ν ((m + d) + 1) p = _
    rw [sp_o_s, sp_m_keep, ih]
    · rw [ih]; exact hp
    · have := sp_o_48 h (m + d) (by omega)
      have h4 := h.1 ((m + d : Nat) : Int) (by omega) (by omega)
      omega
theorem sp_o_has {ν : Int → Int} (h : Nu ν) (n : Nat) (hn : n < 100) (hp : 0 < ν n) : ∃ p : Int, 0 ≤ p ∧ p < 101 ∧ sp_o ν 100 p = n := by
  have h0 := sp_o_48 h n (by omega)
  have h4 := h.1 n (by omega) (by omega)
  refine ⟨sp_pl (sp_o ν n) n ((0 : Nat) : Int), (sp_pl_r _ _ _).1, (sp_pl_r _ _ _).2, ?_⟩
  have key : ∀ t : Nat, (t : Int) + 1 ≤ 2 * ν n → sp_m n (sp_o ν n) (t + 1) (sp_pl (sp_o ν n) n ((0 : Nat) : Int)) = n := by
    intro t
    induction t with
    | zero => intro _; exact u_s _ _ _
    | succ t ih =>
      intro ht
      have ih := ih (by omega)
      have hf := sp_pl_free (o := sp_m n (sp_o ν n) (t + 1)) (by have := sp_m_free h n hn (t + 1) (by omega); omega) n ((t + 1 : Nat) : Int)
      rw [sp_m_s, u_n, ih]
      intro e
      rw [← e, ih] at hf
      omega
  have k1 := key ((2 * ν n).toNat - 1) (by omega)
  rw [show (2 * ν n).toNat - 1 + 1 = (2 * ν n).toNat by omega, ← sp_o_s] at k1
  have k2 := sp_o_keep h (sp_pl (sp_o ν n) n ((0 : Nat) : Int)) (n + 1) (by rw [k1]; omega) (100 - (n + 1)) (by omega)
  rw [show n + 1 + (100 - (n + 1)) = 100 by omega, k1] at k2
  exact k2
/-! bounds -/
theorem sp_by_r {ν : Int → Int} (h : Nu ν) : 0 ≤ sp_by ν ∧ sp_by ν ≤ 2400 := by
  have h1 := ps_sm_nn (f := ν) (n := 100) (fun k a b => (h.1 k a (by omega)).1)
  have h2 := h.2.1
  unfold sp_by
  omega
theorem sp_above {ν : Int → Int} (h : Nu ν) {n : Int} (h0 : 0 ≤ n) (h1 : n < 100) : 0 ≤ ν 140 * ν n * (100 + ν 141) ∧ ν 140 * ν n * (100 + ν 141) ≤ 48000 := by
  have a := h.1 n h0 h1
  have b := h.2.2.1
  have c := h.2.2.2.1
  have e1 : 0 ≤ ν 140 * ν n := Int.mul_nonneg b.1 a.1
  have e2 : ν 140 * ν n ≤ 40 * 4 := Int.mul_le_mul b.2 a.2 a.1 (by omega)
  refine ⟨Int.mul_nonneg e1 (by omega), ?_⟩
  have e3 : ν 140 * ν n * (100 + ν 141) ≤ (40 * 4) * 300 := Int.mul_le_mul e2 (by omega) (by omega) (by omega)
  omega
theorem sp_ceil (a b : Int) (hb : 0 < b) : a ≤ b * ((a + b - 1) / b) := by
  have h1 := Int.mul_ediv_add_emod (a + b - 1) b
  have h2 := Int.emod_lt_of_pos (a + b - 1) hb
  omega
theorem sp_b_nn {ν : Int → Int} (h : Nu ν) {n : Int} (h0 : 0 ≤ n) (h1 : n < 100) : 0 ≤ sp_b ν n := by
  have a := sp_above h h0 h1
  have b := sp_by_r h
  unfold sp_b
  by_cases e : sp_by ν = 0
  · rw [if_pos e]; omega
  · rw [if_neg e]; exact Int.ediv_nonneg (by omega) (by omega)
theorem sp_b_le {ν : Int → Int} (h : Nu ν) {n : Int} (h0 : 0 ≤ n) (h1 : n < 100) : sp_b ν n ≤ 50400 := by
  have a := sp_above h h0 h1
  have b := sp_by_r h
  unfold sp_b
  by_cases e : sp_by ν = 0
  · rw [if_pos e]; omega
  · rw [if_neg e]
    have := Int.ediv_le_self (a := ν 140 * ν n * (100 + ν 141) + sp_by ν - 1) (sp_by ν) (by omega)
    omega
theorem sp_b_zero {ν : Int → Int} (h : Nu ν) {n : Int} (hn : ν n = 0) : sp_b ν n = 0 := by
  have b := sp_by_r h
  unfold sp_b
  by_cases e : sp_by ν = 0
  · rw [if_pos e]
  · rw [if_neg e, hn, Int.mul_zero, Int.zero_mul]
    exact Int.ediv_eq_zero_of_lt (by omega) (by omega)
theorem ps_sm_le {f g : Int → Int} : ∀ {n : Nat}, (∀ k : Int, 0 ≤ k → k < n → f k ≤ g k) → ps_sm f n ≤ ps_sm g n
  | 0, _ => Int.le_refl _
  | n + 1, h => by
    have h1 := ps_sm_le (f := f) (g := g) (n := n) (fun k a b => h k a (by omega))
    have h2 := h n (by omega) (by omega)
    rw [ps_sm_s, ps_sm_s]; omega
theorem ps_sm_mul (c : Int) (f : Int → Int) : ∀ n : Nat, ps_sm (fun k => c * f k) n = c * ps_sm f n
  | 0 => (Int.mul_zero c).symm
  | n + 1 => by rw [ps_sm_s, ps_sm_s, ps_sm_mul c f n, Int.mul_add]
/-- the bounds together are no less than the keys -/
theorem sp_b_sum {ν : Int → Int} (h : Nu ν) (hw : ps_sm ν 100 ≠ 0) : ν 140 ≤ ps_sm (sp_b ν) 100 := by
  have hnn := ps_sm_nn (f := ν) (n := 100) (fun k a b => (h.1 k a (by omega)).1)
  have hby : 0 < sp_by ν := by unfold sp_by; omega
  have k1 : ps_sm (fun n => (ν 140 * (100 + ν 141)) * ν n) 100 ≤ ps_sm (fun n => sp_by ν * sp_b ν n) 100 := by
    apply ps_sm_le
    intro k a b
    have := sp_ceil (ν 140 * ν k * (100 + ν 141)) (sp_by ν) hby
    have e : sp_b ν k = (ν 140 * ν k * (100 + ν 141) + sp_by ν - 1) / sp_by ν := by unfold sp_b; rw [if_neg (by omega)]
    show (ν 140 * (100 + ν 141)) * ν k ≤ sp_by ν * sp_b ν k
    rw [e]
    have e2 : (ν 140 * (100 + ν 141)) * ν k = ν 140 * ν k * (100 + ν 141) := by
      rw [Int.mul_assoc, Int.mul_comm (100 + ν 141) (ν k), ← Int.mul_assoc]
    rw [e2]; exact this
  rw [ps_sm_mul, ps_sm_mul] at k1
  unfold sp_by at k1
  generalize hW : ps_sm ν 100 = W at k1 hw hnn
  generalize hB : ps_sm (sp_b ν) 100 = B at k1
  have hb := h.2.2.1
  have hc := h.2.2.2.1
  have k2 : W * (ν 140 * (100 + ν 141)) ≤ W * (100 * B) := by
    have e1 : W * (ν 140 * (100 + ν 141)) = ν 140 * (100 + ν 141) * W := Int.mul_comm _ _
    have e2 : W * (100 * B) = 100 * W * B := by rw [← Int.mul_assoc, Int.mul_comm W 100]
    rw [e1, e2]; exact k1
  have k3 := Int.le_of_mul_le_mul_left k2 (by omega)
  have k4 : ν 140 * 100 ≤ ν 140 * (100 + ν 141) := Int.mul_le_mul_of_nonneg_left (by omega) hb.1
  omega
/-! loads -/
theorem sp_l_nn (ν : Int → Int) : ∀ (i : Nat) (n : Int), 0 ≤ sp_l ν i n
  | 0, _ => Int.le_refl _
  | i + 1, n => by
    rw [sp_l_s]
    by_cases e : ps_sm ν 100 = 0
    · rw [if_pos e]; exact sp_l_nn ν i n
    · rw [if_neg e, u_e]
      have h1 := sp_l_nn ν i n
      have h2 := sp_l_nn ν i (sp_o ν 100 (sp_q ν i))
      split <;> omega
theorem sp_l_le (ν : Int → Int) : ∀ (i : Nat) (n : Int), sp_l ν i n ≤ i
  | 0, _ => Int.le_refl _
  | i + 1, n => by
    rw [sp_l_s]
    have h1 := sp_l_le ν i n
    have h2 := sp_l_le ν i (sp_o ν 100 (sp_q ν i))
    by_cases e : ps_sm ν 100 = 0
    · rw [if_pos e]; omega
    · rw [if_neg e, u_e]
      split <;> omega
theorem sp_room {ν : Int → Int} (h : Nu ν) (hw : ps_sm ν 100 ≠ 0) {ld : Int → Int} (hl : ∀ n, 0 ≤ ld n) (hs : ps_sm ld 100 < ν 140) : ∃ q : Int, 0 ≤ q ∧ q < 101 ∧ sp_R ν ld q = true := by
  have hb := sp_b_sum h hw
  obtain ⟨n, a, b, e⟩ := ps_sm_lt (f := ld) (g := sp_b ν) (n := 100) (by omega)
  have hn : 0 < ν n := by
    have h1 := (h.1 n a (by omega)).1
    rcases Int.lt_or_eq_of_le h1 with q | q
    · exact q
    · have h2 := sp_b_zero h (n := n) q.symm
      have h3 := hl n
      omega
  obtain ⟨m, rfl⟩ := Int.eq_ofNat_of_zero_le a
  obtain ⟨p, p0, p1, ep⟩ := sp_o_has h m (by omega) hn
  refine ⟨p, p0, p1, ?_⟩
  unfold sp_R
  rw [ep]
  exact decide_eq_true ⟨by omega, e⟩
theorem sp_l_sum {ν : Int → Int} (h : Nu ν) (hw : ps_sm ν 100 ≠ 0) (i : Nat) (hi : (i : Int) ≤ ν 140) : ps_sm (sp_l ν i) 100 = i := by
  induction i with
  | zero => exact ps_sm_zero 100
  | succ i ih =>
    have ih := ih (by omega)
    obtain ⟨q, q0, q1, eq⟩ := sp_room h hw (sp_l_nn ν i) (by omega)
    have kr := sp_k_r ν i
    obtain ⟨-, a, -⟩ := ps_ft_spec (sp_R ν (sp_l ν i)) 101 (sp_k ν i) kr.1 kr.2 (ps_ft_ex kr.1 kr.2 q0 q1 eq)
    have a2 : ¬ sp_o ν 100 (sp_q ν i) = -1 ∧ sp_l ν i (sp_o ν 100 (sp_q ν i)) < sp_b ν (sp_o ν 100 (sp_q ν i)) := of_decide_eq_true a
    rcases sp_o_or (ν := ν) 100 (sp_q ν i) with r | r
    · exact absurd r a2.1
    · rw [sp_l_s, if_neg hw, ps_sm_u _ _ _ r.1, if_pos r.2.1, ih]
      omega
/-- the search of the i-th key -/
theorem sp_found {ν : Int → Int} (h : Nu ν) (hw : ps_sm ν 100 ≠ 0) (i : Nat) (hi : (i : Int) < ν 140) : sp_t ν i < 101 ∧ sp_R ν (sp_l ν i) (sp_q ν i) = true ∧ ∀ s : Nat, s < sp_t ν i → sp_R ν (sp_l ν i) ((sp_k ν i + s) % 101) = false := by
  obtain ⟨q, q0, q1, eq⟩ := sp_room h hw (sp_l_nn ν i) (by rw [sp_l_sum h hw i (by omega)]; exact hi)
  have kr := sp_k_r ν i
  exact ps_ft_spec (sp_R ν (sp_l ν i)) 101 (sp_k ν i) kr.1 kr.2 (ps_ft_ex kr.1 kr.2 q0 q1 eq)
theorem sp_q_host {ν : Int → Int} (h : Nu ν) (hw : ps_sm ν 100 ≠ 0) (i : Nat) (hi : (i : Int) < ν 140) : 0 ≤ sp_o ν 100 (sp_q ν i) ∧ sp_o ν 100 (sp_q ν i) < 100 ∧ 0 < ν (sp_o ν 100 (sp_q ν i)) := by
  obtain ⟨-, a, -⟩ := sp_found h hw i hi
  have a2 : ¬ sp_o ν 100 (sp_q ν i) = -1 ∧ sp_l ν i (sp_o ν 100 (sp_q ν i)) < sp_b ν (sp_o ν 100 (sp_q ν i)) := of_decide_eq_true a
  rcases sp_o_or (ν := ν) 100 (sp_q ν i) with r | r
  · exact absurd r a2.1
  · exact ⟨r.1, by omega, r.2.2⟩
