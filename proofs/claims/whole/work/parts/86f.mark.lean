/-! The place of a mark. -/
def TR (σ : rr_T) (o : Int → Int) : Prop := ∀ p : Int, 0 ≤ p → p < 101 → σ 10 p = if o p = -1 then 0 else 1
theorem w_markOf_2 {σ0 : rr_T} {x1 x2 : Int} {K : rr_T → Option (Int × rr_T)} {P : Int × rr_T → Prop} (hK : ∀ σ : rr_T, (∀ k, k ≠ 10 → σ k = σ0 k) → (∀ p : Int, 0 ≤ p → p < 101 → σ 10 p = 0) → rr_wp (K σ) P) : ∀ (d n m : Nat) (σ : rr_T), m + d = 101 → d < n → (∀ k, k ≠ 10 → σ k = σ0 k) → (∀ p : Int, 0 ≤ p → p < m → σ 10 p = 0) → rr_wp (L5_markOf_2 x1 x2 K n m σ) P := by
  intro d
  induction d with
  | zero =>
    intro n m σ h1 h2 h3 h4
    cases n with
    | zero => omega
    | succ n =>
      rw [L5_markOf_2_s]
      exact wp_c (by omega) (wp_t (by omega) (hK σ h3 (fun i a b => h4 i a (by omega))))
  | succ d ih =>
    intro n m σ h1 h2 h3 h4
    cases n with
    | zero => omega
    | succ n =>
      rw [L5_markOf_2_s]
      refine wp_c (by omega) (wp_f (by omega) (wp_c (by omega) ?_))
      rw [show (m : Int) + 1 = ((m + 1 : Nat) : Int) by omega]
      refine ih n (m + 1) _ (by omega) (by omega) (fun k hk => by rw [s_n hk, h3 k hk]) (fun i a b => ?_)
      rw [s_s, u_e]
      by_cases q : i = m
      · rw [if_pos q]
      · rw [if_neg q]; exact h4 i a (by omega)
theorem L5_markOf_70_e {σ : rr_T} {x1 x2 x4 x5 : Int} {K : Int → Option (Int × rr_T)} {o : Int → Int} (ho : TR σ o) {p : Int} (p0 : 0 ≤ p) (p1 : p < 101) (hf : ps_oc o 101 < 101) : ∀ (d n s : Nat), s + d = ps_ft (sp_F o) 101 p → d < n → L5_markOf_70 σ x1 x2 x4 x5 K n ((p + s) % 101) = K ((p + ps_ft (sp_F o) 101 p) % 101) := by
  obtain ⟨a, b, c⟩ := ps_ft_spec (sp_F o) 101 p p0 p1 (sp_pl_ex hf p p0 p1)
  intro d
  induction d with
  | zero =>
    intro n s h1 h2
    cases n with
    | zero => omega
    | succ n =>
      have es : s = ps_ft (sp_F o) 101 p := by omega
      have hr1 : 0 ≤ (p + (s : Int)) % 101 ∧ (p + (s : Int)) % 101 < 101 := by omega
      have b2 : o ((p + (s : Int)) % 101) = -1 := by
        rw [es]; unfold sp_F at b; exact of_decide_eq_true b
      have e : σ 10 ((p + (s : Int)) % 101) = 0 := by rw [ho _ hr1.1 hr1.2, if_pos b2]
      rw [L5_markOf_70_s, rr_c_pos hr1, rr_c_pos (by rw [e]; decide), if_pos e, es]
  | succ d ih =>
    intro n s h1 h2
    cases n with
    | zero => omega
    | succ n =>
      have hr1 : 0 ≤ (p + (s : Int)) % 101 ∧ (p + (s : Int)) % 101 < 101 := by omega
      have b2 : ¬ o ((p + (s : Int)) % 101) = -1 := by
        have c1 := c s (by omega)
        unfold sp_F at c1
        exact of_decide_eq_false c1
      have e : σ 10 ((p + (s : Int)) % 101) = 1 := by rw [ho _ hr1.1 hr1.2, if_neg b2]
      rw [L5_markOf_70_s, rr_c_pos hr1, rr_c_pos (by rw [e]; decide), if_neg (by rw [e]; decide), rr_c_pos (by omega), show ((p + (s : Int)) % 101 + 1) % 101 = (p + ((s + 1 : Nat) : Int)) % 101 by omega]
      exact ih n (s + 1) (by omega) (by omega)
theorem w_markOf_35 {σ0 : rr_T} (h : Nu (σ0 0)) {x1 x2 : Int} (hx1 : 0 ≤ x1 ∧ x1 < 100) (hx2 : 0 ≤ x2 ∧ x2 < 8) {K : Int → rr_T → Option (Int × rr_T)} {P : Int × rr_T → Prop} (m L : Nat) (hm : m < 100) (hL : ((m : Int) < x1 ∧ (L : Int) = 2 * σ0 0 m) ∨ ((m : Int) = x1 ∧ (L : Int) = x2 + 1 ∧ (L : Int) ≤ 2 * σ0 0 m)) (hK : ∀ (σ : rr_T) (x3 : Int), (∀ k, k ≠ 10 → σ k = σ0 k) → TR σ (sp_m m (sp_o (σ0 0) m) L) → (0 < L → x3 = sp_pl (sp_m m (sp_o (σ0 0) m) (L - 1)) m ((L - 1 : Nat) : Int)) → rr_wp (K x3 σ) P) : ∀ (d n j : Nat) (σ : rr_T) (x3 : Int), j + d = L → d < n → (∀ k, k ≠ 10 → σ k = σ0 k) → TR σ (sp_m m (sp_o (σ0 0) m) j) → (0 < j → x3 = sp_pl (sp_m m (sp_o (σ0 0) m) (j - 1)) m ((j - 1 : Nat) : Int)) → rr_wp (L5_markOf_35 x1 x2 m K n x3 j σ) P := by
  have hw := h.1 m (by omega) (by omega)
  intro d
  induction d with
  | zero =>
    intro n j σ x3 h1 h2 h3 h4 h5
    cases n with
    | zero => omega
    | succ n =>
      have ej : j = L := by omega
      subst ej
      have e0 : σ 0 = σ0 0 := h3 0 (by decide)
      rw [L5_markOf_35_s, e0]
      refine wp_c (by omega) (wp_c (by omega) ?_)
      by_cases q : 2 * σ0 0 m ≤ j
      · exact wp_t q (hK σ x3 h3 h4 h5)
      · exact wp_f q (wp_c (by omega) (wp_f (by omega) (wp_c (by omega) (wp_t (by omega) (hK σ x3 h3 h4 h5)))))
  | succ d ih =>
    intro n j σ x3 h1 h2 h3 h4 h5
    cases n with
    | zero => omega
    | succ n =>
      have e0 : σ 0 = σ0 0 := h3 0 (by decide)
      have hfree : ps_oc (sp_m m (sp_o (σ0 0) m) j) 101 < 101 := by
        have := sp_m_free h m hm j (by omega)
        omega
      have hr := sp_1_r m j
      have hpl := sp_pl_r (sp_m m (sp_o (σ0 0) m) j) m j
      have hft := (ps_ft_spec (sp_F (sp_m m (sp_o (σ0 0) m) j)) 101 (sp_1 m j) hr.1 hr.2 (sp_pl_ex hfree _ hr.1 hr.2)).1
      have go : rr_wp ((M5_first m j).bind (fun v => L5_markOf_70 σ x1 x2 m j (fun y6_70 => rr_c (0 ≤ y6_70 ∧ y6_70 < 101) (L5_markOf_35 x1 x2 m K n y6_70 ((j : Int) + 1) (rr_s σ 10 y6_70 1))) 1000 v)) P := by
        refine wp_be (M5_first_e (by omega)) ?_
        have e := L5_markOf_70_e (x1 := x1) (x2 := x2) (x4 := m) (x5 := j) (K := fun y6_70 => rr_c (0 ≤ y6_70 ∧ y6_70 < 101) (L5_markOf_35 x1 x2 m K n y6_70 ((j : Int) + 1) (rr_s σ 10 y6_70 1))) h4 hr.1 hr.2 hfree (ps_ft (sp_F (sp_m m (sp_o (σ0 0) m) j)) 101 (sp_1 m j)) 1000 0 (by omega) (by omega)
        rw [show (sp_1 m j + ((0 : Nat) : Int)) % 101 = sp_1 m j by omega] at e
        rw [e]
        have epl : (sp_1 m j + (ps_ft (sp_F (sp_m m (sp_o (σ0 0) m) j)) 101 (sp_1 m j) : Int)) % 101 = sp_pl (sp_m m (sp_o (σ0 0) m) j) m j := rfl
        rw [epl]
        refine wp_c hpl ?_
        rw [show (j : Int) + 1 = ((j + 1 : Nat) : Int) by omega]
        refine ih n (j + 1) _ _ (by omega) (by omega) (fun k hk => by rw [s_n hk, h3 k hk]) (fun p p0 p1 => ?_) (fun _ => rfl)
        rw [s_s, u_e, sp_m_s, u_e]
        by_cases q : p = sp_pl (sp_m m (sp_o (σ0 0) m) j) m j
        · rw [if_pos q, if_pos q, if_neg (by omega)]
        · rw [if_neg q, if_neg q]; exact h4 p p0 p1
      rw [L5_markOf_35_s, e0]
      refine wp_c (by omega) (wp_c (by omega) (wp_f (by omega) (wp_c (by omega) ?_)))
      by_cases q : (m : Int) < x1
      · exact wp_t q go
      · exact wp_f q (wp_c (by omega) (wp_f (by omega) go))
theorem w_markOf_26 {σ0 : rr_T} (h : Nu (σ0 0)) {x1 : Nat} {x2 : Nat} (hx1 : x1 < 100) (hx2 : x2 < 8) (h2 : (x2 : Int) < 2 * σ0 0 x1) {P : Int × rr_T → Prop} {K : Int → rr_T → Option (Int × rr_T)} (hK : ∀ σ : rr_T, (∀ k, k ≠ 10 → σ k = σ0 k) → rr_wp (K (sp_pl (sp_m x1 (sp_o (σ0 0) x1) x2) x1 x2) σ) P) : ∀ (d n m : Nat) (σ : rr_T) (x3 : Int), m + d = x1 + 1 → d < n → (∀ k, k ≠ 10 → σ k = σ0 k) → (m ≤ x1 → TR σ (sp_o (σ0 0) m)) → (m = x1 + 1 → x3 = sp_pl (sp_m x1 (sp_o (σ0 0) x1) x2) x1 x2) → rr_wp (L5_markOf_26 x1 x2 K n x3 m σ) P := by
  intro d
  induction d with
  | zero =>
    intro n m σ x3 h1 h2 h3 h4 h5
    cases n with
    | zero => omega
    | succ n =>
      rw [L5_markOf_26_s]
      refine wp_c (by omega) (wp_t (by omega) ?_)
      rw [h5 (by omega)]
      exact hK σ h3
  | succ d ih =>
    intro n m σ x3 h1 h2' h3 h4 h5
    cases n with
    | zero => omega
    | succ n =>
      have hw := h.1 m (by omega) (by omega)
      rw [L5_markOf_26_s]
      refine wp_c (by omega) (wp_f (by omega) ?_)
      rw [show (m : Int) + 1 = ((m + 1 : Nat) : Int) by omega]
      have h40 : TR σ (sp_m m (sp_o (σ0 0) m) 0) := h4 (by omega)
      by_cases q : m = x1
      · subst q
        refine w_markOf_35 h (x1 := (m : Int)) (x2 := (x2 : Int)) (by omega) (by omega) m (x2 + 1) (by omega) (Or.inr (by omega)) (fun σ2 y3 k2 t2 l2 => ?_) (x2 + 1) 1000 0 σ x3 (by omega) (by omega) h3 h40 (fun z => by omega)
        refine ih n (m + 1) σ2 y3 (by omega) (by omega) k2 (fun z => by omega) (fun _ => ?_)
        exact l2 (by omega)
      · refine w_markOf_35 h (x1 := (x1 : Int)) (x2 := (x2 : Int)) (by omega) (by omega) m (2 * σ0 0 m).toNat (by omega) (Or.inl (by omega)) (fun σ2 y3 k2 t2 l2 => ?_) (2 * σ0 0 m).toNat 1000 0 σ x3 (by omega) (by omega) h3 h40 (fun z => by omega)
        refine ih n (m + 1) σ2 y3 (by omega) (by omega) k2 (fun z => ?_) (fun _ => by omega)
        rw [sp_o_s]; exact t2
theorem O_mark : rr_k2 Sim M4_mark M5_mark := fun k Ω τ x y _ h hx hy => by
  show P2 k (M4_mark x y Ω) (M5_mark x y τ)
  have hc := h.1.1
  have hN := St_Nu h.1
  unfold M4_mark M5_mark
  by_cases q : 0 ≤ x ∧ x < 100
  · refine P_ba (name_y q).1 (P_bb (name_y q).2 (P_ca (show rr_g 1 by decide) (P_cb (show rr_g 1 by decide) (P_fa (by decide) (P_fb (by decide) (P_ca hy ?_))))))
    by_cases q2 : 0 ≤ y ∧ y ≤ 7
    · refine P_bb (by rw [M5_in_e hy (by decide) (by decide), if_pos q2]) (P_cb (show rr_g 1 by decide) (P_fb (by decide) (P_fa (by omega) (P_ta (by omega) ?_))))
      rcases M_host h.1 q.1 q.2 with ⟨i, i1, i2, i3, i4, i5⟩ | ⟨i1, i2, i3, i4⟩
      · have hn := h.1.2.2.2.2.1 i (by omega) i1
        refine P_ba i4 (P_bb i5 (P_ca (by omega) (P_cb (show rr_g 1 by decide) (P_ta (by omega) (P_fb (by decide) (P_cb (by omega) (P_cb ⟨hy, by omega⟩ ?_)))))))
        by_cases q3 : 2 * τ 0 x ≤ y
        · refine P_tb q3 (P_ba (a := -1) ?_ (P_ok (Sim_up h) rfl))
          unfold M1_placeOfMark
          rw [rr_c_pos (by omega), rr_c_pos ⟨hy, by omega⟩, if_pos (by omega)]
        · refine P_fb q3 ?_
          obtain ⟨X, rfl⟩ : ∃ X : Nat, x = X := ⟨x.toNat, by omega⟩
          obtain ⟨Y, rfl⟩ : ∃ Y : Nat, y = Y := ⟨y.toNat, by omega⟩
          have hB : rr_wp (M5_markOf X Y τ) (fun p => p.1 = sp_pl (sp_m X (sp_o (τ 0) X) Y) X Y ∧ ∀ k, k ≠ 10 → p.2 k = τ k) := by
            unfold M5_markOf
            refine w_markOf_2 (σ0 := τ) (fun σ2 k2 z2 => ?_) 101 1000 0 τ (by omega) (by omega) (fun _ _ => rfl) (fun p a b => by omega)
            refine w_markOf_26 (σ0 := τ) hN (by omega) (by omega) (by omega) (fun σ3 k3 => wp_some ⟨rfl, k3⟩) (X + 1) 1000 0 σ2 (-1) (by omega) (by omega) k2 (fun _ p p0 p1 => ?_) (fun z => by omega)
            rw [z2 p p0 p1]
            exact (if_pos rfl).symm
          obtain ⟨⟨r, τ3⟩, f1, f2, f3⟩ := hB
          have f2' : r = sp_pl (sp_m X (sp_o (τ 0) X) Y) X Y := f2
          refine P_bb f1 (P_ba (a := r) ?_ (P_ok (Sim_c h (fun _ _ _ => rfl) rfl rfl (fun j hj => f3 j (by omega))) rfl))
          have hM := h.2.1.2.2.2 i Y (Or.inl ⟨by omega, by omega⟩)
          unfold M1_placeOfMark
          rw [rr_c_pos (by omega), rr_c_pos ⟨hy, by omega⟩, if_neg (by omega), rr_c_pos (by omega), hM, i2, f2']
          rfl
      · exact P_ba i3 (P_bb i4 (P_ca (show rr_g (-1) by decide) (P_cb (show rr_g 0 by decide) (P_fa (by decide) (P_tb rfl (P_no h (by decide)))))))
    · refine P_bb (by rw [M5_in_e hy (by decide) (by decide), if_neg q2]) (P_cb (show rr_g 0 by decide) (P_tb rfl ?_))
      by_cases q3 : y < 0
      · exact P_ta q3 (P_no h (by decide))
      · exact P_fa q3 (P_fa (by omega) (P_no h (by decide)))
  · exact P_ba (name_n hx q).1 (P_bb (name_n hx q).2 (P_ca (show rr_g 0 by decide) (P_cb (show rr_g 0 by decide) (P_ta rfl (P_tb rfl (P_no h (by decide)))))))
