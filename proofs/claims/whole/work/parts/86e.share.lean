/-! The places that lead to a host. -/
def sh_P (o : Int → Int) : Int → Bool := fun p => decide (¬ o p = -1)
def sh_O (o : Int → Int) (p : Int) : Int := o ((p + ps_ft (sh_P o) 101 p) % 101)
theorem sh_own {o : Int → Int} {p : Int} (p0 : 0 ≤ p) (p1 : p < 101) (h : ¬ o p = -1) : sh_O o p = o p := by
  unfold sh_O
  have : ps_ft (sh_P o) 101 p = 0 := ps_ft_uniq p0 p1 (by omega) (by unfold sh_P; rw [show (p + ((0 : Nat) : Int)) % 101 = p by omega]; exact decide_eq_true h) (fun s hs => by omega)
  rw [this, show (p + ((0 : Nat) : Int)) % 101 = p by omega]
theorem sh_next {o : Int → Int} {p q : Int} (p0 : 0 ≤ p) (p1 : p < 101) (h : o p = -1) (q0 : 0 ≤ q) (q1 : q < 101) (hq : ¬ o q = -1) : sh_O o p = sh_O o ((p + 1) % 101) := by
  obtain ⟨a, b, c⟩ := ps_ft_spec (sh_P o) 101 p p0 p1 (ps_ft_ex p0 p1 q0 q1 (by unfold sh_P; exact decide_eq_true hq))
  have hn : ps_ft (sh_P o) 101 p ≠ 0 := fun e => by
    rw [e, show (p + ((0 : Nat) : Int)) % 101 = p by omega] at b
    unfold sh_P at b
    exact (of_decide_eq_true b) h
  have key : ps_ft (sh_P o) 101 ((p + 1) % 101) = ps_ft (sh_P o) 101 p - 1 := by
    refine ps_ft_uniq (by omega) (by omega) (by omega) ?_ (fun s hs => ?_)
    · rw [show ((p + 1) % 101 + ((ps_ft (sh_P o) 101 p - 1 : Nat) : Int)) % 101 = (p + (ps_ft (sh_P o) 101 p : Int)) % 101 by omega]
      exact b
    · rw [show ((p + 1) % 101 + (s : Int)) % 101 = (p + ((s + 1 : Nat) : Int)) % 101 by omega]
      exact c (s + 1) (by omega)
  unfold sh_O
  rw [key, show ((p + 1) % 101 + ((ps_ft (sh_P o) 101 p - 1 : Nat) : Int)) % 101 = (p + (ps_ft (sh_P o) 101 p : Int)) % 101 by omega]
theorem L5_share_13_e {τ : rr_T} {o : Int → Int} (ho : ∀ p : Int, 0 ≤ p → p < 101 → τ 5 p = o p) (hr : ∀ p : Int, 0 ≤ p → p < 101 → -1 ≤ o p ∧ o p < 100) {x1 x2 x3 : Int} {K : Int → Option Int} {p : Int} (p0 : 0 ≤ p) (p1 : p < 101) {q : Int} (q0 : 0 ≤ q) (q1 : q < 101) (hq : ¬ o q = -1) : ∀ (d n s : Nat), s + d = ps_ft (sh_P o) 101 p → d < n → L5_shareOf_13 τ x1 x2 x3 K n ((p + s) % 101) = K ((p + ps_ft (sh_P o) 101 p) % 101) := by
  obtain ⟨a, b, c⟩ := ps_ft_spec (sh_P o) 101 p p0 p1 (ps_ft_ex p0 p1 q0 q1 (by unfold sh_P; exact decide_eq_true hq))
  intro d
  induction d with
  | zero =>
    intro n s h1 h2
    cases n with
    | zero => omega
    | succ n =>
      have es : s = ps_ft (sh_P o) 101 p := by omega
      have hr1 : 0 ≤ (p + (s : Int)) % 101 ∧ (p + (s : Int)) % 101 < 101 := by omega
      have e := ho _ hr1.1 hr1.2
      have r := hr _ hr1.1 hr1.2
      have b2 : ¬ o ((p + (s : Int)) % 101) = -1 := by
        rw [es]; unfold sh_P at b; exact of_decide_eq_true b
      rw [L5_shareOf_13_s, rr_c_pos hr1, rr_c_pos (by omega), if_neg (by omega), es]
  | succ d ih =>
    intro n s h1 h2
    cases n with
    | zero => omega
    | succ n =>
      have hr1 : 0 ≤ (p + (s : Int)) % 101 ∧ (p + (s : Int)) % 101 < 101 := by omega
      have e := ho _ hr1.1 hr1.2
      have r := hr _ hr1.1 hr1.2
      have b2 : o ((p + (s : Int)) % 101) = -1 := by
        have c1 := c s (by omega)
        unfold sh_P at c1
        exact Decidable.of_not_not (of_decide_eq_false c1)
      rw [L5_shareOf_13_s, rr_c_pos hr1, rr_c_pos (by omega), if_pos (by omega), rr_c_pos (by omega), show ((p + (s : Int)) % 101 + 1) % 101 = (p + ((s + 1 : Nat) : Int)) % 101 by omega]
      exact ih n (s + 1) (by omega) (by omega)
def sh_f (o : Int → Int) (x : Int) : Int → Int := fun p => if sh_O o p = x then 1 else 0
theorem L5_share_4_e {τ : rr_T} {o : Int → Int} (ho : ∀ p : Int, 0 ≤ p → p < 101 → τ 5 p = o p) (hr : ∀ p : Int, 0 ≤ p → p < 101 → -1 ≤ o p ∧ o p < 100) {x1 : Int} (hx : rr_g x1) {K : Int → Option Int} {q : Int} (q0 : 0 ≤ q) (q1 : q < 101) (hq : ¬ o q = -1) : ∀ (d n m : Nat), m + d = 101 → d < n → L5_shareOf_4 τ x1 K n (ps_sm (sh_f o x1) m) m = K (ps_sm (sh_f o x1) 101) := by
  intro d
  induction d with
  | zero =>
    intro n m h1 h2
    cases n with
    | zero => omega
    | succ n => rw [L5_shareOf_4_s, rr_c_pos (by omega), if_pos (by omega), show m = 101 by omega]
  | succ d ih =>
    intro n m h1 h2
    cases n with
    | zero => omega
    | succ n =>
      have p0 : (0 : Int) ≤ m := by omega
      have p1 : (m : Int) < 101 := by omega
      have hft := (ps_ft_spec (sh_P o) 101 m p0 p1 (ps_ft_ex p0 p1 q0 q1 (by unfold sh_P; exact decide_eq_true hq))).1
      have e := L5_share_13_e ho hr (x1 := x1) (x2 := ps_sm (sh_f o x1) m) (x3 := m) (K := fun y4_13 => rr_c (0 ≤ y4_13 ∧ y4_13 < 101) (rr_c ((rr_g (τ 5 y4_13)) ∧ (rr_g x1)) (if (τ 5 y4_13) = x1 then L5_shareOf_4 τ x1 K n (ps_sm (sh_f o x1) m + 1) ((m : Int) + 1) else L5_shareOf_4 τ x1 K n (ps_sm (sh_f o x1) m + 0) ((m : Int) + 1)))) p0 p1 q0 q1 hq (ps_ft (sh_P o) 101 m) 1000 0 (by omega) (by omega)
      rw [show ((m : Int) + ((0 : Nat) : Int)) % 101 = m by omega] at e
      rw [L5_shareOf_4_s, rr_c_pos (by omega), if_neg (by omega), e]
      have hr1 : 0 ≤ ((m : Int) + (ps_ft (sh_P o) 101 m : Int)) % 101 ∧ ((m : Int) + (ps_ft (sh_P o) 101 m : Int)) % 101 < 101 := by omega
      have e5 := ho _ hr1.1 hr1.2
      have r5 := hr _ hr1.1 hr1.2
      have eO : sh_O o m = o (((m : Int) + (ps_ft (sh_P o) 101 m : Int)) % 101) := rfl
      rw [rr_c_pos hr1, rr_c_pos ⟨by omega, hx⟩, e5, ← eO, show (m : Int) + 1 = ((m + 1 : Nat) : Int) by omega]
      by_cases z : sh_O o m = x1
      · rw [if_pos z, show ps_sm (sh_f o x1) m + 1 = ps_sm (sh_f o x1) (m + 1) by rw [ps_sm_s]; unfold sh_f; rw [if_pos z]]
        exact ih n (m + 1) (by omega) (by omega)
      · rw [if_neg z, show ps_sm (sh_f o x1) m + 0 = ps_sm (sh_f o x1) (m + 1) by rw [ps_sm_s]; unfold sh_f; rw [if_neg z]]
        exact ih n (m + 1) (by omega) (by omega)
theorem L1_first_e {σ : rr_T} {o : Int → Int} {N : Int → Int} {hc : Int} (hR : Rel σ N hc o) (h6 : hc ≤ 6) {q : Int} (q0 : 0 ≤ q) (q1 : q < 101) (hq : ¬ o q = -1) : ∀ (d n m : Nat), m + d = 101 → d < n → (∀ p : Int, 0 ≤ p → p < m → o p = -1) → rr_wp (L1_firstOwner_2 σ (some (-1)) n m) (fun v => 0 ≤ v ∧ v < hc ∧ N v = sh_O o 0) := by
  intro d
  induction d with
  | zero =>
    intro n m h1 h2 h3
    exact absurd (h3 q q0 (by omega)) hq
  | succ d ih =>
    intro n m h1 h2 h3
    cases n with
    | zero => omega
    | succ n =>
      rw [L1_firstOwner_2_s, show (m : Int) + 1 = ((m + 1 : Nat) : Int) by omega]
      rcases hR m (by omega) (by omega) with ⟨a, b⟩ | ⟨a, b, c, d⟩
      · refine wp_c (by omega) (wp_f (by omega) (wp_c (by omega) (wp_c (by omega) (wp_t a (ih n (m + 1) (by omega) (by omega) (fun p p0 p1 => ?_))))))
        rcases Int.lt_or_le p m with z | z
        · exact h3 p p0 z
        · rw [show p = (m : Int) by omega]; exact b
      · refine wp_c (by omega) (wp_f (by omega) (wp_c (by omega) (wp_c (by omega) (wp_f (by omega) (wp_some ⟨a, b, ?_⟩)))))
        rw [← c]
        have : ps_ft (sh_P o) 101 0 = m := ps_ft_uniq (by omega) (by omega) (by omega) (by unfold sh_P; rw [show ((0 : Int) + (m : Int)) % 101 = m by omega]; exact decide_eq_true (by omega)) (fun s hs => by
          unfold sh_P; rw [show ((0 : Int) + (s : Int)) % 101 = s by omega]; exact decide_eq_false (fun z => z (h3 s (by omega) (by omega))))
        unfold sh_O
        rw [this, show ((0 : Int) + (m : Int)) % 101 = m by omega]
theorem L1_leading_e {σ : rr_T} {o : Int → Int} {N : Int → Int} {hc : Int} (hR : Rel σ N hc o) (hinj : ∀ i j : Int, 0 ≤ i → i < hc → 0 ≤ j → j < hc → N i = N j → i = j) (h6 : hc ≤ 6) {i : Int} (hi : 0 ≤ i ∧ i < hc) {K : Int → Option Int} {q : Int} (q0 : 0 ≤ q) (q1 : q < 101) (hq : ¬ o q = -1) : ∀ (m n : Nat) (v c : Int), m ≤ 101 → m < n → 0 ≤ v → v < hc → N v = sh_O o ((m : Int) % 101) → c + ps_sm (sh_f o (N i)) m = ps_sm (sh_f o (N i)) 101 → L1_placesLeadingTo_11 σ i K n v c ((m : Int) - 1) = K (ps_sm (sh_f o (N i)) 101) := by
  intro m
  induction m with
  | zero =>
    intro n v c h1 h2 h3 h4 h5 h7
    cases n with
    | zero => omega
    | succ n =>
      have e0 : ps_sm (sh_f o (N i)) 0 = 0 := rfl
      rw [L1_placesLeadingTo_11_s, rr_c_pos (by omega), if_pos (by omega), show c = ps_sm (sh_f o (N i)) 101 by omega]
  | succ m ih =>
    intro n v c h1 h2 h3 h4 h5 h7
    cases n with
    | zero => omega
    | succ n =>
      rw [L1_placesLeadingTo_11_s, show ((m + 1 : Nat) : Int) - 1 = (m : Int) by omega, show (m : Int) + -1 = (m : Int) - 1 by omega]
      rw [ps_sm_s] at h7
      have em : (m : Int) % 101 = m := by omega
      have step : ∀ (w c2 : Int), 0 ≤ w → w < hc → N w = sh_O o m → c2 = c + (if w = i then 1 else 0) → L1_placesLeadingTo_11 σ i K n w c2 ((m : Int) - 1) = K (ps_sm (sh_f o (N i)) 101) := fun w c2 w0 w1 w2 w3 => by
        refine ih n w c2 (by omega) (by omega) w0 w1 (by rw [em]; exact w2) ?_
        have : sh_f o (N i) m = if w = i then 1 else 0 := by
          unfold sh_f
          by_cases z : w = i
          · rw [if_pos z, if_pos (by rw [← w2, z])]
          · rw [if_neg z, if_neg (fun e => z (hinj w i w0 w1 hi.1 hi.2 (by rw [w2, e])))]
        omega
      rcases hR m (by omega) (by omega) with ⟨a, b⟩ | ⟨a, b, cc, dd⟩
      · have hv : N v = sh_O o m := by rw [sh_next (by omega) (by omega) b q0 q1 hq, h5]; rfl
        rw [rr_c_pos (by omega), if_neg (by omega), rr_c_pos (by omega), rr_c_pos (by omega), if_pos a, rr_c_pos (by omega)]
        by_cases z : v = i
        · rw [if_pos z]; exact step v _ h3 h4 hv (by rw [if_pos z])
        · rw [if_neg z]; exact step v _ h3 h4 hv (by rw [if_neg z]; omega)
      · have hv : N (σ 7 m) = sh_O o m := by rw [sh_own (by omega) (by omega) (by omega), cc]
        rw [rr_c_pos (by omega), if_neg (by omega), rr_c_pos (by omega), rr_c_pos (by omega), if_neg (by omega), rr_c_pos (by omega)]
        by_cases z : σ 7 m = i
        · rw [if_pos z]; exact step _ _ a b hv (by rw [if_pos z])
        · rw [if_neg z]; exact step _ _ a b hv (by rw [if_neg z]; omega)
theorem O_share : rr_k1 Sim M4_share M5_share := fun k Ω τ x _ h hx => by
  show P2 k (M4_share x Ω) (M5_share x τ)
  have hc := h.1.1
  have hN := St_Nu h.1
  unfold M4_share M5_share
  by_cases q : 0 ≤ x ∧ x < 100
  · refine P_ba (name_y q).1 (P_bb (name_y q).2 (P_ca (show rr_g 1 by decide) (P_cb (show rr_g 1 by decide) (P_fa (by decide) (P_fb (by decide) ?_)))))
    rcases M_host h.1 q.1 q.2 with ⟨i, i1, i2, i3, i4, i5⟩ | ⟨i1, i2, i3, i4⟩
    · have hn := h.1.2.2.2.2.1 i (by omega) i1
      obtain ⟨p, p0, p1, p2⟩ := sp_o_has hN x.toNat (by omega) (by rw [show ((x.toNat : Nat) : Int) = x by omega]; omega)
      have hp : ¬ sp_o (τ 0) 100 p = -1 := by omega
      have hr : ∀ p : Int, 0 ≤ p → p < 101 → -1 ≤ sp_o (τ 0) 100 p ∧ sp_o (τ 0) 100 p < 100 := fun p a b => (A_at h.1 h.2.1 a b).2
      have e5 : M5_shareOf x τ = some (ps_sm (sh_f (sp_o (τ 0) 100) x) 101) := L5_share_4_e h.2.2.1.1 hr hx p0 p1 hp 101 1000 0 (by omega) (by omega)
      obtain ⟨v, f1, f2, f3, f4⟩ := L1_first_e h.2.1.1 hc.2 p0 p1 hp 101 1000 0 (by omega) (by omega) (fun _ _ _ => by omega)
      have e1 := L1_leading_e h.2.1.1 (fun a b c d e f => St_inj h.1 c d e f) hc.2 (i := i) ⟨by omega, i1⟩ (K := fun y3_11 => some y3_11) p0 p1 hp 101 1000 v 0 (by omega) (by omega) f2 f3 f4 (by omega)
      rw [i2] at e1
      have e4 : M1_placesLeadingTo i (Ω 0) = some (ps_sm (sh_f (sp_o (τ 0) 100) x) 101) := by
        unfold M1_placesLeadingTo M1_firstOwner
        rw [show L1_firstOwner_2 (Ω 0) (some (-1)) 1000 0 = some v from f1, Option.bind_some]
        exact e1
      exact P_ba i4 (P_bb i5 (P_ca (by omega) (P_cb (show rr_g 1 by decide) (P_ta (by omega) (P_fb (by decide) (P_ba e4 (P_bb e5 (P_ok (Sim_up h) rfl))))))))
    · exact P_ba i3 (P_bb i4 (P_ca (show rr_g (-1) by decide) (P_cb (show rr_g 0 by decide) (P_fa (by decide) (P_tb rfl (P_no h (by decide)))))))
  · exact P_ba (name_n hx q).1 (P_bb (name_n hx q).2 (P_ca (show rr_g 0 by decide) (P_cb (show rr_g 0 by decide) (P_ta rfl (P_tb rfl (P_no h (by decide)))))))
