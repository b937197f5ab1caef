/-! Both readers, side by side. -/
theorem here_l {t : Int → Int} {L : Int} (hT : Tx t L) {K : rr_T → Option (Int × rr_T)} : ∀ (d n x : Nat) (τ : rr_T), ((x + d : Nat) : Int) = L → d < n → Ty t L τ → τ 13 0 = x → ∃ (x2 : Nat) (τ2 : rr_T), L5_here_0 K n τ = K τ2 ∧ x ≤ x2 ∧ (x2 : Int) ≤ L ∧ (∀ k, k ≠ 13 → τ2 k = τ k) ∧ τ2 13 0 = x2 ∧ (∀ y : Nat, x ≤ y → y < x2 → t y = 32) ∧ ((x2 : Int) = L ∨ t x2 ≠ 32) := by
  have hL := hT.1
  intro d
  induction d with
  | zero =>
    intro n x τ h1 h2 hy e13
    cases n with
    | zero => omega
    | succ n =>
      have h12 := hy.2
      exact ⟨x, τ, by rw [L5_here_0_s, rr_c_pos (by omega), if_pos (by omega)], by omega, by omega, fun _ _ => rfl, e13, fun y a b => by omega, Or.inl (by omega)⟩
  | succ d ih =>
    intro n x τ h1 h2 hy e13
    cases n with
    | zero => omega
    | succ n =>
      have h12 := hy.2
      have h11 := hy.1 x (by omega) (by omega)
      have hr := hT.2 x (by omega) (by omega)
      by_cases q : t x = 32
      · obtain ⟨x2, τ2, a1, a2, a3, a4, a5, a6, a7⟩ := ih n (x + 1) (rr_t τ 13 ((x : Int) + 1)) (by omega) (by omega) (Ty_c hy (t_n (by decide)) (t_n (by decide))) (by rw [t_s]; omega)
        refine ⟨x2, τ2, ?_, by omega, a3, fun k hk => by rw [a4 k hk, t_n hk], a5, fun y b1 b2 => ?_, a7⟩
        · rw [L5_here_0_s, rr_c_pos (by omega), if_neg (by omega), rr_c_pos (by omega), e13, h11, rr_c_pos (by omega), if_pos q]
          exact a1
        · rcases Nat.lt_or_ge x y with z | z
          · exact a6 y (by omega) b2
          · rw [show y = x by omega]; exact q
      · refine ⟨x, τ, ?_, by omega, by omega, fun _ _ => rfl, e13, fun y a b => by omega, Or.inr q⟩
        rw [L5_here_0_s, rr_c_pos (by omega), if_neg (by omega), rr_c_pos (by omega), e13, h11, rr_c_pos (by omega), if_neg q]
theorem here_e {t : Int → Int} {L : Int} (hT : Tx t L) {τ : rr_T} (hy : Ty t L τ) {x : Nat} (hx : (x : Int) ≤ L) (e13 : τ 13 0 = x) : ∃ (x2 : Nat) (v : Int) (τ2 : rr_T), M5_here τ = some (v, τ2) ∧ x ≤ x2 ∧ (x2 : Int) ≤ L ∧ (∀ k, k ≠ 13 → τ2 k = τ k) ∧ τ2 13 0 = x2 ∧ (∀ y : Nat, x ≤ y → y < x2 → t y = 32) ∧ (((x2 : Int) = L ∧ v = -1) ∨ ((x2 : Int) < L ∧ v = t x2 ∧ t x2 ≠ 32)) := by
  have hL := hT.1
  obtain ⟨x2, τ2, a1, a2, a3, a4, a5, a6, a7⟩ := here_l hT (K := fun σ_0 => rr_c ((rr_g (σ_0 13 0)) ∧ (rr_g (σ_0 12 0))) (if (σ_0 12 0) ≤ (σ_0 13 0) then some ((-1), σ_0) else rr_c (0 ≤ (σ_0 13 0) ∧ (σ_0 13 0) < 120) (some ((σ_0 11 (σ_0 13 0)), σ_0)))) (L - x).toNat 1000 x τ (by omega) (by omega) hy e13
  have hy2 := Ty_c hy (a4 11 (by decide)) (a4 12 (by decide))
  have h12 := hy2.2
  by_cases q : (x2 : Int) = L
  · refine ⟨x2, -1, τ2, ?_, a2, a3, a4, a5, a6, Or.inl ⟨q, rfl⟩⟩
    unfold M5_here
    rw [a1, rr_c_pos (by omega), if_pos (by omega)]
  · refine ⟨x2, t x2, τ2, ?_, a2, a3, a4, a5, a6, Or.inr ⟨by omega, rfl, a7.resolve_left q⟩⟩
    unfold M5_here
    rw [a1, rr_c_pos (by omega), if_neg (by omega), rr_c_pos (by omega), a5, hy2.1 x2 (by omega) (by omega)]
theorem CR_skip {t : Int → Int} {L : Int} (hT : Tx t L) {σ : rr_T} (hc : Tc t L σ) (h6 : σ 6 0 = 0 ∨ σ 6 0 = 1 ∨ σ 6 0 = 3) {r : Int} {Q : rr_T → Prop} {x2 : Nat} (hx2 : (x2 : Int) ≤ L) (h : CR t L x2 σ r Q) : ∀ (d x : Nat), x + d = x2 → (∀ y : Nat, x ≤ y → y < x2 → t y = 32) → CR t L x σ r Q := by
  intro d
  induction d with
  | zero => intro x h1 _; rw [show x = x2 by omega]; exact h
  | succ d ih =>
    intro x h1 h2
    have e := h2 x (by omega) (by omega)
    exact CR_step hT hc (by omega) (by rw [e]; exact ac_sp h6) (ih (x + 1) (by omega) (fun y a b => h2 y (by omega) b))
theorem must1 {τ : rr_T} (h : τ 14 0 = -1) : M5_must 1 τ = some (rr_t τ 13 (τ 13 0 + 1)) := by
  unfold M5_must; rw [rr_c_pos (by omega), if_pos h, rr_c_pos (by decide), if_neg (by decide)]
theorem must0 {τ : rr_T} (h : τ 14 0 = -1) : M5_must 0 τ = some (rr_t τ 14 (τ 13 0)) := by
  unfold M5_must; rw [rr_c_pos (by omega), if_pos h, rr_c_pos (by decide), if_pos rfl]
theorem figM_y {t : Int → Int} {L : Int} (hT : Tx t L) {τ : rr_T} (hy : Ty t L τ) {x : Nat} (e13 : τ 13 0 = x) (hx : (x : Int) < L) (h : 48 ≤ t x ∧ t x ≤ 57) : M5_isFigure τ = some 1 := by
  have hL := hT.1
  have h12 := hy.2
  unfold M5_isFigure
  rw [rr_c_pos (by omega), if_neg (by omega), rr_c_pos (by omega), e13, hy.1 x (by omega) hx, M5_in_e (by omega) (by decide) (by decide), if_pos h, Option.bind_some, rr_c_pos (by decide), if_neg (by decide)]
theorem figM_n {t : Int → Int} {L : Int} (hT : Tx t L) {τ : rr_T} (hy : Ty t L τ) {x : Nat} (e13 : τ 13 0 = x) (hx : (x : Int) ≤ L) (h : ¬ ((x : Int) < L ∧ 48 ≤ t x ∧ t x ≤ 57)) : M5_isFigure τ = some 0 := by
  have hL := hT.1
  have h12 := hy.2
  unfold M5_isFigure
  by_cases q : (x : Int) = L
  · rw [rr_c_pos (by omega), if_pos (by omega)]
  · have hr := hT.2 x (by omega) (by omega)
    rw [rr_c_pos (by omega), if_neg (by omega), rr_c_pos (by omega), e13, hy.1 x (by omega) (by omega), M5_in_e (by omega) (by decide) (by decide), if_neg (by omega), Option.bind_some, rr_c_pos (by decide), if_pos rfl]
theorem num_l {t : Int → Int} {L : Int} (hT : Tx t L) {K : Int → rr_T → Option (Int × rr_T)} : ∀ (d n x2 x : Nat) (x1 : Int) (σ τ : rr_T), x2 + d = 2 → d < n → (x : Int) ≤ L → Tc t L σ → Ty t L τ → τ 13 0 = x → σ 6 0 = 2 → σ 8 0 = x2 + 1 → σ 9 0 = x1 → 0 ≤ x1 → ((d = 2 ∧ x1 ≤ 9) ∨ (d = 1 ∧ x1 ≤ 99) ∨ (d = 0 ∧ x1 ≤ 999)) → ∃ (x3 : Nat) (v : Int) (σ2 τ2 : rr_T), L5_number_42 K n x1 x2 τ = K v τ2 ∧ x ≤ x3 ∧ (x3 : Int) ≤ L ∧ (∀ k, k ≠ 13 → τ2 k = τ k) ∧ τ2 13 0 = x3 ∧ (∀ k, k ≠ 8 → k ≠ 9 → σ2 k = σ k) ∧ σ2 9 0 = v ∧ (0 ≤ v ∧ v ≤ 999) ∧ (∀ r Q, CR t L x3 σ2 r Q → CR t L x σ r Q) ∧ (σ2 8 0 = 3 ∨ ¬ ((x3 : Int) < L ∧ 48 ≤ t x3 ∧ t x3 ≤ 57)) := by
  have hL := hT.1
  intro d
  induction d with
  | zero =>
    intro n x2 x x1 σ τ h1 h2 hx hc hy e13 h6 h8 h9 hp hb
    cases n with
    | zero => omega
    | succ n => exact ⟨x, x1, σ, τ, by rw [L5_number_42_s, rr_c_pos (by omega), if_pos (by omega)], by omega, hx, fun _ _ => rfl, e13, fun _ _ _ => rfl, h9, by omega, fun _ _ a => a, Or.inl (by omega)⟩
  | succ d ih =>
    intro n x2 x x1 σ τ h1 h2 hx hc hy e13 h6 h8 h9 hp hb
    cases n with
    | zero => omega
    | succ n =>
      by_cases q : (x : Int) < L ∧ 48 ≤ t x ∧ t x ≤ 57
      · have h11 := hy.1 x (by omega) q.1
        obtain ⟨σ1, c1, c2, c3, c4⟩ := ac_2y h6 q.2 (by omega)
        obtain ⟨x3, v, σ2, τ2, a1, a2, a3, a4, a5, a6, a7, a8, a9, a10⟩ := ih n (x2 + 1) (x + 1) (10 * x1 + t x - 48) σ1 (rr_t τ 13 ((x : Int) + 1)) (by omega) (by omega) (by omega) (Tc_c hc (c2 0 (by decide) (by decide)) (c2 1 (by decide) (by decide))) (Ty_c hy (t_n (by decide)) (t_n (by decide))) (by rw [t_s]; omega) (by rw [c2 6 (by decide) (by decide)]; exact h6) (by omega) (by omega) (by omega) (by omega)
        refine ⟨x3, v, σ2, τ2, ?_, by omega, a3, fun k hk => by rw [a4 k hk, t_n hk], a5, fun k k8 k9 => by rw [a6 k k8 k9, c2 k k8 k9], a7, a8, fun r Q hh => CR_step hT hc q.1 c1 (a9 r Q hh), a10⟩
        rw [L5_number_42_s, rr_c_pos (by omega), if_neg (by omega), figM_y hT hy e13 q.1 q.2, Option.bind_some, rr_c_pos (by decide), if_neg (by decide), rr_c_pos (by omega), e13, h11, show (x2 : Int) + 1 = ((x2 + 1 : Nat) : Int) by omega]
        exact a1
      · refine ⟨x, x1, σ, τ, ?_, by omega, hx, fun _ _ => rfl, e13, fun _ _ _ => rfl, h9, by omega, fun _ _ a => a, Or.inr q⟩
        rw [L5_number_42_s, rr_c_pos (by omega), if_neg (by omega), figM_n hT hy e13 hx q, Option.bind_some, rr_c_pos (by decide), if_pos rfl]
theorem CR_en {t : Int → Int} {L : Int} (hT : Tx t L) {σ σ1 : rr_T} (hc : Tc t L σ) (hc1 : Tc t L σ1) (h6 : σ 6 0 = 2) (e : M2_endNumber σ = some σ1) (h1 : σ1 6 0 = 1 ∨ σ1 6 0 = 3) {x : Nat} (hx : (x : Int) ≤ L) (hn : ¬ ((x : Int) < L ∧ 48 ≤ t x ∧ t x ≤ 57)) {r : Int} {Q : rr_T → Prop} (h : CR t L x σ1 r Q) : CR t L x σ r Q := by
  have hL := hT.1
  by_cases q : (x : Int) = L
  · have er : r = L := by
      obtain ⟨s1, b1, -⟩ := h 121 (by omega)
      obtain ⟨s2, b2, -⟩ := CR_end hT hc1 q (by omega) (Q := Q) 121 (by omega)
      rw [b1] at b2
      exact congrArg Prod.fst (Option.some.inj b2)
    rw [er]
    exact CR_end hT hc q (by omega)
  · intro n hn2
    cases n with
    | zero => omega
    | succ n =>
      have hr := hT.2 x (by omega) (by omega)
      have e1 := hc.2
      have e2 := hc1.2
      have h2 := h (n + 1) hn2
      rw [L2_read_12_s, rr_c_pos (by omega), if_neg (by omega), rr_c_pos (by omega), hc1.1] at h2
      rw [L2_read_12_s, rr_c_pos (by omega), if_neg (by omega), rr_c_pos (by omega), hc.1, ac_2e h6 (by omega) (by omega) e h1]
      exact h2
/-- a number -/
theorem num_e {t : Int → Int} {L : Int} (hT : Tx t L) {σ τ : rr_T} {x : Nat} (hx : (x : Int) ≤ L) (hc : Tc t L σ) (hy : Ty t L τ) (e13 : τ 13 0 = x) (e14 : τ 14 0 = -1) (h6 : σ 6 0 = 1) (h5 : 0 ≤ σ 5 0 ∧ σ 5 0 < 40) (h7 : σ 7 0 = 0 ∨ σ 7 0 = 1) {N : Int} (hN : M2_numbersOf (σ 2 (σ 5 0)) = some N) (N0 : N = 1 ∨ N = 2) : ∃ (v : Int) (τ2 : rr_T), M5_number τ = some (v, τ2) ∧ (∀ k, k ≠ 13 → k ≠ 14 → τ2 k = τ k) ∧ ((∃ F : Nat, F ≤ 120 ∧ τ2 14 0 = F ∧ ∀ Q, CR t L x σ F Q) ∨ (τ2 14 0 = -1 ∧ (0 ≤ v ∧ v ≤ 999) ∧ ∃ (x2 : Nat) (σ2 : rr_T), x < x2 ∧ (x2 : Int) ≤ L ∧ τ2 13 0 = x2 ∧ (∀ r Q, CR t L x2 σ2 r Q → CR t L x σ r Q) ∧ (∀ k, k ≠ 3 → k ≠ 4 → k ≠ 6 → k ≠ 7 → k ≠ 8 → k ≠ 9 → σ2 k = σ k) ∧ σ2 7 0 = σ 7 0 + 1 ∧ (N ≤ σ 7 0 + 1 → σ2 6 0 = 3) ∧ (¬ N ≤ σ 7 0 + 1 → σ2 6 0 = 1) ∧ (σ 7 0 = 0 → σ2 3 = rr_u (σ 3) (σ 5 0) v ∧ σ2 4 = σ 4) ∧ (σ 7 0 = 1 → σ2 4 = rr_u (σ 4) (σ 5 0) v ∧ σ2 3 = σ 3))) := by
  have hL := hT.1
  obtain ⟨x2, v0, τ1, a1, a2, a3, a4, a5, a6, a7⟩ := here_e hT hy hx e13
  have f14 : τ1 14 0 = -1 := by rw [a4 14 (by decide)]; exact e14
  have hy1 := Ty_c hy (a4 11 (by decide)) (a4 12 (by decide))
  have skip : ∀ r Q, CR t L x2 σ r Q → CR t L x σ r Q := fun r Q hh => CR_skip hT hc (Or.inr (Or.inl h6)) a3 hh (x2 - x) x (by omega) a6
  have bad : rr_g v0 → ¬ (48 ≤ v0 ∧ v0 ≤ 57) → M5_number τ = some (0, rr_t τ1 14 (τ1 13 0)) := fun hg hv => by
    unfold M5_number
    rw [a1, Option.bind_some, M5_in_e hg (by decide) (by decide), if_neg hv, Option.bind_some, must0 f14, Option.bind_some, t_s, rr_c_pos (by omega), if_neg (by omega)]
  rcases a7 with ⟨b1, b2⟩ | ⟨b1, b2, b3⟩
  · refine ⟨_, _, bad (by omega) (by omega), fun k k1 k2 => by rw [t_n k2, a4 k k1], Or.inl ⟨x2, by omega, by rw [t_s]; exact a5, fun Q => skip _ _ ?_⟩⟩
    rw [b1]
    exact CR_end hT hc b1 (Or.inl h6)
  · have hr := hT.2 x2 (by omega) b1
    by_cases q : 48 ≤ t x2 ∧ t x2 ≤ 57
    · obtain ⟨σ1, c1, c2, c3, c4, c5⟩ := ac_1y h6 q
      have hc1 := Tc_c hc (c2 0 (by decide) (by decide) (by decide)) (c2 1 (by decide) (by decide) (by decide))
      have hy2 : Ty t L (rr_t τ1 13 ((x2 : Int) + 1)) := Ty_c hy1 (t_n (by decide)) (t_n (by decide))
      obtain ⟨x3, v, σ3, τ3, d1, d2, d3, d4, d5, d6, d7, d8, d9, d10⟩ := num_l hT (K := fun y1_42 σ_42 => (M5_isFigure σ_42).bind (fun v17 => rr_c (rr_g v17) (if v17 = 0 then some (y1_42, σ_42) else some (y1_42, (rr_t σ_42 14 (σ_42 13 0)))))) 2 1000 0 (x2 + 1) (t x2 - 48) σ1 (rr_t τ1 13 ((x2 : Int) + 1)) (by omega) (by omega) (by omega) hc1 hy2 (by rw [t_s]; omega) c3 (by omega) c5 (by omega) (by omega)
      have hy3 : Ty t L τ3 := Ty_c hy2 (d4 11 (by decide)) (d4 12 (by decide))
      have hc3 : Tc t L σ3 := Tc_c hc1 (d6 0 (by decide) (by decide)) (d6 1 (by decide) (by decide))
      have g14 : τ3 14 0 = -1 := by rw [d4 14 (by decide), t_n (by decide)]; exact f14
      have s6 : σ3 6 0 = 2 := by rw [d6 6 (by decide) (by decide)]; exact c3
      have go : M5_number τ = (M5_isFigure τ3).bind (fun v17 => rr_c (rr_g v17) (if v17 = 0 then some (v, τ3) else some (v, (rr_t τ3 14 (τ3 13 0))))) := by
        rw [← d1]
        unfold M5_number
        rw [a1, Option.bind_some, M5_in_e (by omega) (by decide) (by decide), if_pos (by omega), Option.bind_some, must1 f14, Option.bind_some, a5, t_n (by decide), rr_c_pos (by omega), if_pos f14, t_s, rr_c_pos (by omega), t_n (by decide), show (x2 : Int) + 1 - 1 = x2 by omega, hy1.1 x2 (by omega) b1]
        rfl
      have chain : ∀ r Q, CR t L x3 σ3 r Q → CR t L x σ r Q := fun r Q hh => skip r Q (CR_step hT hc b1 c1 (d9 r Q hh))
      by_cases q2 : (x3 : Int) < L ∧ 48 ≤ t x3 ∧ t x3 ≤ 57
      · refine ⟨v, rr_t τ3 14 (τ3 13 0), ?_, fun k k1 k2 => by rw [t_n k2, d4 k k1, t_n k1, a4 k k1], Or.inl ⟨x3, by omega, by rw [t_s]; exact d5, fun Q => chain _ _ ?_⟩⟩
        · rw [go, figM_y hT hy3 d5 q2.1 q2.2, Option.bind_some, rr_c_pos (by decide), if_neg (by decide)]
        · rcases d10 with z | z
          · exact CR_bad hT hc3 q2.1 (ac_2n s6 q2.2 z)
          · exact absurd q2 z
      · have e5 : σ3 5 = σ 5 := by rw [d6 5 (by decide) (by decide), c2 5 (by decide) (by decide) (by decide)]
        have e7 : σ3 7 = σ 7 := by rw [d6 7 (by decide) (by decide), c2 7 (by decide) (by decide) (by decide)]
        have e2 : σ3 2 = σ 2 := by rw [d6 2 (by decide) (by decide), c2 2 (by decide) (by decide) (by decide)]
        have e3 : σ3 3 = σ 3 := by rw [d6 3 (by decide) (by decide), c2 3 (by decide) (by decide) (by decide)]
        have e4 : σ3 4 = σ 4 := by rw [d6 4 (by decide) (by decide), c2 4 (by decide) (by decide) (by decide)]
        obtain ⟨σ4, m1, m2, m3, m4, m5, m6, m7⟩ := en_e (σ := σ3) (by rw [e5]; exact h5) (by rw [e7]; exact h7) (v := N) (by rw [e2, e5]; exact hN) N0
        rw [e5, e7, e3, e4, d7] at m6 m7
        rw [e7] at m3 m4 m5
        have hc4 : Tc t L σ4 := Tc_c hc3 (m2 0 (by decide) (by decide) (by decide) (by decide)) (m2 1 (by decide) (by decide) (by decide) (by decide))
        have h46 : σ4 6 0 = 1 ∨ σ4 6 0 = 3 := by
          by_cases z : N ≤ σ 7 0 + 1
          · exact Or.inr (m4 z)
          · exact Or.inl (m5 z)
        refine ⟨v, τ3, ?_, fun k k1 k2 => by rw [d4 k k1, t_n k1, a4 k k1], Or.inr ⟨g14, d8, x3, σ4, by omega, d3, d5, fun r Q hh => chain r Q (CR_en hT hc3 hc4 s6 m1 h46 d3 q2 hh), fun k k3 k4 k6 k7 k8 k9 => by rw [m2 k k3 k4 k6 k7, d6 k k8 k9, c2 k k6 k8 k9], m3, m4, m5, m6, m7⟩⟩
        rw [go, figM_n hT hy3 d5 d3 q2, Option.bind_some, rr_c_pos (by decide), if_pos rfl]
    · refine ⟨_, _, bad (by omega) (by omega), fun k k1 k2 => by rw [t_n k2, a4 k k1], Or.inl ⟨x2, by omega, by rw [t_s]; exact a5, fun Q => skip _ _ (CR_bad hT hc b1 (ac_1n h6 (by omega) b3 q))⟩⟩
