/-- a key goes -/
theorem w_removeKey_27 {σ0 : rr_T} (hc : 0 ≤ σ0 4 0 ∧ σ0 4 0 ≤ 40) (i : Nat) (hi : (i : Int) < σ0 4 0) {K : rr_T → Option (Int × rr_T)} {P : Int × rr_T → Prop} (hK : ∀ σ : rr_T, (∀ k, k ≠ 2 → σ k = σ0 k) → (∀ j : Int, 0 ≤ j → j < i → σ 2 j = σ0 2 j) → (∀ j : Int, i ≤ j → j + 1 < σ0 4 0 → σ 2 j = σ0 2 (j + 1)) → rr_wp (K σ) P) : ∀ (d n m : Nat) (σ : rr_T), m + d = (σ0 4 0).toNat → d < n → i < m → (∀ k, k ≠ 2 → σ k = σ0 k) → (∀ j : Int, 0 ≤ j → j < i → σ 2 j = σ0 2 j) → (∀ j : Int, i ≤ j → j + 1 < m → σ 2 j = σ0 2 (j + 1)) → (∀ j : Int, m ≤ j → j < σ0 4 0 → σ 2 j = σ0 2 j) → rr_wp (L3_removeKey_27 K n m σ) P := by
  intro d
  induction d with
  | zero =>
    intro n m σ h1 h2 h3 hk ha hb hg
    cases n with
    | zero => omega
    | succ n =>
      rw [L3_removeKey_27_s, hk 4 (by decide)]
      exact wp_c (by omega) (wp_t (by omega) (hK σ hk ha (fun j a b => hb j a (by omega))))
  | succ d ih =>
    intro n m σ h1 h2 h3 hk ha hb hg
    cases n with
    | zero => omega
    | succ n =>
      have e := hg m (by omega) (by omega)
      rw [L3_removeKey_27_s, hk 4 (by decide)]
      refine wp_c (by omega) (wp_f (by omega) (wp_c (by omega) (wp_c (by omega) ?_)))
      refine ih n (m + 1) _ (by omega) (by omega) (by omega) (fun k k2 => by rw [s_n k2, hk k k2]) (fun j a b => ?_) (fun j a b => ?_) (fun j a b => ?_)
      · rw [s_s, u_n (by omega)]; exact ha j a b
      · rw [s_s, u_e]
        by_cases ej : j = (m : Int) - 1
        · rw [if_pos ej, ej, show (m : Int) - 1 + 1 = m by omega]; exact e
        · rw [if_neg ej]; exact hb j a (by omega)
      · rw [s_s, u_n (by omega)]; exact hg j (by omega) b
theorem w_doDrops_38 {τ0 : rr_T} {kc : Int} (hc : 0 < kc ∧ kc ≤ 40) (i : Nat) (hi : (i : Int) < kc) {K : rr_T → Option (Int × rr_T)} {P : Int × rr_T → Prop} (hK : ∀ τ : rr_T, (∀ k, k ≠ 0 → τ k = τ0 k) → (∀ j : Int, j < 100 + i ∨ 140 < j → τ 0 j = τ0 0 j) → τ 0 140 = kc - 1 → (∀ j : Int, i ≤ j → j + 1 < kc → τ 0 (100 + j) = τ0 0 (100 + (j + 1))) → rr_wp (K τ) P) : ∀ (d n m : Nat) (τ : rr_T), (m : Int) + d = kc - 1 → d < n → i ≤ m → (∀ k, k ≠ 0 → τ k = τ0 k) → (∀ j : Int, j < 100 + i ∨ 140 < j → τ 0 j = τ0 0 j) → τ 0 140 = kc - 1 → (∀ j : Int, i ≤ j → j < m → τ 0 (100 + j) = τ0 0 (100 + (j + 1))) → (∀ j : Int, m ≤ j → j < kc → τ 0 (100 + j) = τ0 0 (100 + j)) → rr_wp (L5_doDrops_38 K n m τ) P := by
  intro d
  induction d with
  | zero =>
    intro n m τ h1 h2 h3 hk ha h14 hb hg
    cases n with
    | zero => omega
    | succ n =>
      rw [L5_doDrops_38_s]
      exact wp_c (by omega) (wp_t (by omega) (hK τ hk ha h14 (fun j a b => hb j a (by omega))))
  | succ d ih =>
    intro n m τ h1 h2 h3 hk ha h14 hb hg
    cases n with
    | zero => omega
    | succ n =>
      have e := hg ((m : Int) + 1) (by omega) (by omega)
      rw [L5_doDrops_38_s]
      refine wp_c (by omega) (wp_f (by omega) (wp_c (by omega) (wp_c (by omega) ?_)))
      refine ih n (m + 1) _ (by omega) (by omega) (by omega) (fun k k2 => by rw [s_n k2, hk k k2]) (fun j a => ?_) ?_ (fun j a b => ?_) (fun j a b => ?_)
      · rw [s_s, u_n (by omega)]; exact ha j a
      · rw [s_s, u_n (by omega)]; exact h14
      · rw [s_s, u_e]
        by_cases ej : j = (m : Int)
        · rw [if_pos (by omega), ej, show 100 + (m : Int) + 1 = 100 + ((m : Int) + 1) by omega]; exact e
        · rw [if_neg (by omega)]; exact hb j a (by omega)
      · rw [s_s, u_n (by omega)]; exact hg j (by omega) b
theorem T_drops {σ τ : rr_T} (h : St σ (τ 0)) {x : Int} (hx : rr_g x) : ∃ (r : Int) (σ2 τ2 : rr_T), M3_removeKey x σ = some (r, σ2) ∧ M5_doDrops x τ = some (r, τ2) ∧ T6 r σ σ2 τ τ2 := by
  have hkc := h.2.1
  have e140 : τ 0 140 = σ 4 0 := h.2.2.2.2.2.2.2.2.2.1
  apply two_wp
  unfold M3_removeKey M5_doDrops
  by_cases q : 0 ≤ x ∧ x ≤ 999
  · refine wp_be (key_y q).1 (wp_c (by decide) (wp_f (by decide) ?_))
    rcases M_key h hx with ⟨i, i1, ei, e1, e2⟩ | ⟨hno, e1, e2⟩
    · refine wp_be e1 (wp_c (by omega) (wp_t (by omega) ?_))
      obtain ⟨hhc, -, hex, hmv, hN, hS, hZ, hKy, hKs, -, e141, e142⟩ := h
      refine w_removeKey_27 (σ0 := σ) hkc i i1 (fun σ3 hk ha hb => ?_) ((σ 4 0).toNat - (i + 1)) 1000 (i + 1) σ (by omega) (by omega) (by omega) (fun _ _ => rfl) (fun _ _ _ => rfl) (fun j a b => by omega) (fun _ _ _ => rfl)
      refine wp_some ?_
      refine wp_be (key_y q).2 (wp_c (by decide) (wp_f (by decide) (wp_be e2 (wp_c (by omega) (wp_f (by omega) ?_)))))
      refine w_doDrops_38 (τ0 := τ) (kc := σ 4 0) (by omega) i i1 (fun τ3 gk ga g14 gb => ?_) ((σ 4 0).toNat - 1 - i) 1000 i _ (by omega) (by omega) (by omega) (fun k hk => s_n hk) (fun j a => by rw [s_s, u_n (by omega)]) (by rw [s_s, u_s]; omega) (fun j a b => by omega) (fun j a b => by rw [s_s, u_n (by omega)])
      refine wp_some ⟨rfl, Or.inl rfl, fun k hk7 => ?_, gk, fun e => absurd rfl e, fun _ => ?_⟩
      · show rr_t σ3 4 (σ3 4 0 - 1) k = σ k
        rw [t_n (by omega), hk k (by omega)]
      · have e4 : σ3 4 = σ 4 := hk 4 (by decide)
        show St (rr_t σ3 4 (σ3 4 0 - 1)) (τ3 0)
        unfold St
        rw [t_s, t_n (by decide : (0 : Nat) ≠ 4), t_n (by decide : (1 : Nat) ≠ 4), t_n (by decide : (2 : Nat) ≠ 4), t_n (by decide : (3 : Nat) ≠ 4), t_n (by decide : (5 : Nat) ≠ 4), t_n (by decide : (6 : Nat) ≠ 4), hk 0 (by decide), hk 1 (by decide), hk 3 (by decide), hk 5 (by decide), hk 6 (by decide), e4]
        have row : ∀ j : Int, 0 ≤ j → j < σ 4 0 - 1 → ∃ j2 : Int, 0 ≤ j2 ∧ j2 < σ 4 0 ∧ σ3 2 j = σ 2 j2 ∧ τ3 0 (100 + j) = σ 2 j2 ∧ (j2 = if j < i then j else j + 1) := fun j a b => by
          by_cases z : j < i
          · refine ⟨j, a, by omega, ha j a z, ?_, by rw [if_pos z]⟩
            rw [ga (100 + j) (Or.inl (by omega))]
            exact (hKy j a (by omega)).2.2
          · refine ⟨j + 1, by omega, by omega, hb j (by omega) (by omega), ?_, by rw [if_neg z]⟩
            rw [gb j (by omega) (by omega)]
            exact (hKy (j + 1) (by omega) (by omega)).2.2
        refine ⟨hhc, by omega, hex, hmv, fun j a b => ?_, hS, fun n a b c => ?_, fun j a b => ?_, fun a b a0 ab b1 => ?_, g14, ?_, ?_⟩
        · have hj := hN j a b
          rw [ga _ (Or.inl (by omega))]; exact hj
        · rw [ga _ (Or.inl (by omega))]; exact hZ n a b c
        · obtain ⟨j2, p0, p1, q0, q1, -⟩ := row j a b
          rw [q0, q1]
          have := hKy j2 p0 p1
          exact ⟨this.1, this.2.1, rfl⟩
        · obtain ⟨a2, p0, p1, q0, q1, r⟩ := row a a0 (by omega)
          obtain ⟨b2, s0, s1, t0, t1, u⟩ := row b (by omega) b1
          rw [q0, t0]
          refine hKs a2 b2 p0 ?_ s1
          split at r <;> split at u <;> omega
        · rw [ga _ (Or.inr (by omega))]; exact e141
        · rw [ga _ (Or.inr (by omega))]; exact e142
    · refine wp_be e1 (wp_c (by decide) (wp_f (by decide) (wp_some ?_)))
      exact wp_be (key_y q).2 (wp_c (by decide) (wp_f (by decide) (wp_be e2 (wp_c (by decide) (wp_t rfl (wp_some ⟨rfl, T6_no (r := -3) (by decide)⟩))))))
  · refine wp_be (key_n hx q).1 (wp_c (by decide) (wp_t rfl (wp_some ?_)))
    exact wp_be (key_n hx q).2 (wp_c (by decide) (wp_t rfl (wp_some ⟨rfl, T6_no (r := -2) (by decide)⟩)))
