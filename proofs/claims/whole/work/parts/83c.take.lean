/-- a host goes: the hosts above it close up -/
theorem w_removeHost_27 {σ0 : rr_T} (hc : 0 ≤ σ0 3 0 ∧ σ0 3 0 ≤ 6) (i : Nat) (hi : (i : Int) < σ0 3 0) {K : rr_T → Option (Int × rr_T)} {P : Int × rr_T → Prop} (hK : ∀ σ : rr_T, (∀ k, k ≠ 0 → k ≠ 1 → σ k = σ0 k) → (∀ j : Int, 0 ≤ j → j < i → σ 0 j = σ0 0 j ∧ σ 1 j = σ0 1 j) → (∀ j : Int, i ≤ j → j + 1 < σ0 3 0 → σ 0 j = σ0 0 (j + 1) ∧ σ 1 j = σ0 1 (j + 1)) → rr_wp (K σ) P) : ∀ (d n m : Nat) (σ : rr_T), m + d = (σ0 3 0).toNat → d < n → i < m → (∀ k, k ≠ 0 → k ≠ 1 → σ k = σ0 k) → (∀ j : Int, 0 ≤ j → j < i → σ 0 j = σ0 0 j ∧ σ 1 j = σ0 1 j) → (∀ j : Int, i ≤ j → j + 1 < m → σ 0 j = σ0 0 (j + 1) ∧ σ 1 j = σ0 1 (j + 1)) → (∀ j : Int, m ≤ j → j < σ0 3 0 → σ 0 j = σ0 0 j ∧ σ 1 j = σ0 1 j) → rr_wp (L3_removeHost_27 K n m σ) P := by
  intro d
  induction d with
  | zero =>
    intro n m σ h1 h2 h3 hk ha hb hg
    cases n with
    | zero => omega
    | succ n =>
      rw [L3_removeHost_27_s, hk 3 (by decide) (by decide)]
      exact wp_c (by omega) (wp_t (by omega) (hK σ hk ha (fun j a b => hb j a (by omega))))
  | succ d ih =>
    intro n m σ h1 h2 h3 hk ha hb hg
    cases n with
    | zero => omega
    | succ n =>
      have e := hg m (by omega) (by omega)
      rw [L3_removeHost_27_s, hk 3 (by decide) (by decide)]
      refine wp_c (by omega) (wp_f (by omega) (wp_c (by omega) (wp_c (by omega) ?_)))
      refine ih n (m + 1) _ (by omega) (by omega) (by omega) (fun k k0 k1 => by rw [s_n k1, s_n k0, hk k k0 k1]) (fun j a b => ?_) (fun j a b => ?_) (fun j a b => ?_)
      · rw [s_n (by decide : (0 : Nat) ≠ 1), s_s, s_s, u_n (by omega), u_n (by omega), s_n (by decide : (1 : Nat) ≠ 0)]
        exact ha j a b
      · rw [s_n (by decide : (0 : Nat) ≠ 1), s_s, s_s, u_e, u_e, s_n (by decide : (1 : Nat) ≠ 0)]
        by_cases ej : j = (m : Int) - 1
        · rw [if_pos ej, if_pos ej, ej, show (m : Int) - 1 + 1 = m by omega]; exact e
        · rw [if_neg ej, if_neg ej]; exact hb j a (by omega)
      · rw [s_n (by decide : (0 : Nat) ≠ 1), s_s, s_s, u_n (by omega), u_n (by omega), s_n (by decide : (1 : Nat) ≠ 0)]
        exact hg j (by omega) b
theorem St_removeHost {σ : rr_T} {ν : Int → Int} (h : St σ ν) (i : Nat) (hi : (i : Int) < σ 3 0) : rr_wp (L3_removeHost_27 (fun σ_27 => some (0, (rr_t σ_27 3 ((σ_27 3 0) - 1)))) 1000 ((i : Int) + 1) σ) (fun p => p.1 = 0 ∧ (∀ k, 7 ≤ k → p.2 k = σ k) ∧ St p.2 (rr_u ν (σ 0 i) 0)) := by
  have hhc := h.1
  have hinj := fun {a b : Int} => St_inj h (i := a) (j := b)
  obtain ⟨-, hkc, hex, hmv, hN, hS, hZ, hKy, hKs, e140, e141, e142⟩ := h
  have hii := hN i (by omega) hi
  refine w_removeHost_27 (σ0 := σ) hhc i hi (fun σ3 hk ha hb => ?_) ((σ 3 0).toNat - (i + 1)) 1000 (i + 1) σ (by omega) (by omega) (by omega) (fun _ _ _ => rfl) (fun _ _ _ => ⟨rfl, rfl⟩) (fun j a b => by omega) (fun _ _ _ => ⟨rfl, rfl⟩)
  refine wp_some ⟨rfl, fun k hk7 => by
    show rr_t σ3 3 (σ3 3 0 - 1) k = σ k
    rw [t_n (by omega), hk k (by omega) (by omega)], ?_⟩
  have e3 : σ3 3 = σ 3 := hk 3 (by decide) (by decide)
  show St (rr_t σ3 3 (σ3 3 0 - 1)) _
  unfold St
  rw [t_s, t_n (by decide : (0 : Nat) ≠ 3), t_n (by decide : (1 : Nat) ≠ 3), t_n (by decide : (2 : Nat) ≠ 3), t_n (by decide : (4 : Nat) ≠ 3), t_n (by decide : (5 : Nat) ≠ 3), t_n (by decide : (6 : Nat) ≠ 3), hk 2 (by decide) (by decide), hk 4 (by decide) (by decide), hk 5 (by decide) (by decide), hk 6 (by decide) (by decide), e3]
  have row : ∀ j : Int, 0 ≤ j → j < σ 3 0 - 1 → ∃ j2 : Int, 0 ≤ j2 ∧ j2 < σ 3 0 ∧ j2 ≠ i ∧ σ3 0 j = σ 0 j2 ∧ σ3 1 j = σ 1 j2 ∧ (j2 = if j < i then j else j + 1) := fun j a b => by
    by_cases z : j < i
    · exact ⟨j, a, by omega, by omega, (ha j a z).1, (ha j a z).2, by rw [if_pos z]⟩
    · exact ⟨j + 1, by omega, by omega, by omega, (hb j (by omega) (by omega)).1, (hb j (by omega) (by omega)).2, by rw [if_neg z]⟩
  refine ⟨by omega, hkc, hex, hmv, fun j a b => ?_, fun a b a0 ab b1 => ?_, fun n a b c => ?_, fun j a b => ?_, hKs, ?_, ?_, ?_⟩
  · obtain ⟨j2, p0, p1, p2, q0, q1, -⟩ := row j a b
    rw [q0, q1, u_n (fun e => p2 (hinj p0 p1 (by omega) hi e))]
    exact hN j2 p0 p1
  · obtain ⟨a2, p0, p1, p2, q0, q1, r⟩ := row a a0 (by omega)
    obtain ⟨b2, s0, s1, s2, t0, t1, u⟩ := row b (by omega) b1
    rw [q0, t0]
    refine hS a2 b2 p0 ?_ s1
    split at r <;> split at u <;> omega
  · by_cases e : n = σ 0 i
    · rw [e, u_s]
    · rw [u_n e]
      refine hZ n a b (fun j j0 j1 ej => ?_)
      rcases Int.lt_trichotomy j i with z | z | z
      · have := c j j0 (by omega)
        rw [(ha j j0 z).1] at this
        exact this ej
      · rw [z] at ej; exact e ej.symm
      · have := c (j - 1) (by omega) (by omega)
        rw [(hb (j - 1) (by omega) (by omega)).1, show j - 1 + 1 = j by omega] at this
        exact this ej
  · rw [u_n (by omega)]; exact hKy j a b
  · rw [u_n (by omega)]; exact e140
  · rw [u_n (by omega)]; exact e141
  · rw [u_n (by omega)]; exact e142
theorem T_goes {σ τ : rr_T} (h : St σ (τ 0)) {x : Int} (hx : rr_g x) : ∃ (r : Int) (σ2 τ2 : rr_T), M3_removeHost x σ = some (r, σ2) ∧ M5_doGoes x τ = some (r, τ2) ∧ T6 r σ σ2 τ τ2 := by
  have hhc := h.1
  apply two_wp
  unfold M3_removeHost M5_doGoes
  by_cases q : 0 ≤ x ∧ x < 100
  · refine wp_be (name_y q).1 (wp_c (by decide) (wp_f (by decide) ?_))
    rcases M_host h q.1 q.2 with ⟨i, i1, ei, ew, e1, e2⟩ | ⟨hno, ez, e1, e2⟩
    · refine wp_be e1 (wp_c (by omega) (wp_t (by omega) (wp_mono (St_removeHost h i i1) (fun p ⟨k2, k3, k4⟩ => ?_))))
      refine wp_be (name_y q).2 (wp_c (by decide) (wp_f (by decide) (wp_be e2 (wp_c (by decide) (wp_f (by decide) (wp_c (by omega) (wp_some ⟨k2, ?_⟩)))))))
      refine ⟨by omega, k3, fun k hk => s_n hk, fun e => absurd k2 e, fun _ => ?_⟩
      show St p.2 (rr_s τ 0 x 0 0)
      rw [s_s, ← ei]; exact k4
    · refine wp_be e1 (wp_c (by decide) (wp_f (by decide) (wp_some ?_)))
      exact wp_be (name_y q).2 (wp_c (by decide) (wp_f (by decide) (wp_be e2 (wp_c (by decide) (wp_t rfl (wp_some ⟨rfl, T6_no (r := -3) (by decide)⟩))))))
  · refine wp_be (name_n hx q).1 (wp_c (by decide) (wp_t rfl (wp_some ?_)))
    exact wp_be (name_n hx q).2 (wp_c (by decide) (wp_t rfl (wp_some ⟨rfl, T6_no (r := -2) (by decide)⟩)))
/-- a key comes: keys above it make room, on both sides -/
theorem w_addKey_38 {σ0 : rr_T} {x : Int} (hx : rr_g x) (hc : 0 ≤ σ0 4 0 ∧ σ0 4 0 < 40) (hr : ∀ i : Int, 0 ≤ i → i < σ0 4 0 → 0 ≤ σ0 2 i ∧ σ0 2 i ≤ 999) {K : Int → rr_T → Option (Int × rr_T)} {P : Int × rr_T → Prop} (hK : ∀ (m : Nat) (σ : rr_T), (m : Int) ≤ σ0 4 0 → (∀ k, k ≠ 2 → σ k = σ0 k) → (∀ j : Int, 0 ≤ j → j < m → σ 2 j = σ0 2 j) → (∀ j : Int, m < j → j ≤ σ0 4 0 → σ 2 j = σ0 2 (j - 1)) → (∀ j : Int, m ≤ j → j < σ0 4 0 → x < σ0 2 j) → (0 < m → σ0 2 ((m : Int) - 1) ≤ x) → rr_wp (K m σ) P) : ∀ (m n : Nat) (σ : rr_T), m < n → (m : Int) ≤ σ0 4 0 → (∀ k, k ≠ 2 → σ k = σ0 k) → (∀ j : Int, 0 ≤ j → j < m → σ 2 j = σ0 2 j) → (∀ j : Int, m < j → j ≤ σ0 4 0 → σ 2 j = σ0 2 (j - 1)) → (∀ j : Int, m ≤ j → j < σ0 4 0 → x < σ0 2 j) → rr_wp (L3_addKey_38 x K n m σ) P := by
  intro m
  induction m with
  | zero =>
    intro n σ h1 h2 hk ha hb hg
    cases n with
    | zero => omega
    | succ n =>
      rw [L3_addKey_38_s]
      exact wp_c (by omega) (wp_t (by omega) (hK 0 σ h2 hk ha hb hg (fun z => by omega)))
  | succ m ih =>
    intro n σ h1 h2 hk ha hb hg
    cases n with
    | zero => omega
    | succ n =>
      have em : ((m + 1 : Nat) : Int) - 1 = m := by omega
      have e := ha m (by omega) (by omega)
      have r := hr m (by omega) (by omega)
      rw [L3_addKey_38_s, em]
      refine wp_c (by omega) (wp_f (by omega) (wp_c (by omega) (wp_c ⟨by omega, hx⟩ (wp_if (fun q => ?_) (fun q => wp_c (by omega) ?_)))))
      · exact hK (m + 1) σ h2 hk ha hb hg (fun _ => by rw [em]; omega)
      · rw [show ((m + 1 : Nat) : Int) + -1 = m by omega]
        refine ih n _ (by omega) (by omega) (fun k k2 => by rw [s_n k2, hk k k2]) (fun j a b => ?_) (fun j a b => ?_) (fun j a b => ?_)
        · rw [s_s, u_n (by omega)]; exact ha j a (by omega)
        · rw [s_s, u_e]
          by_cases ej : j = ((m + 1 : Nat) : Int)
          · rw [if_pos ej, ej, em]; exact e
          · rw [if_neg ej]; exact hb j (by omega) b
        · rcases Int.lt_or_le (m : Int) j with z | z
          · exact hg j (by omega) b
          · rw [show j = m by omega]; omega
theorem w_doKey_21 {τ0 : rr_T} {x : Int} (hx : rr_g x) (hc : 0 ≤ τ0 0 140 ∧ τ0 0 140 < 40) (hr : ∀ i : Int, 0 ≤ i → i < τ0 0 140 → 0 ≤ τ0 0 (100 + i) ∧ τ0 0 (100 + i) ≤ 999) {K : Int → rr_T → Option (Int × rr_T)} {P : Int × rr_T → Prop} (hK : ∀ (m : Nat) (τ : rr_T), (m : Int) ≤ τ0 0 140 → (∀ k, k ≠ 0 → τ k = τ0 k) → (∀ j : Int, j < 100 + m ∨ 100 + τ0 0 140 < j → τ 0 j = τ0 0 j) → (∀ j : Int, m < j → j ≤ τ0 0 140 → τ 0 (100 + j) = τ0 0 (100 + (j - 1))) → (∀ j : Int, m ≤ j → j < τ0 0 140 → x < τ0 0 (100 + j)) → (0 < m → τ0 0 (100 + ((m : Int) - 1)) ≤ x) → rr_wp (K m τ) P) : ∀ (m n : Nat) (τ : rr_T), m < n → (m : Int) ≤ τ0 0 140 → (∀ k, k ≠ 0 → τ k = τ0 k) → (∀ j : Int, j < 100 + m ∨ 100 + τ0 0 140 < j → τ 0 j = τ0 0 j) → (∀ j : Int, m < j → j ≤ τ0 0 140 → τ 0 (100 + j) = τ0 0 (100 + (j - 1))) → (∀ j : Int, m ≤ j → j < τ0 0 140 → x < τ0 0 (100 + j)) → rr_wp (L5_doKey_21 x K n m τ) P := by
  intro m
  induction m with
  | zero =>
    intro n τ h1 h2 hk ha hb hg
    cases n with
    | zero => omega
    | succ n =>
      rw [L5_doKey_21_s]
      exact wp_c (by omega) (wp_t (by omega) (hK 0 τ h2 hk ha hb hg (fun z => by omega)))
  | succ m ih =>
    intro n τ h1 h2 hk ha hb hg
    cases n with
    | zero => omega
    | succ n =>
      have em : 100 + ((m + 1 : Nat) : Int) - 1 = 100 + m := by omega
      have e := ha (100 + m) (Or.inl (by omega))
      have r := hr m (by omega) (by omega)
      rw [L5_doKey_21_s, em]
      refine wp_c (by omega) (wp_f (by omega) (wp_c (by omega) (wp_c ⟨by omega, hx⟩ (wp_if (fun q => ?_) (fun q => wp_c (by omega) ?_)))))
      · exact hK (m + 1) τ h2 hk ha hb hg (fun _ => by rw [show ((m + 1 : Nat) : Int) - 1 = m by omega]; omega)
      · rw [show ((m + 1 : Nat) : Int) + -1 = m by omega]
        refine ih n _ (by omega) (by omega) (fun k k2 => by rw [s_n k2, hk k k2]) (fun j a => ?_) (fun j a b => ?_) (fun j a b => ?_)
        · rw [s_s, u_n (by omega)]; exact ha j (by omega)
        · rw [s_s, u_e]
          by_cases ej : j = ((m + 1 : Nat) : Int)
          · rw [if_pos (by omega), ej, show ((m + 1 : Nat) : Int) - 1 = m by omega]; exact e
          · rw [if_neg (by omega)]; exact hb j (by omega) b
        · rcases Int.lt_or_le (m : Int) j with z | z
          · exact hg j (by omega) b
          · rw [show j = m by omega]; omega
theorem mc_bad {τ : rr_T} {x : Int} (hx : rr_g x) (q : ¬ (0 ≤ x ∧ x ≤ 999)) : M5_mayCome x τ = some (-2) := by
  apply wp_eq
  unfold M5_mayCome
  exact wp_be (key_n hx q).2 (wp_c (by decide) (wp_t rfl (wp_some rfl)))
theorem mc_no {τ : rr_T} {x : Int} (q : 0 ≤ x ∧ x ≤ 999) {i : Nat} (hi : i < 40) (e : M5_rowOf x τ = some (i : Int)) : M5_mayCome x τ = some (-3) := by
  apply wp_eq
  unfold M5_mayCome
  exact wp_be (key_y q).2 (wp_c (by decide) (wp_f (by decide) (wp_be e (wp_c (by omega) (wp_f (by omega) (wp_some rfl))))))
theorem mc_full {τ : rr_T} {x : Int} (q : 0 ≤ x ∧ x ≤ 999) (e : M5_rowOf x τ = some (-1)) (h : τ 0 140 = 40) : M5_mayCome x τ = some (-4) := by
  apply wp_eq
  unfold M5_mayCome
  exact wp_be (key_y q).2 (wp_c (by decide) (wp_f (by decide) (wp_be e (wp_c (by decide) (wp_t rfl (wp_c (by omega) (wp_t h (wp_some rfl))))))))
theorem mc_ok {τ : rr_T} {x : Int} (q : 0 ≤ x ∧ x ≤ 999) (e : M5_rowOf x τ = some (-1)) (h : 0 ≤ τ 0 140 ∧ τ 0 140 < 40) : M5_mayCome x τ = some 0 := by
  apply wp_eq
  unfold M5_mayCome
  exact wp_be (key_y q).2 (wp_c (by decide) (wp_f (by decide) (wp_be e (wp_c (by decide) (wp_t rfl (wp_c (by omega) (wp_f (by omega) (wp_some rfl))))))))
theorem T_key {σ τ : rr_T} (h : St σ (τ 0)) {x : Int} (hx : rr_g x) : ∃ (r : Int) (σ2 τ2 : rr_T), M3_addKey x σ = some (r, σ2) ∧ M5_doKey x τ = some (r, τ2) ∧ T6 r σ σ2 τ τ2 := by
  have hkc := h.2.1
  have e140 : τ 0 140 = σ 4 0 := h.2.2.2.2.2.2.2.2.2.1
  apply two_wp
  unfold M3_addKey M5_doKey
  by_cases q : 0 ≤ x ∧ x ≤ 999
  · refine wp_be (key_y q).1 (wp_c (by decide) (wp_f (by decide) ?_))
    rcases M_key h hx with ⟨i, i1, ei, e1, e2⟩ | ⟨hno, e1, e2⟩
    · refine wp_be e1 (wp_c (by omega) (wp_f (by omega) (wp_some ?_)))
      exact wp_be (mc_no q (by omega) e2) (wp_c (by decide) (wp_f (by decide) (wp_some ⟨rfl, T6_no (r := -3) (by decide)⟩)))
    · refine wp_be e1 (wp_c (by decide) (wp_t (by decide) (wp_c (by omega) ?_)))
      by_cases q3 : σ 4 0 < 40
      · refine wp_t q3 ?_
        obtain ⟨hhc, -, hex, hmv, hN, hS, hZ, hKy, hKs, -, e141, e142⟩ := h
        have ekc : σ 4 0 = (((σ 4 0).toNat : Nat) : Int) := by omega
        rw [ekc]
        refine w_addKey_38 (σ0 := σ) hx ⟨hkc.1, q3⟩ (fun i a b => ⟨(hKy i a b).1, (hKy i a b).2.1⟩) (fun m σ3 h2 hk ha hb hg hl => ?_) (σ 4 0).toNat 1000 σ (by omega) (by omega) (fun _ _ => rfl) (fun _ _ _ => rfl) (fun j a b => by omega) (fun j a b => by omega)
        refine wp_c (by omega) (wp_some ?_)
        refine wp_be (mc_ok q e2 (by omega)) (wp_c (by decide) (wp_t rfl ?_))
        rw [show τ 0 140 = (((σ 4 0).toNat : Nat) : Int) by omega]
        refine w_doKey_21 (τ0 := τ) hx (by omega) (fun i a b => by have := hKy i a (by omega); omega) (fun m2 τ3 g2 gk ga gb gg gl => ?_) (σ 4 0).toNat 1000 τ (by omega) (by omega) (fun _ _ => rfl) (fun _ _ => rfl) (fun j a b => by omega) (fun j a b => by omega)
        have em : m2 = m := by
          rcases Nat.lt_trichotomy m m2 with z | z | z
          · have a1 := hg ((m2 : Int) - 1) (by omega) (by omega)
            have a2 := gl (by omega)
            have a3 := (hKy ((m2 : Int) - 1) (by omega) (by omega)).2.2
            omega
          · exact z.symm
          · have a1 := gg ((m : Int) - 1) (by omega) (by omega)
            have a2 := hl (by omega)
            have a3 := (hKy ((m : Int) - 1) (by omega) (by omega)).2.2
            omega
        subst em
        refine wp_c (by omega) (wp_some ⟨rfl, Or.inl rfl, fun k hk7 => ?_, fun k hk0 => ?_, fun e => absurd rfl e, fun _ => ?_⟩)
        · show rr_t (rr_s σ3 2 m2 x) 4 (σ3 4 0 + 1) k = σ k
          rw [t_n (by omega), s_n (by omega), hk k (by omega)]
        · show rr_s (rr_s τ3 0 (100 + m2) x) 0 140 (rr_u (τ3 0) (100 + m2) x 140 + 1) k = τ k
          rw [s_n hk0, s_n hk0, gk k hk0]
        · have e4 : σ3 4 = σ 4 := hk 4 (by decide)
          show St (rr_t (rr_s σ3 2 m2 x) 4 (σ3 4 0 + 1)) (rr_s (rr_s τ3 0 (100 + m2) x) 0 140 (rr_u (τ3 0) (100 + m2) x 140 + 1) 0)
          rw [s_s, s_s, u_n (show (140 : Int) ≠ 100 + m2 by omega), ga 140 (Or.inr (by omega)), e140]
          unfold St
          rw [t_s, t_n (by decide : (0 : Nat) ≠ 4), t_n (by decide : (1 : Nat) ≠ 4), t_n (by decide : (2 : Nat) ≠ 4), t_n (by decide : (3 : Nat) ≠ 4), t_n (by decide : (5 : Nat) ≠ 4), t_n (by decide : (6 : Nat) ≠ 4), s_s, s_n (by decide : (0 : Nat) ≠ 2), s_n (by decide : (1 : Nat) ≠ 2), s_n (by decide : (3 : Nat) ≠ 2), s_n (by decide : (5 : Nat) ≠ 2), s_n (by decide : (6 : Nat) ≠ 2), hk 0 (by decide), hk 1 (by decide), hk 3 (by decide), hk 5 (by decide), hk 6 (by decide), e4]
          have hlt : ∀ j : Int, 0 ≤ j → j < m2 → σ 2 j < x := fun j a b => by
            have h1 := hl (by omega)
            have h2 : σ 2 j ≤ σ 2 ((m2 : Int) - 1) := by
              rcases Int.lt_or_le j ((m2 : Int) - 1) with z | z
              · have := hKs j ((m2 : Int) - 1) a z (by omega); omega
              · rw [show j = (m2 : Int) - 1 by omega]; exact Int.le_refl _
            have h3 := hno j a (by omega)
            omega
          have nu : ∀ n : Int, n < 100 ∨ 140 < n → rr_u (rr_u (τ3 0) (100 + m2) x) 140 (σ 4 0 + 1) n = τ 0 n := fun n hn => by
            rw [u_n (by omega), u_n (by omega)]
            exact ga n (by omega)
          have row : ∀ j : Int, 0 ≤ j → j < σ 4 0 + 1 → (rr_u (σ3 2) m2 x j = if j < m2 then σ 2 j else if j = m2 then x else σ 2 (j - 1)) ∧ rr_u (rr_u (τ3 0) (100 + m2) x) 140 (σ 4 0 + 1) (100 + j) = rr_u (σ3 2) m2 x j := fun j a b => by
            rw [u_n (show 100 + j ≠ 140 by omega), u_e, u_e]
            rcases Int.lt_trichotomy j m2 with z | z | z
            · have e1 := ha j a z
              have e2 := ga (100 + j) (Or.inl (by omega))
              have e3 := (hKy j a (by omega)).2.2
              refine ⟨?_, ?_⟩
              · simp only [if_neg (show ¬ j = m2 by omega), if_pos z]; exact e1
              · simp only [if_neg (show ¬ j = m2 by omega), if_neg (show ¬ 100 + j = 100 + (m2 : Int) by omega)]; omega
            · refine ⟨?_, ?_⟩
              · simp only [if_pos z, if_neg (show ¬ j < m2 by omega)]
              · simp only [if_pos z, if_pos (show 100 + j = 100 + (m2 : Int) by omega)]
            · have e1 := hb j z (by omega)
              have e2 := gb j z (by omega)
              have e3 := (hKy (j - 1) (by omega) (by omega)).2.2
              refine ⟨?_, ?_⟩
              · simp only [if_neg (show ¬ j = m2 by omega), if_neg (show ¬ j < m2 by omega)]; exact e1
              · simp only [if_neg (show ¬ j = m2 by omega), if_neg (show ¬ 100 + j = 100 + (m2 : Int) by omega)]; omega
          refine ⟨hhc, by omega, hex, hmv, fun j a b => ?_, hS, fun n a b c => ?_, fun j a b => ?_, fun i j a b c => ?_, u_s _ _ _, ?_, ?_⟩
          · have hj := hN j a b
            rw [nu _ (by omega)]; exact hj
          · rw [nu _ (by omega)]; exact hZ n a b c
          · obtain ⟨r1, r2⟩ := row j a b
            rw [r2, r1]
            by_cases z2 : j < m2
            · rw [if_pos z2]
              have hj := hKy j a (by omega)
              exact ⟨hj.1, hj.2.1, rfl⟩
            · rw [if_neg z2]
              by_cases z : j = m2
              · rw [if_pos z]; exact ⟨q.1, q.2, rfl⟩
              · rw [if_neg z]
                have hj := hKy (j - 1) (by omega) (by omega)
                exact ⟨hj.1, hj.2.1, rfl⟩
          · obtain ⟨r1, -⟩ := row i a (by omega)
            obtain ⟨r2, -⟩ := row j (by omega) c
            rw [r1, r2]
            by_cases i1 : i < m2
            · rw [if_pos i1]
              have l1 := hlt i a i1
              by_cases j1 : j < m2
              · rw [if_pos j1]; exact hKs i j a b (by omega)
              · rw [if_neg j1]
                by_cases j2 : j = m2
                · rw [if_pos j2]; exact l1
                · rw [if_neg j2]
                  have := hg (j - 1) (by omega) (by omega)
                  omega
            · rw [if_neg i1, if_neg (show ¬ j < m2 by omega), if_neg (show ¬ j = m2 by omega)]
              have l2 := hg (j - 1) (by omega) (by omega)
              by_cases i2 : i = m2
              · rw [if_pos i2]; exact l2
              · rw [if_neg i2]; exact hKs (i - 1) (j - 1) (by omega) (by omega) (by omega)
          · rw [nu _ (by omega)]; exact e141
          · rw [nu _ (by omega)]; exact e142
      · refine wp_f q3 (wp_some ?_)
        exact wp_be (mc_full q e2 (by omega)) (wp_c (by decide) (wp_f (by decide) (wp_some ⟨rfl, T6_no (r := -4) (by decide)⟩)))
  · refine wp_be (key_n hx q).1 (wp_c (by decide) (wp_t rfl (wp_some ?_)))
    exact wp_be (mc_bad hx q) (wp_c (by decide) (wp_f (by decide) (wp_some ⟨rfl, T6_no (r := -2) (by decide)⟩)))
