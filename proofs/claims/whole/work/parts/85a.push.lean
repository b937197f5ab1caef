/-! States are held, released, kept. -/
theorem St_cong {σ : rr_T} {ν μ : Int → Int} (e : ∀ i : Int, 0 ≤ i → i < 143 → ν i = μ i) (h : St σ ν) : St σ μ := by
  obtain ⟨hhc, hkc, hex, hmv, hN, hS, hZ, hKy, hKs, e140, e141, e142⟩ := h
  refine ⟨hhc, hkc, hex, hmv, fun i a b => ?_, hS, fun n a b c => ?_, fun i a b => ?_, hKs, ?_, ?_, ?_⟩
  · have := hN i a b
    rw [← e _ (by omega) (by omega)]; exact this
  · rw [← e _ (by omega) (by omega)]; exact hZ n a b c
  · rw [← e _ (by omega) (by omega)]; exact hKy i a b
  · rw [← e _ (by omega) (by omega)]; exact e140
  · rw [← e _ (by omega) (by omega)]; exact e141
  · rw [← e _ (by omega) (by omega)]; exact e142
theorem St_cp {σ σ2 : rr_T} {ν : Int → Int} (h : St σ ν) (e0 : ∀ i : Int, 0 ≤ i → i < 6 → σ2 0 i = σ 0 i) (e1 : ∀ i : Int, 0 ≤ i → i < 6 → σ2 1 i = σ 1 i) (e2 : ∀ i : Int, 0 ≤ i → i < 40 → σ2 2 i = σ 2 i) (e3 : σ2 3 0 = σ 3 0) (e4 : σ2 4 0 = σ 4 0) (e5 : σ2 5 0 = σ 5 0) (e6 : σ2 6 0 = σ 6 0) : St σ2 ν := by
  obtain ⟨hhc, hkc, hex, hmv, hN, hS, hZ, hKy, hKs, e140, e141, e142⟩ := h
  unfold St
  rw [e3, e4, e5, e6]
  refine ⟨hhc, hkc, hex, hmv, fun i a b => ?_, fun i j a b c => ?_, fun n a b c => ?_, fun i a b => ?_, fun i j a b c => ?_, e140, e141, e142⟩
  · rw [e0 i a (by omega), e1 i a (by omega)]; exact hN i a b
  · rw [e0 i a (by omega), e0 j (by omega) (by omega)]; exact hS i j a b c
  · exact hZ n a b (fun i p q => by have := c i p q; rw [e0 i p (by omega)] at this; exact this)
  · rw [e2 i a (by omega)]; exact hKy i a b
  · rw [e2 i a (by omega), e2 j (by omega) (by omega)]; exact hKs i j a b c
theorem M3_copyFrom_e (σ τ : rr_T) : ∃ σ2 : rr_T, M3_copyFrom σ τ = some σ2 ∧ (∀ k, 7 ≤ k → σ2 k = σ k) ∧ (∀ i : Int, 0 ≤ i → i < 6 → σ2 0 i = τ 0 i) ∧ (∀ i : Int, 0 ≤ i → i < 6 → σ2 1 i = τ 1 i) ∧ (∀ i : Int, 0 ≤ i → i < 40 → σ2 2 i = τ 2 i) ∧ σ2 3 0 = τ 3 0 ∧ σ2 4 0 = τ 4 0 ∧ σ2 5 0 = τ 5 0 ∧ σ2 6 0 = τ 6 0 := by
  refine ⟨_, rfl, fun k hk => ?_, fun i a b => ?_, fun i a b => ?_, fun i a b => ?_, rfl, rfl, rfl, rfl⟩
  · rw [t_n (by omega), t_n (by omega), t_n (by omega), t_n (by omega), w_n (by omega), w_n (by omega), w_n (by omega)]
  · show (if 0 ≤ i ∧ i < 6 then τ 0 i else σ 0 i) = τ 0 i
    rw [if_pos ⟨a, b⟩]
  · show (if 0 ≤ i ∧ i < 6 then τ 1 i else _) = τ 1 i
    rw [if_pos ⟨a, b⟩]
  · show (if 0 ≤ i ∧ i < 40 then τ 2 i else _) = τ 2 i
    rw [if_pos ⟨a, b⟩]
theorem M3_copyFrom_St (σ τ : rr_T) {ν : Int → Int} (h : St τ ν) : ∃ σ2 : rr_T, M3_copyFrom σ τ = some σ2 ∧ (∀ k, 7 ≤ k → σ2 k = σ k) ∧ St σ2 ν := by
  obtain ⟨σ2, a, b, c, d, e, f, g, i, j⟩ := M3_copyFrom_e σ τ
  exact ⟨σ2, a, b, St_cp h c d e f g i j⟩
theorem w_hold_2 {τ0 : rr_T} {K : rr_T → Option rr_T} {P : rr_T → Prop} (hK : ∀ τ : rr_T, (∀ k, k ≠ 1 → τ k = τ0 k) → (∀ i : Int, 0 ≤ i → i < 143 → τ 1 i = τ0 0 i) → rr_wp (K τ) P) : ∀ (d n m : Nat) (τ : rr_T), m + d = 143 → d < n → (∀ k, k ≠ 1 → τ k = τ0 k) → (∀ i : Int, 0 ≤ i → i < m → τ 1 i = τ0 0 i) → rr_wp (L5_hold_2 K n m τ) P := by
  intro d
  induction d with
  | zero =>
    intro n m τ h1 h2 hk hp
    cases n with
    | zero => omega
    | succ n =>
      rw [L5_hold_2_s]
      exact wp_c (by omega) (wp_t (by omega) (hK τ hk (fun i a b => hp i a (by omega))))
  | succ d ih =>
    intro n m τ h1 h2 hk hp
    cases n with
    | zero => omega
    | succ n =>
      rw [L5_hold_2_s]
      refine wp_c (by omega) (wp_f (by omega) (wp_c (by omega) ?_))
      refine ih n (m + 1) _ (by omega) (by omega) (fun k hk1 => by rw [s_n hk1, hk k hk1]) (fun i a b => ?_)
      rw [s_s, u_e, hk 0 (by decide)]
      by_cases e : i = m
      · rw [if_pos e, e]
      · rw [if_neg e]; exact hp i a (by omega)
theorem w_hold_29 {τ0 : rr_T} {K : rr_T → Option rr_T} {P : rr_T → Prop} (hK : ∀ τ : rr_T, (∀ k, k ≠ 9 → τ k = τ0 k) → (∀ i : Int, 0 ≤ i → i < 40 → τ 9 i = τ0 6 i) → rr_wp (K τ) P) : ∀ (d n m : Nat) (τ : rr_T), m + d = 40 → d < n → (∀ k, k ≠ 9 → τ k = τ0 k) → (∀ i : Int, 0 ≤ i → i < m → τ 9 i = τ0 6 i) → rr_wp (L5_hold_29 K n m τ) P := by
  intro d
  induction d with
  | zero =>
    intro n m τ h1 h2 hk hp
    cases n with
    | zero => omega
    | succ n =>
      rw [L5_hold_29_s]
      exact wp_c (by omega) (wp_t (by omega) (hK τ hk (fun i a b => hp i a (by omega))))
  | succ d ih =>
    intro n m τ h1 h2 hk hp
    cases n with
    | zero => omega
    | succ n =>
      rw [L5_hold_29_s]
      refine wp_c (by omega) (wp_f (by omega) (wp_c (by omega) ?_))
      refine ih n (m + 1) _ (by omega) (by omega) (fun k hk1 => by rw [s_n hk1, hk k hk1]) (fun i a b => ?_)
      rw [s_s, u_e, hk 6 (by decide)]
      by_cases e : i = m
      · rw [if_pos e, e]
      · rw [if_neg e]; exact hp i a (by omega)
theorem M5_hold_e (τ0 : rr_T) : ∃ τ : rr_T, M5_hold τ0 = some τ ∧ (∀ k, k ≠ 1 → k ≠ 9 → τ k = τ0 k) ∧ (∀ i : Int, 0 ≤ i → i < 143 → τ 1 i = τ0 0 i) ∧ (∀ i : Int, 0 ≤ i → i < 40 → τ 9 i = τ0 6 i) := by
  have : rr_wp (M5_hold τ0) (fun τ => (∀ k, k ≠ 1 → k ≠ 9 → τ k = τ0 k) ∧ (∀ i : Int, 0 ≤ i → i < 143 → τ 1 i = τ0 0 i) ∧ (∀ i : Int, 0 ≤ i → i < 40 → τ 9 i = τ0 6 i)) := by
    unfold M5_hold
    refine w_hold_2 (τ0 := τ0) (fun τ1 hk1 hp1 => ?_) 143 1000 0 τ0 (by omega) (by omega) (fun _ _ => rfl) (fun i a b => by omega)
    refine w_hold_29 (τ0 := τ1) (fun τ2 hk2 hp2 => wp_some ⟨fun k a b => by rw [hk2 k b, hk1 k a], fun i a b => by rw [hk2 1 (by decide), hp1 i a b], fun i a b => by rw [hp2 i a b, hk1 6 (by decide)]⟩) 40 1000 0 τ1 (by omega) (by omega) (fun _ _ => rfl) (fun i a b => by omega)
  exact this
theorem w_release_2 {τ0 : rr_T} {K : rr_T → Option rr_T} {P : rr_T → Prop} (hK : ∀ τ : rr_T, (∀ k, k ≠ 0 → τ k = τ0 k) → (∀ i : Int, 0 ≤ i → i < 143 → τ 0 i = τ0 1 i) → rr_wp (K τ) P) : ∀ (d n m : Nat) (τ : rr_T), m + d = 143 → d < n → (∀ k, k ≠ 0 → τ k = τ0 k) → (∀ i : Int, 0 ≤ i → i < m → τ 0 i = τ0 1 i) → rr_wp (L5_release_2 K n m τ) P := by
  intro d
  induction d with
  | zero =>
    intro n m τ h1 h2 hk hp
    cases n with
    | zero => omega
    | succ n =>
      rw [L5_release_2_s]
      exact wp_c (by omega) (wp_t (by omega) (hK τ hk (fun i a b => hp i a (by omega))))
  | succ d ih =>
    intro n m τ h1 h2 hk hp
    cases n with
    | zero => omega
    | succ n =>
      rw [L5_release_2_s]
      refine wp_c (by omega) (wp_f (by omega) (wp_c (by omega) ?_))
      refine ih n (m + 1) _ (by omega) (by omega) (fun k hk1 => by rw [s_n hk1, hk k hk1]) (fun i a b => ?_)
      rw [s_s, u_e, hk 1 (by decide)]
      by_cases e : i = m
      · rw [if_pos e, e]
      · rw [if_neg e]; exact hp i a (by omega)
theorem M5_release_e (τ0 : rr_T) : ∃ τ : rr_T, M5_release τ0 = some τ ∧ (∀ k, k ≠ 0 → τ k = τ0 k) ∧ (∀ i : Int, 0 ≤ i → i < 143 → τ 0 i = τ0 1 i) := by
  have : rr_wp (M5_release τ0) (fun τ => (∀ k, k ≠ 0 → τ k = τ0 k) ∧ (∀ i : Int, 0 ≤ i → i < 143 → τ 0 i = τ0 1 i)) := by
    unfold M5_release
    exact w_release_2 (τ0 := τ0) (fun τ1 hk1 hp1 => wp_some ⟨hk1, hp1⟩) 143 1000 0 τ0 (by omega) (by omega) (fun _ _ => rfl) (fun i a b => by omega)
  exact this
theorem w_push_26 {τ0 : rr_T} {K : rr_T → Option rr_T} {P : rr_T → Prop} (hK : ∀ τ : rr_T, (∀ k, k ≠ 2 → τ k = τ0 k) → (∀ i : Int, 0 ≤ i → i < 572 → τ 2 i = τ0 2 (i + 143)) → rr_wp (K τ) P) : ∀ (d n m : Nat) (τ : rr_T), m + d = 572 → d < n → (∀ k, k ≠ 2 → τ k = τ0 k) → (∀ i : Int, 0 ≤ i → i < m → τ 2 i = τ0 2 (i + 143)) → (∀ i : Int, m ≤ i → τ 2 i = τ0 2 i) → rr_wp (L5_push_26 K n m τ) P := by
  intro d
  induction d with
  | zero =>
    intro n m τ h1 h2 hk hp hq
    cases n with
    | zero => omega
    | succ n =>
      rw [L5_push_26_s]
      exact wp_c (by omega) (wp_t (by omega) (hK τ hk (fun i a b => hp i a (by omega))))
  | succ d ih =>
    intro n m τ h1 h2 hk hp hq
    cases n with
    | zero => omega
    | succ n =>
      rw [L5_push_26_s]
      refine wp_c (by omega) (wp_f (by omega) (wp_c (by omega) (wp_c (by omega) ?_)))
      refine ih n (m + 1) _ (by omega) (by omega) (fun k hk1 => by rw [s_n hk1, hk k hk1]) (fun i a b => ?_) (fun i a => ?_)
      · rw [s_s, u_e, hq ((m : Int) + 143) (by omega)]
        by_cases e : i = m
        · rw [if_pos e, e]
        · rw [if_neg e]; exact hp i a (by omega)
      · rw [s_s, u_n (by omega)]; exact hq i (by omega)
theorem w_push_67 {τ0 : rr_T} {s : Nat} (hs : s ≤ 4) (e3 : τ0 3 0 = s) {K : rr_T → Option rr_T} {P : rr_T → Prop} (hK : ∀ τ : rr_T, (∀ k, k ≠ 2 → τ k = τ0 k) → (∀ i : Int, 0 ≤ i → i < 143 → τ 2 (143 * s + i) = τ0 1 i) → (∀ i : Int, i < 143 * s → τ 2 i = τ0 2 i) → rr_wp (K τ) P) : ∀ (d n m : Nat) (τ : rr_T), m + d = 143 → d < n → (∀ k, k ≠ 2 → τ k = τ0 k) → (∀ i : Int, 0 ≤ i → i < m → τ 2 (143 * s + i) = τ0 1 i) → (∀ i : Int, i < 143 * s → τ 2 i = τ0 2 i) → rr_wp (L5_push_67 K n m τ) P := by
  intro d
  induction d with
  | zero =>
    intro n m τ h1 h2 hk hp hq
    cases n with
    | zero => omega
    | succ n =>
      rw [L5_push_67_s]
      exact wp_c (by omega) (wp_t (by omega) (hK τ hk (fun i a b => hp i a (by omega)) hq))
  | succ d ih =>
    intro n m τ h1 h2 hk hp hq
    cases n with
    | zero => omega
    | succ n =>
      rw [L5_push_67_s, hk 3 (by decide), e3, hk 1 (by decide)]
      refine wp_c (by omega) (wp_f (by omega) (wp_c (by omega) (wp_c (by omega) ?_)))
      refine ih n (m + 1) _ (by omega) (by omega) (fun k hk1 => by rw [s_n hk1, hk k hk1]) (fun i a b => ?_) (fun i a => ?_)
      · rw [s_s, u_e]
        by_cases e : i = m
        · rw [if_pos (by omega), e]
        · rw [if_neg (by omega)]; exact hp i a (by omega)
      · rw [s_s, u_n (by omega)]; exact hq i a
/-- the states to go back to, on both sides -/
def Hi (Ω : Nat → rr_T) (τ : rr_T) : Prop := (0 ≤ Ω 9 0 0 ∧ Ω 9 0 0 ≤ 5) ∧ τ 3 0 = Ω 9 0 0 ∧ ∀ j : Nat, (j : Int) < Ω 9 0 0 → St (Ω (4 + j)) (fun i => τ 2 (143 * j + i))
/-- a state is kept, in the class -/
theorem M0_keep_w {Ω : Nat → rr_T} {τs : rr_T} {μ : Int → Int} (hs : 0 ≤ Ω 9 0 0 ∧ Ω 9 0 0 ≤ 5) (h : St τs μ) : rr_wp (M0_keep Ω τs) (fun Ω2 => (Ω 9 0 0 < 5 → Ω2 9 0 0 = Ω 9 0 0 + 1 ∧ (∀ j : Nat, (j : Int) < Ω 9 0 0 → Ω2 (4 + j) = Ω (4 + j)) ∧ St (Ω2 (4 + (Ω 9 0 0).toNat)) μ) ∧ (Ω 9 0 0 = 5 → Ω2 9 0 0 = 5 ∧ (∀ j : Nat, j < 4 → Ω2 (4 + j) = Ω (5 + j)) ∧ St (Ω2 8) μ)) := by
  unfold M0_keep
  refine wp_c (by omega) (wp_if (fun q => ?_) (fun q => ?_))
  · obtain ⟨s, hsn⟩ := Int.eq_ofNat_of_zero_le hs.1
    have hs5 : s < 5 := by omega
    rw [hsn]
    match s, hs5 with
    | 0, _ =>
      obtain ⟨c, e1, -, e2⟩ := M3_copyFrom_St (Ω 4) τs h
      exact wp_t rfl (wp_be e1 (wp_some ⟨fun _ => ⟨rfl, fun j hj => by omega, e2⟩, fun z => by omega⟩))
    | 1, _ =>
      obtain ⟨c, e1, -, e2⟩ := M3_copyFrom_St (Ω 5) τs h
      refine wp_f (by decide) (wp_t rfl (wp_be e1 (wp_some ⟨fun _ => ⟨rfl, fun j hj => ?_, e2⟩, fun z => by omega⟩)))
      match j, hj with
      | 0, _ => rfl
      | j + 1, hj => omega
    | 2, _ =>
      obtain ⟨c, e1, -, e2⟩ := M3_copyFrom_St (Ω 6) τs h
      refine wp_f (by decide) (wp_f (by decide) (wp_t rfl (wp_be e1 (wp_some ⟨fun _ => ⟨rfl, fun j hj => ?_, e2⟩, fun z => by omega⟩))))
      match j, hj with
      | 0, _ => rfl
      | 1, _ => rfl
      | j + 2, hj => omega
    | 3, _ =>
      obtain ⟨c, e1, -, e2⟩ := M3_copyFrom_St (Ω 7) τs h
      refine wp_f (by decide) (wp_f (by decide) (wp_f (by decide) (wp_t rfl (wp_be e1 (wp_some ⟨fun _ => ⟨rfl, fun j hj => ?_, e2⟩, fun z => by omega⟩)))))
      match j, hj with
      | 0, _ => rfl
      | 1, _ => rfl
      | 2, _ => rfl
      | j + 3, hj => omega
    | 4, _ =>
      obtain ⟨c, e1, -, e2⟩ := M3_copyFrom_St (Ω 8) τs h
      refine wp_f (by decide) (wp_f (by decide) (wp_f (by decide) (wp_f (by decide) (wp_t rfl (wp_be e1 (wp_some ⟨fun _ => ⟨rfl, fun j hj => ?_, e2⟩, fun z => by omega⟩))))))
      match j, hj with
      | 0, _ => rfl
      | 1, _ => rfl
      | 2, _ => rfl
      | 3, _ => rfl
      | j + 4, hj => omega
    | s + 5, h5 => omega
  · have h5 : Ω 9 0 0 = 5 := by omega
    refine wp_be rfl ?_
    obtain ⟨c, e1, -, e2⟩ := M3_copyFrom_St (Ω 4) τs h
    refine wp_f (show ¬ (4 : Int) = 0 by decide) (wp_f (show ¬ (4 : Int) = 1 by decide) (wp_f (show ¬ (4 : Int) = 2 by decide) (wp_f (show ¬ (4 : Int) = 3 by decide) (wp_t rfl (wp_be e1 (wp_some ⟨fun z => by omega, fun _ => ⟨rfl, fun j hj => ?_, e2⟩⟩))))))
    match j, hj with
    | 0, _ => rfl
    | 1, _ => rfl
    | 2, _ => rfl
    | 3, _ => rfl
    | j + 4, hj => omega
