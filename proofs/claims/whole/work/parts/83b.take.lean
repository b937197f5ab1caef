/-! Orders: the class's stock and the model's row go alike. T6 r σ σ2 τ τ2: both answered r. -/
def T6 (r : Int) (σ σ2 τ τ2 : rr_T) : Prop := (r = 0 ∨ r = -2 ∨ r = -3 ∨ r = -4) ∧ (∀ k, 7 ≤ k → σ2 k = σ k) ∧ (∀ k, k ≠ 0 → τ2 k = τ k) ∧ (r ≠ 0 → σ2 = σ ∧ τ2 = τ) ∧ (r = 0 → St σ2 (τ2 0))
theorem T6_no {σ τ : rr_T} {r : Int} (h : r = -2 ∨ r = -3 ∨ r = -4) : T6 r σ σ τ τ := ⟨by omega, fun _ _ => rfl, fun _ _ => rfl, fun _ => ⟨rfl, rfl⟩, fun e => by omega⟩
/-- extra -/
theorem T_extra {σ τ : rr_T} (h : St σ (τ 0)) {x : Int} (hx : rr_g x) : ∃ (r : Int) (σ2 τ2 : rr_T), M3_changeExtra x σ = some (r, σ2) ∧ M5_doExtra x τ = some (r, τ2) ∧ T6 r σ σ2 τ τ2 := by
  unfold M3_changeExtra M5_doExtra
  rw [rr_c_pos hx, M5_in_e hx (by decide) (by decide), Option.bind_some]
  by_cases q : 0 ≤ x ∧ x ≤ 200
  · rw [if_neg (by omega), if_pos q.2, if_pos q, rr_c_pos (by decide), if_neg (by decide)]
    refine ⟨0, _, _, rfl, rfl, Or.inl rfl, fun k hk => t_n (by omega), fun k hk => s_n hk, fun e => absurd rfl e, fun _ => ?_⟩
    obtain ⟨hhc, hkc, hex, hmv, hN, hS, hZ, hKy, hKs, e140, e141, e142⟩ := h
    unfold St
    rw [t_n (by decide : (0 : Nat) ≠ 5), t_n (by decide : (1 : Nat) ≠ 5), t_n (by decide : (2 : Nat) ≠ 5), t_n (by decide : (3 : Nat) ≠ 5), t_n (by decide : (4 : Nat) ≠ 5), t_n (by decide : (6 : Nat) ≠ 5), t_s, s_s]
    refine ⟨hhc, hkc, q, hmv, fun i a b => ?_, hS, fun n a b c => ?_, fun i a b => ?_, hKs, ?_, u_s _ _ _, ?_⟩
    · have := hN i a b
      rw [u_n (by omega)]; exact this
    · rw [u_n (by omega)]; exact hZ n a b c
    · rw [u_n (by omega)]; exact hKy i a b
    · rw [u_n (by omega)]; exact e140
    · rw [u_n (by omega)]; exact e142
  · rw [if_neg q, rr_c_pos (by decide), if_pos rfl]
    by_cases a : x < 0
    · rw [if_pos a]; exact ⟨-2, σ, τ, rfl, rfl, T6_no (by omega)⟩
    · rw [if_neg a, if_neg (by omega)]; exact ⟨-2, σ, τ, rfl, rfl, T6_no (by omega)⟩
/-- weighs -/
theorem T_weighs {σ τ : rr_T} (h : St σ (τ 0)) {x y : Int} (hx : rr_g x) (hy : rr_g y) : ∃ (r : Int) (σ2 τ2 : rr_T), M3_weighAnew x y σ = some (r, σ2) ∧ M5_doWeighs x y τ = some (r, τ2) ∧ T6 r σ σ2 τ τ2 := by
  unfold M3_weighAnew M5_doWeighs
  rw [M4_isName_e hx, M5_isName_e hx, Option.bind_some, Option.bind_some]
  by_cases q : 0 ≤ x ∧ x < 100
  · rw [if_pos q, rr_c_pos (by decide), rr_c_pos (by decide), if_neg (by decide), if_neg (by decide), M4_isWeight_e hy, M5_in_e hy (by decide) (by decide), Option.bind_some, Option.bind_some]
    by_cases q2 : 1 ≤ y ∧ y ≤ 4
    · rw [if_pos q2, rr_c_pos (by decide), rr_c_pos (by decide), if_neg (by decide), if_neg (by decide)]
      rcases M_host h q.1 q.2 with ⟨i, i1, ei, ew, e1, e2⟩ | ⟨hno, ez, e1, e2⟩
      · have hhc := h.1
        have hinj := fun {a b : Int} => St_inj h (i := a) (j := b)
        rw [e1, e2, Option.bind_some, Option.bind_some, rr_c_pos (by omega), if_pos (by omega), rr_c_pos (by omega), rr_c_pos (by decide), if_neg (by decide), rr_c_pos (by omega)]
        refine ⟨0, _, _, rfl, rfl, Or.inl rfl, fun k hk => s_n (by omega), fun k hk => s_n hk, fun e => absurd rfl e, fun _ => ?_⟩
        obtain ⟨-, hkc, hex, hmv, hN, hS, hZ, hKy, hKs, e140, e141, e142⟩ := h
        unfold St
        rw [s_n (by decide : (0 : Nat) ≠ 1), s_n (by decide : (2 : Nat) ≠ 1), s_n (by decide : (3 : Nat) ≠ 1), s_n (by decide : (4 : Nat) ≠ 1), s_n (by decide : (5 : Nat) ≠ 1), s_n (by decide : (6 : Nat) ≠ 1), s_s, s_s]
        refine ⟨hhc, hkc, hex, hmv, fun j a b => ?_, hS, fun n a b c => ?_, fun j a b => ?_, hKs, ?_, ?_, ?_⟩
        · have hj := hN j a b
          rw [u_e, u_e]
          by_cases ej : j = i
          · subst ej
            rw [if_pos rfl, if_pos ei]
            exact ⟨hj.1, hj.2.1, q2.1, q2.2, rfl⟩
          · rw [if_neg ej, if_neg (fun e => ej (hinj a b (by omega) i1 (e.trans ei.symm)))]
            exact hj
        · rw [u_n (fun e => c i (by omega) i1 (by rw [ei]; exact e.symm))]
          exact hZ n a b c
        · rw [u_n (by omega)]; exact hKy j a b
        · rw [u_n (by omega)]; exact e140
        · rw [u_n (by omega)]; exact e141
        · rw [u_n (by omega)]; exact e142
      · rw [e1, e2, Option.bind_some, Option.bind_some, rr_c_pos (by decide), if_neg (by decide), rr_c_pos (by decide), if_pos rfl]
        exact ⟨-3, σ, τ, rfl, rfl, T6_no (by omega)⟩
    · rw [if_neg q2, rr_c_pos (by decide), rr_c_pos (by decide), if_pos rfl, if_pos rfl]
      exact ⟨-2, σ, τ, rfl, rfl, T6_no (by omega)⟩
  · rw [if_neg q, rr_c_pos (by decide), rr_c_pos (by decide), if_pos rfl, if_pos rfl]
    exact ⟨-2, σ, τ, rfl, rfl, T6_no (by omega)⟩
/-- a host comes: the hosts above it make room -/
theorem w_addHost_45 {σ0 : rr_T} {x y : Int} (hx : rr_g x) (hc : 0 ≤ σ0 3 0 ∧ σ0 3 0 < 6) (hr : ∀ i : Int, 0 ≤ i → i < σ0 3 0 → 0 ≤ σ0 0 i ∧ σ0 0 i < 100) {K : Int → rr_T → Option (Int × rr_T)} {P : Int × rr_T → Prop} (hK : ∀ (m : Nat) (σ : rr_T), (m : Int) ≤ σ0 3 0 → (∀ k, k ≠ 0 → k ≠ 1 → σ k = σ0 k) → (∀ j : Int, 0 ≤ j → j < m → σ 0 j = σ0 0 j ∧ σ 1 j = σ0 1 j) → (∀ j : Int, m < j → j ≤ σ0 3 0 → σ 0 j = σ0 0 (j - 1) ∧ σ 1 j = σ0 1 (j - 1)) → (∀ j : Int, m ≤ j → j < σ0 3 0 → x < σ0 0 j) → (0 < m → σ0 0 ((m : Int) - 1) ≤ x) → rr_wp (K m σ) P) : ∀ (m n : Nat) (σ : rr_T), m < n → (m : Int) ≤ σ0 3 0 → (∀ k, k ≠ 0 → k ≠ 1 → σ k = σ0 k) → (∀ j : Int, 0 ≤ j → j < m → σ 0 j = σ0 0 j ∧ σ 1 j = σ0 1 j) → (∀ j : Int, m < j → j ≤ σ0 3 0 → σ 0 j = σ0 0 (j - 1) ∧ σ 1 j = σ0 1 (j - 1)) → (∀ j : Int, m ≤ j → j < σ0 3 0 → x < σ0 0 j) → rr_wp (L3_addHost_45 x y K n m σ) P := by
  intro m
  induction m with
  | zero =>
    intro n σ h1 h2 hk ha hb hg
    cases n with
    | zero => omega
    | succ n =>
      rw [L3_addHost_45_s]
      exact wp_c (by omega) (wp_t (by omega) (hK 0 σ h2 hk ha hb hg (fun z => by omega)))
  | succ m ih =>
    intro n σ h1 h2 hk ha hb hg
    cases n with
    | zero => omega
    | succ n =>
      have em : ((m + 1 : Nat) : Int) - 1 = m := by omega
      have e := ha m (by omega) (by omega)
      have r := hr m (by omega) (by omega)
      rw [L3_addHost_45_s, em]
      refine wp_c (by omega) (wp_f (by omega) (wp_c (by omega) (wp_c ⟨by omega, hx⟩ (wp_if (fun q => ?_) (fun q => wp_c (by omega) ?_)))))
      · exact hK (m + 1) σ h2 hk ha hb hg (fun _ => by rw [em]; omega)
      · rw [show ((m + 1 : Nat) : Int) + -1 = m by omega]
        refine ih n _ (by omega) (by omega) (fun k k0 k1 => by rw [s_n k1, s_n k0, hk k k0 k1]) (fun j a b => ?_) (fun j a b => ?_) (fun j a b => ?_)
        · rw [s_n (by decide : (0 : Nat) ≠ 1), s_s, s_s, u_n (by omega), u_n (by omega), s_n (by decide : (1 : Nat) ≠ 0)]
          exact ha j a (by omega)
        · rw [s_n (by decide : (0 : Nat) ≠ 1), s_s, s_s, u_e, u_e, s_n (by decide : (1 : Nat) ≠ 0)]
          by_cases ej : j = ((m + 1 : Nat) : Int)
          · rw [if_pos ej, if_pos ej, ej, em]; exact e
          · rw [if_neg ej, if_neg ej]; exact hb j (by omega) b
        · rcases Int.lt_or_le (m : Int) j with z | z
          · exact hg j (by omega) b
          · rw [show j = m by omega]; omega
/-- both sides, one behind the other -/
theorem two_wp {σ τ : rr_T} {A B : Option (Int × rr_T)} (h : rr_wp A (fun p => rr_wp B (fun q => p.1 = q.1 ∧ T6 p.1 σ p.2 τ q.2))) : ∃ (r : Int) (σ2 τ2 : rr_T), A = some (r, σ2) ∧ B = some (r, τ2) ∧ T6 r σ σ2 τ τ2 := by
  obtain ⟨⟨r, σ2⟩, e1, ⟨r2, τ2⟩, e2, e3, e4⟩ := h
  simp only at e3 e4
  subst e3
  exact ⟨r, σ2, τ2, e1, e2, e4⟩
theorem name_y {x : Int} (h : 0 ≤ x ∧ x < 100) : M4_isName x = some 1 ∧ M5_isName x = some 1 := ⟨by rw [M4_isName_e (by omega), if_pos h], by rw [M5_isName_e (by omega), if_pos h]⟩
theorem name_n {x : Int} (hx : rr_g x) (h : ¬ (0 ≤ x ∧ x < 100)) : M4_isName x = some 0 ∧ M5_isName x = some 0 := ⟨by rw [M4_isName_e hx, if_neg h], by rw [M5_isName_e hx, if_neg h]⟩
theorem wei_y {x : Int} (h : 1 ≤ x ∧ x ≤ 4) : M4_isWeight x = some 1 ∧ M5_in x 1 4 = some 1 := ⟨by rw [M4_isWeight_e (by omega), if_pos h], by rw [M5_in_e (by omega) (by decide) (by decide), if_pos h]⟩
theorem wei_n {x : Int} (hx : rr_g x) (h : ¬ (1 ≤ x ∧ x ≤ 4)) : M4_isWeight x = some 0 ∧ M5_in x 1 4 = some 0 := ⟨by rw [M4_isWeight_e hx, if_neg h], by rw [M5_in_e hx (by decide) (by decide), if_neg h]⟩
theorem key_y {x : Int} (h : 0 ≤ x ∧ x ≤ 999) : M4_isKey x = some 1 ∧ M5_isKey x = some 1 := ⟨by rw [M4_isKey_e (by omega), if_pos h], by rw [M5_isKey_e (by omega), if_pos h]⟩
theorem key_n {x : Int} (hx : rr_g x) (h : ¬ (0 ≤ x ∧ x ≤ 999)) : M4_isKey x = some 0 ∧ M5_isKey x = some 0 := ⟨by rw [M4_isKey_e hx, if_neg h], by rw [M5_isKey_e hx, if_neg h]⟩
/-- a host comes -/
theorem St_addHost {σ : rr_T} {ν : Int → Int} (h : St σ ν) {x y : Int} (q : 0 ≤ x ∧ x < 100) (q2 : 1 ≤ y ∧ y ≤ 4) (hno : ∀ i : Int, 0 ≤ i → i < σ 3 0 → σ 0 i ≠ x) (q3 : σ 3 0 < 6) : rr_wp (L3_addHost_45 x y (fun y3_45 σ_45 => rr_c (0 ≤ y3_45 ∧ y3_45 < 6) (some (0, (rr_t (rr_s (rr_s σ_45 0 y3_45 x) 1 y3_45 y) 3 ((σ_45 3 0) + 1))))) 1000 (σ 3 0) σ) (fun p => p.1 = 0 ∧ (∀ k, 7 ≤ k → p.2 k = σ k) ∧ St p.2 (rr_u ν x y)) := by
  have hx : rr_g x := by omega
  have hhc := h.1
  obtain ⟨-, hkc, hex, hmv, hN, hS, hZ, hKy, hKs, e140, e141, e142⟩ := h
  have ehc : σ 3 0 = (((σ 3 0).toNat : Nat) : Int) := by omega
  rw [ehc]
  refine w_addHost_45 (σ0 := σ) hx ⟨hhc.1, q3⟩ (fun i a b => ⟨(hN i a b).1, (hN i a b).2.1⟩) (fun m σ3 h2 hk ha hb hg hl => ?_) (σ 3 0).toNat 1000 σ (by omega) (by omega) (fun _ _ _ => rfl) (fun j _ _ => ⟨rfl, rfl⟩) (fun j a b => by omega) (fun j a b => by omega)
  refine wp_c (by omega) (wp_some ⟨rfl, fun k hk7 => by
    show rr_t (rr_s (rr_s σ3 0 m x) 1 m y) 3 (σ3 3 0 + 1) k = σ k
    rw [t_n (by omega), s_n (by omega), s_n (by omega), hk k (by omega) (by omega)], ?_⟩)
  have e3 : σ3 3 = σ 3 := hk 3 (by decide) (by decide)
  show St (rr_t (rr_s (rr_s σ3 0 m x) 1 m y) 3 (σ3 3 0 + 1)) _
  unfold St
  rw [t_s, t_n (by decide : (0 : Nat) ≠ 3), t_n (by decide : (1 : Nat) ≠ 3), t_n (by decide : (2 : Nat) ≠ 3), t_n (by decide : (4 : Nat) ≠ 3), t_n (by decide : (5 : Nat) ≠ 3), t_n (by decide : (6 : Nat) ≠ 3), s_s, s_n (by decide : (0 : Nat) ≠ 1), s_s, s_n (by decide : (1 : Nat) ≠ 0), s_n (by decide : (2 : Nat) ≠ 1), s_n (by decide : (2 : Nat) ≠ 0), s_n (by decide : (4 : Nat) ≠ 1), s_n (by decide : (4 : Nat) ≠ 0), s_n (by decide : (5 : Nat) ≠ 1), s_n (by decide : (5 : Nat) ≠ 0), s_n (by decide : (6 : Nat) ≠ 1), s_n (by decide : (6 : Nat) ≠ 0), hk 2 (by decide) (by decide), hk 4 (by decide) (by decide), hk 5 (by decide) (by decide), hk 6 (by decide) (by decide), e3]
  have hlt : ∀ j : Int, 0 ≤ j → j < m → σ 0 j < x := fun j a b => by
    have h1 := hl (by omega)
    have h2 : σ 0 j ≤ σ 0 ((m : Int) - 1) := by
      rcases Int.lt_or_le j ((m : Int) - 1) with z | z
      · have := hS j ((m : Int) - 1) a z (by omega); omega
      · rw [show j = (m : Int) - 1 by omega]; exact Int.le_refl _
    have h3 := hno j a (by omega)
    omega
  -- the rows anew
  have row : ∀ j : Int, 0 ≤ j → j < σ 3 0 + 1 → (rr_u (σ3 0) m x j = if j < m then σ 0 j else if j = m then x else σ 0 (j - 1)) ∧ (rr_u (σ3 1) m y j = if j < m then σ 1 j else if j = m then y else σ 1 (j - 1)) := fun j a b => by
    rw [u_e, u_e]
    rcases Int.lt_trichotomy j m with z | z | z
    · have e := ha j a z
      refine ⟨?_, ?_⟩
      · simp only [if_neg (show ¬ j = m by omega), if_pos z]; exact e.1
      · simp only [if_neg (show ¬ j = m by omega), if_pos z]; exact e.2
    · refine ⟨?_, ?_⟩
      · simp only [if_pos z, if_neg (show ¬ j < m by omega)]
      · simp only [if_pos z, if_neg (show ¬ j < m by omega)]
    · have e := hb j z (by omega)
      refine ⟨?_, ?_⟩
      · simp only [if_neg (show ¬ j = m by omega), if_neg (show ¬ j < m by omega)]; exact e.1
      · simp only [if_neg (show ¬ j = m by omega), if_neg (show ¬ j < m by omega)]; exact e.2
  refine ⟨by omega, hkc, hex, hmv, fun j a b => ?_, fun i j a b c => ?_, fun n a b c => ?_, fun j a b => ?_, hKs, ?_, ?_, ?_⟩
  · obtain ⟨r1, r2⟩ := row j a b
    rw [r1, r2]
    by_cases z2 : j < m
    · rw [if_pos z2, if_pos z2]
      have hj := hN j a (by omega)
      have := hlt j a z2
      rw [u_n (by omega)]; exact hj
    · rw [if_neg z2, if_neg z2]
      by_cases z : j = m
      · rw [if_pos z, if_pos z, u_s]; exact ⟨q.1, q.2, q2.1, q2.2, rfl⟩
      · rw [if_neg z, if_neg z]
        have hj := hN (j - 1) (by omega) (by omega)
        have := hg (j - 1) (by omega) (by omega)
        rw [u_n (by omega)]; exact hj
  · obtain ⟨r1, -⟩ := row i a (by omega)
    obtain ⟨r2, -⟩ := row j (by omega) c
    rw [r1, r2]
    by_cases i1 : i < m
    · rw [if_pos i1]
      have l1 := hlt i a i1
      by_cases j1 : j < m
      · rw [if_pos j1]; exact hS i j a b (by omega)
      · rw [if_neg j1]
        by_cases j2 : j = m
        · rw [if_pos j2]; exact l1
        · rw [if_neg j2]
          have := hg (j - 1) (by omega) (by omega)
          omega
    · rw [if_neg i1, if_neg (show ¬ j < m by omega), if_neg (show ¬ j = m by omega)]
      have l2 := hg (j - 1) (by omega) (by omega)
      by_cases i2 : i = m
      · rw [if_pos i2]; exact l2
      · rw [if_neg i2]; exact hS (i - 1) (j - 1) (by omega) (by omega) (by omega)
  · have nx : n ≠ x := fun e => by
      have := c m (by omega) (by omega)
      rw [(row m (by omega) (by omega)).1, if_neg (by omega), if_pos rfl] at this
      exact this e.symm
    rw [u_n nx]
    refine hZ n a b (fun i i0 i1 e => ?_)
    by_cases z : i < m
    · have := c i i0 (by omega)
      rw [(row i i0 (by omega)).1, if_pos z] at this
      exact this e
    · have := c (i + 1) (by omega) (by omega)
      rw [(row (i + 1) (by omega) (by omega)).1, if_neg (by omega), if_neg (by omega), show i + 1 - 1 = i by omega] at this
      exact this e
  · rw [u_n (by omega)]; exact hKy j a b
  · rw [u_n (by omega)]; exact e140
  · rw [u_n (by omega)]; exact e141
  · rw [u_n (by omega)]; exact e142
theorem T_host {σ τ : rr_T} (h : St σ (τ 0)) {x y : Int} (hx : rr_g x) (hy : rr_g y) : ∃ (r : Int) (σ2 τ2 : rr_T), M3_addHost x y σ = some (r, σ2) ∧ M5_doHost x y τ = some (r, τ2) ∧ T6 r σ σ2 τ τ2 := by
  have hhc := h.1
  apply two_wp
  unfold M3_addHost M5_doHost
  by_cases q : 0 ≤ x ∧ x < 100
  · refine wp_be (name_y q).1 (wp_c (by decide) (wp_f (by decide) ?_))
    by_cases q2 : 1 ≤ y ∧ y ≤ 4
    · refine wp_be (wei_y q2).1 (wp_c (by decide) (wp_f (by decide) ?_))
      rcases M_host h q.1 q.2 with ⟨i, i1, ei, ew, e1, e2⟩ | ⟨hno, ez, e1, e2⟩
      · refine wp_be e1 (wp_c (by omega) (wp_f (by omega) (wp_some ?_)))
        exact wp_be (name_y q).2 (wp_c (by decide) (wp_f (by decide) (wp_be (wei_y q2).2 (wp_c (by decide) (wp_f (by decide) (wp_be e2 (wp_c (by decide) (wp_f (by decide) (wp_some ⟨rfl, T6_no (r := -3) (by decide)⟩)))))))))
      · refine wp_be e1 (wp_c (by decide) (wp_t (by decide) (wp_c (by omega) ?_)))
        by_cases q3 : σ 3 0 < 6
        · refine wp_t q3 (wp_mono (St_addHost h q q2 hno q3) (fun p ⟨k2, k3, k4⟩ => ?_))
          refine wp_be (name_y q).2 (wp_c (by decide) (wp_f (by decide) (wp_be (wei_y q2).2 (wp_c (by decide) (wp_f (by decide) (wp_be e2 (wp_c (by decide) (wp_t rfl (wp_be (M5_hostMany_e h) (wp_c (by omega) (wp_f (by omega) (wp_c (by omega) (wp_some ⟨k2, ?_⟩)))))))))))))
          refine ⟨by omega, k3, fun k hk => s_n hk, fun e => absurd k2 e, fun _ => ?_⟩
          show St p.2 (rr_s τ 0 x y 0)
          rw [s_s]; exact k4
        · refine wp_f q3 (wp_some ?_)
          exact wp_be (name_y q).2 (wp_c (by decide) (wp_f (by decide) (wp_be (wei_y q2).2 (wp_c (by decide) (wp_f (by decide) (wp_be e2 (wp_c (by decide) (wp_t rfl (wp_be (M5_hostMany_e h) (wp_c (by omega) (wp_t (by omega) (wp_some ⟨rfl, T6_no (r := -4) (by decide)⟩))))))))))))
    · refine wp_be (wei_n hy q2).1 (wp_c (by decide) (wp_t rfl (wp_some ?_)))
      exact wp_be (name_y q).2 (wp_c (by decide) (wp_f (by decide) (wp_be (wei_n hy q2).2 (wp_c (by decide) (wp_t rfl (wp_some ⟨rfl, T6_no (r := -2) (by decide)⟩))))))
  · refine wp_be (name_n hx q).1 (wp_c (by decide) (wp_t rfl (wp_some ?_)))
    exact wp_be (name_n hx q).2 (wp_c (by decide) (wp_t rfl (wp_some ⟨rfl, T6_no (r := -2) (by decide)⟩)))
