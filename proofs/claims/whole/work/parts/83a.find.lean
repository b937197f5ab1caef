/-! What is looked up: names, keys. -/
theorem M4_isName_e {x : Int} (h : rr_g x) : M4_isName x = some (if 0 ≤ x ∧ x < 100 then 1 else 0) := by
  unfold M4_isName
  rw [rr_c_pos h]
  by_cases a : x < 0
  · rw [if_pos a, if_neg (by omega)]
  · rw [if_neg a]
    by_cases b : 99 < x
    · rw [if_pos b, if_neg (by omega)]
    · rw [if_neg b, if_pos (by omega)]
theorem M4_isWeight_e {x : Int} (h : rr_g x) : M4_isWeight x = some (if 1 ≤ x ∧ x ≤ 4 then 1 else 0) := by
  unfold M4_isWeight
  rw [rr_c_pos h]
  by_cases a : x < 1
  · rw [if_pos a, if_neg (by omega)]
  · rw [if_neg a]
    by_cases b : 4 < x
    · rw [if_pos b, if_neg (by omega)]
    · rw [if_neg b, if_pos (by omega)]
theorem M4_isKey_e {x : Int} (h : rr_g x) : M4_isKey x = some (if 0 ≤ x ∧ x ≤ 999 then 1 else 0) := by
  unfold M4_isKey
  rw [rr_c_pos h]
  by_cases a : x < 0
  · rw [if_pos a, if_neg (by omega)]
  · rw [if_neg a]
    by_cases b : 999 < x
    · rw [if_pos b, if_neg (by omega)]
    · rw [if_neg b, if_pos (by omega)]
theorem M5_in_e {x a b : Int} (h : rr_g x) (ha : rr_g a) (hb : rr_g b) : M5_in x a b = some (if a ≤ x ∧ x ≤ b then 1 else 0) := by
  unfold M5_in
  rw [rr_c_pos ⟨h, ha⟩]
  by_cases q : x < a
  · rw [if_pos q, if_neg (by omega)]
  · rw [if_neg q, rr_c_pos hb]
    by_cases r : b < x
    · rw [if_pos r, if_neg (by omega)]
    · rw [if_neg r, if_pos (by omega)]
theorem M5_isName_e {x : Int} (h : rr_g x) : M5_isName x = some (if 0 ≤ x ∧ x < 100 then 1 else 0) := by
  unfold M5_isName
  rw [M5_in_e h (by decide) (by decide), Option.bind_some]
  by_cases q : 0 ≤ x ∧ x < 100
  · rw [if_pos (by omega), if_pos q]; rfl
  · rw [if_neg (by omega), if_neg q]; rfl
theorem M5_isKey_e {x : Int} (h : rr_g x) : M5_isKey x = some (if 0 ≤ x ∧ x ≤ 999 then 1 else 0) := by
  unfold M5_isKey
  rw [M5_in_e h (by decide) (by decide), Option.bind_some]
  by_cases q : 0 ≤ x ∧ x ≤ 999
  · rw [if_pos q]; rfl
  · rw [if_neg q]; rfl
theorem M5_isHost_e {τ : rr_T} (h : Nu (τ 0)) {x : Int} (h0 : 0 ≤ x) (h1 : x < 100) : M5_isHost x τ = some (if 0 < τ 0 x then 1 else 0) := by
  have := h.1 x h0 h1
  unfold M5_isHost
  rw [rr_c_pos (by omega), rr_c_pos (by omega)]
  by_cases q : τ 0 x ≤ 0
  · rw [if_pos q, if_neg (by omega)]
  · rw [if_neg q, if_pos (by omega)]
theorem w_findHost {σ : rr_T} {ν : Int → Int} (h : St σ ν) {x : Int} (hx : rr_g x) {K : Option Int} {P : Int → Prop} (hf : ∀ i : Int, 0 ≤ i → i < σ 3 0 → σ 0 i = x → P i) (hn : (∀ i : Int, 0 ≤ i → i < σ 3 0 → σ 0 i ≠ x) → rr_wp K P) : ∀ (d n m : Nat), m + d = (σ 3 0).toNat → d < n → (∀ i : Int, 0 ≤ i → i < m → σ 0 i ≠ x) → rr_wp (L3_findHost_2 σ x K n m) P := by
  have hhc := h.1
  intro d
  induction d with
  | zero =>
    intro n m h1 h2 hm
    cases n with
    | zero => omega
    | succ n =>
      rw [L3_findHost_2_s]
      exact wp_c (by omega) (wp_t (by omega) (hn (fun i a b => hm i a (by omega))))
  | succ d ih =>
    intro n m h1 h2 hm
    cases n with
    | zero => omega
    | succ n =>
      have := h.2.2.2.2.1 m (by omega) (by omega)
      rw [L3_findHost_2_s]
      refine wp_c (by omega) (wp_f (by omega) (wp_c (by omega) (wp_c ⟨by omega, hx⟩ (wp_if (fun e => wp_some (hf m (by omega) (by omega) e)) (fun e => ?_)))))
      exact ih n (m + 1) (by omega) (by omega) (fun i a b => by
        rcases Int.lt_or_le i m with q | q
        · exact hm i a q
        · rw [show i = m by omega]; exact e)
theorem M3_findHost_w {σ : rr_T} {ν : Int → Int} (h : St σ ν) {x : Int} (hx : rr_g x) : rr_wp (M3_findHost x σ) (fun r => (0 ≤ r ∧ r < σ 3 0 ∧ σ 0 r = x) ∨ (r = -1 ∧ ∀ i : Int, 0 ≤ i → i < σ 3 0 → σ 0 i ≠ x)) := by
  have hhc := h.1
  exact w_findHost h hx (fun i a b c => Or.inl ⟨a, b, c⟩) (fun q => wp_some (Or.inr ⟨rfl, q⟩)) (σ 3 0).toNat 1000 0 (by omega) (by omega) (fun i a b => by omega)
theorem w_findKey {σ : rr_T} {ν : Int → Int} (h : St σ ν) {x : Int} (hx : rr_g x) {K : Option Int} {P : Int → Prop} (hf : ∀ i : Int, 0 ≤ i → i < σ 4 0 → σ 2 i = x → P i) (hn : (∀ i : Int, 0 ≤ i → i < σ 4 0 → σ 2 i ≠ x) → rr_wp K P) : ∀ (d n m : Nat), m + d = (σ 4 0).toNat → d < n → (∀ i : Int, 0 ≤ i → i < m → σ 2 i ≠ x) → rr_wp (L3_findKey_2 σ x K n m) P := by
  have hkc := h.2.1
  intro d
  induction d with
  | zero =>
    intro n m h1 h2 hm
    cases n with
    | zero => omega
    | succ n =>
      rw [L3_findKey_2_s]
      exact wp_c (by omega) (wp_t (by omega) (hn (fun i a b => hm i a (by omega))))
  | succ d ih =>
    intro n m h1 h2 hm
    cases n with
    | zero => omega
    | succ n =>
      have := h.2.2.2.2.2.2.2.1 m (by omega) (by omega)
      rw [L3_findKey_2_s]
      refine wp_c (by omega) (wp_f (by omega) (wp_c (by omega) (wp_c ⟨by omega, hx⟩ (wp_if (fun e => wp_some (hf m (by omega) (by omega) e)) (fun e => ?_)))))
      exact ih n (m + 1) (by omega) (by omega) (fun i a b => by
        rcases Int.lt_or_le i m with q | q
        · exact hm i a q
        · rw [show i = m by omega]; exact e)
theorem M3_findKey_w {σ : rr_T} {ν : Int → Int} (h : St σ ν) {x : Int} (hx : rr_g x) : rr_wp (M3_findKey x σ) (fun r => (0 ≤ r ∧ r < σ 4 0 ∧ σ 2 r = x) ∨ (r = -1 ∧ ∀ i : Int, 0 ≤ i → i < σ 4 0 → σ 2 i ≠ x)) := by
  have hkc := h.2.1
  exact w_findKey h hx (fun i a b c => Or.inl ⟨a, b, c⟩) (fun q => wp_some (Or.inr ⟨rfl, q⟩)) (σ 4 0).toNat 1000 0 (by omega) (by omega) (fun i a b => by omega)
theorem w_rowOf {τ : rr_T} (h : Nu (τ 0)) {x : Int} (hx : rr_g x) {K : Int → Option Int} {P : Int → Prop} (hK : ∀ r : Int, (0 ≤ r ∧ r < τ 0 140 ∧ τ 0 (100 + r) = x) ∨ (r = -1 ∧ ∀ i : Int, 0 ≤ i → i < τ 0 140 → τ 0 (100 + i) ≠ x) → rr_wp (K r) P) : ∀ (d n m : Nat) (r : Int), m + d = (τ 0 140).toNat → d < n → (0 ≤ r ∧ r < m ∧ τ 0 (100 + r) = x) ∨ (r = -1 ∧ ∀ i : Int, 0 ≤ i → i < m → τ 0 (100 + i) ≠ x) → rr_wp (L5_rowOf_4 τ x K n r m) P := by
  have hkc := h.2.2.1
  intro d
  induction d with
  | zero =>
    intro n m r h1 h2 hr
    cases n with
    | zero => omega
    | succ n =>
      rw [L5_rowOf_4_s]
      refine wp_c (by omega) (wp_t (by omega) (hK r ?_))
      rcases hr with q | q
      · exact Or.inl ⟨q.1, by omega, q.2.2⟩
      · exact Or.inr ⟨q.1, fun i a b => q.2 i a (by omega)⟩
  | succ d ih =>
    intro n m r h1 h2 hr
    cases n with
    | zero => omega
    | succ n =>
      have := h.2.2.2.2 m (by omega) (by omega)
      rw [L5_rowOf_4_s]
      refine wp_c (by omega) (wp_f (by omega) (wp_c (by omega) (wp_c ⟨by omega, hx⟩ (wp_if (fun e => ?_) (fun e => ?_)))))
      · exact ih n (m + 1) m (by omega) (by omega) (Or.inl ⟨by omega, by omega, e⟩)
      · refine ih n (m + 1) r (by omega) (by omega) ?_
        rcases hr with q | q
        · exact Or.inl ⟨q.1, by omega, q.2.2⟩
        · refine Or.inr ⟨q.1, fun i a b => ?_⟩
          rcases Int.lt_or_le i m with z | z
          · exact q.2 i a z
          · rw [show i = m by omega]; exact e
theorem M5_rowOf_w {τ : rr_T} (h : Nu (τ 0)) {x : Int} (hx : rr_g x) : rr_wp (M5_rowOf x τ) (fun r => (0 ≤ r ∧ r < τ 0 140 ∧ τ 0 (100 + r) = x) ∨ (r = -1 ∧ ∀ i : Int, 0 ≤ i → i < τ 0 140 → τ 0 (100 + i) ≠ x)) := by
  have hkc := h.2.2.1
  exact w_rowOf h hx (fun r q => wp_some q) (τ 0 140).toNat 1000 0 (-1) (by omega) (by omega) (Or.inr ⟨rfl, fun i a b => by omega⟩)
/-- the same key, found by both -/
theorem M_key {σ τ : rr_T} (h : St σ (τ 0)) {x : Int} (hx : rr_g x) : (∃ i : Nat, (i : Int) < σ 4 0 ∧ σ 2 i = x ∧ M3_findKey x σ = some (i : Int) ∧ M5_rowOf x τ = some (i : Int)) ∨ ((∀ i : Int, 0 ≤ i → i < σ 4 0 → σ 2 i ≠ x) ∧ M3_findKey x σ = some (-1) ∧ M5_rowOf x τ = some (-1)) := by
  obtain ⟨r, e1, q1⟩ := M3_findKey_w h hx
  obtain ⟨r2, e2, q2⟩ := M5_rowOf_w (St_Nu h) hx
  have hinj := fun {a b : Int} => St_kinj h (i := a) (j := b)
  obtain ⟨hhc, hkc, hex, hmv, hN, hS, hZ, hKy, hKs, e140, e141, e142⟩ := h
  rcases q1 with a | a
  · rcases q2 with b | b
    · have hb := hKy r2 b.1 (by omega)
      have : r = r2 := hinj a.1 a.2.1 b.1 (by omega) (by omega)
      subst this
      obtain ⟨i, rfl⟩ := Int.eq_ofNat_of_zero_le a.1
      exact Or.inl ⟨i, a.2.1, a.2.2, e1, e2⟩
    · have hb := hKy r a.1 a.2.1
      exact absurd (by omega) (b.2 r a.1 (by omega))
  · rcases q2 with b | b
    · have hb := hKy r2 b.1 (by omega)
      exact absurd (by omega) (a.2 r2 b.1 (by omega))
    · rw [a.1] at e1; rw [b.1] at e2
      exact Or.inr ⟨a.2, e1, e2⟩
/-- the same host, known to both -/
theorem M_host {σ τ : rr_T} (h : St σ (τ 0)) {x : Int} (h0 : 0 ≤ x) (h1 : x < 100) : (∃ i : Nat, (i : Int) < σ 3 0 ∧ σ 0 i = x ∧ τ 0 x = σ 1 i ∧ M3_findHost x σ = some (i : Int) ∧ M5_isHost x τ = some 1) ∨ ((∀ i : Int, 0 ≤ i → i < σ 3 0 → σ 0 i ≠ x) ∧ τ 0 x = 0 ∧ M3_findHost x σ = some (-1) ∧ M5_isHost x τ = some 0) := by
  obtain ⟨r, e1, q1⟩ := M3_findHost_w h (x := x) (by omega)
  have e2 := M5_isHost_e (St_Nu h) h0 h1
  have hN := h.2.2.2.2.1
  have hZ := h.2.2.2.2.2.2.1
  rcases q1 with a | a
  · obtain ⟨n0, n1, w1, w4, ew⟩ := hN r a.1 a.2.1
    rw [a.2.2] at ew
    rw [if_pos (by omega)] at e2
    obtain ⟨i, rfl⟩ := Int.eq_ofNat_of_zero_le a.1
    exact Or.inl ⟨i, a.2.1, a.2.2, ew, e1, e2⟩
  · have z := hZ x h0 h1 a.2
    rw [if_neg (by omega)] at e2
    rw [a.1] at e1
    exact Or.inr ⟨a.2, z, e1, e2⟩
/-- how many hosts -/
theorem L5_hostMany_e {τ : rr_T} (h : Nu (τ 0)) (K : Int → Option Int) : ∀ (d n m : Nat), m + d = 100 → d < n → L5_hostMany_4 τ K n (ps_it (fun k s => s + (if 0 < τ 0 k then 1 else 0)) m 0) m = K (ps_it (fun k s => s + (if 0 < τ 0 k then 1 else 0)) 100 0) := by
  intro d
  induction d with
  | zero =>
    intro n m h1 h2
    cases n with
    | zero => omega
    | succ n =>
      have : m = 100 := by omega
      subst this
      rw [L5_hostMany_4_s, rr_c_pos (by omega), if_pos (by omega)]
  | succ d ih =>
    intro n m h1 h2
    cases n with
    | zero => omega
    | succ n =>
      have ihh := ih n (m + 1) (by omega) (by omega)
      rw [← ihh, ps_it_s, L5_hostMany_4_s, rr_c_pos (by omega), if_neg (by omega), M5_isHost_e h (by omega) (by omega), Option.bind_some]
      by_cases q : 0 < τ 0 m
      · rw [if_pos q, rr_c_pos (by decide), if_neg (by decide)]; rfl
      · rw [if_neg q, rr_c_pos (by decide), if_pos rfl]; rfl
theorem M5_hostMany_e {σ τ : rr_T} (h : St σ (τ 0)) : M5_hostMany τ = some (σ 3 0) := by
  have e := L5_hostMany_e (St_Nu h) (fun y => some y) 100 1000 0 (by omega) (by omega)
  have k := St_fold_all h (f := fun k s => s + (if 0 < τ 0 k then 1 else 0)) (x := (0 : Int)) (fun n a b e y => by show y + (if 0 < τ 0 n then 1 else 0) = y; rw [if_neg (by omega)]; omega)
  have hhc := h.1
  have c : ∀ m : Nat, (m : Int) ≤ σ 3 0 → ps_ih (σ 0) (fun k s => s + (if 0 < τ 0 k then 1 else 0)) m (0 : Int) = m := by
    intro m
    induction m with
    | zero => intro _; rfl
    | succ m ih =>
      intro hm
      have := h.2.2.2.2.1 m (by omega) (by omega)
      rw [ps_ih_s, ih (by omega), if_pos (by omega)]
      omega
  rw [k, c _ (by omega)] at e
  rw [Int.toNat_of_nonneg hhc.1] at e
  exact e
