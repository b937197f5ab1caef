/-! A stock of the class, and the model's row of it. -/
def St (σ : rr_T) (ν : Int → Int) : Prop := (0 ≤ σ 3 0 ∧ σ 3 0 ≤ 6) ∧ (0 ≤ σ 4 0 ∧ σ 4 0 ≤ 40) ∧ (0 ≤ σ 5 0 ∧ σ 5 0 ≤ 200) ∧ (0 ≤ σ 6 0 ∧ σ 6 0 ≤ 40) ∧ (∀ i : Int, 0 ≤ i → i < σ 3 0 → 0 ≤ σ 0 i ∧ σ 0 i < 100 ∧ 1 ≤ σ 1 i ∧ σ 1 i ≤ 4 ∧ ν (σ 0 i) = σ 1 i) ∧ (∀ i j : Int, 0 ≤ i → i < j → j < σ 3 0 → σ 0 i < σ 0 j) ∧ (∀ n : Int, 0 ≤ n → n < 100 → (∀ i : Int, 0 ≤ i → i < σ 3 0 → σ 0 i ≠ n) → ν n = 0) ∧ (∀ i : Int, 0 ≤ i → i < σ 4 0 → 0 ≤ σ 2 i ∧ σ 2 i ≤ 999 ∧ ν (100 + i) = σ 2 i) ∧ (∀ i j : Int, 0 ≤ i → i < j → j < σ 4 0 → σ 2 i < σ 2 j) ∧ ν 140 = σ 4 0 ∧ ν 141 = σ 5 0 ∧ ν 142 = σ 6 0
theorem St_host {σ : rr_T} {ν : Int → Int} (h : St σ ν) {n : Int} (h0 : 0 ≤ n) (h1 : n < 100) : (∃ i : Int, 0 ≤ i ∧ i < σ 3 0 ∧ σ 0 i = n ∧ ν n = σ 1 i ∧ 1 ≤ ν n ∧ ν n ≤ 4) ∨ ((∀ i : Int, 0 ≤ i → i < σ 3 0 → σ 0 i ≠ n) ∧ ν n = 0) := by
  obtain ⟨hhc, hkc, hex, hmv, hN, hS, hZ, hKy, hKs, e140, e141, e142⟩ := h
  by_cases e : ∃ i : Int, 0 ≤ i ∧ i < σ 3 0 ∧ σ 0 i = n
  · obtain ⟨i, a, b, c⟩ := e
    obtain ⟨-, -, w1, w4, ew⟩ := hN i a b
    rw [c] at ew
    exact Or.inl ⟨i, a, b, c, ew, by omega, by omega⟩
  · have : ∀ i : Int, 0 ≤ i → i < σ 3 0 → σ 0 i ≠ n := fun i a b c => e ⟨i, a, b, c⟩
    exact Or.inr ⟨this, hZ n h0 h1 this⟩
theorem St_fold {σ : rr_T} {ν : Int → Int} (h : St σ ν) {X : Type} {f : Int → X → X} {x : X} (hk : ∀ n : Int, 0 ≤ n → n < 100 → ν n = 0 → ∀ y, f n y = y) : ∀ m : Nat, (m : Int) ≤ σ 3 0 → ps_it f (if (m : Int) < σ 3 0 then (σ 0 m).toNat else 100) x = ps_ih (σ 0) f m x := by
  obtain ⟨hhc, hkc, hex, hmv, hN, hS, hZ, hKy, hKs, e140, e141, e142⟩ := h
  intro m hm
  have := ps_fold_key (f := f) (x := x) (N := σ 0) (hc := (σ 3 0).toNat) (fun i j a b => hS i j (by omega) (by omega) (by omega)) (fun i a => ⟨(hN i (by omega) (by omega)).1, (hN i (by omega) (by omega)).2.1⟩) (fun n a b y => hk n (by omega) (by omega) (hZ n (by omega) (by omega) (fun i p q e => b i.toNat (by omega) (by rw [Int.toNat_of_nonneg p]; exact e))) y) m (by omega)
  by_cases e : (m : Int) < σ 3 0
  · rw [if_pos (show m < (σ 3 0).toNat by omega)] at this
    rw [if_pos e]; exact this
  · rw [if_neg (show ¬ m < (σ 3 0).toNat by omega)] at this
    rw [if_neg e]; exact this
theorem St_fold_all {σ : rr_T} {ν : Int → Int} (h : St σ ν) {X : Type} {f : Int → X → X} {x : X} (hk : ∀ n : Int, 0 ≤ n → n < 100 → ν n = 0 → ∀ y, f n y = y) : ps_it f 100 x = ps_ih (σ 0) f (σ 3 0).toNat x := by
  have h1 := h.1
  have := St_fold h (x := x) hk (σ 3 0).toNat (by omega)
  rw [if_neg (by omega)] at this
  exact this
theorem ps_sm_bd {f : Int → Int} {c : Int} : ∀ {n : Nat}, (∀ k : Int, 0 ≤ k → k < n → f k ≤ c) → ps_sm f n ≤ n * c
  | 0, _ => by show (0 : Int) ≤ ((0 : Nat) : Int) * c; rw [Int.natCast_zero, Int.zero_mul]; exact Int.le_refl _
  | n + 1, h => by
    have h1 := ps_sm_bd (f := f) (c := c) (n := n) (fun k a b => h k a (by omega))
    have h2 := h n (by omega) (by omega)
    have e : ((n + 1 : Nat) : Int) * c = n * c + c := by rw [show ((n + 1 : Nat) : Int) = (n : Int) + 1 by omega, Int.add_mul, Int.one_mul]
    rw [ps_sm_s, e]; omega
theorem St_sum {σ : rr_T} {ν : Int → Int} (h : St σ ν) : ps_sm ν 100 = ps_sm (σ 1) (σ 3 0).toNat := by
  have k1 := St_fold_all h (f := fun k s => s + ν k) (x := 0) (fun n a b e y => by show y + ν n = y; rw [e]; omega)
  rw [ps_sm_it, ps_sm_ih] at k1
  rw [k1]
  exact ps_sm_cong (fun k a b => (h.2.2.2.2.1 k a (by omega)).2.2.2.2)
theorem St_Nu {σ : rr_T} {ν : Int → Int} (h : St σ ν) : Nu ν := by
  have hs := St_sum h
  have hh := fun n a b => St_host h (n := n) a b
  obtain ⟨hhc, hkc, hex, hmv, hN, hS, hZ, hKy, hKs, e140, e141, e142⟩ := h
  refine ⟨fun n a b => ?_, ?_, ?_, ?_, fun i a b => ?_⟩
  · rcases hh n a b with ⟨i, -, -, -, -, w1, w4⟩ | ⟨-, w⟩ <;> omega
  · rw [hs]
    have := ps_sm_bd (f := σ 1) (c := 4) (n := (σ 3 0).toNat) (fun k a b => (hN k a (by omega)).2.2.2.1)
    omega
  · omega
  · omega
  · obtain ⟨x1, x2, x3⟩ := hKy i a (by omega)
    omega
theorem St_zero {σ : rr_T} {ν : Int → Int} (h : St σ ν) : ps_sm ν 100 = 0 ↔ σ 3 0 = 0 := by
  have hs := St_sum h
  have hhc := h.1
  constructor
  · intro e
    rcases Int.lt_or_eq_of_le hhc.1 with q | q
    · have h1 := (h.2.2.2.2.1 0 (by omega) q).2.2.1
      have h2 := ps_sm_mono (f := σ 1) (m := 1) (n := (σ 3 0).toNat) (by omega) (fun k a b => by have := (h.2.2.2.2.1 k a (by omega)).2.2.1; omega)
      have h3 : ps_sm (σ 1) 1 = σ 1 0 := by show 0 + σ 1 ((0 : Nat) : Int) = σ 1 0; rw [Int.zero_add]; rfl
      omega
    · exact q.symm
  · intro e
    rw [hs, e]; rfl
theorem L3_allWeights_e (σ : rr_T) (hc : 0 ≤ σ 3 0 ∧ σ 3 0 ≤ 6) (K : Int → Option Int) : ∀ (d n m : Nat), m + d = (σ 3 0).toNat → d < n → L3_allWeights_4 σ K n (ps_sm (σ 1) m) m = K (ps_sm (σ 1) (σ 3 0).toNat) := by
  intro d
  induction d with
  | zero =>
    intro n m h1 h2
    cases n with
    | zero => omega
    | succ n =>
      rw [L3_allWeights_4_s, rr_c_pos (by omega), if_pos (by omega), show m = (σ 3 0).toNat by omega]
  | succ d ih =>
    intro n m h1 h2
    cases n with
    | zero => omega
    | succ n =>
      rw [L3_allWeights_4_s, rr_c_pos (by omega), if_neg (by omega), rr_c_pos (by omega)]
      exact ih n (m + 1) (by omega) (by omega)
theorem M3_allWeights_e {σ : rr_T} {ν : Int → Int} (h : St σ ν) : M3_allWeights σ = some (ps_sm ν 100) := by
  rw [St_sum h]
  exact L3_allWeights_e σ h.1 _ (σ 3 0).toNat 1000 0 (by omega) (by have := h.1; omega)
/-- names are apart -/
theorem St_inj {σ : rr_T} {ν : Int → Int} (h : St σ ν) {i j : Int} (i0 : 0 ≤ i) (i1 : i < σ 3 0) (j0 : 0 ≤ j) (j1 : j < σ 3 0) (e : σ 0 i = σ 0 j) : i = j := by
  have hS := h.2.2.2.2.2.1
  rcases Int.lt_trichotomy i j with q | q | q
  · have := hS i j i0 q j1; omega
  · exact q
  · have := hS j i j0 q i1; omega
theorem St_kinj {σ : rr_T} {ν : Int → Int} (h : St σ ν) {i j : Int} (i0 : 0 ≤ i) (i1 : i < σ 4 0) (j0 : 0 ≤ j) (j1 : j < σ 4 0) (e : σ 2 i = σ 2 j) : i = j := by
  have hS := h.2.2.2.2.2.2.2.2.1
  rcases Int.lt_trichotomy i j with q | q | q
  · have := hS i j i0 q j1; omega
  · exact q
  · have := hS j i j0 q i1; omega
/-- the place in the row of a host's marks -/
theorem sp_o_at {σ : rr_T} {ν : Int → Int} (h : St σ ν) (m : Nat) (hm : (m : Int) < σ 3 0) : sp_o ν (if ((m + 1 : Nat) : Int) < σ 3 0 then (σ 0 ((m + 1 : Nat) : Int)).toNat else 100) = sp_m (σ 0 m) (sp_o ν (σ 0 m).toNat) (2 * σ 1 m).toNat := by
  have hk : ∀ n : Int, 0 ≤ n → n < 100 → ν n = 0 → ∀ y, (fun (k : Int) (o : Int → Int) => sp_m k o (2 * ν k).toNat) n y = y := fun n _ _ e y => by
    show sp_m n y (2 * ν n).toNat = y
    rw [e]; rfl
  have k0 := St_fold h (x := fun _ => -1) hk m (by omega)
  have k1 := St_fold h (x := fun _ => -1) hk (m + 1) (by omega)
  rw [if_pos hm] at k0
  have e : ν (σ 0 m) = σ 1 m := (h.2.2.2.2.1 m (by omega) hm).2.2.2.2
  unfold sp_o
  rw [k1, ps_ih_s, ← k0, e]
