theorem sp_l_z {ν : Int → Int} (hw : ps_sm ν 100 = 0) : ∀ i : Nat, sp_l ν i = fun _ => 0
  | 0 => rfl
  | i + 1 => by rw [sp_l_s, if_pos hw, sp_l_z hw i]
theorem w_lay_40n {σ0 : rr_T} (h : Nu (σ0 0)) (hw : ps_sm (σ0 0) 100 = 0) {K : rr_T → Option rr_T} {P : rr_T → Prop} (hK : ∀ σ : rr_T, (∀ k, k ≠ 5 → k ≠ 6 → k ≠ 7 → k ≠ 8 → σ k = σ0 k) → LM σ (σ0 0) → rr_wp (K σ) P) : ∀ (d n i : Nat) (σ : rr_T), i + d = (σ0 0 140).toNat → d < n → (∀ k, k ≠ 5 → k ≠ 6 → k ≠ 7 → k ≠ 8 → σ k = σ0 k) → (∀ p : Int, 0 ≤ p → p < 101 → σ 5 p = sp_o (σ0 0) 100 p) → (∀ j : Nat, j < i → σ 6 j = -1) → (∀ n : Int, 0 ≤ n → n < 100 → σ 8 n = 0) → rr_wp (L5_lay_40 1 K n i σ) P := by
  have h40 := h.2.2.1
  intro d
  induction d with
  | zero =>
    intro n i σ h1 h2 hk ho hh hl
    cases n with
    | zero => omega
    | succ n =>
      have hi : (σ0 0 140).toNat = i := by omega
      rw [L5_lay_40_s, hk 0 (by decide) (by decide) (by decide) (by decide)]
      refine wp_c (by omega) (wp_t (by omega) (hK σ hk ⟨ho, fun j hj => ?_, ?_⟩))
      · refine ⟨?_, fun q => absurd hw q⟩
        unfold sp_h
        rw [if_pos hw]
        exact hh j (by omega)
      · rw [sp_l_z hw]; exact hl
  | succ d ih =>
    intro n i σ h1 h2 hk ho hh hl
    cases n with
    | zero => omega
    | succ n =>
      have hk0 := hk 0 (by decide) (by decide) (by decide) (by decide)
      have hkey := h.2.2.2.2 i (by omega) (by omega)
      rw [L5_lay_40_s, hk0]
      refine wp_c (by omega) (wp_f (by omega) (wp_c (by omega) (wp_be (M5_placeOf_e hkey) ?_)))
      rw [L5_lay_68_n 999]
      refine wp_c (by decide) (wp_f (by decide) (wp_c (by omega) (wp_f (by decide) ?_)))
      refine ih n (i + 1) _ (by omega) (by omega) (fun k k5 k6 k7 k8 => by rw [s_n k7, s_n k6, hk k k5 k6 k7 k8]) ?_ ?_ ?_
      · intro p a b
        rw [s_n (by decide), s_n (by decide), ho p a b]
      · intro j hj
        rw [s_n (by decide), s_s, u_e]
        split
        · rfl
        · exact hh j (by omega)
      · intro m a b
        rw [s_n (by decide), s_n (by decide), hl m a b]
theorem sp_o_cong {ν μ : Int → Int} (h : ∀ n : Int, 0 ≤ n → n < 100 → ν n = μ n) (n : Nat) (hn : n ≤ 100) : sp_o ν n = sp_o μ n :=
  ps_it_cong (fun k hk y => by show sp_m k y (2 * ν k).toNat = sp_m k y (2 * μ k).toNat; rw [h k (by omega) (by omega)])
/-- the model's laying -/
theorem M5_lay_w {σ0 : rr_T} (h : Nu (σ0 0)) : rr_wp (M5_lay σ0) (fun σ => (∀ k, k ≠ 5 → k ≠ 6 → k ≠ 7 → k ≠ 8 → σ k = σ0 k) ∧ LM σ (σ0 0)) := by
  unfold M5_lay
  refine wp_b (wp_mono (M5_layMarks_w h) (fun σ1 ⟨hk1, hp1⟩ => ?_))
  refine w_lay_6 (σ0 := σ1) (fun σ2 hk2 hp2 => ?_) 100 1000 0 σ1 (by omega) (by omega) (fun _ _ => rfl) (fun p a b => by omega)
  have e0 : σ2 0 = σ0 0 := by rw [hk2 0 (by decide), hk1 0 (by decide)]
  have e5 : ∀ p : Int, 0 ≤ p → p < 101 → σ2 5 p = sp_o (σ0 0) 100 p := fun p a b => by rw [hk2 5 (by decide), hp1 p a b]
  have hk : ∀ k, k ≠ 5 → k ≠ 6 → k ≠ 7 → k ≠ 8 → σ2 k = σ0 k := fun k k5 _ _ k8 => by rw [hk2 k k8, hk1 k k5]
  have hb := sp_by_r h
  unfold sp_by at hb
  refine wp_be (M5_weights_e σ2) ?_
  rw [e0]
  refine wp_c (by omega) (wp_if (fun hw => ?_) (fun hw => ?_))
  · exact w_lay_40n h hw (fun σ3 a b => wp_some ⟨a, b⟩) (σ0 0 140).toNat 1000 0 σ2 (by omega) (by have := h.2.2.1; omega) hk e5 (fun j hj => by omega) hp2
  · exact w_lay_40 h hw (fun σ3 a b => wp_some ⟨a, b⟩) (σ0 0 140).toNat 1000 0 σ2 (by omega) (by have := h.2.2.1; omega) hk e5 (fun j hj => by omega) hp2
