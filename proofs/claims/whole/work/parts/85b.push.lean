/-- the model keeps a state: the row is laid, the moved ones are counted, the held row is put behind the others -/
theorem M5_push_w {σ τ : rr_T} {μ : Int → Int} (hd : St σ (τ 0)) (hμ : Nu μ) (e1 : ∀ i : Int, 0 ≤ i → i < 143 → τ 1 i = μ i) (e9 : ∀ i : Nat, (i : Int) < μ 140 → τ 9 i = sp_h μ i) (hs : 0 ≤ τ 3 0 ∧ τ 3 0 ≤ 5) : rr_wp (M5_push τ) (fun τ2 => (∀ k, k = 4 ∨ k = 9 ∨ k = 1 ∨ (10 ≤ k) → τ2 k = τ k) ∧ τ2 0 = rr_u (τ 0) 142 (sp_M (τ 0) μ) ∧ LM τ2 (τ 0) ∧ (τ 3 0 < 5 → τ2 3 0 = τ 3 0 + 1 ∧ (∀ i : Int, i < 143 * τ 3 0 → τ2 2 i = τ 2 i) ∧ (∀ i : Int, 0 ≤ i → i < 143 → τ2 2 (143 * τ 3 0 + i) = μ i)) ∧ (τ 3 0 = 5 → τ2 3 0 = 5 ∧ (∀ i : Int, 0 ≤ i → i < 572 → τ2 2 i = τ 2 (i + 143)) ∧ (∀ i : Int, 0 ≤ i → i < 143 → τ2 2 (572 + i) = μ i))) := by
  have hNu := St_Nu hd
  unfold M5_push
  refine wp_b (wp_mono (M5_lay_w hNu) (fun τ1 ⟨hk1, hL1⟩ => ?_))
  have k1 : ∀ k, k < 5 ∨ 8 < k → τ1 k = τ k := fun k hk => hk1 k (by omega) (by omega) (by omega) (by omega)
  have em : M5_moved τ1 = some (sp_M (τ 0) μ) := M5_moved_e hNu hμ (fun i a b => by rw [k1 0 (by omega)]) (fun i a b => by rw [k1 1 (by omega)]; exact e1 i a (by omega)) (fun i hi => (hL1.2.1 i hi).1) (fun i hi => by rw [k1 9 (by omega)]; exact e9 i hi)
  refine wp_be em ?_
  have e3 : τ1 3 = τ 3 := k1 3 (by omega)
  rw [e3]
  refine wp_c (by omega) (wp_if (fun q => ?_) (fun q => ?_))
  · refine w_push_26 (τ0 := rr_s τ1 0 142 (sp_M (τ 0) μ)) (fun τ2 hk2 hp2 => ?_) 572 1000 0 _ (by omega) (by omega) (fun _ _ => rfl) (fun i a b => by omega) (fun _ _ => rfl)
    have e23 : τ2 3 0 = 5 := by rw [hk2 3 (by decide), s_n (by decide), e3, q]
    refine w_push_67 (τ0 := rr_t τ2 3 (τ2 3 0 - 1)) (s := 4) (by omega) (by rw [t_s, e23]; rfl) (fun τ3 hk3 hp3 hq3 => ?_) 143 1000 0 _ (by omega) (by omega) (fun _ _ => rfl) (fun i a b => by omega) (fun _ _ => rfl)
    have old : ∀ k, k ≠ 2 → k ≠ 3 → k ≠ 0 → τ3 k = τ1 k := fun k a b c => by rw [hk3 k a, t_n b, hk2 k a, s_n c]
    have e0 : τ3 0 = rr_u (τ 0) 142 (sp_M (τ 0) μ) := by rw [hk3 0 (by decide), t_n (by decide), hk2 0 (by decide), s_s, k1 0 (by omega)]
    refine wp_some ⟨fun k hk => ?_, ?_, ?_, fun z => by omega, fun _ => ⟨?_, fun i a b => ?_, fun i a b => ?_⟩⟩
    · rw [t_n (by omega), old k (by omega) (by omega) (by omega), k1 k (by omega)]
    · rw [t_n (by decide)]; exact e0
    · refine LM_cong (τ := τ1) (fun _ _ _ => rfl) hNu.2.2.1 ?_ ?_ ?_ ?_ hL1
      · intro p _ _; rw [t_n (by decide), old 5 (by decide) (by decide) (by decide)]
      · intro p _ _; rw [t_n (by decide), old 6 (by decide) (by decide) (by decide)]
      · intro p _ _; rw [t_n (by decide), old 7 (by decide) (by decide) (by decide)]
      · intro p _ _; rw [t_n (by decide), old 8 (by decide) (by decide) (by decide)]
    · rw [t_s, hk3 3 (by decide), t_s, e23]; rfl
    · rw [t_n (by decide), hq3 i (by omega), t_n (by decide), hp2 i a b, s_n (by decide), k1 2 (by omega)]
    · rw [t_n (by decide), show (572 : Int) + i = 143 * ((4 : Nat) : Int) + i by omega, hp3 i a b, t_n (by decide), hk2 1 (by decide), s_n (by decide), k1 1 (by omega), e1 i a b]
  · obtain ⟨s, hsn⟩ := Int.eq_ofNat_of_zero_le hs.1
    refine w_push_67 (τ0 := rr_s τ1 0 142 (sp_M (τ 0) μ)) (s := s) (by omega) (by rw [s_n (by decide), e3, hsn]) (fun τ3 hk3 hp3 hq3 => ?_) 143 1000 0 _ (by omega) (by omega) (fun _ _ => rfl) (fun i a b => by omega) (fun _ _ => rfl)
    have old : ∀ k, k ≠ 2 → k ≠ 0 → τ3 k = τ1 k := fun k a c => by rw [hk3 k a, s_n c]
    refine wp_some ⟨fun k hk => ?_, ?_, ?_, fun _ => ⟨?_, fun i a => ?_, fun i a b => ?_⟩, fun z => by omega⟩
    · rw [t_n (by omega), old k (by omega) (by omega), k1 k (by omega)]
    · rw [t_n (by decide), hk3 0 (by decide), s_s, k1 0 (by omega)]
    · refine LM_cong (τ := τ1) (fun _ _ _ => rfl) hNu.2.2.1 ?_ ?_ ?_ ?_ hL1
      · intro p _ _; rw [t_n (by decide), old 5 (by decide) (by decide)]
      · intro p _ _; rw [t_n (by decide), old 6 (by decide) (by decide)]
      · intro p _ _; rw [t_n (by decide), old 7 (by decide) (by decide)]
      · intro p _ _; rw [t_n (by decide), old 8 (by decide) (by decide)]
    · rw [t_s, old 3 (by decide) (by decide), e3]
    · rw [t_n (by decide), hq3 i (by omega), s_n (by decide), k1 2 (by omega)]
    · rw [t_n (by decide), hsn, hp3 i a b, s_n (by decide), k1 1 (by omega), e1 i a b]
/-- the draft is kept, on both sides -/
theorem J_push {Ω : Nat → rr_T} {τ : rr_T} {μ : Int → Int} (hb : St (Ω 0) μ) (hbl : LC (Ω 0) μ) (hd : St (Ω 1) (τ 0)) (e1 : ∀ i : Int, 0 ≤ i → i < 143 → τ 1 i = μ i) (e9 : ∀ i : Nat, (i : Int) < μ 140 → τ 9 i = sp_h μ i) (hH : Hi Ω τ) : ∃ (Ω2 : Nat → rr_T) (τ2 : rr_T), M4_keepDraft Ω = some Ω2 ∧ M5_push τ = some τ2 ∧ St (Ω2 0) (τ2 0) ∧ LC (Ω2 0) (τ2 0) ∧ LM τ2 (τ2 0) ∧ Hi Ω2 τ2 ∧ Ω2 2 = Ω 2 ∧ Ω2 3 = Ω 3 ∧ (∀ k, k = 4 ∨ (10 ≤ k) → τ2 k = τ k) ∧ Ω2 0 6 0 = τ2 0 142 ∧ (∀ i : Int, 0 ≤ i → i < 142 → τ2 0 i = τ 0 i) ∧ (0 ≤ τ2 0 142 ∧ τ2 0 142 ≤ 40) := by
  obtain ⟨hs, e3, hst⟩ := hH
  have hmr := sp_M_r hd hb
  have hNu := St_Nu hd
  obtain ⟨τ2, p1, p2, p3, p4, p5, p6⟩ := M5_push_w hd (St_Nu hb) e1 e9 (by omega)
  obtain ⟨v1, l1, l2, l3⟩ := M1_lay_w hd
  have hdv : St v1 (τ 0) := St_cp hd (fun i _ _ => by rw [l2 0 (by decide)]) (fun i _ _ => by rw [l2 1 (by decide)]) (fun i _ _ => by rw [l2 2 (by decide)]) (by rw [l2 3 (by decide)]) (by rw [l2 4 (by decide)]) (by rw [l2 5 (by decide)]) (by rw [l2 6 (by decide)])
  have em := M1_movedSince_e hdv l3 hb hbl
  obtain ⟨v5, m1, m2, m3⟩ := M0_keep_w (Ω := rr_z Ω 1 (rr_t v1 6 (sp_M (τ 0) μ))) (τs := Ω 0) hs hb
  have z9 : rr_z Ω 1 (rr_t v1 6 (sp_M (τ 0) μ)) 9 = Ω 9 := z_n (by decide)
  have z4 : ∀ j : Nat, rr_z Ω 1 (rr_t v1 6 (sp_M (τ 0) μ)) (4 + j) = Ω (4 + j) := fun j => z_n (by omega)
  have z5 : ∀ j : Nat, rr_z Ω 1 (rr_t v1 6 (sp_M (τ 0) μ)) (5 + j) = Ω (5 + j) := fun j => z_n (by omega)
  rw [z9] at m2 m3
  have ek : M4_keepDraft Ω = some (rr_z (rr_z (rr_z (rr_z (rr_z (rr_z (rr_z (rr_z Ω 0 (rr_t v1 6 (sp_M (τ 0) μ))) 1 (Ω 0)) 4 (v5 4)) 5 (v5 5)) 6 (v5 6)) 7 (v5 7)) 8 (v5 8)) 9 (v5 9)) := by
    unfold M4_keepDraft
    rw [l1, Option.bind_some, em, Option.bind_some, m1, Option.bind_some]
  have ag : Ag (τ 0) (τ2 0) := fun i a b => by rw [p3, u_n (by omega)]
  have h142 : τ2 0 142 = sp_M (τ 0) μ := by rw [p3, u_s]
  refine ⟨_, τ2, ek, p1, ?_, ?_, ?_, ?_, rfl, rfl, fun k hk => p2 k (by omega), ?_, fun i a b => (ag i a b).symm, ?_⟩
  · show St (rr_t v1 6 (sp_M (τ 0) μ)) (τ2 0)
    obtain ⟨hhc, hkc, hex, hmv, hN, hS, hZ, hKy, hKs, e140, e141, e142⟩ := hdv
    unfold St
    rw [t_s, t_n (by decide : (0 : Nat) ≠ 6), t_n (by decide : (1 : Nat) ≠ 6), t_n (by decide : (2 : Nat) ≠ 6), t_n (by decide : (3 : Nat) ≠ 6), t_n (by decide : (4 : Nat) ≠ 6), t_n (by decide : (5 : Nat) ≠ 6)]
    refine ⟨hhc, hkc, hex, hmr, fun i a b => ?_, hS, fun n a b c => ?_, fun i a b => ?_, hKs, ?_, ?_, h142⟩
    · have := hN i a b
      rw [← ag _ (by omega) (by omega)]; exact this
    · rw [← ag _ (by omega) (by omega)]; exact hZ n a b c
    · rw [← ag _ (by omega) (by omega)]; exact hKy i a b
    · rw [← ag _ (by omega) (by omega)]; exact e140
    · rw [← ag _ (by omega) (by omega)]; exact e141
  · exact LC_cong hdv ag (fun k hk => t_n hk) l3
  · exact LM_cong ag hNu.2.2.1 (fun _ _ _ => rfl) (fun _ _ _ => rfl) (fun _ _ _ => rfl) (fun _ _ _ => rfl) p4
  · have g : ∀ j : Nat, j < 5 → (rr_z (rr_z (rr_z (rr_z (rr_z (rr_z (rr_z (rr_z Ω 0 (rr_t v1 6 (sp_M (τ 0) μ))) 1 (Ω 0)) 4 (v5 4)) 5 (v5 5)) 6 (v5 6)) 7 (v5 7)) 8 (v5 8)) 9 (v5 9)) (4 + j) = v5 (4 + j) := by
      intro j hj
      match j, hj with
      | 0, _ => rfl
      | 1, _ => rfl
      | 2, _ => rfl
      | 3, _ => rfl
      | 4, _ => rfl
      | j + 5, hj => omega
    refine ⟨?_, ?_, fun j hj => ?_⟩
    · show 0 ≤ v5 9 0 0 ∧ v5 9 0 0 ≤ 5
      rcases Int.lt_or_le (Ω 9 0 0) 5 with q | q
      · have := (m2 q).1; omega
      · have := (m3 (by omega)).1; omega
    · show τ2 3 0 = v5 9 0 0
      rcases Int.lt_or_le (Ω 9 0 0) 5 with q | q
      · have := (m2 q).1; have := (p5 (by omega)).1; omega
      · have := (m3 (by omega)).1; have := (p6 (by omega)).1; omega
    · have hj2 : (j : Int) < v5 9 0 0 := hj
      rcases Int.lt_or_le (Ω 9 0 0) 5 with q | q
      · obtain ⟨a1, a2, a3⟩ := m2 q
        obtain ⟨b1, b2, b3⟩ := p5 (by omega)
        rw [g j (by omega)]
        rcases Int.lt_or_le (j : Int) (Ω 9 0 0) with r | r
        · rw [a2 j r, z4]
          refine St_cong (fun i i0 i1 => ?_) (hst j r)
          show τ 2 (143 * j + i) = τ2 2 (143 * j + i)
          rw [b2 _ (by omega)]
        · have ej : j = (Ω 9 0 0).toNat := by omega
          rw [ej]
          refine St_cong (fun i i0 i1 => ?_) a3
          show μ i = τ2 2 (143 * ((Ω 9 0 0).toNat : Int) + i)
          rw [show 143 * ((Ω 9 0 0).toNat : Int) + i = 143 * τ 3 0 + i by omega, b3 i i0 i1]
      · obtain ⟨a1, a2, a3⟩ := m3 (by omega)
        obtain ⟨b1, b2, b3⟩ := p6 (by omega)
        rw [g j (by omega)]
        rcases Nat.lt_or_ge j 4 with r | r
        · rw [a2 j r, z5]
          have h1 := hst (j + 1) (by omega)
          rw [show 4 + (j + 1) = 5 + j by omega] at h1
          refine St_cong (fun i i0 i1 => ?_) h1
          show τ 2 (143 * ((j + 1 : Nat) : Int) + i) = τ2 2 (143 * j + i)
          rw [b2 _ (by omega) (by omega)]
          exact congrArg (τ 2) (by omega)
        · have ej : j = 4 := by omega
          subst ej
          refine St_cong (fun i i0 i1 => ?_) a3
          show μ i = τ2 2 (143 * ((4 : Nat) : Int) + i)
          rw [show 143 * ((4 : Nat) : Int) + i = 572 + i by omega, b3 i i0 i1]
  · show sp_M (τ 0) μ = τ2 0 142
    rw [h142]
  · rw [h142]; exact hmr
