/-! Orders are read alike. -/
def roK (ℓ : Int) : rr_T → Option rr_T := fun σ_26 => rr_c (rr_g (σ_26 14 0)) (if (σ_26 14 0) = (-1) then rr_c (0 ≤ (σ_26 15 0) ∧ (σ_26 15 0) < 40) ((M5_here (rr_t (rr_s σ_26 16 (σ_26 15 0) ℓ) 15 ((σ_26 15 0) + 1))).bind (fun v19 => rr_c (rr_g v19.1) (if v19.1 = 59 then (M5_must 1 v19.2).bind (fun v25 => some v25) else (M5_must 0 v19.2).bind (fun v23 => some v23)))) else some σ_26)
theorem tail_f {ℓ : Int} {τ : rr_T} {F : Nat} (hF : F ≤ 120) (h : τ 14 0 = F) : roK ℓ τ = some τ := by
  unfold roK; rw [rr_c_pos (by omega), if_neg (by omega)]
theorem tail_e {t : Int → Int} {L : Int} (hT : Tx t L) {σ τ : rr_T} {x c : Nat} {ℓ : Int} (hx : (x : Int) ≤ L) (hc : Tc t L σ) (hy : Ty t L τ) (e13 : τ 13 0 = x) (e14 : τ 14 0 = -1) (h15 : τ 15 0 = c) (hc40 : c < 40) (h6 : σ 6 0 = 3) : ∃ τ2 : rr_T, roK ℓ τ = some τ2 ∧ (∀ k, k ≠ 13 → k ≠ 14 → k ≠ 15 → k ≠ 16 → τ2 k = τ k) ∧ τ2 16 = rr_u (τ 16) c ℓ ∧ τ2 15 0 = c + 1 ∧ ((∃ F : Nat, F ≤ 120 ∧ τ2 14 0 = F ∧ ∀ Q, CR t L x σ F Q) ∨ (τ2 14 0 = -1 ∧ ∃ x2 : Nat, x < x2 ∧ (x2 : Int) ≤ L ∧ τ2 13 0 = x2 ∧ ∀ r Q, CR t L x2 (rr_t (rr_t σ 5 (σ 5 0 + 1)) 6 0) r Q → CR t L x σ r Q)) := by
  have hL := hT.1
  have hya : Ty t L (rr_t (rr_s τ 16 c ℓ) 15 ((c : Int) + 1)) := Ty_c hy (by rw [t_n (by decide), s_n (by decide)]) (by rw [t_n (by decide), s_n (by decide)])
  obtain ⟨x2, v0, τ1, a1, a2, a3, a4, a5, a6, a7⟩ := here_e hT hya hx (by rw [t_n (by decide), s_n (by decide)]; exact e13)
  have f14 : τ1 14 0 = -1 := by rw [a4 14 (by decide), t_n (by decide), s_n (by decide)]; exact e14
  have f15 : τ1 15 0 = (c : Int) + 1 := by rw [a4 15 (by decide), t_s]
  have f16 : τ1 16 = rr_u (τ 16) c ℓ := by rw [a4 16 (by decide), t_n (by decide), s_s]
  have fk : ∀ k, k ≠ 13 → k ≠ 15 → k ≠ 16 → τ1 k = τ k := fun k k1 k2 k3 => by rw [a4 k k1, t_n k2, s_n k3]
  have skip : ∀ r Q, CR t L x2 σ r Q → CR t L x σ r Q := fun r Q hh => CR_skip hT hc (Or.inr (Or.inr h6)) a3 hh (x2 - x) x (by omega) a6
  have bad : rr_g v0 → v0 ≠ 59 → roK ℓ τ = some (rr_t τ1 14 (τ1 13 0)) := fun hg hv => by
    unfold roK
    rw [rr_c_pos (by omega), if_pos e14, rr_c_pos (by omega), h15, a1, Option.bind_some, rr_c_pos hg, if_neg hv, must0 f14, Option.bind_some]
  have fin : ∀ Q, CR t L x2 σ x2 Q → roK ℓ τ = some (rr_t τ1 14 (τ1 13 0)) → (∀ Q, CR t L x2 σ x2 Q) → ∃ τ2 : rr_T, roK ℓ τ = some τ2 ∧ (∀ k, k ≠ 13 → k ≠ 14 → k ≠ 15 → k ≠ 16 → τ2 k = τ k) ∧ τ2 16 = rr_u (τ 16) c ℓ ∧ τ2 15 0 = c + 1 ∧ ((∃ F : Nat, F ≤ 120 ∧ τ2 14 0 = F ∧ ∀ Q, CR t L x σ F Q) ∨ (τ2 14 0 = -1 ∧ ∃ x2 : Nat, x < x2 ∧ (x2 : Int) ≤ L ∧ τ2 13 0 = x2 ∧ ∀ r Q, CR t L x2 (rr_t (rr_t σ 5 (σ 5 0 + 1)) 6 0) r Q → CR t L x σ r Q)) := fun _ _ hb hC =>
    ⟨_, hb, fun k k1 k2 k3 k4 => by rw [t_n k2, fk k k1 k3 k4], by rw [t_n (by decide)]; exact f16, by rw [t_n (by decide)]; exact f15, Or.inl ⟨x2, by omega, by rw [t_s]; exact a5, fun Q => skip _ _ (hC Q)⟩⟩
  rcases a7 with ⟨b1, b2⟩ | ⟨b1, b2, b3⟩
  · have hC : ∀ Q, CR t L x2 σ x2 Q := fun Q => by
      rw [b1]
      exact CR_end hT hc b1 (Or.inr (Or.inr h6))
    exact fin (fun _ => True) (hC _) (bad (by omega) (by omega)) hC
  · have hr := hT.2 x2 (by omega) b1
    by_cases q : t x2 = 59
    · refine ⟨rr_t τ1 13 (τ1 13 0 + 1), ?_, fun k k1 k2 k3 k4 => by rw [t_n k1, fk k k1 k3 k4], by rw [t_n (by decide)]; exact f16, by rw [t_n (by decide)]; exact f15, Or.inr ⟨by rw [t_n (by decide)]; exact f14, x2 + 1, by omega, by omega, by rw [t_s]; omega, fun r Q hh => skip r Q (CR_step hT hc b1 (by rw [q]; exact ac_3y h6) hh)⟩⟩
      unfold roK
      rw [rr_c_pos (by omega), if_pos e14, rr_c_pos (by omega), h15, a1, Option.bind_some, rr_c_pos (show rr_g v0 by omega), if_pos (show v0 = 59 by omega), must1 f14, Option.bind_some]
    · have hC : ∀ Q, CR t L x2 σ x2 Q := fun Q => CR_bad hT hc b1 (ac_3n h6 (by omega) b3 q)
      exact fin (fun _ => True) (hC _) (bad (by omega) (by omega)) hC
/-- the orders read so far -/
def PI (σ τ : rr_T) (c : Nat) : Prop := ∀ j : Nat, j < c → τ 16 j = σ 2 j ∧ τ 17 (2 * (j : Int)) = σ 3 j ∧ (0 ≤ σ 3 j ∧ σ 3 j ≤ 999) ∧ ((σ 2 j = 100 ∨ σ 2 j = 101 ∨ σ 2 j = 103 ∨ σ 2 j = 107) ∨ ((σ 2 j = 104 ∨ σ 2 j = 119) ∧ τ 17 (2 * (j : Int) + 1) = σ 4 j ∧ (0 ≤ σ 4 j ∧ σ 4 j ≤ 999)))
theorem ord_e {t : Int → Int} {L : Int} (hT : Tx t L) {σ τ : rr_T} {x c : Nat} (hx : (x : Int) < L) (hx32 : t x ≠ 32) (hc : Tc t L σ) (hy : Ty t L τ) (e13 : τ 13 0 = x) (e14 : τ 14 0 = -1) (h6 : σ 6 0 = 0) (h5 : σ 5 0 = c) (h15 : τ 15 0 = c) (h3 : 3 * c ≤ x) (hP : PI σ τ c) : ∃ τ2 : rr_T, M5_readOrder τ = some τ2 ∧ (∀ k, k < 13 → τ2 k = τ k) ∧ ((∃ F : Nat, F ≤ 120 ∧ τ2 14 0 = F ∧ ∀ Q, CR t L x σ F Q) ∨ (τ2 14 0 = -1 ∧ τ2 15 0 = ((c + 1 : Nat) : Int) ∧ ∃ (x2 : Nat) (σ2 : rr_T), x + 3 ≤ x2 ∧ (x2 : Int) ≤ L ∧ τ2 13 0 = x2 ∧ (∀ r Q, CR t L x2 σ2 r Q → CR t L x σ r Q) ∧ Tc t L σ2 ∧ σ2 6 0 = 0 ∧ σ2 5 0 = ((c + 1 : Nat) : Int) ∧ PI σ2 τ2 (c + 1))) := by
  have hL := hT.1
  have hc40 : c < 40 := by omega
  have hr := hT.2 x (by omega) hx
  obtain ⟨x2, v0, τ1, a1, a2, a3, a4, a5, a6, a7⟩ := here_e hT hy (Int.le_of_lt hx) e13
  have ex2 : x2 = x := by
    rcases Nat.lt_or_ge x x2 with z | z
    · exact absurd (a6 x (by omega) z) hx32
    · omega
  subst ex2
  have ev : v0 = t x2 := by
    rcases a7 with ⟨b1, -⟩ | ⟨-, b2, -⟩
    · omega
    · exact b2
  subst ev
  have f14 : τ1 14 0 = -1 := by rw [a4 14 (by decide)]; exact e14
  have f15 : τ1 15 0 = c := by rw [a4 15 (by decide)]; exact h15
  have hy1 := Ty_c hy (a4 11 (by decide)) (a4 12 (by decide))
  have f16 : τ1 16 = τ 16 := a4 16 (by decide)
  have f17 : τ1 17 = τ 17 := a4 17 (by decide)
  -- the letter
  have hyb : Ty t L (rr_t τ1 13 ((x2 : Int) + 1)) := Ty_c hy1 (t_n (by decide)) (t_n (by decide))
  have hcb : Tc t L (rr_t (rr_t (rr_s σ 2 (σ 5 0) (t x2)) 7 0) 6 1) := Tc_c hc (by rw [t_n (by decide), t_n (by decide), s_n (by decide)]) (by rw [t_n (by decide), t_n (by decide), s_n (by decide)])
  have s5 : rr_t (rr_t (rr_s σ 2 (σ 5 0) (t x2)) 7 0) 6 1 5 0 = c := by rw [t_n (by decide), t_n (by decide), s_n (by decide)]; exact h5
  have s2 : rr_t (rr_t (rr_s σ 2 (σ 5 0) (t x2)) 7 0) 6 1 2 = rr_u (σ 2) c (t x2) := by rw [t_n (by decide), t_n (by decide), s_s, h5]
  have s7 : rr_t (rr_t (rr_s σ 2 (σ 5 0) (t x2)) 7 0) 6 1 7 0 = 0 := by rw [t_n (by decide), t_s]
  have s6 : rr_t (rr_t (rr_s σ 2 (σ 5 0) (t x2)) 7 0) 6 1 6 0 = 1 := by rw [t_s]
  have s3 : rr_t (rr_t (rr_s σ 2 (σ 5 0) (t x2)) 7 0) 6 1 3 = σ 3 := by rw [t_n (by decide), t_n (by decide), s_n (by decide)]
  have s4 : rr_t (rr_t (rr_s σ 2 (σ 5 0) (t x2)) 7 0) 6 1 4 = σ 4 := by rw [t_n (by decide), t_n (by decide), s_n (by decide)]
  have first : ∀ N : Int, N = 1 ∨ N = 2 → M2_numbersOf (t x2) = some N → M5_numbersOf (t x2) = some N → (∀ r Q, CR t L (x2 + 1) (rr_t (rr_t (rr_s σ 2 (σ 5 0) (t x2)) 7 0) 6 1) r Q → CR t L x2 σ r Q) ∧ M5_readOrder τ = L5_readOrder_26 (t x2) N (roK (t x2)) 1000 0 (rr_t τ1 13 ((x2 : Int) + 1)) := fun N hN h2 hm => by
    refine ⟨fun r Q hh => CR_step hT hc hx (ac_0y h6 (by omega) hx32 h2 hN (by omega)) hh, ?_⟩
    unfold M5_readOrder
    rw [a1, Option.bind_some, hm, Option.bind_some, rr_c_pos (by omega), if_neg (by omega), must1 f14, Option.bind_some, a5]
    rfl
  -- the first number, the store, and what comes next
  have g13 : rr_t τ1 13 ((x2 : Int) + 1) 13 0 = ((x2 + 1 : Nat) : Int) := by rw [t_s]; omega
  have g14 : rr_t τ1 13 ((x2 : Int) + 1) 14 0 = -1 := by rw [t_n (by decide)]; exact f14
  have g15 : rr_t τ1 13 ((x2 : Int) + 1) 15 0 = c := by rw [t_n (by decide)]; exact f15
  have gk : ∀ k, k ≠ 13 → rr_t τ1 13 ((x2 : Int) + 1) k = τ k := fun k hk => by rw [t_n hk, a4 k hk]
  rcases nof (x := t x2) (by omega) with ⟨n1, n2, n3⟩ | ⟨n1, n2, n3⟩ | ⟨n1, n2, n3⟩
  · obtain ⟨ch, eo⟩ := first 1 (Or.inl rfl) n1 n2
    obtain ⟨v, τ3, p1, p2, p3⟩ := num_e hT (x := x2 + 1) (by omega) hcb hyb g13 g14 s6 (by omega) (Or.inl s7) (N := 1) (by rw [s2, s5, u_s]; exact n1) (Or.inl rfl)
    have st : M5_readOrder τ = roK (t x2) (rr_s τ3 17 (2 * (c : Int) + 0) v) := by
      rw [eo, L5_readOrder_26_s, rr_c_pos (by decide), if_neg (by decide), rr_c_pos (by omega), if_pos g14, p1, Option.bind_some, g15, rr_c_pos (by omega), L5_readOrder_26_s, rr_c_pos (by decide), if_pos (by decide)]
    rcases p3 with ⟨F, F1, F2, F3⟩ | ⟨q1, q2, x3, σ3, w1, w2, w3, w4, w5, w6, w7, w8, w9, w10⟩
    · have e14' : rr_s τ3 17 (2 * (c : Int) + 0) v 14 0 = F := by rw [s_n (by decide)]; exact F2
      refine ⟨_, by rw [st]; exact tail_f F1 e14', fun k hk => by rw [s_n (by omega), p2 k (by omega) (by omega), gk k (by omega)], Or.inl ⟨F, F1, e14', fun Q => ch _ _ (F3 Q)⟩⟩
    · have hc3 : Tc t L σ3 := Tc_c hcb (w5 0 (by decide) (by decide) (by decide) (by decide) (by decide) (by decide)) (w5 1 (by decide) (by decide) (by decide) (by decide) (by decide) (by decide))
      have hy3 : Ty t L (rr_s τ3 17 (2 * (c : Int) + 0) v) := Ty_c hyb (by rw [s_n (by decide), p2 11 (by decide) (by decide)]) (by rw [s_n (by decide), p2 12 (by decide) (by decide)])
      obtain ⟨τ4, r1, r2, r3, r4, r5⟩ := tail_e hT (ℓ := t x2) (c := c) w2 hc3 hy3 (by rw [s_n (by decide)]; exact w3) (by rw [s_n (by decide)]; exact q1) (by rw [s_n (by decide), p2 15 (by decide) (by decide)]; exact g15) hc40 (w7 (by omega))
      refine ⟨τ4, by rw [st]; exact r1, fun k hk => by rw [r2 k (by omega) (by omega) (by omega) (by omega), s_n (by omega), p2 k (by omega) (by omega), gk k (by omega)], ?_⟩
      rcases r5 with ⟨F, F1, F2, F3⟩ | ⟨y1, x4, y2, y3, y4, y5⟩
      · exact Or.inl ⟨F, F1, F2, fun Q => ch _ _ (w4 _ _ (F3 Q))⟩
      · refine Or.inr ⟨y1, by rw [r4]; omega, x4, _, by omega, y3, y4, fun r Q hh => ch _ _ (w4 _ _ (y5 r Q hh)), Tc_c hc3 (by rw [t_n (by decide), t_n (by decide)]) (by rw [t_n (by decide), t_n (by decide)]), by rw [t_s], ?_, ?_⟩
        · rw [t_n (by decide), t_s, w5 5 (by decide) (by decide) (by decide) (by decide) (by decide) (by decide), s5]; omega
        · obtain ⟨z3, z4⟩ := w9 s7
          rw [s5, s3] at z3
          rw [s4] at z4
          have o2 : rr_t (rr_t σ3 5 (σ3 5 0 + 1)) 6 0 2 = rr_u (σ 2) c (t x2) := by rw [t_n (by decide), t_n (by decide), w5 2 (by decide) (by decide) (by decide) (by decide) (by decide) (by decide), s2]
          have o3 : rr_t (rr_t σ3 5 (σ3 5 0 + 1)) 6 0 3 = rr_u (σ 3) c v := by rw [t_n (by decide), t_n (by decide), z3]
          have o4 : rr_t (rr_t σ3 5 (σ3 5 0 + 1)) 6 0 4 = σ 4 := by rw [t_n (by decide), t_n (by decide), z4]
          have o16 : τ4 16 = rr_u (τ 16) c (t x2) := by rw [r3, s_n (by decide), p2 16 (by decide) (by decide), gk 16 (by decide)]
          have o17 : τ4 17 = rr_u (τ 17) (2 * (c : Int) + 0) v := by rw [r2 17 (by decide) (by decide) (by decide) (by decide), s_s, p2 17 (by decide) (by decide), gk 17 (by decide)]
          intro j hj
          rw [o2, o3, o4, o16, o17]
          by_cases z : j = c
          · subst z
            rw [u_s, u_s, u_s, show 2 * (j : Int) + 0 = 2 * (j : Int) by omega, u_s]
            exact ⟨rfl, rfl, q2, Or.inl n3⟩
          · have := hP j (by omega)
            rw [u_n (show (j : Int) ≠ c by omega), u_n (show (j : Int) ≠ c by omega), u_n (show (j : Int) ≠ c by omega), u_n (show 2 * (j : Int) ≠ 2 * (c : Int) + 0 by omega), u_n (show 2 * (j : Int) + 1 ≠ 2 * (c : Int) + 0 by omega)]
            exact this
  · obtain ⟨ch, eo⟩ := first 2 (Or.inr rfl) n1 n2
    obtain ⟨v, τ3, p1, p2, p3⟩ := num_e hT (x := x2 + 1) (by omega) hcb hyb g13 g14 s6 (by omega) (Or.inl s7) (N := 2) (by rw [s2, s5, u_s]; exact n1) (Or.inr rfl)
    have st : M5_readOrder τ = L5_readOrder_26 (t x2) 2 (roK (t x2)) 999 1 (rr_s τ3 17 (2 * (c : Int) + 0) v) := by
      rw [eo, L5_readOrder_26_s, rr_c_pos (by decide), if_neg (by decide), rr_c_pos (by omega), if_pos g14, p1, Option.bind_some, g15, rr_c_pos (by omega)]
      rfl
    rcases p3 with ⟨F, F1, F2, F3⟩ | ⟨q1, q2, x3, σ3, w1, w2, w3, w4, w5, w6, w7, w8, w9, w10⟩
    · have e14' : rr_s τ3 17 (2 * (c : Int) + 0) v 14 0 = F := by rw [s_n (by decide)]; exact F2
      refine ⟨_, ?_, fun k hk => by rw [s_n (by omega), p2 k (by omega) (by omega), gk k (by omega)], Or.inl ⟨F, F1, e14', fun Q => ch _ _ (F3 Q)⟩⟩
      rw [st, L5_readOrder_26_s, rr_c_pos (by decide), if_neg (by decide), rr_c_pos (by omega), if_neg (by omega)]
      exact tail_f F1 e14'
    · have hc3 : Tc t L σ3 := Tc_c hcb (w5 0 (by decide) (by decide) (by decide) (by decide) (by decide) (by decide)) (w5 1 (by decide) (by decide) (by decide) (by decide) (by decide) (by decide))
      have hy3 : Ty t L (rr_s τ3 17 (2 * (c : Int) + 0) v) := Ty_c hyb (by rw [s_n (by decide), p2 11 (by decide) (by decide)]) (by rw [s_n (by decide), p2 12 (by decide) (by decide)])
      have u5 : σ3 5 0 = c := by rw [w5 5 (by decide) (by decide) (by decide) (by decide) (by decide) (by decide)]; exact s5
      have u2 : σ3 2 = rr_u (σ 2) c (t x2) := by rw [w5 2 (by decide) (by decide) (by decide) (by decide) (by decide) (by decide)]; exact s2
      have u7 : σ3 7 0 = 1 := by omega
      have u15 : rr_s τ3 17 (2 * (c : Int) + 0) v 15 0 = c := by rw [s_n (by decide), p2 15 (by decide) (by decide)]; exact g15
      have u14 : rr_s τ3 17 (2 * (c : Int) + 0) v 14 0 = -1 := by rw [s_n (by decide)]; exact q1
      obtain ⟨v5, τ5, j1, j2, j3⟩ := num_e hT (x := x3) w2 hc3 hy3 (by rw [s_n (by decide)]; exact w3) u14 (w8 (by omega)) (by omega) (Or.inr u7) (N := 2) (by rw [u2, u5, u_s]; exact n1) (Or.inr rfl)
      have st2 : M5_readOrder τ = roK (t x2) (rr_s τ5 17 (2 * (c : Int) + 1) v5) := by
        rw [st, L5_readOrder_26_s, rr_c_pos (by decide), if_neg (by decide), rr_c_pos (by omega), if_pos u14, j1, Option.bind_some, u15, rr_c_pos (by omega), L5_readOrder_26_s, rr_c_pos (by decide), if_pos (by decide)]
      rcases j3 with ⟨F, F1, F2, F3⟩ | ⟨i1, i2, x5, σ5, l1, l2, l3, l4, l5, l6, l7, l8, l9, l10⟩
      · have e14' : rr_s τ5 17 (2 * (c : Int) + 1) v5 14 0 = F := by rw [s_n (by decide)]; exact F2
        exact ⟨_, by rw [st2]; exact tail_f F1 e14', fun k hk => by rw [s_n (by omega), j2 k (by omega) (by omega), s_n (by omega), p2 k (by omega) (by omega), gk k (by omega)], Or.inl ⟨F, F1, e14', fun Q => ch _ _ (w4 _ _ (F3 Q))⟩⟩
      · have hc5 : Tc t L σ5 := Tc_c hc3 (l5 0 (by decide) (by decide) (by decide) (by decide) (by decide) (by decide)) (l5 1 (by decide) (by decide) (by decide) (by decide) (by decide) (by decide))
        have hy5 : Ty t L (rr_s τ5 17 (2 * (c : Int) + 1) v5) := Ty_c hy3 (by rw [s_n (by decide), j2 11 (by decide) (by decide)]) (by rw [s_n (by decide), j2 12 (by decide) (by decide)])
        obtain ⟨τ4, r1, r2, r3, r4, r5⟩ := tail_e hT (ℓ := t x2) (c := c) l2 hc5 hy5 (by rw [s_n (by decide)]; exact l3) (by rw [s_n (by decide)]; exact i1) (by rw [s_n (by decide), j2 15 (by decide) (by decide)]; exact u15) hc40 (l7 (by omega))
        refine ⟨τ4, by rw [st2]; exact r1, fun k hk => by rw [r2 k (by omega) (by omega) (by omega) (by omega), s_n (by omega), j2 k (by omega) (by omega), s_n (by omega), p2 k (by omega) (by omega), gk k (by omega)], ?_⟩
        rcases r5 with ⟨F, F1, F2, F3⟩ | ⟨y1, x4, y2, y3, y4, y5⟩
        · exact Or.inl ⟨F, F1, F2, fun Q => ch _ _ (w4 _ _ (l4 _ _ (F3 Q)))⟩
        · refine Or.inr ⟨y1, by rw [r4]; omega, x4, _, by omega, y3, y4, fun r Q hh => ch _ _ (w4 _ _ (l4 _ _ (y5 r Q hh))), Tc_c hc5 (by rw [t_n (by decide), t_n (by decide)]) (by rw [t_n (by decide), t_n (by decide)]), by rw [t_s], ?_, ?_⟩
          · rw [t_n (by decide), t_s, l5 5 (by decide) (by decide) (by decide) (by decide) (by decide) (by decide), u5]; omega
          · obtain ⟨z3, z4⟩ := w9 s7
            rw [s5, s3] at z3
            rw [s4] at z4
            obtain ⟨z5, z6⟩ := l10 u7
            rw [u5, z4] at z5
            rw [z3] at z6
            have o2 : rr_t (rr_t σ5 5 (σ5 5 0 + 1)) 6 0 2 = rr_u (σ 2) c (t x2) := by rw [t_n (by decide), t_n (by decide), l5 2 (by decide) (by decide) (by decide) (by decide) (by decide) (by decide), u2]
            have o3 : rr_t (rr_t σ5 5 (σ5 5 0 + 1)) 6 0 3 = rr_u (σ 3) c v := by rw [t_n (by decide), t_n (by decide), z6]
            have o4 : rr_t (rr_t σ5 5 (σ5 5 0 + 1)) 6 0 4 = rr_u (σ 4) c v5 := by rw [t_n (by decide), t_n (by decide), z5]
            have o16 : τ4 16 = rr_u (τ 16) c (t x2) := by rw [r3, s_n (by decide), j2 16 (by decide) (by decide), s_n (by decide), p2 16 (by decide) (by decide), gk 16 (by decide)]
            have o17 : τ4 17 = rr_u (rr_u (τ 17) (2 * (c : Int) + 0) v) (2 * (c : Int) + 1) v5 := by rw [r2 17 (by decide) (by decide) (by decide) (by decide), s_s, j2 17 (by decide) (by decide), s_s, p2 17 (by decide) (by decide), gk 17 (by decide)]
            intro j hj
            rw [o2, o3, o4, o16, o17]
            by_cases z : j = c
            · subst z
              rw [u_s, u_s, u_s, u_s, u_s, u_n (show 2 * (j : Int) ≠ 2 * (j : Int) + 1 by omega), show 2 * (j : Int) + 0 = 2 * (j : Int) by omega, u_s]
              exact ⟨rfl, rfl, q2, Or.inr ⟨n3, rfl, i2⟩⟩
            · have := hP j (by omega)
              rw [u_n (show (j : Int) ≠ c by omega), u_n (show (j : Int) ≠ c by omega), u_n (show (j : Int) ≠ c by omega), u_n (show (j : Int) ≠ c by omega), u_n (show 2 * (j : Int) ≠ 2 * (c : Int) + 1 by omega), u_n (show 2 * (j : Int) ≠ 2 * (c : Int) + 0 by omega), u_n (show 2 * (j : Int) + 1 ≠ 2 * (c : Int) + 1 by omega), u_n (show 2 * (j : Int) + 1 ≠ 2 * (c : Int) + 0 by omega)]
              exact this
  · have e14' : rr_t τ1 14 (τ1 13 0) 14 0 = x2 := by rw [t_s]; exact a5
    refine ⟨rr_t τ1 14 (τ1 13 0), ?_, fun k hk => by rw [t_n (by omega), a4 k (by omega)], Or.inl ⟨x2, by omega, e14', fun Q => CR_bad hT hc hx (ac_0n h6 (by omega) hx32 n1)⟩⟩
    unfold M5_readOrder
    rw [a1, Option.bind_some, n2, Option.bind_some, rr_c_pos (by decide), if_pos rfl, must0 f14, Option.bind_some, L5_readOrder_26_s, rr_c_pos (by decide), if_pos (by decide)]
    exact tail_f (by omega) e14'
