/-! The whole text, and its orders. -/
theorem PI_c {σ τ τ2 : rr_T} {c : Nat} (h : PI σ τ c) (e1 : τ2 16 = τ 16) (e2 : τ2 17 = τ 17) : PI σ τ2 c := by
  unfold PI; rw [e1, e2]; exact h
theorem prs {t : Int → Int} {L : Int} (hT : Tx t L) : ∀ (d n x c : Nat) (σ τ : rr_T), L ≤ ((x + d : Nat) : Int) → d + 1 < n → (x : Int) ≤ L → Tc t L σ → Ty t L τ → τ 13 0 = x → τ 14 0 = -1 → σ 6 0 = 0 → σ 5 0 = c → τ 15 0 = c → 3 * c ≤ x → PI σ τ c → ∃ τ2 : rr_T, (∀ K, L5_does_31 K n τ = K τ2) ∧ (∀ k, k < 13 → τ2 k = τ k) ∧ ((∃ F : Nat, F ≤ 120 ∧ τ2 14 0 = F ∧ ∀ Q, CR t L x σ F Q) ∨ (τ2 14 0 = -1 ∧ ∃ (c2 : Nat) (σ2 : rr_T), c2 ≤ 40 ∧ c ≤ c2 ∧ τ2 15 0 = c2 ∧ σ2 5 0 = c2 ∧ PI σ2 τ2 c2 ∧ Tc t L σ2 ∧ σ2 6 0 = 0 ∧ (∀ r Q, CR t L L.toNat σ2 r Q → CR t L x σ r Q) ∧ (∀ y : Nat, x ≤ y → (y : Int) < L → t y ≠ 32 → c < c2))) := by
  have hL := hT.1
  intro d
  induction d with
  | zero =>
    intro n x c σ τ h1 h2 hx hc hy e13 e14 h6 h5 h15 h3 hP
    cases n with
    | zero => omega
    | succ n =>
      obtain ⟨x2, v0, τ1, a1, a2, a3, a4, a5, a6, a7⟩ := here_e hT hy hx e13
      rcases a7 with ⟨b1, b2⟩ | ⟨b1, b2, b3⟩
      · refine ⟨τ1, fun K => ?_, fun k hk => a4 k (by omega), Or.inr ⟨by rw [a4 14 (by decide)]; exact e14, c, σ, by omega, by omega, by rw [a4 15 (by decide)]; exact h15, h5, PI_c hP (a4 16 (by decide)) (a4 17 (by decide)), hc, h6, fun r Q hh => ?_, fun y y1 y2 y3 => by omega⟩⟩
        · rw [L5_does_31_s, rr_c_pos (by omega), if_pos e14, a1, Option.bind_some, rr_c_pos (show rr_g v0 by omega), if_pos b2]
        · rw [show L.toNat = x by omega] at hh; exact hh
      · omega
  | succ d ih =>
    intro n x c σ τ h1 h2 hx hc hy e13 e14 h6 h5 h15 h3 hP
    cases n with
    | zero => omega
    | succ n =>
      obtain ⟨x2, v0, τ1, a1, a2, a3, a4, a5, a6, a7⟩ := here_e hT hy hx e13
      have skip : ∀ r Q, CR t L x2 σ r Q → CR t L x σ r Q := fun r Q hh => CR_skip hT hc (Or.inl h6) a3 hh (x2 - x) x (by omega) a6
      have f14 : τ1 14 0 = -1 := by rw [a4 14 (by decide)]; exact e14
      have f15 : τ1 15 0 = c := by rw [a4 15 (by decide)]; exact h15
      have hP1 : PI σ τ1 c := PI_c hP (a4 16 (by decide)) (a4 17 (by decide))
      have hy1 := Ty_c hy (a4 11 (by decide)) (a4 12 (by decide))
      rcases a7 with ⟨b1, b2⟩ | ⟨b1, b2, b3⟩
      · refine ⟨τ1, fun K => ?_, fun k hk => a4 k (by omega), Or.inr ⟨f14, c, σ, by omega, by omega, f15, h5, hP1, hc, h6, fun r Q hh => ?_, fun y y1 y2 y3 => absurd (a6 y y1 (by omega)) y3⟩⟩
        · rw [L5_does_31_s, rr_c_pos (by omega), if_pos e14, a1, Option.bind_some, rr_c_pos (show rr_g v0 by omega), if_pos b2]
        · rw [show L.toNat = x2 by omega] at hh; exact skip r Q hh
      · have hr := hT.2 x2 (by omega) b1
        obtain ⟨τ2, o1, o2, o3⟩ := ord_e hT b1 b3 hc hy1 a5 f14 h6 h5 f15 (by omega) hP1
        have st : ∀ K, L5_does_31 K (n + 1) τ = L5_does_31 K n τ2 := fun K => by
          rw [L5_does_31_s, rr_c_pos (by omega), if_pos e14, a1, Option.bind_some, rr_c_pos (show rr_g v0 by omega), if_neg (show ¬ v0 = -1 by omega), o1, Option.bind_some]
        have hk2 : ∀ k, k < 13 → τ2 k = τ k := fun k hk => by rw [o2 k hk, a4 k (by omega)]
        rcases o3 with ⟨F, F1, F2, F3⟩ | ⟨p1, p2, x3, σ3, p3, p4, p5, p6, p7, p8, p9, p10⟩
        · refine ⟨τ2, fun K => ?_, hk2, Or.inl ⟨F, F1, F2, fun Q => skip _ _ (F3 Q)⟩⟩
          rw [st]
          cases n with
          | zero => omega
          | succ n => rw [L5_does_31_s, rr_c_pos (by omega), if_neg (by omega)]
        · obtain ⟨τ3, q1, q2, q3⟩ := ih n x3 (c + 1) σ3 τ2 (by omega) (by omega) p4 p7 (Ty_c hy (hk2 11 (by decide)) (hk2 12 (by decide))) p5 p1 p8 p9 p2 (by omega) p10
          refine ⟨τ3, fun K => by rw [st]; exact q1 K, fun k hk => by rw [q2 k hk, hk2 k hk], ?_⟩
          rcases q3 with ⟨F, F1, F2, F3⟩ | ⟨r1, c2, σ4, r2, r3, r4, r5, r6, r7, r8, r9, r10⟩
          · exact Or.inl ⟨F, F1, F2, fun Q => skip _ _ (p6 _ _ (F3 Q))⟩
          · exact Or.inr ⟨r1, c2, σ4, r2, by omega, r4, r5, r6, r7, r8, fun r Q hh => skip _ _ (p6 _ _ (r9 r Q hh)), fun _ _ _ _ => by omega⟩
theorem Sc_t {Ω Ω2 : Nat → rr_T} {τ τ2 : rr_T} (h : Sc Ω τ) (hT : Tc (Ω 2 0) (Ω 2 1 0) (Ω2 2)) (e2 : τ2 11 = τ 11) (e3 : τ2 12 = τ 12) : Sc Ω2 τ2 := by
  unfold Sc
  rw [hT.1, hT.2, e2, e3]; exact h
theorem Sim_r {k : Nat} {Ω Ω2 : Nat → rr_T} {τ τ2 : rr_T} (h : Sim k Ω τ) (e : ∀ j, j ≠ 1 → j ≠ 2 → Ω2 j = Ω j) (hT : Tc (Ω 2 0) (Ω 2 1 0) (Ω2 2)) (e0 : ∀ i : Int, 0 ≤ i → i < 143 → τ2 0 i = τ 0 i) (f : ∀ j, (2 ≤ j ∧ j ≤ 8) ∨ j = 11 ∨ j = 12 → τ2 j = τ j) : Sim (k + 1) Ω2 τ2 := by
  obtain ⟨a, b, c, d, g, i⟩ := h
  have hNu := St_Nu a
  have e0' : ∀ i : Int, 0 ≤ i → i < 142 → τ 0 i = τ2 0 i := fun i i0 i1 => (e0 i i0 (by omega)).symm
  unfold Sim
  rw [e 0 (by decide) (by decide)]
  refine ⟨St_cong (fun i i0 i1 => (e0 i i0 i1).symm) a, LC_cong a e0' (fun _ _ => rfl) b, LM_cong e0' hNu.2.2.1 (fun p _ _ => by rw [f 5 (by decide)]) (fun p _ _ => by rw [f 6 (by decide)]) (fun p _ _ => by rw [f 7 (by decide)]) (fun p _ _ => by rw [f 8 (by decide)]) c, Hi_c d (e 9 (by decide) (by decide)) (fun j hj => e (4 + j) (by omega) (by omega)) (f 2 (by decide)) (f 3 (by decide)), Sc_t g hT (f 11 (by decide)) (f 12 (by decide)), Ct_c i (e 3 (by decide) (by decide)) (f 4 (by decide))⟩
/-- one order of the text -/
theorem ord_do {s σ τ : rr_T} {c j : Nat} (hP : PI s τ c) (hj : j < c) (hc : c ≤ 40) (h : St σ (τ 0)) : ∃ (r : Int) (σ2 τ2 : rr_T), M3_take (s 2 j) (s 3 j) (s 4 j) σ = some (r, σ2) ∧ M5_doOrder j τ = some (r, τ2) ∧ T6 r σ σ2 τ τ2 := by
  obtain ⟨p1, p2, p3, p4⟩ := hP j hj
  have g3 : rr_g (s 3 j) := by omega
  unfold M5_doOrder
  rw [rr_c_pos (by omega), rr_c_pos (by omega), rr_c_pos (by omega), p1, p2, rr_c_pos (by omega)]
  rcases p4 with (e | e | e | e) | ⟨e | e, q1, q2⟩
  · rw [e, take_d, if_pos rfl, b_eta]; exact T_drops h g3
  · rw [e, take_e, if_neg (by decide), if_neg (by decide), if_neg (by decide), if_neg (by decide), if_neg (by decide), b_eta]; exact T_extra h g3
  · rw [e, take_g, if_neg (by decide), if_pos rfl, b_eta]; exact T_goes h g3
  · rw [e, take_k, if_neg (by decide), if_neg (by decide), if_neg (by decide), if_pos rfl, b_eta]; exact T_key h g3
  · rw [e, take_h, if_neg (by decide), if_neg (by decide), if_pos rfl, b_eta, q1]; exact T_host h g3 (by omega)
  · rw [e, take_w, if_neg (by decide), if_neg (by decide), if_neg (by decide), if_neg (by decide), if_pos rfl, b_eta, q1]; exact T_weighs h g3 (by omega)
theorem does_l {k : Nat} {Ω0 : Nat → rr_T} {τ0 : rr_T} (h : Sim k Ω0 τ0) {s : rr_T} {c : Nat} (hc40 : c ≤ 40) (hTc : Tc (Ω0 2 0) (Ω0 2 1 0) s) (h5 : s 5 0 = c) : ∀ (d n j : Nat) (Ω : Nat → rr_T) (τ : rr_T), j + d = c → d < n → (∀ i, i ≠ 1 → i ≠ 2 → Ω i = Ω0 i) → Ω 2 = s → St (Ω 1) (τ 0) → (∀ i : Int, 0 ≤ i → i < 143 → τ 1 i = τ0 0 i) → (∀ i : Int, 0 ≤ i → i < 40 → τ 9 i = τ0 6 i) → (∀ j, (2 ≤ j ∧ j ≤ 8) ∨ j = 11 ∨ j = 12 → τ j = τ0 j) → τ 15 0 = c → PI s τ c → P2 k (L4_does_37 (fun σ_37 => (M4_keepDraft σ_37).bind (fun v14 => some (((v14 2) 5 0), v14))) n j Ω) (L5_does_76 (fun σ_76 => (M5_push σ_76).bind (fun v25 => some ((v25 15 0), v25))) n j τ) := by
  intro d
  induction d with
  | zero =>
    intro n j Ω τ h1 h2 hΩ hs hd e1 e9 ek h15 hP
    cases n with
    | zero => omega
    | succ n =>
      obtain ⟨a, b, cc, dd, g, i⟩ := h
      have hNu := St_Nu a
      have z0 := hΩ 0 (by decide) (by decide)
      have hH : Hi Ω τ := Hi_c dd (hΩ 9 (by decide) (by decide)) (fun j hj => hΩ (4 + j) (by omega) (by omega)) (ek 2 (by decide)) (ek 3 (by decide))
      obtain ⟨Ω2, τ2, p1, p2, p3, p4, p5, p6, p7, p8, p9, p10, p11, p12⟩ := J_push (Ω := Ω) (τ := τ) (μ := τ0 0) (by rw [z0]; exact a) (by rw [z0]; exact b) hd e1 (fun i hi => by rw [e9 i (by omega) (by have := hNu.2.2.1; omega)]; exact (cc.2.1 i hi).1) hH
      rw [L4_does_37_s, L5_does_76_s, hs, h5, h15]
      refine P_ca (by omega) (P_ta (by omega) (P_cb (by omega) (P_tb (by omega) (P_ba p1 (P_bb p2 (P_ok ⟨p3, p4, p5, p6, Sc_t g (by rw [p7, hs]; exact hTc) ?_ ?_, Ct_c i ?_ ?_⟩ ?_))))))
      · rw [p9 11 (by omega), ek 11 (by decide)]
      · rw [p9 12 (by omega), ek 12 (by decide)]
      · rw [p8, hΩ 3 (by decide) (by decide)]
      · rw [p9 4 (by omega), ek 4 (by decide)]
      · rw [p7, hs, h5, p9 15 (by omega), h15]
  | succ d ih =>
    intro n j Ω τ h1 h2 hΩ hs hd e1 e9 ek h15 hP
    cases n with
    | zero => omega
    | succ n =>
      obtain ⟨r, σ2, τ2, t1, t2, r0, r1, r2, r3, r4⟩ := ord_do hP (show j < c by omega) hc40 hd
      have gr : rr_g r := by rcases r0 with e | e | e | e <;> rw [e] <;> decide
      rw [L4_does_37_s, L5_does_76_s, hs, h5, h15, show (j : Int) + 1 = ((j + 1 : Nat) : Int) by omega]
      refine P_ca (by omega) (P_fa (by omega) (P_cb (by omega) (P_fb (by omega) (P_ca (by omega) (P_ba t1 (P_bb t2 (P_ca gr (P_cb gr ?_))))))))
      by_cases q : r = 0
      · refine P_ta q (P_tb q ?_)
        refine ih n (j + 1) _ τ2 (by omega) (by omega) (fun i i1 i2 => by rw [z_n i1, hΩ i i1 i2]) (by rw [z_n (by decide)]; exact hs) (by rw [z_s]; exact St_m (r4 q)) (fun i i0 i1 => by rw [r2 1 (by decide)]; exact e1 i i0 i1) (fun i i0 i1 => by rw [r2 9 (by decide)]; exact e9 i i0 i1) (fun i hi => by rw [r2 i (by omega), ek i hi]) (by rw [r2 15 (by decide)]; exact h15) (PI_c hP (r2 16 (by decide)) (r2 17 (by decide)))
      · refine P_fa q (P_fb q ?_)
        obtain ⟨τ3, l1, l2, l3⟩ := M5_release_e τ2
        refine P_bb l1 (P_ok (Sim_r h (fun i i1 i2 => by rw [z_n i1, hΩ i i1 i2]) (by rw [z_n (by decide), hs]; exact hTc) (fun i i0 i1 => by rw [l3 i i0 i1, r2 1 (by decide), e1 i i0 i1]) (fun i hi => by rw [l2 i (by omega), r2 i (by omega), ek i hi])) rfl)
theorem O_does : rr_k0 Sim M4_does M5_does := fun k Ω τ _ h => by
  show P2 k (M4_does Ω) (M5_does τ)
  obtain ⟨g1, g2, g3⟩ := h.2.2.2.2.1
  have hT : Tx (Ω 2 0) (Ω 2 1 0) := ⟨g1, fun i i0 i1 => (g3 i i0 i1).2⟩
  have hL := hT.1
  have hc : Tc (Ω 2 0) (Ω 2 1 0) (rr_t (rr_t (Ω 2) 5 0) 6 0) := ⟨by rw [t_n (by decide), t_n (by decide)], by rw [t_n (by decide), t_n (by decide)]⟩
  have ak : ∀ k, k < 13 → rr_t (rr_t (rr_t τ 13 0) 14 (-1)) 15 0 k = τ k := fun k hk => by rw [t_n (by omega), t_n (by omega), t_n (by omega)]
  have hy : Ty (Ω 2 0) (Ω 2 1 0) (rr_t (rr_t (rr_t τ 13 0) 14 (-1)) 15 0) := by
    unfold Ty
    rw [ak 11 (by decide), ak 12 (by decide)]
    exact ⟨fun i i0 i1 => (g3 i i0 i1).1, g2⟩
  have e13 : rr_t (rr_t (rr_t τ 13 0) 14 (-1)) 15 0 13 0 = ((0 : Nat) : Int) := by rw [t_n (by decide), t_n (by decide), t_s]; rfl
  have e14 : rr_t (rr_t (rr_t τ 13 0) 14 (-1)) 15 0 14 0 = -1 := by rw [t_n (by decide), t_s]
  have e15 : rr_t (rr_t (rr_t τ 13 0) 14 (-1)) 15 0 15 0 = ((0 : Nat) : Int) := by rw [t_s]; rfl
  have s6 : rr_t (rr_t (Ω 2) 5 0) 6 0 6 0 = 0 := by rw [t_s]
  have s5 : rr_t (rr_t (Ω 2) 5 0) 6 0 5 0 = ((0 : Nat) : Int) := by rw [t_n (by decide), t_s]; rfl
  obtain ⟨x2, v0, τ1, a1, a2, a3, a4, a5, a6, a7⟩ := here_e hT hy (x := 0) (by omega) e13
  have skip : ∀ r Q, CR (Ω 2 0) (Ω 2 1 0) x2 (rr_t (rr_t (Ω 2) 5 0) 6 0) r Q → CR (Ω 2 0) (Ω 2 1 0) 0 (rr_t (rr_t (Ω 2) 5 0) 6 0) r Q := fun r Q hh => CR_skip hT hc (Or.inl s6) a3 hh (x2 - 0) 0 (by omega) a6
  have run : ∀ r Q, CR (Ω 2 0) (Ω 2 1 0) 0 (rr_t (rr_t (Ω 2) 5 0) 6 0) r Q → ∃ σ2, M2_read (Ω 2) = some (r, σ2) ∧ (r = -1 → Q σ2) ∧ Tc (Ω 2 0) (Ω 2 1 0) σ2 := fun r Q hh => hh 1000 (by omega)
  have f14 : τ1 14 0 = -1 := by rw [a4 14 (by decide)]; exact e14
  have f15 : τ1 15 0 = ((0 : Nat) : Int) := by rw [a4 15 (by decide)]; exact e15
  have hy1 := Ty_c hy (a4 11 (by decide)) (a4 12 (by decide))
  have k1 : ∀ k, k < 13 → τ1 k = τ k := fun k hk => by rw [a4 k (by omega), ak k hk]
  unfold M4_does M5_does
  rcases a7 with ⟨b1, b2⟩ | ⟨b1, b2, b3⟩
  · obtain ⟨σ2, r1, -, r3⟩ := run _ _ (skip _ (fun _ => True) (CR_none hT hc b1 s6 s5))
    refine P_ba r1 (P_bb a1 (P_ca (show rr_g (Ω 2 1 0) by omega) (P_cb (show rr_g v0 by omega) (P_fa (show ¬ Ω 2 1 0 = -1 by omega) (P_tb b2 (P_ok (Sim_r h (fun j j1 j2 => z_n j2) (by rw [z_s]; exact r3) (fun i _ _ => congrFun (k1 0 (by decide)) i) (fun j hj => k1 j (by omega))) ?_))))))
    show -10 - Ω 2 1 0 = -10 - τ1 12 0
    rw [hy1.2]
  · have hr := hT.2 x2 (by omega) b1
    obtain ⟨τ2, p1, p2, p3⟩ := prs hT 120 1000 x2 0 (rr_t (rr_t (Ω 2) 5 0) 6 0) τ1 (by omega) (by omega) a3 hc hy1 a5 f14 s6 s5 f15 (by omega) (fun j hj => by omega)
    have k2 : ∀ k, k < 13 → τ2 k = τ k := fun k hk => by rw [p2 k hk, k1 k hk]
    rcases p3 with ⟨F, F1, F2, F3⟩ | ⟨q1, c2, σ3, q2, q3, q4, q5, q6, q7, q8, q9, q10⟩
    · obtain ⟨σ2, r1, -, r3⟩ := run _ _ (skip _ (fun _ => True) (F3 _))
      refine P_ba r1 (P_bb a1 (P_ca (show rr_g (F : Int) by omega) (P_cb (show rr_g v0 by omega) (P_fa (show ¬ (F : Int) = -1 by omega) (P_fb (show ¬ v0 = -1 by omega) ?_)))))
      rw [p1]
      refine P_cb (by omega) (P_fb (by omega) (P_ok (Sim_r h (fun j j1 j2 => z_n j2) (by rw [z_s]; exact r3) (fun i _ _ => by rw [k2 0 (by decide)]) (fun j hj => k2 j (by omega))) ?_))
      show -10 - (F : Int) = -10 - τ2 14 0
      rw [F2]
    · have hc2 := q10 x2 (by omega) b1 b3
      obtain ⟨σ2, r1, r2, r3⟩ := run _ _ (skip _ (fun σ => σ = σ3) (q9 _ _ (CR_fin hT q7 (by omega) q8 (by omega) rfl)))
      have e2 : σ2 = σ3 := r2 rfl
      subst e2
      refine P_ba r1 (P_bb a1 (P_ca (show rr_g (-1) by decide) (P_cb (show rr_g v0 by omega) (P_ta (show (-1 : Int) = -1 from rfl) (P_fb (show ¬ v0 = -1 by omega) ?_)))))
      rw [p1]
      obtain ⟨v1, w1, w2, w3⟩ := M3_copyFrom_St (Ω 1) (Ω 0) h.1
      obtain ⟨τ3, y1, y2, y3, y4⟩ := M5_hold_e τ2
      refine P_ba w1 (P_cb (by omega) (P_tb q1 (P_bb y1 ?_)))
      refine does_l h q2 r3 q5 c2 1000 0 _ τ3 (by omega) (by omega) (fun i i1 i2 => by rw [z_n i2, z_n i1]) (z_s _ _ _) ?_ (fun i i0 i1 => by rw [y3 i i0 i1, k2 0 (by decide)]) (fun i i0 i1 => by rw [y4 i i0 i1, k2 6 (by decide)]) (fun j hj => by rw [y2 j (by omega) (by omega), k2 j (by omega)]) (by rw [y2 15 (by decide) (by decide)]; exact q4) (PI_c q6 (y2 16 (by decide) (by decide)) (y2 17 (by decide) (by decide)))
      rw [z_n (by decide), z_s, y2 0 (by decide) (by decide), k2 0 (by decide)]
      exact St_m w3
