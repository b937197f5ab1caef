/-! The relation between the class and the model. -/
def Sc (Ω : Nat → rr_T) (τ : rr_T) : Prop := (0 ≤ Ω 2 1 0 ∧ Ω 2 1 0 ≤ 120) ∧ τ 12 0 = Ω 2 1 0 ∧ ∀ i : Int, 0 ≤ i → i < Ω 2 1 0 → τ 11 i = Ω 2 0 i ∧ 0 ≤ Ω 2 0 i ∧ Ω 2 0 i ≤ 127
def Ct (k : Nat) (Ω : Nat → rr_T) (τ : rr_T) : Prop := (Ω 3 0 0 = τ 4 0 ∧ 0 ≤ τ 4 0 ∧ τ 4 0 ≤ k) ∧ (Ω 3 1 0 = τ 4 1 ∧ 0 ≤ τ 4 1 ∧ τ 4 1 ≤ k) ∧ (Ω 3 2 0 = τ 4 2 ∧ 0 ≤ τ 4 2 ∧ τ 4 2 ≤ k)
def Sim (k : Nat) (Ω : Nat → rr_T) (τ : rr_T) : Prop := St (Ω 0) (τ 0) ∧ LC (Ω 0) (τ 0) ∧ LM τ (τ 0) ∧ Hi Ω τ ∧ Sc Ω τ ∧ Ct k Ω τ
theorem Hi_c {Ω Ω2 : Nat → rr_T} {τ τ2 : rr_T} (h : Hi Ω τ) (e9 : Ω2 9 = Ω 9) (e4 : ∀ j : Nat, j < 5 → Ω2 (4 + j) = Ω (4 + j)) (e2 : τ2 2 = τ 2) (e3 : τ2 3 = τ 3) : Hi Ω2 τ2 := by
  obtain ⟨a, b, c⟩ := h
  unfold Hi
  rw [e9, e2, e3]
  exact ⟨a, b, fun j hj => by rw [e4 j (by omega)]; exact c j hj⟩
theorem Sc_c {Ω Ω2 : Nat → rr_T} {τ τ2 : rr_T} (h : Sc Ω τ) (e0 : Ω2 2 0 = Ω 2 0) (e1 : Ω2 2 1 = Ω 2 1) (e2 : τ2 11 = τ 11) (e3 : τ2 12 = τ 12) : Sc Ω2 τ2 := by
  unfold Sc
  rw [e0, e1, e2, e3]; exact h
theorem Ct_c {k : Nat} {Ω Ω2 : Nat → rr_T} {τ τ2 : rr_T} (h : Ct k Ω τ) (e0 : Ω2 3 = Ω 3) (e1 : τ2 4 = τ 4) : Ct (k + 1) Ω2 τ2 := by
  obtain ⟨a, b, c⟩ := h
  unfold Ct
  rw [e0, e1]
  exact ⟨by omega, by omega, by omega⟩
theorem LM_c {τ τ2 : rr_T} {ν : Int → Int} (h : LM τ ν) (e5 : τ2 5 = τ 5) (e6 : τ2 6 = τ 6) (e7 : τ2 7 = τ 7) (e8 : τ2 8 = τ 8) : LM τ2 ν := by
  unfold LM
  rw [e5, e6, e7, e8]; exact h
/-- what the relation doesn't look at may change -/
theorem Sim_c {k : Nat} {Ω Ω2 : Nat → rr_T} {τ τ2 : rr_T} (h : Sim k Ω τ) (e : ∀ j, j ≠ 1 → j ≠ 2 → Ω2 j = Ω j) (e20 : Ω2 2 0 = Ω 2 0) (e21 : Ω2 2 1 = Ω 2 1) (f : ∀ j, j = 0 ∨ (2 ≤ j ∧ j ≤ 8) ∨ j = 11 ∨ j = 12 → τ2 j = τ j) : Sim (k + 1) Ω2 τ2 := by
  obtain ⟨a, b, c, d, g, i⟩ := h
  unfold Sim
  rw [e 0 (by decide) (by decide), f 0 (by decide)]
  exact ⟨a, b, LM_c c (f 5 (by decide)) (f 6 (by decide)) (f 7 (by decide)) (f 8 (by decide)), Hi_c d (e 9 (by decide) (by decide)) (fun j hj => e (4 + j) (by omega) (by omega)) (f 2 (by decide)) (f 3 (by decide)), Sc_c g e20 e21 (f 11 (by decide)) (f 12 (by decide)), Ct_c i (e 3 (by decide) (by decide)) (f 4 (by decide))⟩
theorem Sim_up {k : Nat} {Ω : Nat → rr_T} {τ : rr_T} (h : Sim k Ω τ) : Sim (k + 1) Ω τ := Sim_c h (fun _ _ _ => rfl) rfl rfl (fun _ _ => rfl)
/-- a refusal counts, on both sides -/
theorem J_ref {k : Nat} {Ω : Nat → rr_T} {τ : rr_T} (h : Sim k Ω τ) {r : Int} (hr : r = -2 ∨ r = -3 ∨ r = -4) {Ω2 : Nat → rr_T} {τ2 : rr_T} (e : ∀ j, j ≠ 1 → j ≠ 2 → Ω2 j = Ω j) (e20 : Ω2 2 0 = Ω 2 0) (e21 : Ω2 2 1 = Ω 2 1) (f : ∀ j, j = 0 ∨ (2 ≤ j ∧ j ≤ 8) ∨ j = 11 ∨ j = 12 → τ2 j = τ j) : ∃ (Ω3 : Nat → rr_T) (τ3 : rr_T), M4_refuse r Ω2 = some (r, Ω3) ∧ M5_refuses r τ2 = some (r, τ3) ∧ Sim (k + 1) Ω3 τ3 := by
  obtain ⟨a, b, c, d, g, i⟩ := h
  have e3 := e 3 (by decide) (by decide)
  have f4 := f 4 (by decide)
  have key : ∀ (q : Nat) (v : Int), q < 3 → v = Ω 3 q 0 + 1 → Sim (k + 1) (rr_z Ω2 3 (rr_t (Ω2 3) q v)) (rr_s τ2 4 q (τ2 4 q + 1)) := by
    intro q v hq hv
    unfold Sim
    have z0 : rr_z Ω2 3 (rr_t (Ω2 3) q v) 0 = Ω 0 := by rw [z_n (by decide), e 0 (by decide) (by decide)]
    have y0 : rr_s τ2 4 q (τ2 4 q + 1) 0 = τ 0 := by rw [s_n (by decide), f 0 (by decide)]
    rw [z0, y0]
    refine ⟨a, b, LM_c c ?_ ?_ ?_ ?_, Hi_c d ?_ (fun j hj => ?_) ?_ ?_, Sc_c g ?_ ?_ ?_ ?_, ?_⟩
    · rw [s_n (by decide), f 5 (by decide)]
    · rw [s_n (by decide), f 6 (by decide)]
    · rw [s_n (by decide), f 7 (by decide)]
    · rw [s_n (by decide), f 8 (by decide)]
    · rw [z_n (by decide), e 9 (by decide) (by decide)]
    · rw [z_n (by omega), e (4 + j) (by omega) (by omega)]
    · rw [s_n (by decide), f 2 (by decide)]
    · rw [s_n (by decide), f 3 (by decide)]
    · rw [z_n (by decide)]; exact e20
    · rw [z_n (by decide)]; exact e21
    · rw [s_n (by decide), f 11 (by decide)]
    · rw [s_n (by decide), f 12 (by decide)]
    · obtain ⟨i0, i1, i2⟩ := i
      unfold Ct
      rw [z_s, s_s, f4, e3]
      match q, hq with
      | 0, _ =>
        rw [t_s, t_n (by decide : (1 : Nat) ≠ 0), t_n (by decide : (2 : Nat) ≠ 0), u_n (show (1 : Int) ≠ ((0 : Nat) : Int) by decide), u_n (show (2 : Int) ≠ ((0 : Nat) : Int) by decide), show ((0 : Nat) : Int) = 0 from rfl, u_s]
        exact ⟨by omega, by omega, by omega⟩
      | 1, _ =>
        rw [t_s, t_n (by decide : (0 : Nat) ≠ 1), t_n (by decide : (2 : Nat) ≠ 1), u_n (show (0 : Int) ≠ ((1 : Nat) : Int) by decide), u_n (show (2 : Int) ≠ ((1 : Nat) : Int) by decide), show ((1 : Nat) : Int) = 1 from rfl, u_s]
        exact ⟨by omega, by omega, by omega⟩
      | 2, _ =>
        rw [t_s, t_n (by decide : (0 : Nat) ≠ 2), t_n (by decide : (1 : Nat) ≠ 2), u_n (show (0 : Int) ≠ ((2 : Nat) : Int) by decide), u_n (show (1 : Int) ≠ ((2 : Nat) : Int) by decide), show ((2 : Nat) : Int) = 2 from rfl, u_s]
        exact ⟨by omega, by omega, by omega⟩
      | q + 3, hq => omega
  unfold M4_refuse M5_refuses
  rcases hr with rfl | rfl | rfl
  · rw [rr_c_pos (by decide), if_pos rfl, rr_c_pos (by decide)]
    exact ⟨_, _, rfl, rfl, key 0 _ (by decide) (by rw [e3])⟩
  · rw [rr_c_pos (by decide), if_neg (by decide), if_pos rfl, rr_c_pos (by decide)]
    exact ⟨_, _, rfl, rfl, key 1 _ (by decide) (by rw [e3])⟩
  · rw [rr_c_pos (by decide), if_neg (by decide), if_neg (by decide), rr_c_pos (by decide)]
    exact ⟨_, _, rfl, rfl, key 2 _ (by decide) (by rw [e3])⟩
theorem b_eta {α β : Type} (m : Option (α × β)) : m.bind (fun v => some (v.1, v.2)) = m := by
  cases m <;> rfl
theorem b_eta1 {α : Type} (m : Option α) : m.bind (fun v => some v) = m := by
  cases m <;> rfl
/-- orders by their letters -/
theorem take_h (x y : Int) (σ : rr_T) : M3_take 104 x y σ = M3_addHost x y σ := by
  unfold M3_take
  rw [rr_c_pos (by decide), if_neg (by decide), if_neg (by decide), if_pos rfl, b_eta]
theorem take_w (x y : Int) (σ : rr_T) : M3_take 119 x y σ = M3_weighAnew x y σ := by
  unfold M3_take
  rw [rr_c_pos (by decide), if_neg (by decide), if_neg (by decide), if_neg (by decide), if_neg (by decide), if_pos rfl, b_eta]
theorem take_g (x y : Int) (σ : rr_T) : M3_take 103 x y σ = M3_removeHost x σ := by
  unfold M3_take
  rw [rr_c_pos (by decide), if_neg (by decide), if_pos rfl, b_eta]
theorem take_k (x y : Int) (σ : rr_T) : M3_take 107 x y σ = M3_addKey x σ := by
  unfold M3_take
  rw [rr_c_pos (by decide), if_neg (by decide), if_neg (by decide), if_neg (by decide), if_pos rfl, b_eta]
theorem take_d (x y : Int) (σ : rr_T) : M3_take 100 x y σ = M3_removeKey x σ := by
  unfold M3_take
  rw [rr_c_pos (by decide), if_pos rfl, b_eta]
theorem take_e (x y : Int) (σ : rr_T) : M3_take 101 x y σ = M3_changeExtra x σ := by
  unfold M3_take
  rw [rr_c_pos (by decide), if_neg (by decide), if_neg (by decide), if_neg (by decide), if_neg (by decide), if_neg (by decide), b_eta]
theorem St_m {σ ρ : rr_T} {ν : Int → Int} (h : St σ ν) : St (rr_m 7 σ ρ) ν := h
/-- an order is told: the draft -/
theorem J_order {Ω : Nat → rr_T} {τ : rr_T} (h : St (Ω 0) (τ 0)) {x1 x2 x3 : Int} {D : rr_T → Option (Int × rr_T)} (hT : ∀ σ τ : rr_T, St σ (τ 0) → ∃ (r : Int) (σ2 τ2 : rr_T), M3_take x1 x2 x3 σ = some (r, σ2) ∧ D τ = some (r, τ2) ∧ T6 r σ σ2 τ τ2) : ∃ (v1 τ1 : rr_T) (r : Int) (v3 τ2 : rr_T), M3_copyFrom (Ω 1) (Ω 0) = some v1 ∧ M5_hold τ = some τ1 ∧ (∀ k, k ≠ 1 → k ≠ 9 → τ1 k = τ k) ∧ (∀ i : Int, 0 ≤ i → i < 143 → τ1 1 i = τ 0 i) ∧ (∀ i : Int, 0 ≤ i → i < 40 → τ1 9 i = τ 6 i) ∧ M3_take x1 x2 x3 (rr_m 7 v1 (Ω 1)) = some (r, v3) ∧ D τ1 = some (r, τ2) ∧ T6 r (rr_m 7 v1 (Ω 1)) v3 τ1 τ2 := by
  obtain ⟨v1, c1, c2, c3⟩ := M3_copyFrom_St (Ω 1) (Ω 0) h
  obtain ⟨τ1, h1, h2, h3, h4⟩ := M5_hold_e τ
  have hs : St (rr_m 7 v1 (Ω 1)) (τ1 0) := by rw [h2 0 (by decide) (by decide)]; exact St_m c3
  obtain ⟨r, v3, τ2, t1, t2, t3⟩ := hT _ _ hs
  exact ⟨v1, τ1, r, v3, τ2, c1, h1, h2, h3, h4, t1, t2, t3⟩
theorem J_tell {k : Nat} {Ω : Nat → rr_T} {τ : rr_T} (h : Sim k Ω τ) {x1 x2 x3 : Int} {D : rr_T → Option (Int × rr_T)} (hT : ∀ σ τ : rr_T, St σ (τ 0) → ∃ (r : Int) (σ2 τ2 : rr_T), M3_take x1 x2 x3 σ = some (r, σ2) ∧ D τ = some (r, τ2) ∧ T6 r σ σ2 τ τ2) : (∃ (r : Int) (Ω2 : Nat → rr_T) (τ1 τ2 τ3 : rr_T), (r = -2 ∨ r = -3 ∨ r = -4) ∧ M4_tellOne x1 x2 x3 Ω = some (r, Ω2) ∧ M5_hold τ = some τ1 ∧ D τ1 = some (r, τ2) ∧ M5_refuses r τ2 = some (r, τ3) ∧ Sim (k + 1) Ω2 τ3) ∨ (∃ (Ω2 : Nat → rr_T) (τ1 τ2 τ3 : rr_T), M4_tellOne x1 x2 x3 Ω = some (τ3 0 142, Ω2) ∧ M5_hold τ = some τ1 ∧ D τ1 = some (0, τ2) ∧ M5_push τ2 = some τ3 ∧ Sim (k + 1) Ω2 τ3 ∧ (0 ≤ τ3 0 142 ∧ τ3 0 142 ≤ 40) ∧ (∀ i : Int, 0 ≤ i → i < 142 → τ3 0 i = τ2 0 i)) := by
  obtain ⟨a, b, c, d, g, i⟩ := h
  obtain ⟨v1, τ1, r, v3, τ2, c1, h1, h2, h3, h4, t1, t2, t3⟩ := J_order a hT
  obtain ⟨r0, r1, r2, r3, r4⟩ := t3
  by_cases q : r = 0
  · subst q
    have hd : St (rr_m 7 v3 (rr_m 7 v1 (Ω 1))) (τ2 0) := St_m (r4 rfl)
    have hH : Hi (rr_z Ω 1 (rr_m 7 v3 (rr_m 7 v1 (Ω 1)))) τ2 := Hi_c d (z_n (by decide)) (fun j hj => z_n (by omega)) (by rw [r2 2 (by decide), h2 2 (by decide) (by decide)]) (by rw [r2 3 (by decide), h2 3 (by decide) (by decide)])
    have hNu := St_Nu a
    obtain ⟨Ω2, τ3, p1, p2, p3, p4, p5, p6, p7, p8, p9, p10, p11, p12⟩ := J_push (Ω := rr_z Ω 1 (rr_m 7 v3 (rr_m 7 v1 (Ω 1)))) (τ := τ2) (μ := τ 0) a b hd (fun i i0 i1 => by rw [r2 1 (by decide), h3 i i0 i1]) (fun i hi => by rw [r2 9 (by decide), h4 i (by omega) (by have := hNu.2.2.1; omega)]; exact (c.2.1 i hi).1) hH
    refine Or.inr ⟨Ω2, τ1, τ2, τ3, ?_, h1, t2, p2, ⟨p3, p4, p5, p6, Sc_c g ?_ ?_ ?_ ?_, Ct_c i ?_ ?_⟩, p12, p11⟩
    · unfold M4_tellOne
      rw [c1, Option.bind_some, t1, Option.bind_some, rr_c_pos (show rr_g 0 by decide), if_pos rfl, p1, Option.bind_some, p10]
    · rw [p7, z_n (by decide)]
    · rw [p7, z_n (by decide)]
    · rw [p9 11 (by omega), r2 11 (by decide), h2 11 (by decide) (by decide)]
    · rw [p9 12 (by omega), r2 12 (by decide), h2 12 (by decide) (by decide)]
    · rw [p8, z_n (by decide)]
    · rw [p9 4 (by omega), r2 4 (by decide), h2 4 (by decide) (by decide)]
  · have hr : r = -2 ∨ r = -3 ∨ r = -4 := by omega
    obtain ⟨-, e2⟩ := r3 q
    obtain ⟨Ω3, τ3, f1, f2, f3⟩ := J_ref ⟨a, b, c, d, g, i⟩ hr (Ω2 := rr_z Ω 1 (rr_m 7 v3 (rr_m 7 v1 (Ω 1)))) (τ2 := τ2) (fun j j1 _ => z_n j1) (by rw [z_n (by decide)]) (by rw [z_n (by decide)]) (fun j hj => by rw [e2, h2 j (by omega) (by omega)])
    refine Or.inl ⟨r, Ω3, τ1, τ2, τ3, hr, ?_, h1, t2, f2, f3⟩
    unfold M4_tellOne
    rw [c1, Option.bind_some, t1, Option.bind_some, rr_c_pos (by omega), if_neg q, f1, Option.bind_some]
/-- what one call needs -/
theorem J_ends {k : Nat} {Ω : Nat → rr_T} {τ : rr_T} (h : Sim k Ω τ) {x1 x2 x3 : Int} {D : rr_T → Option (Int × rr_T)} (hT : ∀ σ τ : rr_T, St σ (τ 0) → ∃ (r : Int) (σ2 τ2 : rr_T), M3_take x1 x2 x3 σ = some (r, σ2) ∧ D τ = some (r, τ2) ∧ T6 r σ σ2 τ τ2) : ∃ (r : Int) (Ω2 : Nat → rr_T) (τ2 : rr_T), (M4_tellOne x1 x2 x3 Ω).bind (fun v1 => some (v1.1, v1.2)) = some (r, Ω2) ∧ (M5_hold τ).bind (fun v1 => (D v1).bind (fun v3 => (M5_ends v3.1 v3.2).bind (fun v5 => some (v5.1, v5.2)))) = some (r, τ2) ∧ Sim (k + 1) Ω2 τ2 := by
  rcases J_tell h hT with ⟨r, Ω2, τ1, τ2, τ3, hr, e1, e2, e3, e4, e5⟩ | ⟨Ω2, τ1, τ2, τ3, e1, e2, e3, e4, e5, e6⟩
  · refine ⟨r, Ω2, τ3, by rw [b_eta, e1], ?_, e5⟩
    rw [e2, Option.bind_some, e3, Option.bind_some]
    unfold M5_ends
    rw [rr_c_pos (by omega), if_neg (by omega), b_eta, b_eta, e4]
  · refine ⟨_, Ω2, τ3, by rw [b_eta, e1], ?_, e5⟩
    rw [e2, Option.bind_some, e3, Option.bind_some]
    unfold M5_ends
    rw [rr_c_pos (show rr_g 0 by decide), if_pos rfl, e4, Option.bind_some, Option.bind_some]
theorem O_host : rr_k2 Sim M4_host M5_host := fun k Ω τ x y _ h hx hy => J_ends h (D := M5_doHost x y) (fun σ τ hs => by rw [take_h]; exact T_host hs hx hy)
theorem O_weighs : rr_k2 Sim M4_weighs M5_weighs := fun k Ω τ x y _ h hx hy => J_ends h (D := M5_doWeighs x y) (fun σ τ hs => by rw [take_w]; exact T_weighs hs hx hy)
theorem O_goes : rr_k1 Sim M4_goes M5_goes := fun k Ω τ x _ h hx => J_ends h (D := M5_doGoes x) (fun σ τ hs => by rw [take_g]; exact T_goes hs hx)
theorem O_drops : rr_k1 Sim M4_drops M5_drops := fun k Ω τ x _ h hx => J_ends h (D := M5_doDrops x) (fun σ τ hs => by rw [take_d]; exact T_drops hs hx)
theorem O_extra : rr_k1 Sim M4_extra M5_extra := fun k Ω τ x _ h hx => J_ends h (D := M5_doExtra x) (fun σ τ hs => by rw [take_e]; exact T_extra hs hx)
