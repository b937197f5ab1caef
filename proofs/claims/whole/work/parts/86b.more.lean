/-! Both sides, step by step. -/
def P2 (k : Nat) (A : Option (Int × (Nat → rr_T))) (B : Option (Int × rr_T)) : Prop := ∃ (r : Int) (Ω1 : Nat → rr_T) (σ1 : rr_T), A = some (r, Ω1) ∧ B = some (r, σ1) ∧ Sim (k + 1) Ω1 σ1
theorem P_ca {k : Nat} {c : Prop} [Decidable c] {A : Option (Int × (Nat → rr_T))} {B : Option (Int × rr_T)} (hc : c) (h : P2 k A B) : P2 k (rr_c c A) B := by rw [rr_c_pos hc]; exact h
theorem P_cb {k : Nat} {c : Prop} [Decidable c] {A : Option (Int × (Nat → rr_T))} {B : Option (Int × rr_T)} (hc : c) (h : P2 k A B) : P2 k A (rr_c c B) := by rw [rr_c_pos hc]; exact h
theorem P_ta {k : Nat} {c : Prop} [Decidable c] {A A2 : Option (Int × (Nat → rr_T))} {B : Option (Int × rr_T)} (hc : c) (h : P2 k A B) : P2 k (if c then A else A2) B := by rw [if_pos hc]; exact h
theorem P_fa {k : Nat} {c : Prop} [Decidable c] {A A2 : Option (Int × (Nat → rr_T))} {B : Option (Int × rr_T)} (hc : ¬ c) (h : P2 k A2 B) : P2 k (if c then A else A2) B := by rw [if_neg hc]; exact h
theorem P_tb {k : Nat} {c : Prop} [Decidable c] {A : Option (Int × (Nat → rr_T))} {B B2 : Option (Int × rr_T)} (hc : c) (h : P2 k A B) : P2 k A (if c then B else B2) := by rw [if_pos hc]; exact h
theorem P_fb {k : Nat} {c : Prop} [Decidable c] {A : Option (Int × (Nat → rr_T))} {B B2 : Option (Int × rr_T)} (hc : ¬ c) (h : P2 k A B2) : P2 k A (if c then B else B2) := by rw [if_neg hc]; exact h
theorem P_ba {k : Nat} {α : Type} {m : Option α} {a : α} {f : α → Option (Int × (Nat → rr_T))} {B : Option (Int × rr_T)} (e : m = some a) (h : P2 k (f a) B) : P2 k (m.bind f) B := by rw [e]; exact h
theorem P_bb {k : Nat} {α : Type} {m : Option α} {a : α} {A : Option (Int × (Nat → rr_T))} {f : α → Option (Int × rr_T)} (e : m = some a) (h : P2 k A (f a)) : P2 k A (m.bind f) := by rw [e]; exact h
theorem P_ok {k : Nat} {Ω : Nat → rr_T} {τ : rr_T} {r s : Int} (h : Sim (k + 1) Ω τ) (e : r = s) : P2 k (some (r, Ω)) (some (s, τ)) := ⟨r, Ω, τ, rfl, by rw [e], h⟩
theorem P_no {k : Nat} {Ω : Nat → rr_T} {τ : rr_T} (h : Sim k Ω τ) {r : Int} (hr : r = -2 ∨ r = -3 ∨ r = -4) : P2 k ((M4_refuse r Ω).bind (fun v => some (v.1, v.2))) ((M5_refuses r τ).bind (fun v => some (v.1, v.2))) := by
  obtain ⟨Ω3, τ3, f1, f2, f3⟩ := J_ref h hr (Ω2 := Ω) (τ2 := τ) (fun _ _ _ => rfl) rfl rfl (fun _ _ => rfl)
  exact ⟨r, Ω3, τ3, by rw [f1]; rfl, by rw [f2]; rfl, f3⟩
theorem P_no2 {k : Nat} {Ω Ω2 : Nat → rr_T} {τ : rr_T} (h : Sim k Ω τ) {r : Int} (hr : r = -2 ∨ r = -3 ∨ r = -4) (e : ∀ j, j ≠ 1 → j ≠ 2 → Ω2 j = Ω j) (e20 : Ω2 2 0 = Ω 2 0) (e21 : Ω2 2 1 = Ω 2 1) : P2 k ((M4_refuse r Ω2).bind (fun v => some (v.1, v.2))) ((M5_refuses r τ).bind (fun v => some (v.1, v.2))) := by
  obtain ⟨Ω3, τ3, f1, f2, f3⟩ := J_ref h hr (Ω2 := Ω2) (τ2 := τ) e e20 e21 (fun _ _ => rfl)
  exact ⟨r, Ω3, τ3, by rw [f1]; rfl, by rw [f2]; rfl, f3⟩
theorem St_7 {σ σ2 : rr_T} {ν : Int → Int} (e : ∀ k, k < 7 → σ2 k = σ k) (h : St σ ν) : St σ2 ν := by
  refine St_cp h ?_ ?_ ?_ ?_ ?_ ?_ ?_
  · intro i _ _; rw [e 0 (by decide)]
  · intro i _ _; rw [e 1 (by decide)]
  · intro i _ _; rw [e 2 (by decide)]
  · rw [e 3 (by decide)]
  · rw [e 4 (by decide)]
  · rw [e 5 (by decide)]
  · rw [e 6 (by decide)]
theorem mc_e {σ τ : rr_T} (h : St σ (τ 0)) {x : Int} (hx : rr_g x) {f : Int} (hf : M3_findKey x σ = some f) : M5_mayCome x τ = some (if 0 ≤ x ∧ x ≤ 999 then (if f < 0 then (if σ 4 0 < 40 then 0 else -4) else -3) else -2) := by
  have hkc := h.2.1
  have e140 : τ 0 140 = σ 4 0 := h.2.2.2.2.2.2.2.2.2.1
  by_cases q : 0 ≤ x ∧ x ≤ 999
  · rw [if_pos q]
    rcases M_key h hx with ⟨i, i1, ei, e1, e2⟩ | ⟨hno, e1, e2⟩
    · rw [hf] at e1; injection e1 with e1; rw [if_neg (by omega)]; exact mc_no q (by omega) e2
    · rw [hf] at e1; injection e1 with e1; rw [if_pos (by omega)]
      by_cases q3 : σ 4 0 < 40
      · rw [if_pos q3]; exact mc_ok q e2 (by omega)
      · rw [if_neg q3]; exact mc_full q e2 (by omega)
  · rw [if_neg q]; exact mc_bad hx q
theorem mc_two {σ τ τ2 : rr_T} (h : St σ (τ 0)) (h2 : St σ (τ2 0)) {x : Int} (hx : rr_g x) : M5_mayCome x τ = M5_mayCome x τ2 := by
  rcases M_key h hx with ⟨i, i1, ei, e1, e2⟩ | ⟨hno, e1, e2⟩
  · rw [mc_e h hx e1, mc_e h2 hx e1]
  · rw [mc_e h hx e1, mc_e h2 hx e1]
theorem mc_v {σ τ : rr_T} (h : St σ (τ 0)) {x : Int} (hx : rr_g x) : ∃ v, M5_mayCome x τ = some v ∧ (v = 0 ∨ v = -2 ∨ v = -3 ∨ v = -4) ∧ (v = 0 → σ 4 0 < 40) := by
  have key : ∀ f, M3_findKey x σ = some f → ∃ v, M5_mayCome x τ = some v ∧ (v = 0 ∨ v = -2 ∨ v = -3 ∨ v = -4) ∧ (v = 0 → σ 4 0 < 40) := by
    intro f hf
    refine ⟨_, mc_e h hx hf, ?_, ?_⟩
    · split
      · split
        · split
          · exact Or.inl rfl
          · exact Or.inr (Or.inr (Or.inr rfl))
        · exact Or.inr (Or.inr (Or.inl rfl))
      · exact Or.inr (Or.inl rfl)
    · split
      · split
        · split
          · intro _; assumption
          · intro a; exact absurd a (by decide)
        · intro a; exact absurd a (by decide)
      · intro a; exact absurd a (by decide)
  rcases M_key h hx with ⟨i, i1, ei, e1, e2⟩ | ⟨hno, e1, e2⟩
  · exact key _ e1
  · exact key _ e1
theorem dk_w {σ τ τ2 : rr_T} (h : St σ (τ 0)) {x r : Int} (hx : rr_g x) (e : M5_doKey x τ = some (r, τ2)) : M5_mayCome x τ = some r ∧ (r = 0 → ∃ i : Int, 0 ≤ i ∧ i < τ2 0 140 ∧ τ2 0 (100 + i) = x) := by
  obtain ⟨v, ev, hv, h40⟩ := mc_v h hx
  have e140 : τ 0 140 = σ 4 0 := h.2.2.2.2.2.2.2.2.2.1
  have hkc := h.2.1
  have hw : rr_wp (M5_doKey x τ) (fun p => p.1 = v ∧ (p.1 = 0 → ∃ i : Int, 0 ≤ i ∧ i < p.2 0 140 ∧ p.2 0 (100 + i) = x)) := by
    unfold M5_doKey
    refine wp_be ev (wp_c (by omega) ?_)
    by_cases q : v = 0
    · refine wp_t q ?_
      have h4 := h40 q
      obtain ⟨-, -, -, -, -, -, -, hKy, -⟩ := h
      rw [show τ 0 140 = (((σ 4 0).toNat : Nat) : Int) by omega]
      refine w_doKey_21 (τ0 := τ) hx (by omega) (fun i a b => by have := hKy i a (by omega); omega) (fun m2 τ3 g2 gk ga gb gg gl => ?_) (σ 4 0).toNat 1000 τ (by omega) (by omega) (fun _ _ => rfl) (fun _ _ => rfl) (fun j a b => by omega) (fun j a b => by omega)
      refine wp_c (by omega) (wp_some ⟨q.symm, fun _ => ⟨m2, by omega, ?_, ?_⟩⟩)
      · show (m2 : Int) < rr_s (rr_s τ3 0 (100 + m2) x) 0 140 (rr_u (τ3 0) (100 + m2) x 140 + 1) 0 140
        rw [s_s, u_s, u_n (show (140 : Int) ≠ 100 + m2 by omega), ga 140 (Or.inr (by omega))]
        omega
      · show rr_s (rr_s τ3 0 (100 + m2) x) 0 140 (rr_u (τ3 0) (100 + m2) x 140 + 1) 0 (100 + m2) = x
        rw [s_s, u_n (show 100 + (m2 : Int) ≠ 140 by omega), s_s, u_s]
    · exact wp_f q (wp_some ⟨rfl, fun a => absurd a q⟩)
  obtain ⟨p, e1, e2, e3⟩ := hw
  rw [e] at e1
  injection e1 with e1
  subst e1
  exact ⟨by rw [ev, ← e2], e3⟩
/-- the key that was told is found, and alike -/
theorem J_found {σ τ : rr_T} (hs : St σ (τ 0)) (hl : LC σ (τ 0)) (hm : LM τ (τ 0)) {x : Int} (hx : rr_g x) (hi : ∃ i : Int, 0 ≤ i ∧ i < τ 0 140 ∧ τ 0 (100 + i) = x) : ∃ i : Nat, (i : Int) < 40 ∧ M5_rowOf x τ = some (i : Int) ∧ M1_hostNameOfKey x σ = some (τ 6 i) := by
  have e140 : τ 0 140 = σ 4 0 := hs.2.2.2.2.2.2.2.2.2.1
  have hkc := hs.2.1
  rcases M_key hs hx with ⟨i, i1, ei, e1, e2⟩ | ⟨hno, e1, e2⟩
  · refine ⟨i, by omega, e2, ?_⟩
    rw [C_hostName hs hl i1 e1, (hm.2.1 i (by omega)).1]
  · obtain ⟨i, i0, i1, i2⟩ := hi
    have a := (hs.2.2.2.2.2.2.2.1 i i0 (by omega)).2.2
    exact absurd (by omega) (hno i i0 (by omega))
theorem O_key : rr_k1 Sim M4_key M5_key := fun k Ω τ x _ h hx => by
  show P2 k (M4_key x Ω) (M5_key x τ)
  rcases J_tell h (x1 := 107) (x2 := x) (x3 := 0) (D := M5_doKey x) (fun σ τ hs => by rw [take_k]; exact T_key hs hx) with ⟨r, Ω2, τ1, τ2, τ3, hr, e1, e2, e3, e4, e5⟩ | ⟨Ω2, τ1, τ2, τ3, e1, e2, e3, e4, e5, e6, e7⟩
  · unfold M4_key M5_key
    exact P_ba e1 (P_bb e2 (P_bb e3 (P_ca (by omega) (P_fa (by omega) (P_cb (by omega) (P_fb (by omega) (P_bb e4 ⟨_, _, _, rfl, rfl, e5⟩)))))))
  · unfold M4_key M5_key
    have hs1 : St (Ω 0) (τ1 0) := by
      obtain ⟨τ9, g1, g2, -, -⟩ := M5_hold_e τ
      rw [e2] at g1
      injection g1 with g1
      rw [g1, g2 0 (by decide) (by decide)]
      exact h.1
    obtain ⟨-, w2⟩ := dk_w hs1 hx e3
    obtain ⟨i, i0, i1, i2⟩ := w2 rfl
    have hn : ∀ j : Int, 0 ≤ j → j < 142 → τ3 0 j = τ2 0 j := e7
    have hS := e5
    obtain ⟨a, b, c, -⟩ := e5
    obtain ⟨m, m1, m2, m3⟩ := J_found a b c hx ⟨i, i0, by rw [hn 140 (by decide) (by decide)]; exact i1, by rw [hn (100 + i) (by omega) (by have := (St_Nu a).2.2.1; rw [hn 140 (by decide) (by decide)] at this; omega)]; exact i2⟩
    exact P_ba e1 (P_bb e2 (P_bb e3 (P_ca (by omega) (P_ta (by omega) (P_cb (show rr_g 0 by decide) (P_tb rfl (P_bb e4 (P_bb m2 (P_cb (by omega) (P_ba m3 (P_ok hS rfl)))))))))))
/-- an order is tried -/
theorem J_try {k : Nat} {Ω : Nat → rr_T} {τ : rr_T} (h : Sim k Ω τ) {x1 x2 : Int} {D : rr_T → Option (Int × rr_T)} (hT : ∀ σ τ : rr_T, St σ (τ 0) → ∃ (r : Int) (σ2 τ2 : rr_T), M3_take x1 x2 0 σ = some (r, σ2) ∧ D τ = some (r, τ2) ∧ T6 r σ σ2 τ τ2) : ∃ (r : Int) (v7 τ1 τ2 : rr_T), M4_tryOne x1 x2 Ω = some (r, rr_z Ω 1 v7) ∧ M5_hold τ = some τ1 ∧ τ1 0 = τ 0 ∧ D τ1 = some (r, τ2) ∧ (r = 0 ∨ r = -2 ∨ r = -3 ∨ r = -4) ∧ (r = 0 → ∃ τ3 : rr_T, M5_lay τ2 = some τ3 ∧ τ3 0 = τ2 0 ∧ St v7 (τ3 0) ∧ LC v7 (τ3 0) ∧ LM τ3 (τ3 0) ∧ (∀ i : Int, 0 ≤ i → i < 143 → τ3 1 i = τ 0 i) ∧ (∀ i : Int, 0 ≤ i → i < 40 → τ3 9 i = τ 6 i) ∧ (∀ j, j = 2 ∨ j = 3 ∨ j = 4 ∨ j = 11 ∨ j = 12 → τ3 j = τ j)) := by
  obtain ⟨a, b, c, d, g, i⟩ := h
  obtain ⟨v1, τ1, r, v3, τ2, c1, h1, h2, h3, h4, t1, t2, t3⟩ := J_order a hT
  obtain ⟨r0, r1, r2, r3, r4⟩ := t3
  by_cases q : r = 0
  · have hd : St (rr_m 7 v3 (rr_m 7 v1 (Ω 1))) (τ2 0) := St_m (r4 q)
    obtain ⟨v7, l1, l2, l3⟩ := M1_lay_w hd
    obtain ⟨τ3, m1, m2, m3⟩ := M5_lay_w (St_Nu hd)
    have e0 : τ3 0 = τ2 0 := m2 0 (by decide) (by decide) (by decide) (by decide)
    refine ⟨r, v7, τ1, τ2, ?_, h1, h2 0 (by decide) (by decide), t2, r0, fun _ => ⟨τ3, m1, e0, ?_, ?_, ?_, fun i i0 i1 => ?_, fun i i0 i1 => ?_, fun j hj => ?_⟩⟩
    · unfold M4_tryOne
      rw [c1, Option.bind_some, t1, Option.bind_some, rr_c_pos (show rr_g r by omega), if_pos q, l1, Option.bind_some]
    · rw [e0]; exact St_7 l2 hd
    · rw [e0]; exact l3
    · rw [e0]; exact m3
    · rw [m2 1 (by decide) (by decide) (by decide) (by decide), r2 1 (by decide)]; exact h3 i i0 i1
    · rw [m2 9 (by decide) (by decide) (by decide) (by decide), r2 9 (by decide)]; exact h4 i i0 i1
    · rw [m2 j (by omega) (by omega) (by omega) (by omega), r2 j (by omega), h2 j (by omega) (by omega)]
  · refine ⟨r, rr_m 7 v3 (rr_m 7 v1 (Ω 1)), τ1, τ2, ?_, h1, h2 0 (by decide) (by decide), t2, r0, fun e => absurd e q⟩
    unfold M4_tryOne
    rw [c1, Option.bind_some, t1, Option.bind_some, rr_c_pos (show rr_g r by omega), if_neg q]
/-- and put aside again -/
theorem J_rel {k : Nat} {Ω : Nat → rr_T} {τ τ3 : rr_T} (h : Sim k Ω τ) (e1 : ∀ i : Int, 0 ≤ i → i < 143 → τ3 1 i = τ 0 i) (e : ∀ j, j = 2 ∨ j = 3 ∨ j = 4 ∨ j = 11 ∨ j = 12 → τ3 j = τ j) : ∃ τ4 τ5 : rr_T, M5_release τ3 = some τ4 ∧ M5_lay τ4 = some τ5 ∧ ∀ v : rr_T, Sim (k + 1) (rr_z Ω 1 v) τ5 := by
  obtain ⟨a, b, c, d, g, i⟩ := h
  obtain ⟨τ4, r1, r2, r3⟩ := M5_release_e τ3
  have e4 : ∀ i : Int, 0 ≤ i → i < 143 → τ 0 i = τ4 0 i := fun i i0 i1 => by rw [r3 i i0 i1, e1 i i0 i1]
  have hs4 : St (Ω 0) (τ4 0) := St_cong e4 a
  obtain ⟨τ5, m1, m2, m3⟩ := M5_lay_w (St_Nu hs4)
  have m0 : τ5 0 = τ4 0 := m2 0 (by decide) (by decide) (by decide) (by decide)
  have mj : ∀ j, j = 2 ∨ j = 3 ∨ j = 4 ∨ j = 11 ∨ j = 12 → τ5 j = τ j := fun j hj => by
    rw [m2 j (by omega) (by omega) (by omega) (by omega), r2 j (by omega), e j hj]
  refine ⟨τ4, τ5, r1, m1, fun v => ?_⟩
  unfold Sim
  rw [z_n (by decide), m0]
  refine ⟨hs4, LC_cong a (fun i i0 i1 => e4 i i0 (by omega)) (fun _ _ => rfl) b, m3, Hi_c d (z_n (by decide)) (fun j hj => z_n (by omega)) (mj 2 (by decide)) (mj 3 (by decide)), Sc_c g ?_ ?_ (mj 11 (by decide)) (mj 12 (by decide)), Ct_c i (z_n (by decide)) (mj 4 (by decide))⟩
  · rw [z_n (by decide)]
  · rw [z_n (by decide)]
theorem O_would : rr_k1 Sim M4_would M5_would := fun k Ω τ x _ h hx => by
  show P2 k (M4_would x Ω) (M5_would x τ)
  obtain ⟨r, v7, τ1, τ2, t1, t2, t0, t3, hr, t4⟩ := J_try h (x1 := 107) (x2 := x) (D := M5_doKey x) (fun σ τ hs => by rw [take_k]; exact T_key hs hx)
  have hs1 : St (Ω 0) (τ1 0) := by rw [t0]; exact h.1
  have gr : rr_g r := by rcases hr with e | e | e | e <;> rw [e] <;> decide
  obtain ⟨w1, w2⟩ := dk_w hs1 hx t3
  rw [← mc_two h.1 hs1 hx] at w1
  unfold M4_would M5_would
  refine P_ba t1 (P_bb w1 (P_ca gr (P_cb gr ?_)))
  by_cases q : r = 0
  · obtain ⟨τ3, s1, s2, s3, s4, s5, s6, s7, s8⟩ := t4 q
    obtain ⟨i, i0, i1, i2⟩ := w2 q
    obtain ⟨τ4, τ5, y1, y2, y3⟩ := J_rel h s6 s8
    obtain ⟨m, m1, m2, m3⟩ := J_found s3 s4 s5 hx ⟨i, i0, by rw [s2]; exact i1, by rw [s2]; exact i2⟩
    refine P_ta q (P_tb q (P_bb t2 (P_bb t3 (P_bb s1 (P_bb m2 (P_cb (by omega) (P_bb y1 (P_bb y2 ?_))))))))
    refine P_ba (a := τ3 6 m) ?_ (P_ok (y3 v7) rfl)
    show M1_hostNameOfKey x (rr_z Ω 1 v7 1) = _
    rw [z_s]; exact m3
  · exact P_fa q (P_fb q (P_no2 (Ω2 := rr_z Ω 1 v7) h (hr.resolve_left q) (fun j j1 _ => z_n j1) (congrFun (z_n (show (2 : Nat) ≠ 1 by decide)) 0) (congrFun (z_n (show (2 : Nat) ≠ 1 by decide)) 1)))
theorem O_without : rr_k1 Sim M4_without M5_without := fun k Ω τ x _ h hx => by
  show P2 k (M4_without x Ω) (M5_without x τ)
  obtain ⟨r, v7, τ1, τ2, t1, t2, t0, t3, hr, t4⟩ := J_try h (x1 := 103) (x2 := x) (D := M5_doGoes x) (fun σ τ hs => by rw [take_g]; exact T_goes hs hx)
  have hs1 : St (Ω 0) (τ1 0) := by rw [t0]; exact h.1
  have gr : rr_g r := by rcases hr with e | e | e | e <;> rw [e] <;> decide
  unfold M4_without M5_without
  have t5 := t3
  unfold M5_doGoes at t5
  refine P_ba t1 (P_ca gr ?_)
  have no : r ≠ 0 → ∀ B, (B = (M5_refuses r τ).bind (fun v => some (v.1, v.2))) → P2 k (if r = 0 then (M1_movedSince (rr_z Ω 1 v7 1) (rr_z Ω 1 v7 0)).bind (fun v7_1 => some (v7_1, rr_z Ω 1 v7)) else (M4_refuse r (rr_z Ω 1 v7)).bind (fun v5 => some (v5.1, v5.2))) B := fun q B hB => by
    rw [hB]
    exact P_fa q (P_no2 (Ω2 := rr_z Ω 1 v7) h (hr.resolve_left q) (fun j j1 _ => z_n j1) (congrFun (z_n (show (2 : Nat) ≠ 1 by decide)) 0) (congrFun (z_n (show (2 : Nat) ≠ 1 by decide)) 1))
  by_cases q : 0 ≤ x ∧ x < 100
  · rw [(name_y q).2, Option.bind_some, rr_c_pos (show rr_g 1 by decide), if_neg (by decide)] at t5
    refine P_bb (name_y q).2 (P_cb (show rr_g 1 by decide) (P_fb (by decide) ?_))
    rcases M_host h.1 q.1 q.2 with ⟨i, i1, i2, i3, i4, i5⟩ | ⟨i1, i2, i3, i4⟩
    · refine P_bb i5 (P_cb (show rr_g 1 by decide) (P_fb (by decide) (P_bb t2 (P_bb t3 ?_))))
      have q0 : r = 0 := by
        rcases M_host hs1 q.1 q.2 with ⟨j, j1, j2, j3, j4, j5⟩ | ⟨j1, j2, j3, j4⟩
        · rw [j5, Option.bind_some, rr_c_pos (show rr_g 1 by decide), if_neg (by decide), rr_c_pos (by omega)] at t5
          have t6 := Option.some.inj t5
          exact (congrArg Prod.fst t6).symm
        · exact absurd i2 (j1 i (by omega) i1)
      obtain ⟨τ3, s1, s2, s3, s4, s5, s6, s7, s8⟩ := t4 q0
      obtain ⟨τ4, τ5, y1, y2, y3⟩ := J_rel h s6 s8
      have e140 : τ 0 140 = Ω 0 4 0 := h.1.2.2.2.2.2.2.2.2.2.1
      have hkc := h.1.2.1
      refine P_bb s1 (P_bb (M5_moved_e (St_Nu s3) (St_Nu h.1) (fun _ _ _ => rfl) (fun i i0 i1 => s6 i i0 (by omega)) (fun i hi => (s5.2.1 i hi).1) (fun i hi => by rw [s7 i (by omega) (by omega)]; exact (h.2.2.1.2.1 i hi).1)) (P_bb y1 (P_bb y2 (P_ta q0 ?_))))
      refine P_ba (a := sp_M (τ3 0) (τ 0)) ?_ (P_ok (y3 v7) rfl)
      show M1_movedSince (rr_z Ω 1 v7 1) (rr_z Ω 1 v7 0) = _
      rw [z_s, z_n (by decide)]
      exact M1_movedSince_e s3 s4 h.1 h.2.1
    · refine P_bb i4 (P_cb (show rr_g 0 by decide) (P_tb rfl ?_))
      have q0 : r = -3 := by
        rcases M_host hs1 q.1 q.2 with ⟨j, j1, j2, j3, j4, j5⟩ | ⟨j1, j2, j3, j4⟩
        · exact absurd j2 (i1 j (by omega) j1)
        · rw [j4, Option.bind_some, rr_c_pos (show rr_g 0 by decide), if_pos rfl] at t5
          have t6 := Option.some.inj t5
          exact (congrArg Prod.fst t6).symm
      exact no (by rw [q0]; decide) _ (by rw [q0])
  · rw [(name_n hx q).2, Option.bind_some, rr_c_pos (show rr_g 0 by decide), if_pos rfl] at t5
    refine P_bb (name_n hx q).2 (P_cb (show rr_g 0 by decide) (P_tb rfl ?_))
    have q0 : r = -2 := by
      have t6 := Option.some.inj t5
      exact (congrArg Prod.fst t6).symm
    exact no (by rw [q0]; decide) _ (by rw [q0])
/-- the texts -/
theorem O_clear : rr_k0 Sim M4_clear M5_clear := fun k Ω τ _ h => by
  obtain ⟨a, b, c, d, g, i⟩ := h
  refine ⟨_, _, _, rfl, by unfold M5_clear; rw [g.2.1], ?_⟩
  unfold Sim
  rw [z_n (by decide), t_n (by decide)]
  refine ⟨a, b, LM_c c (t_n (by decide)) (t_n (by decide)) (t_n (by decide)) (t_n (by decide)), Hi_c d (z_n (by decide)) (fun j hj => z_n (by omega)) (t_n (by decide)) (t_n (by decide)), ?_, Ct_c i (z_n (by decide)) (t_n (by decide))⟩
  unfold Sc
  rw [z_s, t_s, t_s]
  exact ⟨by decide, rfl, fun i i0 i1 => by omega⟩
theorem O_type : rr_k1 Sim M4_type M5_type := fun k Ω τ x _ h hx => by
  show P2 k (M4_type x Ω) (M5_type x τ)
  unfold M4_type M5_type
  refine P_ca hx ?_
  by_cases q : 0 ≤ x ∧ x ≤ 127
  · refine P_bb (by rw [M5_in_e hx (by decide) (by decide), if_pos q]) (P_cb (show rr_g 1 by decide) (P_fb (by decide) (P_fa (by omega) (P_ta q.2 ?_))))
    obtain ⟨a, b, c, d, g, i⟩ := h
    have hS : Sim k Ω τ := ⟨a, b, c, d, g, i⟩
    obtain ⟨g1, g2, g3⟩ := g
    by_cases q2 : Ω 2 1 0 < 120
    · refine P_ba (a := (1, rr_t (rr_s (Ω 2) 0 (Ω 2 1 0) x) 1 (Ω 2 1 0 + 1))) (by unfold M2_append; rw [rr_c_pos (by omega), if_pos q2, rr_c_pos (by omega)]) (P_ca (show rr_g 1 by decide) (P_fa (show ¬ (1 : Int) = 0 by decide) ?_))
      refine P_cb (by omega) (P_fb (by omega) (P_cb (by omega) (P_ok ?_ ?_)))
      · unfold Sim
        rw [z_n (by decide), t_n (by decide), s_n (by decide)]
        have nn : ∀ j, j ≠ 11 → j ≠ 12 → rr_t (rr_s τ 11 (τ 12 0) x) 12 (τ 12 0 + 1) j = τ j := fun j j1 j2 => by rw [t_n j2, s_n j1]
        refine ⟨a, b, LM_c c (nn 5 (by decide) (by decide)) (nn 6 (by decide) (by decide)) (nn 7 (by decide) (by decide)) (nn 8 (by decide) (by decide)), Hi_c d (z_n (by decide)) (fun j hj => z_n (by omega)) (nn 2 (by decide) (by decide)) (nn 3 (by decide) (by decide)), ?_, Ct_c i (z_n (by decide)) (nn 4 (by decide) (by decide))⟩
        unfold Sc
        rw [z_s]
        show (0 ≤ rr_t (rr_s (Ω 2) 0 (Ω 2 1 0) x) 1 (Ω 2 1 0 + 1) 1 0 ∧ rr_t (rr_s (Ω 2) 0 (Ω 2 1 0) x) 1 (Ω 2 1 0 + 1) 1 0 ≤ 120) ∧ rr_t (rr_s τ 11 (τ 12 0) x) 12 (τ 12 0 + 1) 12 0 = rr_t (rr_s (Ω 2) 0 (Ω 2 1 0) x) 1 (Ω 2 1 0 + 1) 1 0 ∧ ∀ i : Int, 0 ≤ i → i < rr_t (rr_s (Ω 2) 0 (Ω 2 1 0) x) 1 (Ω 2 1 0 + 1) 1 0 → rr_t (rr_s τ 11 (τ 12 0) x) 12 (τ 12 0 + 1) 11 i = rr_t (rr_s (Ω 2) 0 (Ω 2 1 0) x) 1 (Ω 2 1 0 + 1) 0 i ∧ 0 ≤ rr_t (rr_s (Ω 2) 0 (Ω 2 1 0) x) 1 (Ω 2 1 0 + 1) 0 i ∧ rr_t (rr_s (Ω 2) 0 (Ω 2 1 0) x) 1 (Ω 2 1 0 + 1) 0 i ≤ 127
        rw [t_s, t_s, t_n (show (11 : Nat) ≠ 12 by decide), s_s, t_n (show (0 : Nat) ≠ 1 by decide), s_s, g2]
        refine ⟨by omega, rfl, fun i i0 i1 => ?_⟩
        rw [u_e, u_e]
        by_cases q3 : i = Ω 2 1 0
        · rw [if_pos q3, if_pos q3]; exact ⟨rfl, q⟩
        · rw [if_neg q3, if_neg q3]; exact g3 i i0 (by omega)
      · show rr_t (rr_s (Ω 2) 0 (Ω 2 1 0) x) 1 (Ω 2 1 0 + 1) 1 0 = _
        rw [t_s]; omega
    · refine P_ba (a := (0, Ω 2)) (by unfold M2_append; rw [rr_c_pos (by omega), if_neg q2]) (P_ca (show rr_g 0 by decide) (P_ta (show (0 : Int) = 0 from rfl) ?_))
      refine P_cb (by omega) (P_tb (by omega) ?_)
      refine P_no2 hS (by decide) (fun j j1 j2 => z_n j2) ?_ ?_
      · show rr_z Ω 2 (Ω 2) 2 0 = _; rw [z_s]
      · show rr_z Ω 2 (Ω 2) 2 1 = _; rw [z_s]
  · refine P_bb (by rw [M5_in_e hx (by decide) (by decide), if_neg q]) (P_cb (show rr_g 0 by decide) (P_tb rfl ?_))
    by_cases q2 : x < 0
    · exact P_ta q2 (P_no h (by decide))
    · exact P_fa q2 (P_fa (by omega) (P_no h (by decide)))
/-- what was told -/
theorem M5_toldOf_e {k : Nat} {Ω : Nat → rr_T} {τ : rr_T} (h : Sim k Ω τ) {x : Int} (hx : 0 ≤ x ∧ x ≤ 4) : M5_toldOf x τ = some (if x = 0 then Ω 3 0 0 else if x = 1 then Ω 3 1 0 else if x = 2 then Ω 3 2 0 else if x = 3 then Ω 2 1 0 else Ω 9 0 0) := by
  obtain ⟨a, b, c, d, g, i⟩ := h
  have i0 := i.1.1; have i1 := i.2.1.1; have i2 := i.2.2.1; have g2 := g.2.1; have d2 := d.2.1
  apply wp_eq
  unfold M5_toldOf
  refine wp_c (show rr_g x by omega) ?_
  have hc : x = 0 ∨ x = 1 ∨ x = 2 ∨ x = 3 ∨ x = 4 := by omega
  rcases hc with rfl | rfl | rfl | rfl | rfl
  · exact wp_f (by decide) (wp_c (by decide) (wp_some (by rw [if_pos rfl, i0])))
  · exact wp_f (by decide) (wp_c (by decide) (wp_some (by rw [if_neg (by decide), if_pos rfl, i1])))
  · exact wp_f (by decide) (wp_c (by decide) (wp_some (by rw [if_neg (by decide), if_neg (by decide), if_pos rfl, i2])))
  · exact wp_t (by decide) (wp_t rfl (wp_some (by rw [if_neg (by decide), if_neg (by decide), if_neg (by decide), if_pos rfl, g2])))
  · exact wp_t (by decide) (wp_f (by decide) (wp_some (by rw [if_neg (by decide), if_neg (by decide), if_neg (by decide), if_neg (by decide), d2])))
theorem O_told : rr_k1 Sim M4_told M5_told := fun k Ω τ x _ h hx => by
  show P2 k (M4_told x Ω) (M5_told x τ)
  unfold M4_told M5_told
  refine P_ca hx ?_
  by_cases q : 0 ≤ x ∧ x ≤ 4
  · refine P_bb (by rw [M5_in_e hx (by decide) (by decide), if_pos q]) (P_cb (show rr_g 1 by decide) (P_fb (by decide) (P_bb (M5_toldOf_e h q) ?_)))
    have hc : x = 0 ∨ x = 1 ∨ x = 2 ∨ x = 3 ∨ x = 4 := by omega
    rcases hc with rfl | rfl | rfl | rfl | rfl
    · exact P_ta rfl (P_ok (Sim_up h) (by rw [if_pos rfl]))
    · exact P_fa (by decide) (P_ta rfl (P_ok (Sim_up h) (by rw [if_neg (by decide), if_pos rfl])))
    · exact P_fa (by decide) (P_fa (by decide) (P_ta rfl (P_ok (Sim_up h) (by rw [if_neg (by decide), if_neg (by decide), if_pos rfl]))))
    · exact P_fa (by decide) (P_fa (by decide) (P_fa (by decide) (P_ta rfl (P_ok (Sim_up h) (by rw [if_neg (by decide), if_neg (by decide), if_neg (by decide), if_pos rfl])))))
    · exact P_fa (by decide) (P_fa (by decide) (P_fa (by decide) (P_fa (by decide) (P_ta rfl (P_ok (Sim_up h) (by rw [if_neg (by decide), if_neg (by decide), if_neg (by decide), if_neg (by decide)]))))))
  · refine P_bb (by rw [M5_in_e hx (by decide) (by decide), if_neg q]) (P_cb (show rr_g 0 by decide) (P_tb rfl ?_))
    exact P_fa (by omega) (P_fa (by omega) (P_fa (by omega) (P_fa (by omega) (P_fa (by omega) (P_no h (by decide))))))
/-- back -/
theorem w_back_26 {τ0 : rr_T} {s : Nat} (hs : s ≤ 4) (e3 : τ0 3 0 = s) {K : rr_T → Option (Int × rr_T)} {P : Int × rr_T → Prop} (hK : ∀ τ : rr_T, (∀ k, k ≠ 0 → τ k = τ0 k) → (∀ i : Int, 0 ≤ i → i < 143 → τ 0 i = τ0 2 (143 * s + i)) → rr_wp (K τ) P) : ∀ (d n m : Nat) (τ : rr_T), m + d = 143 → d < n → (∀ k, k ≠ 0 → τ k = τ0 k) → (∀ i : Int, 0 ≤ i → i < m → τ 0 i = τ0 2 (143 * s + i)) → rr_wp (L5_back_26 K n m τ) P := by
  intro d
  induction d with
  | zero =>
    intro n m τ h1 h2 h3 h4
    cases n with
    | zero => omega
    | succ n =>
      rw [L5_back_26_s]
      exact wp_c (by omega) (wp_t (by omega) (hK τ h3 (fun i a b => h4 i a (by omega))))
  | succ d ih =>
    intro n m τ h1 h2 h3 h4
    cases n with
    | zero => omega
    | succ n =>
      have t3 : τ 3 0 = s := by rw [h3 3 (by decide)]; exact e3
      have t2 : τ 2 = τ0 2 := h3 2 (by decide)
      rw [L5_back_26_s]
      refine wp_c (by omega) (wp_f (by omega) (wp_c (by omega) (wp_c (by omega) ?_)))
      rw [show (m : Int) + 1 = ((m + 1 : Nat) : Int) by omega]
      refine ih n (m + 1) _ (by omega) (by omega) (fun k hk => by rw [s_n hk, h3 k hk]) (fun i a b => ?_)
      rw [s_s, u_e]
      by_cases q : i = m
      · rw [if_pos q, t2, t3, q]
      · rw [if_neg q]; exact h4 i a (by omega)
theorem M0_takeBack_w {Ω : Nat → rr_T} {s : Nat} (hs : s ≤ 4) (e : Ω 9 0 0 = s + 1) {ν : Int → Int} (h : St (Ω (4 + s)) ν) : ∃ v : rr_T, M0_takeBack Ω (Ω 0) = some (rr_z Ω 9 (rr_t (Ω 9) 0 s), v) ∧ St v ν := by
  obtain ⟨v, v1, v2, v3⟩ := M3_copyFrom_St (Ω 0) (Ω (4 + s)) h
  refine ⟨v, ?_, v3⟩
  apply wp_eq
  unfold M0_takeBack
  refine wp_c (by omega) (wp_f (by omega) ?_)
  have es : Ω 9 0 0 - 1 = s := by omega
  rw [es]
  match s, hs with
  | 0, _ => exact wp_t rfl (wp_be v1 (wp_some rfl))
  | 1, _ => exact wp_f (by decide) (wp_t rfl (wp_be v1 (wp_some rfl)))
  | 2, _ => exact wp_f (by decide) (wp_f (by decide) (wp_t rfl (wp_be v1 (wp_some rfl))))
  | 3, _ => exact wp_f (by decide) (wp_f (by decide) (wp_f (by decide) (wp_t rfl (wp_be v1 (wp_some rfl)))))
  | 4, _ => exact wp_f (by decide) (wp_f (by decide) (wp_f (by decide) (wp_f (by decide) (wp_t rfl (wp_be v1 (wp_some rfl))))))
  | s + 5, hs => omega
theorem O_back : rr_k0 Sim M4_back M5_back := fun k Ω τ _ h => by
  show P2 k (M4_back Ω) (M5_back τ)
  obtain ⟨a, b, c, d, g, i⟩ := h
  have hS : Sim k Ω τ := ⟨a, b, c, d, g, i⟩
  obtain ⟨d1, d2, d3⟩ := d
  unfold M4_back M5_back
  refine P_ca (by omega) (P_cb (by omega) ?_)
  by_cases q : Ω 9 0 0 = 0
  · exact P_ta q (P_tb (by omega) (P_no hS (by decide)))
  · refine P_fa q (P_fb (by omega) ?_)
    obtain ⟨s, hs⟩ : ∃ s : Nat, Ω 9 0 0 = s + 1 := ⟨(Ω 9 0 0 - 1).toNat, by omega⟩
    have hst := d3 s (by omega)
    obtain ⟨v, v1, v2⟩ := M0_takeBack_w (by omega) hs hst
    obtain ⟨v5, l1, l2, l3⟩ := M1_lay_w (St_m (ρ := Ω 0) v2)
    have e31 : τ 3 0 - 1 = s := by omega
    have hB : rr_wp (L5_back_26 (fun σ_26 => (M5_lay σ_26).bind (fun v7 => some ((v7 3 0), v7))) 1000 0 (rr_t τ 3 ((τ 3 0) - 1))) (fun p => p.1 = s ∧ (∀ j, j = 2 ∨ j = 4 ∨ j = 11 ∨ j = 12 → p.2 j = τ j) ∧ p.2 3 0 = s ∧ (∀ i : Int, 0 ≤ i → i < 143 → p.2 0 i = τ 2 (143 * s + i)) ∧ LM p.2 (p.2 0)) := by
      refine w_back_26 (τ0 := rr_t τ 3 ((τ 3 0) - 1)) (s := s) (by omega) (by rw [t_s]; exact e31) (fun τ2 k2 e2 => ?_) 143 1000 0 _ (by omega) (by omega) (fun _ _ => rfl) (fun i a b => by omega)
      have hs2 : St (Ω (4 + s)) (τ2 0) := St_cong (fun i i0 i1 => by rw [e2 i i0 i1, t_n (by decide)]) hst
      obtain ⟨τ3, m1, m2, m3⟩ := M5_lay_w (St_Nu hs2)
      have m0 : τ3 0 = τ2 0 := m2 0 (by decide) (by decide) (by decide) (by decide)
      have m33 : τ3 3 0 = s := by rw [m2 3 (by decide) (by decide) (by decide) (by decide), k2 3 (by decide), t_s]; exact e31
      refine wp_be m1 (wp_some ⟨m33, fun j hj => ?_, m33, fun i i0 i1 => ?_, ?_⟩)
      · show τ3 j = τ j
        rw [m2 j (by omega) (by omega) (by omega) (by omega), k2 j (by omega), t_n (by omega)]
      · show τ3 0 i = _
        rw [m0, e2 i i0 i1, t_n (by decide)]
      · show LM τ3 (τ3 0)
        rw [m0]; exact m3
    obtain ⟨⟨r, τ3⟩, f1, f2, f3, f4, f5, f6⟩ := hB
    have f2' : r = s := f2
    refine P_ba v1 (P_ba l1 ?_)
    rw [f1, f2']
    refine P_ok ?_ ?_
    · have hs3 : St v5 (τ3 0) := St_cong (fun i i0 i1 => (f5 i i0 i1).symm) (St_7 l2 (St_m v2))
      have hag : ∀ i : Int, 0 ≤ i → i < 142 → τ 2 (143 * s + i) = τ3 0 i := fun i i0 i1 => (f5 i i0 (by omega)).symm
      unfold Sim
      refine ⟨hs3, LC_cong (St_7 l2 (St_m v2)) hag (fun _ _ => rfl) l3, f6, ⟨?_, ?_, fun j hj => ?_⟩, Sc_c g ?_ ?_ (f3 11 (by decide)) (f3 12 (by decide)), Ct_c i ?_ (f3 4 (by decide))⟩
      · show 0 ≤ rr_t (Ω 9) 0 s 0 0 ∧ rr_t (Ω 9) 0 s 0 0 ≤ 5
        rw [t_s]; omega
      · show τ3 3 0 = rr_t (Ω 9) 0 s 0 0
        rw [t_s]; exact f4
      · have hj2 : (j : Int) < s := by
          have : (j : Int) < rr_t (Ω 9) 0 s 0 0 := hj
          rw [t_s] at this; exact this
        have hjj := d3 j (by omega)
        have e2 : τ3 2 = τ 2 := f3 2 (by decide)
        rw [e2]
        match j, hj2 with
        | 0, _ => exact hjj
        | 1, _ => exact hjj
        | 2, _ => exact hjj
        | 3, _ => exact hjj
        | j + 4, hj2 => omega
      · rfl
      · rfl
      · rfl
    · show rr_z Ω 9 (rr_t (Ω 9) 0 s) 9 0 0 = s
      rw [z_s, t_s]
