/-- what laying leaves in a ring -/
def LC (σ : rr_T) (ν : Int → Int) : Prop := Rel σ (σ 0) (σ 3 0) (sp_o ν 100) ∧ (∀ m : Int, 0 ≤ m → m < σ 3 0 → σ 9 m = sp_b ν (σ 0 m) ∧ σ 10 m = sp_l ν (ν 140).toNat (σ 0 m)) ∧ (∀ i : Nat, (i : Int) < ν 140 → (σ 3 0 = 0 → σ 11 i = -1 ∧ σ 12 i = -1 ∧ σ 13 i = -1) ∧ (0 < σ 3 0 → 0 ≤ σ 11 i ∧ σ 11 i < σ 3 0 ∧ σ 0 (σ 11 i) = sp_h ν i ∧ σ 12 i = sp_p ν i ∧ σ 13 i = sp_t ν i)) ∧ MP σ σ ν (σ 3 0).toNat 0
theorem w_setBounds_13 {σ0 : rr_T} {ν : Int → Int} (h : St σ0 ν) (h0 : 0 < σ0 3 0) {K : rr_T → Option rr_T} {P : rr_T → Prop} (hK : ∀ σ : rr_T, (∀ k, k ≠ 9 → k ≠ 10 → σ k = σ0 k) → (∀ m : Int, 0 ≤ m → m < σ0 3 0 → σ 9 m = sp_b ν (σ0 0 m) ∧ σ 10 m = 0) → rr_wp (K σ) P) : ∀ (d n m : Nat) (σ : rr_T), m + d = (σ0 3 0).toNat → d < n → (∀ k, k ≠ 9 → k ≠ 10 → σ k = σ0 k) → (∀ a : Int, 0 ≤ a → a < m → σ 9 a = sp_b ν (σ0 0 a) ∧ σ 10 a = 0) → rr_wp (L1_setBounds_13 (100 * ps_sm ν 100) K n m σ) P := by
  have hhc := h.1
  have hNu := St_Nu h
  have hz := St_zero h
  have hby := sp_by_r hNu
  unfold sp_by at hby
  have hpos : 0 < 100 * ps_sm ν 100 := by
    have : ps_sm ν 100 ≠ 0 := fun e => by have := hz.mp e; omega
    omega
  intro d
  induction d with
  | zero =>
    intro n m σ h1 h2 hk hp
    cases n with
    | zero => omega
    | succ n =>
      rw [L1_setBounds_13_s, hk 3 (by decide) (by decide)]
      exact wp_c (by omega) (wp_t (by omega) (hK σ hk (fun a a0 a1 => hp a a0 (by omega))))
  | succ d ih =>
    intro n m σ h1 h2 hk hp
    cases n with
    | zero => omega
    | succ n =>
      obtain ⟨n0, n1, w1, w4, ew⟩ := h.2.2.2.2.1 m (by omega) (by omega)
      obtain ⟨-, -, -, -, -, -, -, -, -, e140, e141, -⟩ := h
      have ab := sp_above hNu n0 n1
      rw [ew, e140, e141] at ab
      rw [L1_setBounds_13_s, hk 3 (by decide) (by decide), hk 4 (by decide) (by decide), hk 1 (by decide) (by decide), hk 5 (by decide) (by decide)]
      refine wp_c (by omega) (wp_f (by omega) (wp_c (by omega) (wp_f (by omega) (wp_c (by omega) (wp_c ⟨⟨by omega, by omega⟩, ⟨by omega, by omega⟩⟩ ?_)))))
      refine ih n (m + 1) _ (by omega) (by omega) (fun k k9 k10 => by rw [s_n k10, s_n k9, hk k k9 k10]) (fun a a0 a1 => ?_)
      rw [s_n (by decide : (9 : Nat) ≠ 10), s_s, s_s, u_e, u_e]
      by_cases ea : a = m
      · rw [if_pos ea, if_pos ea, ea]
        refine ⟨?_, rfl⟩
        unfold sp_b sp_by
        rw [if_neg (by omega), ew, e140, e141]
      · rw [if_neg ea, if_neg ea, s_n (by decide : (10 : Nat) ≠ 9)]
        exact hp a a0 (by omega)
theorem M1_setBounds_w {σ0 : rr_T} {ν : Int → Int} (h : St σ0 ν) : rr_wp (M1_setBounds σ0) (fun σ => (∀ k, k ≠ 9 → k ≠ 10 → σ k = σ0 k) ∧ (∀ m : Int, 0 ≤ m → m < σ0 3 0 → σ 9 m = sp_b ν (σ0 0 m) ∧ σ 10 m = 0)) := by
  unfold M1_setBounds
  have hhc := h.1
  refine wp_be (M3_allWeights_e h) ?_
  rcases Int.lt_or_eq_of_le hhc.1 with q | q
  · exact w_setBounds_13 h q (fun σ a b => wp_some ⟨a, b⟩) (σ0 3 0).toNat 1000 0 σ0 (by omega) (by omega) (fun _ _ _ => rfl) (fun a a0 a1 => by omega)
  · show rr_wp (L1_setBounds_13 _ _ (999 + 1) 0 σ0) _
    rw [L1_setBounds_13_s]
    exact wp_c (by omega) (wp_t (by omega) (wp_some ⟨fun _ _ _ => rfl, fun m a b => by omega⟩))
theorem M1_placeOfKey_e {σ : rr_T} {i : Int} (h : 0 ≤ i ∧ i < 40) (hk : 0 ≤ σ 2 i ∧ σ 2 i ≤ 999) : M1_placeOfKey i σ = some ((53 * σ 2 i + 17) % 101) := by
  unfold M1_placeOfKey
  rw [rr_c_pos h, rr_c_pos (by omega)]
/-- a key's search in a ring -/
theorem L1_layKey_e {σ : rr_T} {N ν : Int → Int} {hc : Int} (h6 : hc ≤ 6) (hR : Rel σ N hc (sp_o ν 100)) {ld : Int → Int} (hb : ∀ m : Int, 0 ≤ m → m < hc → σ 9 m = sp_b ν (N m) ∧ σ 10 m = ld (N m)) (hg : ∀ m : Int, 0 ≤ m → m < hc → (0 ≤ sp_b ν (N m) ∧ sp_b ν (N m) ≤ 50400) ∧ (0 ≤ ld (N m) ∧ ld (N m) ≤ 40)) {K : Option rr_T} {i : Int} (hi : 0 ≤ i ∧ i < 40) {p : Int} (p0 : 0 ≤ p) (p1 : p < 101) {t : Nat} (ht : t < 101) (a2 : sp_R ν ld ((p + t) % 101) = true) (a3 : ∀ s : Nat, s < t → sp_R ν ld ((p + s) % 101) = false) : ∀ (d n s : Nat), s + d = t → d < n → L1_layKey_32 σ i K n ((p + s) % 101) (sp_pc (sp_o ν 100) p s) s = some (rr_s (rr_s (rr_s (rr_s σ 11 i (σ 7 ((p + t) % 101))) 12 i (sp_pc (sp_o ν 100) p t)) 13 i t) 10 (σ 7 ((p + t) % 101)) (σ 10 (σ 7 ((p + t) % 101)) + 1)) := by
  intro d
  induction d with
  | zero =>
    intro n s h1 h2
    cases n with
    | zero => omega
    | succ n =>
      have : s = t := by omega
      subst this
      have f : ¬ sp_o ν 100 ((p + s) % 101) = -1 ∧ ld (sp_o ν 100 ((p + s) % 101)) < sp_b ν (sp_o ν 100 ((p + s) % 101)) := of_decide_eq_true a2
      rcases hR ((p + s) % 101) (by omega) (by omega) with r | r
      · exact absurd r.2 f.1
      · obtain ⟨b1, b2⟩ := hb _ r.1 r.2.1
        obtain ⟨g1, g2⟩ := hg _ r.1 r.2.1
        rw [r.2.2.1] at f
        rw [L1_layKey_32_s, rr_c_pos (by omega), if_neg (by omega), rr_c_pos (by omega), rr_c_pos (by omega), if_neg (by omega), rr_c_pos ⟨r.1, by omega⟩, rr_c_pos (by omega), if_neg (by omega), rr_c_pos hi]
  | succ d ih =>
    intro n s h1 h2
    cases n with
    | zero => omega
    | succ n =>
      have f : ¬ (¬ sp_o ν 100 ((p + s) % 101) = -1 ∧ ld (sp_o ν 100 ((p + s) % 101)) < sp_b ν (sp_o ν 100 ((p + s) % 101))) := of_decide_eq_false (a3 s (by omega))
      have ihh := ih n (s + 1) (by omega) (by omega)
      rw [← ihh]
      have ep : (p + ((s + 1 : Nat) : Int)) % 101 = ((p + s) % 101 + 1) % 101 := by omega
      rw [ep]
      rcases hR ((p + s) % 101) (by omega) (by omega) with r | r
      · rw [L1_layKey_32_s, r.1, rr_c_pos (by omega), if_neg (by omega), rr_c_pos (by omega), rr_c_pos (by omega), if_pos rfl, if_pos rfl, M1_placeBehind_e (by omega), Option.bind_some]
        show _ = L1_layKey_32 σ i K n _ (sp_pc (sp_o ν 100) p s + (if sp_o ν 100 ((p + s) % 101) = -1 then 0 else 1)) _
        rw [if_pos r.2]
        congr 1
        omega
      · obtain ⟨b1, b2⟩ := hb _ r.1 r.2.1
        obtain ⟨g1, g2⟩ := hg _ r.1 r.2.1
        have f2 : sp_b ν (N (σ 7 ((p + s) % 101))) ≤ ld (N (σ 7 ((p + s) % 101))) := by
          rcases Int.lt_or_le (ld (N (σ 7 ((p + s) % 101)))) (sp_b ν (N (σ 7 ((p + s) % 101)))) with z | z
          · exact absurd ⟨by omega, by rw [r.2.2.1]; exact z⟩ f
          · exact z
        rw [L1_layKey_32_s, rr_c_pos (by omega), if_neg (by omega), rr_c_pos (by omega), rr_c_pos (by omega), if_neg (by omega), rr_c_pos ⟨r.1, by omega⟩, rr_c_pos (by omega), if_pos (by omega), if_neg (by omega), M1_placeBehind_e (by omega), Option.bind_some]
        show _ = L1_layKey_32 σ i K n _ (sp_pc (sp_o ν 100) p s + (if sp_o ν 100 ((p + s) % 101) = -1 then 0 else 1)) _
        rw [if_neg (by omega)]
        rfl
/-- a key's search where there are no hosts -/
theorem L1_layKey_n {σ : rr_T} (hR : ∀ p : Int, 0 ≤ p → p < 101 → σ 7 p = -1) {K : Option rr_T} {i : Int} : ∀ (d n s : Nat) (p x : Int), s + d = 101 → d < n → 0 ≤ p → p < 101 → L1_layKey_32 σ i K n p x s = K := by
  intro d
  induction d with
  | zero =>
    intro n s p x h1 h2 p0 p1
    cases n with
    | zero => omega
    | succ n => rw [L1_layKey_32_s, rr_c_pos (by omega), if_pos (by omega)]
  | succ d ih =>
    intro n s p x h1 h2 p0 p1
    cases n with
    | zero => omega
    | succ n =>
      rw [L1_layKey_32_s, hR p p0 p1, rr_c_pos (by omega), if_neg (by omega), rr_c_pos (by omega), rr_c_pos (by omega), if_pos rfl, if_pos rfl, M1_placeBehind_e (by omega), Option.bind_some]
      exact ih n (s + 1) _ _ (by omega) (by omega) (by omega) (by omega)
/-- the keys below i have been laid -/
def KL (σ σ0 : rr_T) (ν : Int → Int) (i : Nat) : Prop := (∀ m : Int, 0 ≤ m → m < σ0 3 0 → σ 9 m = sp_b ν (σ0 0 m) ∧ σ 10 m = sp_l ν i (σ0 0 m)) ∧ (∀ j : Nat, j < i → (σ0 3 0 = 0 → σ 11 j = -1 ∧ σ 12 j = -1 ∧ σ 13 j = -1) ∧ (0 < σ0 3 0 → 0 ≤ σ 11 j ∧ σ 11 j < σ0 3 0 ∧ σ0 0 (σ 11 j) = sp_h ν j ∧ σ 12 j = sp_p ν j ∧ σ 13 j = sp_t ν j))
theorem M1_layKey_w {σ0 : rr_T} {ν : Int → Int} (h : St σ0 ν) (i : Nat) (hi : (i : Int) < σ0 4 0) {σ : rr_T} (hk : ∀ k, k < 7 → σ k = σ0 k) (hR : Rel σ (σ0 0) (σ0 3 0) (sp_o ν 100)) (hL : KL σ σ0 ν i) : rr_wp (M1_layKey i σ) (fun σ2 => (∀ k, k < 9 → σ2 k = σ k) ∧ KL σ2 σ0 ν (i + 1)) := by
  have hNu := St_Nu h
  have hz := St_zero h
  have hinj := fun {a b : Int} => St_inj h (i := a) (j := b)
  obtain ⟨hhc, hkc, hex, hmv, hN, hS, hZ, hKy, hKs, e140, e141, e142⟩ := h
  have hky := hKy i (by omega) hi
  unfold M1_layKey
  refine wp_c (by omega) ?_
  generalize hσ1 : rr_s (rr_s (rr_s σ 11 i (-1)) 12 i (-1)) 13 i (-1) = σ1
  have e1 : ∀ k, k ≠ 11 → k ≠ 12 → k ≠ 13 → σ1 k = σ k := fun k a b c => by rw [← hσ1, s_n c, s_n b, s_n a]
  have e2 : σ1 2 = σ0 2 := by rw [e1 2 (by decide) (by decide) (by decide), hk 2 (by decide)]
  refine wp_be (M1_placeOfKey_e (σ := σ1) (by omega) (by rw [e2]; omega)) ?_
  rw [e2, show (53 * σ0 2 i + 17) % 101 = sp_k ν i by unfold sp_k; rw [hky.2.2]]
  have kr := sp_k_r ν i
  have e11 : ∀ j : Int, σ1 11 j = if j = i then -1 else σ 11 j := fun j => by rw [← hσ1, s_n (by decide), s_n (by decide), s_s, u_e]
  have e12 : ∀ j : Int, σ1 12 j = if j = i then -1 else σ 12 j := fun j => by rw [← hσ1, s_n (by decide), s_s, u_e, s_n (by decide)]
  have e13 : ∀ j : Int, σ1 13 j = if j = i then -1 else σ 13 j := fun j => by rw [← hσ1, s_s, u_e, s_n (by decide), s_n (by decide)]
  rcases Int.lt_or_eq_of_le hhc.1 with q | q
  · have hw : ps_sm ν 100 ≠ 0 := fun e => by have := hz.mp e; omega
    obtain ⟨a1, a2, a3⟩ := sp_found hNu hw i (by omega)
    have hR1 : Rel σ1 (σ0 0) (σ0 3 0) (sp_o ν 100) := fun p p0 p1 => by rw [e1 7 (by decide) (by decide) (by decide)]; exact hR p p0 p1
    have hb1 : ∀ m : Int, 0 ≤ m → m < σ0 3 0 → σ1 9 m = sp_b ν (σ0 0 m) ∧ σ1 10 m = sp_l ν i (σ0 0 m) := fun m m0 m1 => by
      rw [e1 9 (by decide) (by decide) (by decide), e1 10 (by decide) (by decide) (by decide)]
      exact hL.1 m m0 m1
    have hg : ∀ m : Int, 0 ≤ m → m < σ0 3 0 → (0 ≤ sp_b ν (σ0 0 m) ∧ sp_b ν (σ0 0 m) ≤ 50400) ∧ (0 ≤ sp_l ν i (σ0 0 m) ∧ sp_l ν i (σ0 0 m) ≤ 40) := fun m m0 m1 => by
      have hm := hN m m0 m1
      refine ⟨⟨sp_b_nn hNu hm.1 hm.2.1, sp_b_le hNu hm.1 hm.2.1⟩, ⟨sp_l_nn _ _ _, ?_⟩⟩
      have := sp_l_le ν i (σ0 0 m)
      omega
    have e := L1_layKey_e (by omega) hR1 hb1 hg (K := some σ1) (i := i) (by omega) kr.1 kr.2 a1 a2 a3 (sp_t ν i) 1000 0 (by omega) (by omega)
    rw [show (sp_k ν i + ((0 : Nat) : Int)) % 101 = sp_k ν i by omega] at e
    refine wp_e e ?_
    show (∀ k, k < 9 → rr_s (rr_s (rr_s (rr_s σ1 11 i (σ1 7 (sp_q ν i))) 12 i (sp_p ν i)) 13 i (sp_t ν i)) 10 (σ1 7 (sp_q ν i)) (σ1 10 (σ1 7 (sp_q ν i)) + 1) k = σ k) ∧ KL (rr_s (rr_s (rr_s (rr_s σ1 11 i (σ1 7 (sp_q ν i))) 12 i (sp_p ν i)) 13 i (sp_t ν i)) 10 (σ1 7 (sp_q ν i)) (σ1 10 (σ1 7 (sp_q ν i)) + 1)) σ0 ν (i + 1)
    have qr := sp_q_r ν i
    have qh := sp_q_host hNu hw i (by omega)
    have r := hR1 (sp_q ν i) qr.1 qr.2
    have r2 : 0 ≤ σ1 7 (sp_q ν i) ∧ σ1 7 (sp_q ν i) < σ0 3 0 ∧ sp_o ν 100 (sp_q ν i) = σ0 0 (σ1 7 (sp_q ν i)) := by
      rcases r with r | r
      · omega
      · exact ⟨r.1, r.2.1, r.2.2.1⟩
    generalize hmm : σ1 7 (sp_q ν i) = mm at r2
    refine ⟨fun k hk9 => by rw [s_n (by omega), s_n (by omega), s_n (by omega), s_n (by omega), e1 k (by omega) (by omega) (by omega)], fun m m0 m1 => ?_, fun j hj => ⟨fun z => by omega, fun _ => ?_⟩⟩
    · rw [s_n (by decide : (9 : Nat) ≠ 10), s_n (by decide : (9 : Nat) ≠ 13), s_n (by decide : (9 : Nat) ≠ 12), s_n (by decide : (9 : Nat) ≠ 11), s_s, u_e, s_n (by decide : (10 : Nat) ≠ 13), s_n (by decide : (10 : Nat) ≠ 12), s_n (by decide : (10 : Nat) ≠ 11), sp_l_s, if_neg hw, u_e, r2.2.2]
      refine ⟨(hb1 m m0 m1).1, ?_⟩
      by_cases em : m = mm
      · rw [if_pos em, if_pos (by rw [em]), (hb1 mm r2.1 r2.2.1).2]
      · rw [if_neg em, if_neg (fun e => em (hinj m0 m1 r2.1 r2.2.1 e)), (hb1 m m0 m1).2]
    · rw [s_n (by decide : (11 : Nat) ≠ 10), s_n (by decide : (11 : Nat) ≠ 13), s_n (by decide : (11 : Nat) ≠ 12), s_s, s_n (by decide : (12 : Nat) ≠ 10), s_n (by decide : (12 : Nat) ≠ 13), s_s, s_n (by decide : (13 : Nat) ≠ 10), s_s, u_e, u_e, u_e, s_n (by decide : (12 : Nat) ≠ 11), s_n (by decide : (13 : Nat) ≠ 12), s_n (by decide : (13 : Nat) ≠ 11), e11, e12, e13]
      by_cases ej : j = i
      · subst ej
        rw [if_pos rfl, if_pos rfl, if_pos rfl]
        refine ⟨r2.1, r2.2.1, ?_, rfl, rfl⟩
        unfold sp_h
        rw [if_neg hw, r2.2.2]
      · have ej2 : ¬ (j : Int) = i := by omega
        rw [if_neg ej2, if_neg ej2, if_neg ej2, if_neg ej2, if_neg ej2, if_neg ej2]
        exact (hL.2 j (by omega)).2 q
  · have hno : ∀ p : Int, 0 ≤ p → p < 101 → σ1 7 p = -1 := fun p p0 p1 => by
      rw [e1 7 (by decide) (by decide) (by decide)]
      rcases hR p p0 p1 with r | r <;> omega
    rw [show ((0 : Int)) = ((0 : Nat) : Int) from rfl, L1_layKey_n hno 101 1000 0 _ _ (by omega) (by omega) kr.1 kr.2]
    refine wp_some ⟨fun k hk9 => e1 k (by omega) (by omega) (by omega), fun m m0 m1 => by omega, fun j hj => ⟨fun _ => ?_, fun z => by omega⟩⟩
    rw [e11, e12, e13]
    by_cases ej : j = i
    · subst ej
      rw [if_pos rfl, if_pos rfl, if_pos rfl]
      exact ⟨rfl, rfl, rfl⟩
    · have ej2 : ¬ (j : Int) = i := by omega
      rw [if_neg ej2, if_neg ej2, if_neg ej2]
      exact (hL.2 j (by omega)).1 q.symm
theorem w_lay_10 {σ0 : rr_T} {ν : Int → Int} (h : St σ0 ν) {K : rr_T → Option rr_T} {P : rr_T → Prop} {σ1 : rr_T} (hk1 : ∀ k, k < 7 → σ1 k = σ0 k) (hR1 : Rel σ1 (σ0 0) (σ0 3 0) (sp_o ν 100)) (hK : ∀ σ : rr_T, (∀ k, k < 9 → σ k = σ1 k) → KL σ σ0 ν (σ0 4 0).toNat → rr_wp (K σ) P) : ∀ (d n i : Nat) (σ : rr_T), i + d = (σ0 4 0).toNat → d < n → (∀ k, k < 9 → σ k = σ1 k) → KL σ σ0 ν i → rr_wp (L1_lay_10 K n i σ) P := by
  have hkc := h.2.1
  intro d
  induction d with
  | zero =>
    intro n i σ h1 h2 hk hL
    cases n with
    | zero => omega
    | succ n =>
      have ei : i = (σ0 4 0).toNat := by omega
      rw [L1_lay_10_s, hk 4 (by decide), hk1 4 (by decide)]
      exact wp_c (by omega) (wp_t (by omega) (hK σ hk (ei ▸ hL)))
  | succ d ih =>
    intro n i σ h1 h2 hk hL
    cases n with
    | zero => omega
    | succ n =>
      rw [L1_lay_10_s, hk 4 (by decide), hk1 4 (by decide)]
      refine wp_c (by omega) (wp_f (by omega) ?_)
      refine wp_b (wp_mono (M1_layKey_w h i (by omega) (fun k a => by rw [hk k (by omega), hk1 k a]) (fun p p0 p1 => by rw [hk 7 (by decide)]; exact hR1 p p0 p1) hL) (fun σ2 ⟨a, b⟩ => ?_))
      exact ih n (i + 1) σ2 (by omega) (by omega) (fun k c => by rw [a k c, hk k c]) b
/-- the class's laying -/
theorem M1_lay_w {σ0 : rr_T} {ν : Int → Int} (h : St σ0 ν) : rr_wp (M1_lay σ0) (fun σ => (∀ k, k < 7 → σ k = σ0 k) ∧ LC σ ν) := by
  unfold M1_lay
  have hhc := h.1
  have hkc := h.2.1
  have e140 : ν 140 = σ0 4 0 := h.2.2.2.2.2.2.2.2.2.1
  refine wp_b (wp_mono (M1_setMarks_w h) (fun σ1 ⟨hk1, hR1, hM1⟩ => ?_))
  have hSt1 : St σ1 ν := by
    have e : ∀ k, k < 7 → σ1 k = σ0 k := fun k hk => hk1 k (by omega) (by omega)
    unfold St
    rw [e 0 (by decide), e 1 (by decide), e 2 (by decide), e 3 (by decide), e 4 (by decide), e 5 (by decide), e 6 (by decide)]
    exact h
  refine wp_b (wp_mono (M1_setBounds_w hSt1) (fun σ2 ⟨hk2, hB2⟩ => ?_))
  have e10 : σ1 0 = σ0 0 := hk1 0 (by decide) (by decide)
  have e13 : σ1 3 = σ0 3 := hk1 3 (by decide) (by decide)
  rw [e10, e13] at hB2
  refine w_lay_10 h (σ1 := σ2) (fun k a => by rw [hk2 k (by omega) (by omega), hk1 k (by omega) (by omega)]) (fun p p0 p1 => by rw [hk2 7 (by decide) (by decide)]; exact hR1 p p0 p1) (fun σ3 hk3 hL3 => ?_) (σ0 4 0).toNat 1000 0 σ2 (by omega) (by omega) (fun _ _ => rfl) ⟨fun m m0 m1 => hB2 m m0 m1, fun j hj => by omega⟩
  have hall : ∀ k, k < 7 → σ3 k = σ0 k := fun k a => by rw [hk3 k (by omega), hk2 k (by omega) (by omega), hk1 k (by omega) (by omega)]
  refine wp_some ⟨hall, ?_⟩
  unfold LC
  rw [hall 0 (by decide), hall 3 (by decide), e140]
  refine ⟨fun p p0 p1 => ?_, hL3.1, fun i hi => hL3.2 i (by omega), fun a b hab => ?_⟩
  · rw [hk3 7 (by decide), hk2 7 (by decide) (by decide)]
    exact hR1 p p0 p1
  · rw [hall 1 (by decide)] at hab
    rw [hall 0 (by decide), hk3 8 (by decide), hk2 8 (by decide) (by decide)]
    exact hM1 a b hab
