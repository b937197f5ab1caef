/-! The class's laying is the row's. -/
theorem M1_placeBehind_e {p : Int} (h : 0 ≤ p ∧ p < 101) : M1_placeBehind p = some ((p + 1) % 101) := by
  unfold M1_placeBehind
  rw [rr_c_pos (by omega)]
  by_cases e : 101 ≤ p + 1
  · rw [if_pos e]; congr 1; omega
  · rw [if_neg e]; congr 1; omega
/-- the class's marks by the hosts' places, the row's by their names -/
def Rel (σ : rr_T) (N : Int → Int) (hc : Int) (o : Int → Int) : Prop := ∀ p : Int, 0 ≤ p → p < 101 → (σ 7 p = -1 ∧ o p = -1) ∨ (0 ≤ σ 7 p ∧ σ 7 p < hc ∧ o p = N (σ 7 p) ∧ 0 ≤ o p)
theorem Rel_free {σ : rr_T} {N : Int → Int} {hc : Int} {o : Int → Int} (h : Rel σ N hc o) {p : Int} (p0 : 0 ≤ p) (p1 : p < 101) : σ 7 p = -1 ↔ o p = -1 := by
  rcases h p p0 p1 with q | q <;> omega
theorem L1_freePlace_e {σ : rr_T} {N : Int → Int} {hc : Int} {o : Int → Int} (hR : Rel σ N hc o) (h6 : hc ≤ 6) {K : Int → Option Int} {p : Int} (p0 : 0 ≤ p) (p1 : p < 101) (hf : ps_oc o 101 < 101) : ∀ (d n s : Nat), s + d = ps_ft (sp_F o) 101 p → d < n → L1_freePlaceFrom_4 σ K n ((p + s) % 101) s = K ((p + ps_ft (sp_F o) 101 p) % 101) := by
  obtain ⟨a1, a2, a3⟩ := ps_ft_spec (sp_F o) 101 p p0 p1 (sp_pl_ex hf p p0 p1)
  generalize ps_ft (sp_F o) 101 p = t at a1 a2 a3
  intro d
  induction d with
  | zero =>
    intro n s h1 h2
    cases n with
    | zero => omega
    | succ n =>
      have : s = t := by omega
      subst this
      have f : o ((p + s) % 101) = -1 := of_decide_eq_true a2
      have e := (Rel_free hR (p := (p + s) % 101) (by omega) (by omega)).mpr f
      rw [L1_freePlaceFrom_4_s, e, rr_c_pos (by omega), if_neg (by omega), rr_c_pos (by omega), rr_c_pos (by omega), if_pos rfl]
  | succ d ih =>
    intro n s h1 h2
    cases n with
    | zero => omega
    | succ n =>
      have f : ¬ o ((p + s) % 101) = -1 := of_decide_eq_false (a3 s (by omega))
      have r := hR ((p + s) % 101) (by omega) (by omega)
      have e : ¬ σ 7 ((p + s) % 101) = -1 := fun z => f ((Rel_free hR (by omega) (by omega)).mp z)
      rw [L1_freePlaceFrom_4_s, rr_c_pos (by omega), if_neg (by omega), rr_c_pos (by omega), rr_c_pos (by omega), if_neg e, M1_placeBehind_e (by omega), Option.bind_some]
      have := ih n (s + 1) (by omega) (by omega)
      rw [← this]
      congr 1
      omega
theorem M1_freePlace_e {σ : rr_T} {N : Int → Int} {hc : Int} {o : Int → Int} (hR : Rel σ N hc o) (h6 : hc ≤ 6) (n j : Int) (hf : ps_oc o 101 < 101) : M1_freePlaceFrom (sp_1 n j) σ = some (sp_pl o n j) := by
  have hr := sp_1_r n j
  have a1 := (ps_ft_spec (sp_F o) 101 (sp_1 n j) hr.1 hr.2 (sp_pl_ex hf _ hr.1 hr.2)).1
  have e := L1_freePlace_e (K := fun y => some y) hR h6 hr.1 hr.2 hf (ps_ft (sp_F o) 101 (sp_1 n j)) 1000 0 (by omega) (by omega)
  rw [show (sp_1 n j + ((0 : Nat) : Int)) % 101 = sp_1 n j by omega] at e
  exact e
theorem w_setMarks_2 {σ0 : rr_T} {K : rr_T → Option rr_T} {P : rr_T → Prop} (hK : ∀ σ : rr_T, (∀ k, k ≠ 7 → σ k = σ0 k) → (∀ p : Int, 0 ≤ p → p < 101 → σ 7 p = -1) → rr_wp (K σ) P) : ∀ (d n m : Nat) (σ : rr_T), m + d = 101 → d < n → (∀ k, k ≠ 7 → σ k = σ0 k) → (∀ p : Int, 0 ≤ p → p < m → σ 7 p = -1) → rr_wp (L1_setMarks_2 K n m σ) P := by
  intro d
  induction d with
  | zero =>
    intro n m σ h1 h2 h3 h4
    cases n with
    | zero => omega
    | succ n =>
      rw [L1_setMarks_2_s]
      refine wp_c (by omega) (wp_t (by omega) (hK σ h3 (fun p a b => h4 p a (by omega))))
  | succ d ih =>
    intro n m σ h1 h2 h3 h4
    cases n with
    | zero => omega
    | succ n =>
      rw [L1_setMarks_2_s]
      refine wp_c (by omega) (wp_f (by omega) (wp_c (by omega) ?_))
      refine ih n (m + 1) _ (by omega) (by omega) (fun k hk => by rw [s_n hk, h3 k hk]) (fun p a b => ?_)
      rw [s_s, u_e]
      split
      · rfl
      · exact h4 p a (by omega)
/-- the places of the marks of the hosts below h, and of h below j -/
def MP (σ σ0 : rr_T) (ν : Int → Int) (h j : Nat) : Prop := ∀ a b : Nat, (a < h ∧ (b : Int) < 2 * σ0 1 a) ∨ (a = h ∧ b < j) → σ 8 ((a : Int) * 8 + b) = sp_pl (sp_m (σ0 0 a) (sp_o ν (σ0 0 a).toNat) b) (σ0 0 a) b
theorem w_setMarks_48 {σ0 : rr_T} {ν : Int → Int} (h : St σ0 ν) {K : rr_T → Option rr_T} {P : rr_T → Prop} (m : Nat) (hm : (m : Int) < σ0 3 0) (hK : ∀ σ : rr_T, (∀ k, k ≠ 7 → k ≠ 8 → σ k = σ0 k) → Rel σ (σ0 0) (σ0 3 0) (sp_m (σ0 0 m) (sp_o ν (σ0 0 m).toNat) (2 * σ0 1 m).toNat) → MP σ σ0 ν (m + 1) 0 → rr_wp (K σ) P) : ∀ (d n j : Nat) (σ : rr_T), j + d = (2 * σ0 1 m).toNat → d < n → (∀ k, k ≠ 7 → k ≠ 8 → σ k = σ0 k) → Rel σ (σ0 0) (σ0 3 0) (sp_m (σ0 0 m) (sp_o ν (σ0 0 m).toNat) j) → MP σ σ0 ν m j → rr_wp (L1_setMarks_48 m (2 * σ0 1 m) K n j σ) P := by
  obtain ⟨n0, n1, w1, w4, ew⟩ := h.2.2.2.2.1 m (by omega) hm
  have hhc := h.1
  have hNu := St_Nu h
  obtain ⟨q, hq⟩ := Int.eq_ofNat_of_zero_le n0
  intro d
  induction d with
  | zero =>
    intro n j σ h1 h2 hk hR hM
    cases n with
    | zero => omega
    | succ n =>
      have ej : j = (2 * σ0 1 m).toNat := by omega
      rw [L1_setMarks_48_s]
      refine wp_c (by omega) (wp_t (by omega) (hK σ hk (ej ▸ hR) (fun a b hab => ?_)))
      rcases hab with q1 | q1
      · by_cases e : a = m
        · subst e; exact hM a b (Or.inr ⟨rfl, by omega⟩)
        · exact hM a b (Or.inl ⟨by omega, q1.2⟩)
      · omega
  | succ d ih =>
    intro n j σ h1 h2 hk hR hM
    cases n with
    | zero => omega
    | succ n =>
      have hf := sp_m_free hNu q (by omega) j (by rw [← hq, ew]; omega)
      rw [hq] at hR
      simp only [Int.toNat_natCast] at hR
      have hk0 := hk 0 (by decide) (by decide)
      rw [L1_setMarks_48_s, hk0]
      refine wp_c (by omega) (wp_f (by omega) (wp_c (by omega) (wp_c (by omega) ?_)))
      have e := M1_freePlace_e hR (by omega) (σ0 0 m) j (by omega)
      refine wp_be e ?_
      have pr := sp_pl_r (sp_m q (sp_o ν q) j) (σ0 0 m) j
      refine wp_c pr (wp_c (by omega) ?_)
      refine ih n (j + 1) _ (by omega) (by omega) (fun k k7 k8 => by rw [s_n k8, s_n k7, hk k k7 k8]) ?_ ?_
      · intro p p0 p1
        rw [s_n (by decide), s_s, hq, Int.toNat_natCast, sp_m_s, u_e, u_e]
        by_cases ep : p = sp_pl (sp_m q (sp_o ν q) j) q j
        · rw [if_pos ep, if_pos ep]
          exact Or.inr ⟨by omega, hm, hq.symm, by omega⟩
        · rw [if_neg ep, if_neg ep]
          exact hR p p0 p1
      · intro a b hab
        rw [s_s, u_e]
        by_cases eb : (a : Int) * 8 + b = (m : Int) * 8 + j
        · have hb8 : (b : Int) < 8 := by
            rcases hab with q1 | q1
            · have := (h.2.2.2.2.1 a (by omega) (by omega)).2.2.2.1
              omega
            · omega
          have ea : a = m := by omega
          have ebj : b = j := by omega
          subst ea; subst ebj
          rw [if_pos rfl, hq, Int.toNat_natCast]
        · rw [if_neg eb, s_n (by decide)]
          refine hM a b ?_
          rcases hab with q1 | q1
          · exact Or.inl q1
          · refine Or.inr ⟨q1.1, ?_⟩
            rcases Nat.lt_or_ge b j with q2 | q2
            · exact q2
            · exfalso
              apply eb
              rw [q1.1, show b = j by omega]
theorem w_setMarks_23 {σ0 : rr_T} {ν : Int → Int} (h : St σ0 ν) {K : rr_T → Option rr_T} {P : rr_T → Prop} (hK : ∀ σ : rr_T, (∀ k, k ≠ 7 → k ≠ 8 → σ k = σ0 k) → Rel σ (σ0 0) (σ0 3 0) (sp_o ν 100) → MP σ σ0 ν (σ0 3 0).toNat 0 → rr_wp (K σ) P) : ∀ (d n m : Nat) (σ : rr_T), m + d = (σ0 3 0).toNat → d < n → (∀ k, k ≠ 7 → k ≠ 8 → σ k = σ0 k) → Rel σ (σ0 0) (σ0 3 0) (sp_o ν (if (m : Int) < σ0 3 0 then (σ0 0 m).toNat else 100)) → MP σ σ0 ν m 0 → rr_wp (L1_setMarks_23 K n m σ) P := by
  have hhc := h.1
  intro d
  induction d with
  | zero =>
    intro n m σ h1 h2 hk hR hM
    cases n with
    | zero => omega
    | succ n =>
      have em : m = (σ0 3 0).toNat := by omega
      rw [if_neg (by omega)] at hR
      rw [L1_setMarks_23_s, hk 3 (by decide) (by decide)]
      exact wp_c (by omega) (wp_t (by omega) (hK σ hk hR (em ▸ hM)))
  | succ d ih =>
    intro n m σ h1 h2 hk hR hM
    cases n with
    | zero => omega
    | succ n =>
      have hm : (m : Int) < σ0 3 0 := by omega
      have w := (h.2.2.2.2.1 m (by omega) hm).2.2.2.1
      rw [if_pos hm] at hR
      rw [L1_setMarks_23_s, hk 3 (by decide) (by decide), hk 1 (by decide) (by decide)]
      refine wp_c (by omega) (wp_f (by omega) (wp_c (by omega) ?_))
      refine w_setMarks_48 h m hm (fun σ2 hk2 hR2 hM2 => ?_) (2 * σ0 1 m).toNat 1000 0 σ (by omega) (by omega) hk hR hM
      rw [← sp_o_at h m hm] at hR2
      exact ih n (m + 1) σ2 (by omega) (by omega) hk2 hR2 hM2
theorem M1_setMarks_w {σ0 : rr_T} {ν : Int → Int} (h : St σ0 ν) : rr_wp (M1_setMarks σ0) (fun σ => (∀ k, k ≠ 7 → k ≠ 8 → σ k = σ0 k) ∧ Rel σ (σ0 0) (σ0 3 0) (sp_o ν 100) ∧ MP σ σ0 ν (σ0 3 0).toNat 0) := by
  unfold M1_setMarks
  have hhc := h.1
  refine w_setMarks_2 (σ0 := σ0) (fun σ hk hp => ?_) 101 1000 0 σ0 (by omega) (by omega) (fun _ _ => rfl) (fun p a b => by omega)
  refine w_setMarks_23 h (fun σ2 a b c => wp_some ⟨a, b, c⟩) (σ0 3 0).toNat 1000 0 σ (by omega) (by omega) (fun k k7 _ => hk k k7) ?_ (fun a b hab => by omega)
  intro p p0 p1
  refine Or.inl ⟨hp p p0 p1, ?_⟩
  have hz : ∀ n : Int, 0 ≤ n → n < 100 → ν n = 0 → ∀ y, (fun (k : Int) (o : Int → Int) => sp_m k o (2 * ν k).toNat) n y = y := fun n _ _ e y => by
    show sp_m n y (2 * ν n).toNat = y
    rw [e]; rfl
  have k0 := St_fold h (x := fun _ => -1) hz 0 (by omega)
  unfold sp_o
  rw [k0]; rfl
