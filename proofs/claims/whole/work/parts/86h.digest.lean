/-! The digest. -/
theorem M5_mix_e {x : Int} (h : rr_g x) (hh : Int) (σ : rr_T) : M5_mix x hh σ = some (31 * hh + x) := by
  unfold M5_mix
  rw [rr_c_pos h]
theorem A_told {k : Nat} {Ω : Nat → rr_T} {τ : rr_T} (h : Sim k Ω τ) (hk : k < 512) {x : Int} (hx : 0 ≤ x ∧ x ≤ 4) : ∃ v : Int, M4_told x Ω = some (v, Ω) ∧ M5_toldOf x τ = some v ∧ rr_g v := by
  have e := M5_toldOf_e h hx
  obtain ⟨-, -, -, d, g, i⟩ := h
  have d1 := d.1; have g1 := g.1; have i1 := i.1; have i2 := i.2.1; have i3 := i.2.2
  refine ⟨_, ?_, e, ?_⟩
  · apply wp_eq
    unfold M4_told
    refine wp_c (show rr_g x by omega) ?_
    have hc : x = 0 ∨ x = 1 ∨ x = 2 ∨ x = 3 ∨ x = 4 := by omega
    rcases hc with rfl | rfl | rfl | rfl | rfl
    · exact wp_t rfl (wp_some (by rw [if_pos rfl]))
    · exact wp_f (by decide) (wp_t rfl (wp_some (by rw [if_neg (by decide), if_pos rfl])))
    · exact wp_f (by decide) (wp_f (by decide) (wp_t rfl (wp_some (by rw [if_neg (by decide), if_neg (by decide), if_pos rfl]))))
    · exact wp_f (by decide) (wp_f (by decide) (wp_f (by decide) (wp_t rfl (wp_some (by rw [if_neg (by decide), if_neg (by decide), if_neg (by decide), if_pos rfl])))))
    · exact wp_f (by decide) (wp_f (by decide) (wp_f (by decide) (wp_f (by decide) (wp_t rfl (wp_some (by rw [if_neg (by decide), if_neg (by decide), if_neg (by decide), if_neg (by decide)]))))))
  · split
    · omega
    · split
      · omega
      · split
        · omega
        · split
          · omega
          · omega
theorem D_told {k : Nat} {Ω : Nat → rr_T} {τ : rr_T} (h : Sim k Ω τ) (hk : k < 512) : ∀ (d n m : Nat) (x : Int), m + d = 5 → d < n → ∃ y : Int, (∀ K, L4_digest_6 K n x m Ω = K y Ω) ∧ (∀ K, L5_digest_9 τ K n m x = K y) := by
  intro d
  induction d with
  | zero =>
    intro n m x h1 h2
    cases n with
    | zero => omega
    | succ n => exact ⟨x, fun K => by rw [L4_digest_6_s, rr_c_pos (by omega), if_pos (by omega)], fun K => by rw [L5_digest_9_s, rr_c_pos (by omega), if_pos (by omega)]⟩
  | succ d ih =>
    intro n m x h1 h2
    cases n with
    | zero => omega
    | succ n =>
      obtain ⟨v, v1, v2, v3⟩ := A_told h hk (x := m) (by omega)
      obtain ⟨y, y1, y2⟩ := ih n (m + 1) (31 * x + v) (by omega) (by omega)
      refine ⟨y, fun K => ?_, fun K => ?_⟩
      · rw [L4_digest_6_s, rr_c_pos (by omega), if_neg (by omega), v1, Option.bind_some, rr_c_pos v3, show (m : Int) + 1 = ((m + 1 : Nat) : Int) by omega]
        exact y1 K
      · rw [L5_digest_9_s, rr_c_pos (by omega), if_neg (by omega), v2, Option.bind_some, M5_mix_e v3, Option.bind_some, show (m : Int) + 1 = ((m + 1 : Nat) : Int) by omega]
        exact y2 K
theorem D_count {k : Nat} {Ω : Nat → rr_T} {τ : rr_T} (h : Sim k Ω τ) : ∀ (d n m : Nat) (x : Int), m + d = 9 → d < n → ∃ y : Int, (∀ K, L4_digest_32 K n x m Ω = K y Ω) ∧ (∀ K, L5_digest_31 τ K n m x = K y) := by
  intro d
  induction d with
  | zero =>
    intro n m x h1 h2
    cases n with
    | zero => omega
    | succ n => exact ⟨x, fun K => by rw [L4_digest_32_s, rr_c_pos (by omega), if_pos (by omega)], fun K => by rw [L5_digest_31_s, rr_c_pos (by omega), if_pos (by omega)]⟩
  | succ d ih =>
    intro n m x h1 h2
    cases n with
    | zero => omega
    | succ n =>
      obtain ⟨v, v1, v2, v3⟩ := A_count h (x := m) (by omega)
      obtain ⟨y, y1, y2⟩ := ih n (m + 1) (31 * x + v) (by omega) (by omega)
      refine ⟨y, fun K => ?_, fun K => ?_⟩
      · rw [L4_digest_32_s, rr_c_pos (by omega), if_neg (by omega), v1, Option.bind_some, rr_c_pos v3, show (m : Int) + 1 = ((m + 1 : Nat) : Int) by omega]
        exact y1 K
      · rw [L5_digest_31_s, rr_c_pos (by omega), if_neg (by omega), v2, Option.bind_some, M5_mix_e v3, Option.bind_some, show (m : Int) + 1 = ((m + 1 : Nat) : Int) by omega]
        exact y2 K
theorem D_at {k : Nat} {Ω : Nat → rr_T} {τ : rr_T} (h : Sim k Ω τ) : ∀ (d n m : Nat) (x : Int), m + d = 101 → d < n → ∃ y : Int, (∀ K, L4_digest_59 K n x m Ω = K y Ω) ∧ (∀ K, L5_digest_54 τ K n m x = K y) := by
  intro d
  induction d with
  | zero =>
    intro n m x h1 h2
    cases n with
    | zero => omega
    | succ n => exact ⟨x, fun K => by rw [L4_digest_59_s, rr_c_pos (by omega), if_pos (by omega)], fun K => by rw [L5_digest_54_s, rr_c_pos (by omega), if_pos (by omega)]⟩
  | succ d ih =>
    intro n m x h1 h2
    cases n with
    | zero => omega
    | succ n =>
      obtain ⟨v1, v3⟩ := A_at h.1 h.2.1 (show (0 : Int) ≤ m by omega) (show (m : Int) < 101 by omega)
      have v2 := h.2.2.1.1 m (by omega) (by omega)
      have v4 : M4_at m Ω = some (sp_o (τ 0) 100 m, Ω) := by
        unfold M4_at
        rw [rr_c_pos (by omega), if_neg (by omega), if_pos (by omega), rr_c_pos (by omega), v1, Option.bind_some]
      obtain ⟨y, y1, y2⟩ := ih n (m + 1) (31 * x + sp_o (τ 0) 100 m) (by omega) (by omega)
      refine ⟨y, fun K => ?_, fun K => ?_⟩
      · rw [L4_digest_59_s, rr_c_pos (by omega), if_neg (by omega), v4, Option.bind_some, rr_c_pos (show rr_g (sp_o (τ 0) 100 m) by omega), show (m : Int) + 1 = ((m + 1 : Nat) : Int) by omega]
        exact y1 K
      · rw [L5_digest_54_s, rr_c_pos (by omega), if_neg (by omega), rr_c_pos (by omega), v2, M5_mix_e (by omega), Option.bind_some, show (m : Int) + 1 = ((m + 1 : Nat) : Int) by omega]
        exact y2 K
/-- hosts -/
def hd (ν : Int → Int) (n h : Int) : Int := if 0 < ν n then 31 * (31 * (31 * (31 * h + n) + ν n) + sp_b ν n) + sp_l ν (ν 140).toNat n else h
theorem D_h5 {τ : rr_T} (hN : Nu (τ 0)) (hm : LM τ (τ 0)) {x : Int} {K : Int → Option (Int × Int)} : ∀ (d n m : Nat), m + d = 100 → d < n → L5_digest_78 τ K n m (ps_it (hd (τ 0)) m x) = K (ps_it (hd (τ 0)) 100 x) := by
  intro d
  induction d with
  | zero =>
    intro n m h1 h2
    cases n with
    | zero => omega
    | succ n => rw [L5_digest_78_s, rr_c_pos (by omega), if_pos (by omega), show m = 100 by omega]
  | succ d ih =>
    intro n m h1 h2
    cases n with
    | zero => omega
    | succ n =>
      have IH := ih n (m + 1) (by omega) (by omega)
      rw [ps_it_s] at IH
      have hw := hN.1 m (by omega) (by omega)
      rw [L5_digest_78_s, rr_c_pos (by omega), if_neg (by omega), M5_isHost_e hN (by omega) (by omega), Option.bind_some, show (m : Int) + 1 = ((m + 1 : Nat) : Int) by omega]
      by_cases q : 0 < τ 0 m
      · have hl := sp_l_40 hN m
        have h8 := hm.2.2 m (by omega) (by omega)
        have hbn := sp_b_nn hN (show (0 : Int) ≤ m by omega) (show (m : Int) < 100 by omega)
        have hbl := sp_b_le hN (show (0 : Int) ≤ m by omega) (show (m : Int) < 100 by omega)
        have f0 : M5_ofHost m 0 τ = some (τ 0 m) := by
          unfold M5_ofHost; rw [rr_c_pos (by decide), if_neg (by decide), if_pos rfl, rr_c_pos (by omega)]
        have f1 : M5_ofHost m 1 τ = some (sp_b (τ 0) m) := by
          unfold M5_ofHost; rw [rr_c_pos (by decide), if_neg (by decide), if_neg (by decide), if_pos rfl, b_eta1, M5_bound_e hN (by omega) (by omega)]
        have f2 : M5_ofHost m 2 τ = some (sp_l (τ 0) (τ 0 140).toNat m) := by
          unfold M5_ofHost; rw [rr_c_pos (by decide), if_neg (by decide), if_neg (by decide), if_neg (by decide), rr_c_pos (by omega), h8]
        unfold hd at IH
        rw [if_pos q] at IH
        rw [if_pos q, rr_c_pos (show rr_g 1 by decide), if_neg (by decide), M5_mix_e (by omega), Option.bind_some, f0, Option.bind_some, M5_mix_e (by omega), Option.bind_some, f1, Option.bind_some, M5_mix_e (by omega), Option.bind_some, f2, Option.bind_some, M5_mix_e (by omega), Option.bind_some]
        exact IH
      · unfold hd at IH
        rw [if_neg q] at IH
        rw [if_neg q, rr_c_pos (show rr_g 0 by decide), if_pos rfl]
        exact IH
theorem D_h1i {Ω : Nat → rr_T} {ν : Int → Int} (hs : St (Ω 0) ν) (hl : LC (Ω 0) ν) {i : Nat} (hi : (i : Int) < Ω 0 3 0) {K : Int → Option Int} (x : Int) : ∀ n : Nat, 3 < n → L4_digestHosts_44 Ω i K n x 0 = K (31 * (31 * (31 * x + ν (Ω 0 0 i)) + sp_b ν (Ω 0 0 i)) + sp_l ν (ν 140).toNat (Ω 0 0 i)) := by
  have hc := hs.1
  have hN := St_Nu hs
  have hn := hs.2.2.2.2.1 i (by omega) hi
  have hb := hl.2.1 i (by omega) hi
  have h1' := sp_l_40 hN (Ω 0 0 i)
  have hbn := sp_b_nn hN hn.1 hn.2.1
  have hbl := sp_b_le hN hn.1 hn.2.1
  have f0 : M1_hostFact i 0 (Ω 0) = some (ν (Ω 0 0 i)) := by
    unfold M1_hostFact; rw [rr_c_pos (by decide), if_pos rfl, rr_c_pos (by omega), hn.2.2.2.2]
  have f1 : M1_hostFact i 1 (Ω 0) = some (sp_b ν (Ω 0 0 i)) := by
    unfold M1_hostFact; rw [rr_c_pos (by decide), if_neg (by decide), if_pos rfl, rr_c_pos (by omega), hb.1]
  have f2 : M1_hostFact i 2 (Ω 0) = some (sp_l ν (ν 140).toNat (Ω 0 0 i)) := by
    unfold M1_hostFact; rw [rr_c_pos (by decide), if_neg (by decide), if_neg (by decide), if_pos rfl, rr_c_pos (by omega), hb.2]
  intro n hn4
  match n, hn4 with
  | n + 4, _ =>
    rw [L4_digestHosts_44_s, rr_c_pos (by decide), if_neg (by decide), f0, Option.bind_some, rr_c_pos (by omega), show (0 : Int) + 1 = 1 from rfl]
    rw [L4_digestHosts_44_s, rr_c_pos (by decide), if_neg (by decide), f1, Option.bind_some, rr_c_pos (by omega), show (1 : Int) + 1 = 2 from rfl]
    rw [L4_digestHosts_44_s, rr_c_pos (by decide), if_neg (by decide), f2, Option.bind_some, rr_c_pos (by omega), show (2 : Int) + 1 = 3 from rfl]
    rw [L4_digestHosts_44_s, rr_c_pos (by decide), if_pos (by decide)]
theorem D_h1 {Ω : Nat → rr_T} {ν : Int → Int} (hs : St (Ω 0) ν) (hl : LC (Ω 0) ν) {x : Int} {K : Int → Option Int} : ∀ (d n m : Nat), m + d = (Ω 0 3 0).toNat → d < n → L4_digestHosts_5 Ω K n (ps_ih (Ω 0 0) (hd ν) m x) m = K (ps_ih (Ω 0 0) (hd ν) (Ω 0 3 0).toNat x) := by
  have hc := hs.1
  intro d
  induction d with
  | zero =>
    intro n m h1 h2
    cases n with
    | zero => omega
    | succ n => rw [L4_digestHosts_5_s, rr_c_pos (by omega), if_pos (by omega), show m = (Ω 0 3 0).toNat by omega]
  | succ d ih =>
    intro n m h1 h2
    cases n with
    | zero => omega
    | succ n =>
      have hn := hs.2.2.2.2.1 m (by omega) (by omega)
      have IH := ih n (m + 1) (by omega) (by omega)
      rw [ps_ih_s] at IH
      unfold hd at IH
      rw [if_pos (show 0 < ν (Ω 0 0 m) by omega)] at IH
      rw [L4_digestHosts_5_s, rr_c_pos (by omega), if_neg (by omega), rr_c_pos (by omega), rr_c_pos (by omega), D_h1i hs hl (by omega) _ 1000 (by omega), show (m : Int) + 1 = ((m + 1 : Nat) : Int) by omega]
      exact IH
/-- keys -/
theorem D_ki {Ω : Nat → rr_T} {τ : rr_T} (hs : St (Ω 0) (τ 0)) (hl : LC (Ω 0) (τ 0)) (hm : LM τ (τ 0)) {i : Nat} (hi : (i : Int) < Ω 0 4 0) : ∀ (d n m : Nat) (x : Int), m + d = 3 → d < n → ∃ y : Int, (∀ K, L4_digestKeys_72 Ω i K n x m = K y) ∧ (∀ K, L5_digest_172 τ i K n m x = K y) := by
  have hN := St_Nu hs
  have e140 : τ 0 140 = Ω 0 4 0 := hs.2.2.2.2.2.2.2.2.2.1
  intro d
  induction d with
  | zero =>
    intro n m x h1 h2
    cases n with
    | zero => omega
    | succ n => exact ⟨x, fun K => by rw [L4_digestKeys_72_s, rr_c_pos (by omega), if_pos (by omega)], fun K => by rw [L5_digest_172_s, rr_c_pos (by omega), if_pos (by omega)]⟩
  | succ d ih =>
    intro n m x h1 h2
    cases n with
    | zero => omega
    | succ n =>
      have v1 := M1_fact_e hs hl hi (x := m) (by omega)
      have v2 := M5_about_e hN hm (i := i) (by omega) (x := m) (by omega)
      have v3 := sp_f_r hN (i := i) (by omega) m
      obtain ⟨y, y1, y2⟩ := ih n (m + 1) (31 * x + sp_f (τ 0) i m) (by omega) (by omega)
      refine ⟨y, fun K => ?_, fun K => ?_⟩
      · rw [L4_digestKeys_72_s, rr_c_pos (by omega), if_neg (by omega), v1, Option.bind_some, rr_c_pos (by omega), show (m : Int) + 1 = ((m + 1 : Nat) : Int) by omega]
        exact y1 K
      · rw [L5_digest_172_s, rr_c_pos (by omega), if_neg (by omega), v2, Option.bind_some, M5_mix_e (by omega), Option.bind_some, show (m : Int) + 1 = ((m + 1 : Nat) : Int) by omega]
        exact y2 K
theorem D_k {Ω : Nat → rr_T} {τ : rr_T} (hs : St (Ω 0) (τ 0)) (hl : LC (Ω 0) (τ 0)) (hm : LM τ (τ 0)) : ∀ (d n m : Nat) (x : Int), m + d = (Ω 0 4 0).toNat → d < n → ∃ y : Int, (∀ K, L4_digestKeys_5 Ω K n x m = K y) ∧ (∀ K, L5_digest_135 τ K n m x = K y) := by
  have hN := St_Nu hs
  have hkc := hs.2.1
  have e140 : τ 0 140 = Ω 0 4 0 := hs.2.2.2.2.2.2.2.2.2.1
  intro d
  induction d with
  | zero =>
    intro n m x h1 h2
    cases n with
    | zero => omega
    | succ n => exact ⟨x, fun K => by rw [L4_digestKeys_5_s, rr_c_pos (by omega), if_pos (by omega)], fun K => by rw [L5_digest_135_s, rr_c_pos (by omega), if_pos (by omega)]⟩
  | succ d ih =>
    intro n m x h1 h2
    cases n with
    | zero => omega
    | succ n =>
      have hk := hs.2.2.2.2.2.2.2.1 m (by omega) (by omega)
      have v1 := C_hname hs hl (i := m) (by omega)
      have v2 := (hm.2.1 m (by omega)).1
      have v3 := sp_h_r hN (i := m) (by omega)
      obtain ⟨z, z1, z2⟩ := D_ki hs hl hm (i := m) (by omega) 3 1000 0 (31 * (31 * x + Ω 0 2 m) + sp_h (τ 0) m) (by omega) (by omega)
      obtain ⟨y, y1, y2⟩ := ih n (m + 1) z (by omega) (by omega)
      refine ⟨y, fun K => ?_, fun K => ?_⟩
      · rw [L4_digestKeys_5_s, rr_c_pos (by omega), if_neg (by omega), rr_c_pos (by omega), rr_c_pos (by omega), v1, Option.bind_some, rr_c_pos (by omega), show (m : Int) + 1 = ((m + 1 : Nat) : Int) by omega]
        exact (z1 _).trans (y1 K)
      · rw [L5_digest_135_s, rr_c_pos (by omega), if_neg (by omega), rr_c_pos (by omega), hk.2.2, M5_mix_e (by omega), Option.bind_some, rr_c_pos (by omega), v2, M5_mix_e (by omega), Option.bind_some, show (m : Int) + 1 = ((m + 1 : Nat) : Int) by omega]
        exact (z2 _).trans (y2 K)
theorem O_digest : rr_kd Sim M4_digest M5_digest := fun k Ω τ hh hk h => by
  have hc := h.1.1
  have hkc := h.1.2.1
  obtain ⟨a, a1, a2⟩ := D_told h hk 5 1000 0 2820 (by omega) (by omega)
  obtain ⟨b, b1, b2⟩ := D_count h 9 1000 0 a (by omega) (by omega)
  obtain ⟨c, c1, c2⟩ := D_at h 101 1000 0 b (by omega) (by omega)
  have fold := St_fold_all h.1 (f := hd (τ 0)) (x := c) (fun n _ _ e y => if_neg (by omega))
  obtain ⟨y, y1, y2⟩ := D_k h.1 h.2.1 h.2.2.1 (Ω 0 4 0).toNat 1000 0 (ps_it (hd (τ 0)) 100 c) (by omega) (by omega)
  have g5 : ∀ K : Int → Option (Int × Int), L5_digest_78 τ K 1000 0 c = K (ps_it (hd (τ 0)) 100 c) := fun K => D_h5 (St_Nu h.1) h.2.2.1 (x := c) 100 1000 0 (by omega) (by omega)
  have g4 : M4_digestHosts c Ω = some (ps_it (hd (τ 0)) 100 c) := by
    rw [fold]
    exact D_h1 h.1 h.2.1 (x := c) (K := fun y => some y) (Ω 0 3 0).toNat 1000 0 (by omega) (by omega)
  have k4 : M4_digestKeys (ps_it (hd (τ 0)) 100 c) Ω = some y := y1 (fun y => some y)
  refine ⟨y, Ω, y, ?_, ?_, Sim_up h⟩
  · unfold M4_digest
    refine (a1 _).trans ((b1 _).trans ((c1 _).trans ?_))
    rw [g4, Option.bind_some, k4, Option.bind_some]
  · unfold M5_digest
    exact (a2 _).trans ((b2 _).trans ((c2 _).trans ((g5 _).trans (y2 _))))
