/-! rows that are alike below 142 are laid alike -/
def Ag (ν μ : Int → Int) : Prop := ∀ i : Int, 0 ≤ i → i < 142 → ν i = μ i
theorem Ag_sm {ν μ : Int → Int} (h : Ag ν μ) : ps_sm ν 100 = ps_sm μ 100 := ps_sm_cong (fun k a b => h k a (by omega))
theorem Ag_o {ν μ : Int → Int} (h : Ag ν μ) (n : Nat) (hn : n ≤ 100) : sp_o ν n = sp_o μ n := sp_o_cong (fun k a b => h k a (by omega)) n hn
theorem Ag_b {ν μ : Int → Int} (h : Ag ν μ) {n : Int} (h0 : 0 ≤ n) (h1 : n < 100) : sp_b ν n = sp_b μ n := by
  unfold sp_b sp_by
  rw [Ag_sm h, h n h0 (by omega), h 140 (by omega) (by omega), h 141 (by omega) (by omega)]
theorem Ag_k {ν μ : Int → Int} (h : Ag ν μ) {i : Int} (h0 : 0 ≤ i) (h1 : i < 40) : sp_k ν i = sp_k μ i := by
  unfold sp_k
  rw [h (100 + i) (by omega) (by omega)]
theorem Ag_R {ν μ : Int → Int} (h : Ag ν μ) (ld : Int → Int) : sp_R ν ld = sp_R μ ld := by
  funext p
  unfold sp_R
  rw [Ag_o h 100 (Nat.le_refl _)]
  rcases sp_o_or (ν := μ) 100 p with r | r
  · rw [r]; simp
  · rw [Ag_b h r.1 (by omega)]
theorem Ag_l {ν μ : Int → Int} (h : Ag ν μ) : ∀ i : Nat, i ≤ 40 → sp_l ν i = sp_l μ i
  | 0, _ => rfl
  | i + 1, hi => by
    have ih := Ag_l h i (by omega)
    rw [sp_l_s, sp_l_s]
    unfold sp_q sp_t
    rw [ih, Ag_sm h, Ag_R h, Ag_o h 100 (Nat.le_refl _), Ag_k h (i := i) (by omega) (by omega)]
theorem Ag_t {ν μ : Int → Int} (h : Ag ν μ) {i : Nat} (hi : i < 40) : sp_t ν i = sp_t μ i := by
  unfold sp_t
  rw [Ag_l h i (by omega), Ag_R h, Ag_k h (i := i) (by omega) (by omega)]
theorem Ag_q {ν μ : Int → Int} (h : Ag ν μ) {i : Nat} (hi : i < 40) : sp_q ν i = sp_q μ i := by
  unfold sp_q
  rw [Ag_t h hi, Ag_k h (i := i) (by omega) (by omega)]
theorem Ag_h {ν μ : Int → Int} (h : Ag ν μ) {i : Nat} (hi : i < 40) : sp_h ν i = sp_h μ i := by
  unfold sp_h
  rw [Ag_q h hi, Ag_sm h, Ag_o h 100 (Nat.le_refl _)]
theorem Ag_p {ν μ : Int → Int} (h : Ag ν μ) {i : Nat} (hi : i < 40) : sp_p ν i = sp_p μ i := by
  unfold sp_p
  rw [Ag_t h hi, Ag_o h 100 (Nat.le_refl _), Ag_k h (i := i) (by omega) (by omega)]
theorem LM_cong {τ τ2 : rr_T} {ν μ : Int → Int} (h : Ag ν μ) (hk : 0 ≤ ν 140 ∧ ν 140 ≤ 40) (e5 : ∀ p : Int, 0 ≤ p → p < 101 → τ2 5 p = τ 5 p) (e6 : ∀ p : Int, 0 ≤ p → p < 40 → τ2 6 p = τ 6 p) (e7 : ∀ p : Int, 0 ≤ p → p < 40 → τ2 7 p = τ 7 p) (e8 : ∀ p : Int, 0 ≤ p → p < 100 → τ2 8 p = τ 8 p) (hl : LM τ ν) : LM τ2 μ := by
  have e140 := h 140 (by omega) (by omega)
  obtain ⟨a, b, c⟩ := hl
  refine ⟨fun p p0 p1 => ?_, fun i hi => ?_, fun n n0 n1 => ?_⟩
  · rw [e5 p p0 p1, a p p0 p1, Ag_o h 100 (Nat.le_refl _)]
  · obtain ⟨b1, b2⟩ := b i (by omega)
    refine ⟨?_, fun q => ?_⟩
    · rw [e6 i (by omega) (by omega), b1, Ag_h h (by omega)]
    · rw [e7 i (by omega) (by omega), b2 (by rw [Ag_sm h]; exact q), Ag_q h (by omega)]
  · rw [e8 n n0 n1, c n n0 n1, ← e140, Ag_l h _ (by omega)]
theorem LC_cong {σ σ2 : rr_T} {ν μ : Int → Int} (hs : St σ ν) (h : Ag ν μ) (hk : ∀ k, k ≠ 6 → σ2 k = σ k) (hl : LC σ ν) : LC σ2 μ := by
  have hkc := hs.2.1
  have hhc := hs.1
  have e1 : ν 140 = σ 4 0 := hs.2.2.2.2.2.2.2.2.2.1
  have e140 := h 140 (by omega) (by omega)
  obtain ⟨a, b, c, d⟩ := hl
  unfold LC
  rw [hk 0 (by decide), hk 3 (by decide), hk 9 (by decide), hk 10 (by decide), hk 11 (by decide), hk 12 (by decide), hk 13 (by decide)]
  refine ⟨fun p p0 p1 => ?_, fun m m0 m1 => ?_, fun i hi => ?_, fun x y hxy => ?_⟩
  · rw [hk 7 (by decide), ← Ag_o h 100 (Nat.le_refl _)]; exact a p p0 p1
  · have hm := hs.2.2.2.2.1 m m0 m1
    rw [← Ag_b h hm.1 hm.2.1, ← e140, ← Ag_l h _ (by omega)]
    exact b m m0 m1
  · rw [← Ag_h h (by omega), ← Ag_p h (by omega), ← Ag_t h (by omega)]
    exact c i (by omega)
  · rw [hk 1 (by decide)] at hxy
    rw [hk 8 (by decide), hk 0 (by decide)]
    rw [d x y hxy]
    have hm := hs.2.2.2.2.1 x (by omega) (by omega)
    rw [Ag_o h (σ 0 x).toNat (by omega)]
/-! sums over two rows -/
theorem ps_sm_add (f g : Int → Int) : ∀ n : Nat, ps_sm (fun k => f k + g k) n = ps_sm f n + ps_sm g n
  | 0 => rfl
  | n + 1 => by rw [ps_sm_s, ps_sm_s, ps_sm_s, ps_sm_add f g n]; omega
theorem ps_sm_swap (D : Int → Int → Int) (n : Nat) : ∀ m : Nat, ps_sm (fun i => ps_sm (fun j => D i j) n) m = ps_sm (fun j => ps_sm (fun i => D i j) m) n
  | 0 => (ps_sm_zero n).symm
  | m + 1 => by
    rw [ps_sm_s, ps_sm_swap D n m, ← ps_sm_add]
    rfl
theorem ps_sm_none {f : Int → Int} : ∀ {n : Nat}, (∀ k : Int, 0 ≤ k → k < n → f k = 0) → ps_sm f n = 0
  | 0, _ => rfl
  | n + 1, h => by rw [ps_sm_s, ps_sm_none (fun k a b => h k a (by omega)), h n (by omega) (by omega)]; rfl
theorem ps_sm_one {f : Int → Int} {q : Int} (q0 : 0 ≤ q) : ∀ {n : Nat}, q < n → (∀ k : Int, 0 ≤ k → k < n → k ≠ q → f k = 0) → ps_sm f n = f q
  | 0, h, _ => by omega
  | n + 1, h, hf => by
    rw [ps_sm_s]
    by_cases e : (n : Int) = q
    · rw [ps_sm_none (fun k a b => hf k a (by omega) (by omega)), e]; omega
    · rw [ps_sm_one q0 (by omega) (fun k a b c => hf k a (by omega) c), hf n (by omega) (by omega) e]; omega
/-- a key is the same, its host another -/
def sp_D (ν μ : Int → Int) (i j : Int) : Int := if ν (100 + i) = μ (100 + j) ∧ ¬ sp_h ν i.toNat = sp_h μ j.toNat then 1 else 0
/-- how many keys have moved -/
def sp_M (ν μ : Int → Int) : Int := ps_sm (fun i => ps_sm (fun j => sp_D ν μ i j) (μ 140).toNat) (ν 140).toNat
theorem sp_h_r {ν : Int → Int} (h : Nu ν) {i : Nat} (hi : (i : Int) < ν 140) : -1 ≤ sp_h ν i ∧ sp_h ν i < 100 := by
  unfold sp_h
  by_cases e : ps_sm ν 100 = 0
  · rw [if_pos e]; omega
  · rw [if_neg e]
    have := sp_q_host h e i hi
    omega
theorem L5_moved_18_e {τ : rr_T} {ν μ : Int → Int} (hν : Nu ν) (hμ : Nu μ) (e0 : ∀ i : Int, 0 ≤ i → i < 142 → τ 0 i = ν i) (e1 : ∀ i : Int, 0 ≤ i → i < 142 → τ 1 i = μ i) (e6 : ∀ i : Nat, (i : Int) < ν 140 → τ 6 i = sp_h ν i) (e9 : ∀ i : Nat, (i : Int) < μ 140 → τ 9 i = sp_h μ i) (i : Nat) (hi : (i : Int) < ν 140) {K : Int → Option Int} (x : Int) : ∀ (d n m : Nat), m + d = (μ 140).toNat → d < n → L5_moved_18 τ i K n (x + ps_sm (fun j => sp_D ν μ i j) m) m = K (x + ps_sm (fun j => sp_D ν μ i j) (μ 140).toNat) := by
  have hk := hν.2.2.1
  have hk2 := hμ.2.2.1
  have q140 := e1 140 (by omega) (by omega)
  intro d
  induction d with
  | zero =>
    intro n m h1 h2
    cases n with
    | zero => omega
    | succ n =>
      rw [L5_moved_18_s, q140, rr_c_pos (by omega), if_pos (by omega), show m = (μ 140).toNat by omega]
  | succ d ih =>
    intro n m h1 h2
    cases n with
    | zero => omega
    | succ n =>
      have ihh := ih n (m + 1) (by omega) (by omega)
      have a1 := hν.2.2.2.2 i (by omega) hi
      have a2 := hμ.2.2.2.2 m (by omega) (by omega)
      have b1 := sp_h_r hν hi
      have b2 := sp_h_r hμ (i := m) (by omega)
      rw [← ihh, ps_sm_s, L5_moved_18_s, q140, e0 (100 + i) (by omega) (by omega), e1 (100 + m) (by omega) (by omega), e6 i hi, e9 m (by omega), rr_c_pos (by omega), if_neg (by omega), rr_c_pos (by omega), rr_c_pos (by omega), rr_c_pos (by omega)]
      show _ = L5_moved_18 τ i K n (x + (ps_sm (fun j => sp_D ν μ i j) m + sp_D ν μ i m)) _
      unfold sp_D
      rw [Int.toNat_natCast, Int.toNat_natCast]
      by_cases q : ν (100 + i) = μ (100 + m)
      · rw [if_pos q, rr_c_pos (by omega), rr_c_pos (by omega), rr_c_pos (by omega)]
        by_cases r : sp_h ν i = sp_h μ m
        · rw [if_pos r, if_neg (fun z => z.2 r), ← Int.add_assoc]; rfl
        · rw [if_neg r, if_pos ⟨q, r⟩, ← Int.add_assoc]; rfl
      · rw [if_neg q, if_neg (fun z => q z.1), ← Int.add_assoc]; rfl
theorem M5_moved_e {τ : rr_T} {ν μ : Int → Int} (hν : Nu ν) (hμ : Nu μ) (e0 : ∀ i : Int, 0 ≤ i → i < 142 → τ 0 i = ν i) (e1 : ∀ i : Int, 0 ≤ i → i < 142 → τ 1 i = μ i) (e6 : ∀ i : Nat, (i : Int) < ν 140 → τ 6 i = sp_h ν i) (e9 : ∀ i : Nat, (i : Int) < μ 140 → τ 9 i = sp_h μ i) : M5_moved τ = some (sp_M ν μ) := by
  have hk := hν.2.2.1
  have hk2 := hμ.2.2.1
  have q140 := e0 140 (by omega) (by omega)
  have key : ∀ (d n m : Nat), m + d = (ν 140).toNat → d < n → L5_moved_4 τ (fun y => some y) n (ps_sm (fun i => ps_sm (fun j => sp_D ν μ i j) (μ 140).toNat) m) m = some (sp_M ν μ) := by
    intro d
    induction d with
    | zero =>
      intro n m h1 h2
      cases n with
      | zero => omega
      | succ n =>
        rw [L5_moved_4_s, q140, rr_c_pos (by omega), if_pos (by omega)]
        unfold sp_M
        rw [show m = (ν 140).toNat by omega]
    | succ d ih =>
      intro n m h1 h2
      cases n with
      | zero => omega
      | succ n =>
        have ihh := ih n (m + 1) (by omega) (by omega)
        have e := L5_moved_18_e hν hμ e0 e1 e6 e9 m (by omega) (K := fun y1_18 => L5_moved_4 τ (fun y => some y) n y1_18 ((m : Int) + 1)) (ps_sm (fun i => ps_sm (fun j => sp_D ν μ i j) (μ 140).toNat) m) (μ 140).toNat 1000 0 (by omega) (by omega)
        rw [L5_moved_4_s, q140, rr_c_pos (by omega), if_neg (by omega)]
        rw [show ps_sm (fun j => sp_D ν μ m j) 0 = 0 from rfl, Int.add_zero] at e
        rw [← ihh, ps_sm_s]
        exact e
  exact key (ν 140).toNat 1000 0 (by omega) (by omega)
/-! the class's count -/
theorem M3_nameOf_e {σ : rr_T} {ν : Int → Int} (hs : St σ ν) {x : Int} (hx : rr_g x) : M3_nameOf x σ = some (if 0 ≤ x ∧ x < σ 3 0 then σ 0 x else -1) := by
  have hhc := hs.1
  unfold M3_nameOf
  rw [rr_c_pos hx]
  by_cases a : x < 0
  · rw [if_pos a, if_neg (by omega)]
  · rw [if_neg a, rr_c_pos (by omega)]
    by_cases b : σ 3 0 ≤ x
    · rw [if_pos b, if_neg (by omega)]
    · rw [if_neg b, rr_c_pos (by omega), if_pos (by omega)]
theorem C_hname {σ : rr_T} {ν : Int → Int} (hs : St σ ν) (hl : LC σ ν) {i : Nat} (hi : (i : Int) < σ 4 0) : M3_nameOf (σ 11 i) σ = some (sp_h ν i) := by
  have hhc := hs.1
  have e1 : ν 140 = σ 4 0 := hs.2.2.2.2.2.2.2.2.2.1
  obtain ⟨c1, c2⟩ := hl.2.2.1 i (by omega)
  rcases Int.lt_or_eq_of_le hhc.1 with q | q
  · obtain ⟨a1, a2, a3, -, -⟩ := c2 q
    rw [M3_nameOf_e hs (by omega), if_pos ⟨a1, a2⟩, a3]
  · obtain ⟨a1, -, -⟩ := c1 q.symm
    rw [a1, M3_nameOf_e hs (by decide), if_neg (by omega)]
    unfold sp_h
    rw [if_pos ((St_zero hs).mpr q.symm)]
theorem C_hostName {σ : rr_T} {ν : Int → Int} (hs : St σ ν) (hl : LC σ ν) {i : Nat} (hi : (i : Int) < σ 4 0) {x : Int} (e : M3_findKey x σ = some (i : Int)) : M1_hostNameOfKey x σ = some (sp_h ν i) := by
  have hkc := hs.2.1
  apply wp_eq
  unfold M1_hostNameOfKey
  exact wp_be e (wp_c (by omega) (wp_t (by omega) (wp_c (by omega) (wp_be (C_hname hs hl hi) (wp_some rfl)))))
theorem L1_moved_e {σ β : rr_T} {ν μ : Int → Int} (hs : St σ ν) (hl : LC σ ν) (hb : St β μ) (hm : LC β μ) {K : Int → Option Int} : ∀ (d n m : Nat), m + d = (β 4 0).toNat → d < n → L1_movedSince_4 σ β K n (ps_sm (fun j => ps_sm (fun i => sp_D ν μ i j) (ν 140).toNat) m) m = K (ps_sm (fun j => ps_sm (fun i => sp_D ν μ i j) (ν 140).toNat) (β 4 0).toNat) := by
  have hkc := hb.2.1
  have hkc2 := hs.2.1
  have e1 : ν 140 = σ 4 0 := hs.2.2.2.2.2.2.2.2.2.1
  have e2 : μ 140 = β 4 0 := hb.2.2.2.2.2.2.2.2.2.1
  intro d
  induction d with
  | zero =>
    intro n m h1 h2
    cases n with
    | zero => omega
    | succ n =>
      rw [L1_movedSince_4_s, rr_c_pos (by omega), if_pos (by omega), show m = (β 4 0).toNat by omega]
  | succ d ih =>
    intro n m h1 h2
    cases n with
    | zero => omega
    | succ n =>
      have ihh := ih n (m + 1) (by omega) (by omega)
      have ky := hb.2.2.2.2.2.2.2.1 m (by omega) (by omega)
      have r2 := sp_h_r (St_Nu hb) (i := m) (by omega)
      rw [← ihh, ps_sm_s, L1_movedSince_4_s, rr_c_pos (by omega), if_neg (by omega), rr_c_pos (by omega), C_hname hb hm (by omega), Option.bind_some]
      obtain ⟨r, er, hr⟩ := M3_findKey_w hs (x := β 2 m) (by omega)
      rcases hr with a | a
      · obtain ⟨i, rfl⟩ := Int.eq_ofNat_of_zero_le a.1
        have r1 := sp_h_r (St_Nu hs) (i := i) (by omega)
        have ki := hs.2.2.2.2.2.2.2.1 i (by omega) a.2.1
        have one : ps_sm (fun i => sp_D ν μ i m) (ν 140).toNat = sp_D ν μ i m := by
          refine ps_sm_one (by omega) (by omega) (fun k k0 k1 kn => ?_)
          have kk := hs.2.2.2.2.2.2.2.1 k k0 (by omega)
          show sp_D ν μ k m = 0
          unfold sp_D
          rw [if_neg]
          intro z
          apply kn
          exact St_kinj hs k0 (by omega) (by omega) a.2.1 (by omega)
        rw [er, Option.bind_some, rr_c_pos (by omega), if_neg (by omega), C_hostName hs hl a.2.1 er, Option.bind_some, rr_c_pos (by omega)]
        show _ = L1_movedSince_4 σ β K n (_ + ps_sm (fun i => sp_D ν μ i m) (ν 140).toNat) _
        rw [one]
        unfold sp_D
        rw [Int.toNat_natCast, Int.toNat_natCast]
        by_cases q : sp_h ν i = sp_h μ m
        · rw [if_pos q, if_neg (fun z => z.2 q), Int.add_zero]; rfl
        · rw [if_neg q, if_pos ⟨by omega, q⟩]; rfl
      · have none : ps_sm (fun i => sp_D ν μ i m) (ν 140).toNat = 0 := by
          refine ps_sm_none (fun k k0 k1 => ?_)
          have kk := hs.2.2.2.2.2.2.2.1 k k0 (by omega)
          show sp_D ν μ k m = 0
          unfold sp_D
          rw [if_neg]
          intro z
          exact a.2 k k0 (by omega) (by omega)
        rw [er, a.1, Option.bind_some, rr_c_pos (by decide), if_pos (by decide)]
        show _ = L1_movedSince_4 σ β K n (_ + ps_sm (fun i => sp_D ν μ i m) (ν 140).toNat) _
        rw [none, Int.add_zero]; rfl
theorem M1_movedSince_e {σ β : rr_T} {ν μ : Int → Int} (hs : St σ ν) (hl : LC σ ν) (hb : St β μ) (hm : LC β μ) : M1_movedSince σ β = some (sp_M ν μ) := by
  have hkc := hb.2.1
  have e2 : μ 140 = β 4 0 := hb.2.2.2.2.2.2.2.2.2.1
  have e := L1_moved_e hs hl hb hm (K := fun y => some y) (β 4 0).toNat 1000 0 (by omega) (by omega)
  unfold sp_M
  rw [ps_sm_swap, e2]
  exact e
theorem sp_M_r {σ β : rr_T} {ν μ : Int → Int} (hs : St σ ν) (hb : St β μ) : 0 ≤ sp_M ν μ ∧ sp_M ν μ ≤ 40 := by
  have hkc := hb.2.1
  have hkc2 := hs.2.1
  have e1 : ν 140 = σ 4 0 := hs.2.2.2.2.2.2.2.2.2.1
  have e2 : μ 140 = β 4 0 := hb.2.2.2.2.2.2.2.2.2.1
  have hD : ∀ i j : Int, 0 ≤ sp_D ν μ i j ∧ sp_D ν μ i j ≤ 1 := fun i j => by unfold sp_D; split <;> omega
  unfold sp_M
  rw [ps_sm_swap]
  refine ⟨ps_sm_nn (fun k _ _ => ps_sm_nn (fun i _ _ => (hD i k).1)), ?_⟩
  have := ps_sm_bd (f := fun j => ps_sm (fun i => sp_D ν μ i j) (ν 140).toNat) (c := 1) (n := (μ 140).toNat) (fun j j0 j1 => ?_)
  · omega
  · by_cases q : ∃ i : Int, 0 ≤ i ∧ i < σ 4 0 ∧ σ 2 i = μ (100 + j)
    · obtain ⟨i, i0, i1, ei⟩ := q
      have one : ps_sm (fun i => sp_D ν μ i j) (ν 140).toNat = sp_D ν μ i j := by
        refine ps_sm_one i0 (by omega) (fun k k0 k1 kn => ?_)
        have kk := hs.2.2.2.2.2.2.2.1 k k0 (by omega)
        show sp_D ν μ k j = 0
        unfold sp_D
        rw [if_neg]
        intro z
        apply kn
        exact St_kinj hs k0 (by omega) i0 i1 (by omega)
      show ps_sm (fun i => sp_D ν μ i j) (ν 140).toNat ≤ 1
      rw [one]; exact (hD i j).2
    · have none : ps_sm (fun i => sp_D ν μ i j) (ν 140).toNat = 0 := by
        refine ps_sm_none (fun k k0 k1 => ?_)
        have kk := hs.2.2.2.2.2.2.2.1 k k0 (by omega)
        show sp_D ν μ k j = 0
        unfold sp_D
        rw [if_neg]
        intro z
        exact q ⟨k, k0, by omega, by omega⟩
      show ps_sm (fun i => sp_D ν μ i j) (ν 140).toNat ≤ 1
      rw [none]; omega
