/-! folds over names, and over the hosts alone -/
def ps_it {X : Type} (f : Int → X → X) : Nat → X → X
  | 0, x => x
  | n + 1, x => f n (ps_it f n x)
def ps_ih {X : Type} (N : Int → Int) (f : Int → X → X) : Nat → X → X
  | 0, x => x
  | h + 1, x => f (N h) (ps_ih N f h x)
theorem ps_it_s {X : Type} (f : Int → X → X) (n : Nat) (x : X) : ps_it f (n + 1) x = f n (ps_it f n x) := rfl
theorem ps_ih_s {X : Type} (N : Int → Int) (f : Int → X → X) (n : Nat) (x : X) : ps_ih N f (n + 1) x = f (N n) (ps_ih N f n x) := rfl
theorem ps_it_cong {X : Type} {f g : Int → X → X} {x : X} : ∀ {n : Nat}, (∀ k : Nat, k < n → ∀ y, f k y = g k y) → ps_it f n x = ps_it g n x
  | 0, _ => rfl
  | n + 1, h => by rw [ps_it_s, ps_it_s, ps_it_cong (fun k hk => h k (by omega)), h n (by omega)]
theorem ps_skip {X : Type} {f : Int → X → X} {x : X} {a : Nat} : ∀ {b : Nat}, a ≤ b → (∀ k : Nat, a ≤ k → k < b → ∀ y, f k y = y) → ps_it f b x = ps_it f a x
  | 0, h, _ => by
    have : a = 0 := by omega
    subst this; rfl
  | b + 1, h, hs => by
    rcases Nat.lt_or_ge b a with q | q
    · have : a = b + 1 := by omega
      subst this; rfl
    · rw [ps_it_s, hs b q (by omega), ps_skip q (fun k h1 h2 => hs k h1 (by omega))]
theorem ps_fold_key {X : Type} {f : Int → X → X} {x : X} {N : Int → Int} {hc : Nat} (hs : ∀ i j : Nat, i < j → j < hc → N i < N j) (hr : ∀ i : Nat, i < hc → 0 ≤ N i ∧ N i < 100) (hk : ∀ n : Nat, n < 100 → (∀ i : Nat, i < hc → N i ≠ n) → ∀ y, f n y = y) : ∀ h : Nat, h ≤ hc → ps_it f (if h < hc then (N h).toNat else 100) x = ps_ih N f h x := by
  intro h
  induction h with
  | zero =>
    intro _
    show _ = x
    have : ps_it f (if 0 < hc then (N (0 : Nat)).toNat else 100) x = ps_it f 0 x := by
      apply ps_skip (Nat.zero_le _)
      intro k _ hk2 y
      have hb : k < 100 := by
        by_cases h0 : 0 < hc
        · rw [if_pos h0] at hk2
          have := hr 0 h0
          omega
        · rw [if_neg h0] at hk2; exact hk2
      refine hk k hb (fun i hi he => ?_) y
      have h0 : 0 < hc := by omega
      rw [if_pos h0] at hk2
      have h1 := hr 0 h0
      rcases Nat.eq_zero_or_pos i with z | z
      · subst z; omega
      · have := hs 0 i z hi
        omega
    exact this
  | succ h ih =>
    intro hle
    have ih := ih (by omega)
    have hh : h < hc := by omega
    rw [if_pos hh] at ih
    have h1 := hr h hh
    rw [ps_ih_s, ← ih]
    have e : f (N h) (ps_it f (N h).toNat x) = ps_it f ((N h).toNat + 1) x := by
      rw [ps_it_s]
      have : (((N h).toNat : Nat) : Int) = N h := by omega
      rw [this]
    rw [e]
    apply ps_skip
    · by_cases h2 : h + 1 < hc
      · rw [if_pos h2]
        have := hs h (h + 1) (by omega) h2
        omega
      · rw [if_neg h2]; omega
    · intro k hk1 hk2 y
      have hb : k < 100 := by
        by_cases h2 : h + 1 < hc
        · rw [if_pos h2] at hk2
          have := hr (h + 1) h2
          omega
        · rw [if_neg h2] at hk2; exact hk2
      refine hk k hb (fun i hi he => ?_) y
      rcases Nat.lt_or_ge h i with q | q
      · have h2 : h + 1 < hc := by omega
        rw [if_pos h2] at hk2
        rcases Nat.lt_or_ge (h + 1) i with q2 | q2
        · have := hs (h + 1) i q2 hi
          have := hr (h + 1) h2
          omega
        · have : i = h + 1 := by omega
          subst this; omega
      · rcases Nat.lt_or_ge i h with q2 | q2
        · have := hs i h q2 hh
          omega
        · have : i = h := by omega
          subst this; omega
theorem ps_fold {X : Type} {f : Int → X → X} {x : X} {N : Int → Int} {hc : Nat} (hs : ∀ i j : Nat, i < j → j < hc → N i < N j) (hr : ∀ i : Nat, i < hc → 0 ≤ N i ∧ N i < 100) (hk : ∀ n : Nat, n < 100 → (∀ i : Nat, i < hc → N i ≠ n) → ∀ y, f n y = y) : ps_it f 100 x = ps_ih N f hc x := by
  have := ps_fold_key (f := f) (x := x) hs hr hk hc (Nat.le_refl _)
  rw [if_neg (Nat.lt_irrefl _)] at this
  exact this
/-! the first place with a property, once round -/
def ps_ft (P : Int → Bool) : Nat → Int → Nat
  | 0, _ => 0
  | k + 1, p => if P p = true then 0 else ps_ft P k ((p + 1) % 101) + 1
theorem ps_ft_spec (P : Int → Bool) : ∀ (k : Nat) (p : Int), 0 ≤ p → p < 101 → (∃ t : Nat, t < k ∧ P ((p + t) % 101) = true) → ps_ft P k p < k ∧ P ((p + ps_ft P k p) % 101) = true ∧ ∀ s : Nat, s < ps_ft P k p → P ((p + s) % 101) = false
  | 0, p, _, _, h => by obtain ⟨t, h1, _⟩ := h; omega
  | k + 1, p, h0, h1, h => by
    unfold ps_ft
    by_cases hp : P p = true
    · rw [if_pos hp]
      refine ⟨by omega, ?_, fun s hs => by omega⟩
      have : (p + ((0 : Nat) : Int)) % 101 = p := by omega
      rw [this]; exact hp
    · rw [if_neg hp]
      obtain ⟨t, ht, ht2⟩ := h
      have ht0 : t ≠ 0 := by
        intro z
        subst z
        have : (p + ((0 : Nat) : Int)) % 101 = p := by omega
        rw [this] at ht2
        exact hp ht2
      have e : ∀ s : Nat, ((p + 1) % 101 + (s : Int)) % 101 = (p + ((s + 1 : Nat) : Int)) % 101 := by intro s; omega
      obtain ⟨a1, a2, a3⟩ := ps_ft_spec P k ((p + 1) % 101) (by omega) (by omega) ⟨t - 1, by omega, by
        rw [e (t - 1), show t - 1 + 1 = t by omega]; exact ht2⟩
      refine ⟨by omega, ?_, ?_⟩
      · rw [← e]; exact a2
      · intro s hs
        rcases Nat.eq_zero_or_pos s with z | z
        · subst z
          have : (p + ((0 : Nat) : Int)) % 101 = p := by omega
          rw [this]
          cases hq : P p
          · rfl
          · exact absurd hq hp
        · have := a3 (s - 1) (by omega)
          rw [e (s - 1), show s - 1 + 1 = s by omega] at this
          exact this
theorem ps_ft_ex {P : Int → Bool} {p q : Int} (h0 : 0 ≤ p) (h1 : p < 101) (q0 : 0 ≤ q) (q1 : q < 101) (h : P q = true) : ∃ t : Nat, t < 101 ∧ P ((p + t) % 101) = true := by
  by_cases hq : p ≤ q
  · refine ⟨(q - p).toNat, by omega, ?_⟩
    have : (p + ((q - p).toNat : Int)) % 101 = q := by omega
    rw [this]; exact h
  · refine ⟨(q - p + 101).toNat, by omega, ?_⟩
    have : (p + ((q - p + 101).toNat : Int)) % 101 = q := by omega
    rw [this]; exact h
theorem ps_ft_uniq {P : Int → Bool} {k t : Nat} {p : Int} (h0 : 0 ≤ p) (h1 : p < 101) (ht : t < k) (hp : P ((p + t) % 101) = true) (hn : ∀ s : Nat, s < t → P ((p + s) % 101) = false) : ps_ft P k p = t := by
  obtain ⟨a1, a2, a3⟩ := ps_ft_spec P k p h0 h1 ⟨t, ht, hp⟩
  rcases Nat.lt_trichotomy (ps_ft P k p) t with q | q | q
  · have := hn _ q
    rw [a2] at this; cases this
  · exact q
  · have := a3 _ q
    rw [hp] at this; cases this
theorem ps_ft_cong {P R : Int → Bool} : ∀ {k : Nat} {p : Int}, 0 ≤ p → p < 101 → (∀ q : Int, 0 ≤ q → q < 101 → P q = R q) → ps_ft P k p = ps_ft R k p
  | 0, _, _, _, _ => rfl
  | k + 1, p, h0, h1, h => by
    unfold ps_ft
    rw [h p h0 h1, ps_ft_cong (k := k) (p := (p + 1) % 101) (by omega) (by omega) h]
/-! how many places are taken -/
def ps_oc (o : Int → Int) : Nat → Nat
  | 0 => 0
  | n + 1 => ps_oc o n + (if o n = -1 then 0 else 1)
theorem ps_oc_u (o : Int → Int) (q v : Int) (hq : 0 ≤ q) : ∀ n : Nat, ps_oc (rr_u o q v) n ≤ ps_oc o n + (if q < n then 1 else 0)
  | 0 => by simp [ps_oc]
  | n + 1 => by
    have ih := ps_oc_u o q v hq n
    unfold ps_oc
    by_cases e : (n : Int) = q
    · rw [if_neg (show ¬ q < (n : Int) by omega)] at ih
      rw [if_pos (show q < ((n + 1 : Nat) : Int) by omega)]
      split <;> omega
    · rw [u_n e]
      by_cases h2 : q < (n : Int)
      · rw [if_pos h2] at ih
        rw [if_pos (show q < ((n + 1 : Nat) : Int) by omega)]
        omega
      · rw [if_neg h2] at ih
        rw [if_neg (show ¬ q < ((n + 1 : Nat) : Int) by omega)]
        omega
theorem ps_oc_free (o : Int → Int) : ∀ n : Nat, ps_oc o n < n → ∃ q : Int, 0 ≤ q ∧ q < n ∧ o q = -1
  | 0, h => by omega
  | n + 1, h => by
    unfold ps_oc at h
    by_cases e : o n = -1
    · exact ⟨n, by omega, by omega, e⟩
    · rw [if_neg e] at h
      obtain ⟨q, h1, h2, h3⟩ := ps_oc_free o n (by omega)
      exact ⟨q, h1, by omega, h3⟩
theorem ps_oc_none : ∀ n : Nat, ps_oc (fun _ => -1) n = 0
  | 0 => rfl
  | n + 1 => by unfold ps_oc; rw [ps_oc_none n]; rfl
/-! sums -/
def ps_sm (f : Int → Int) : Nat → Int
  | 0 => 0
  | n + 1 => ps_sm f n + f n
theorem ps_sm_s (f : Int → Int) (n : Nat) : ps_sm f (n + 1) = ps_sm f n + f n := rfl
theorem ps_sm_u (f : Int → Int) (q v : Int) (hq : 0 ≤ q) : ∀ n : Nat, ps_sm (rr_u f q v) n = ps_sm f n + (if q < n then v - f q else 0)
  | 0 => by simp [ps_sm]; omega
  | n + 1 => by
    have ih := ps_sm_u f q v hq n
    rw [ps_sm_s, ps_sm_s, ih]
    by_cases e : (n : Int) = q
    · rw [if_neg (show ¬ q < (n : Int) by omega), if_pos (show q < ((n + 1 : Nat) : Int) by omega), e, u_s]
      omega
    · rw [u_n e]
      by_cases h2 : q < (n : Int)
      · rw [if_pos h2, if_pos (show q < ((n + 1 : Nat) : Int) by omega)]; omega
      · rw [if_neg h2, if_neg (show ¬ q < ((n + 1 : Nat) : Int) by omega)]; omega
theorem ps_sm_lt {f g : Int → Int} : ∀ {n : Nat}, ps_sm f n < ps_sm g n → ∃ q : Int, 0 ≤ q ∧ q < n ∧ f q < g q
  | 0, h => absurd h (Int.lt_irrefl _)
  | n + 1, h => by
    rw [ps_sm_s, ps_sm_s] at h
    by_cases e : f n < g n
    · exact ⟨n, by omega, by omega, e⟩
    · obtain ⟨q, h1, h2, h3⟩ := ps_sm_lt (f := f) (g := g) (n := n) (by omega)
      exact ⟨q, h1, by omega, h3⟩
theorem ps_sm_cong {f g : Int → Int} : ∀ {n : Nat}, (∀ k : Int, 0 ≤ k → k < n → f k = g k) → ps_sm f n = ps_sm g n
  | 0, _ => rfl
  | n + 1, h => by rw [ps_sm_s, ps_sm_s, ps_sm_cong (fun k h1 h2 => h k h1 (by omega)), h n (by omega) (by omega)]
theorem ps_sm_zero : ∀ n : Nat, ps_sm (fun _ => 0) n = 0
  | 0 => rfl
  | n + 1 => by rw [ps_sm_s, ps_sm_zero n]; rfl
theorem ps_sm_nn {f : Int → Int} : ∀ {n : Nat}, (∀ k : Int, 0 ≤ k → k < n → 0 ≤ f k) → 0 ≤ ps_sm f n
  | 0, _ => Int.le_refl _
  | n + 1, h => by
    have h1 := ps_sm_nn (f := f) (n := n) (fun k a b => h k a (by omega))
    have h2 := h n (by omega) (by omega)
    rw [ps_sm_s]; omega
theorem ps_sm_mono {f : Int → Int} {m : Nat} : ∀ {n : Nat}, m ≤ n → (∀ k : Int, 0 ≤ k → k < n → 0 ≤ f k) → ps_sm f m ≤ ps_sm f n
  | 0, h, _ => by
    have : m = 0 := by omega
    subst this; exact Int.le_refl _
  | n + 1, h, hf => by
    rcases Nat.lt_or_ge n m with q | q
    · have : m = n + 1 := by omega
      subst this; exact Int.le_refl _
    · have h1 := ps_sm_mono (f := f) q (fun k a b => hf k a (by omega))
      have h2 := hf n (by omega) (by omega)
      rw [ps_sm_s]; omega
theorem ps_sm_it (f : Int → Int) : ∀ n : Nat, ps_it (fun k s => s + f k) n 0 = ps_sm f n
  | 0 => rfl
  | n + 1 => by rw [ps_it_s, ps_sm_it f n, ps_sm_s]
theorem ps_sm_ih (f N : Int → Int) : ∀ n : Nat, ps_ih N (fun k s => s + f k) n 0 = ps_sm (fun h => f (N h)) n
  | 0 => rfl
  | n + 1 => by rw [ps_ih_s, ps_sm_ih f N n, ps_sm_s]
