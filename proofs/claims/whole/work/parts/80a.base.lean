/-! The pure part: what the mirrors answer. rr_wp m P: m answers something of which P holds. -/
def rr_wp {α : Type} (m : Option α) (P : α → Prop) : Prop := ∃ a, m = some a ∧ P a
theorem wp_some {α : Type} {a : α} {P : α → Prop} (h : P a) : rr_wp (some a) P := ⟨a, rfl, h⟩
theorem wp_c {α : Type} {c : Prop} [Decidable c] {x : Option α} {P : α → Prop} (hc : c) (h : rr_wp x P) : rr_wp (rr_c c x) P := by
  rw [rr_c_pos hc]; exact h
theorem wp_if {α : Type} {c : Prop} [Decidable c] {x y : Option α} {P : α → Prop} (h1 : c → rr_wp x P) (h2 : ¬ c → rr_wp y P) : rr_wp (if c then x else y) P := by
  by_cases hc : c
  · rw [if_pos hc]; exact h1 hc
  · rw [if_neg hc]; exact h2 hc
theorem wp_t {α : Type} {c : Prop} [Decidable c] {x y : Option α} {P : α → Prop} (hc : c) (h1 : rr_wp x P) : rr_wp (if c then x else y) P := by
  rw [if_pos hc]; exact h1
theorem wp_f {α : Type} {c : Prop} [Decidable c] {x y : Option α} {P : α → Prop} (hc : ¬ c) (h1 : rr_wp y P) : rr_wp (if c then x else y) P := by
  rw [if_neg hc]; exact h1
theorem wp_b {α β : Type} {x : Option α} {f : α → Option β} {P : β → Prop} (h : rr_wp x (fun a => rr_wp (f a) P)) : rr_wp (x.bind f) P := by
  obtain ⟨a, h1, h2⟩ := h
  rw [rr_b_eq h1]; exact h2
theorem wp_be {α β : Type} {x : Option α} {f : α → Option β} {P : β → Prop} {a : α} (h : x = some a) (h2 : rr_wp (f a) P) : rr_wp (x.bind f) P := by
  rw [rr_b_eq h]; exact h2
theorem wp_mono {α : Type} {m : Option α} {P Q : α → Prop} (h : rr_wp m P) (hi : ∀ a, P a → Q a) : rr_wp m Q := by
  obtain ⟨a, h1, h2⟩ := h
  exact ⟨a, h1, hi a h2⟩
theorem wp_e {α : Type} {m : Option α} {a : α} {P : α → Prop} (h : m = some a) (hp : P a) : rr_wp m P := ⟨a, h, hp⟩
theorem wp_eq {α : Type} {m : Option α} {a : α} (h : rr_wp m (fun b => b = a)) : m = some a := by
  obtain ⟨b, h1, h2⟩ := h
  rw [h1, h2]
/-! stores -/
theorem u_s (f : Int → Int) (i v : Int) : rr_u f i v i = v := if_pos rfl
theorem u_n {f : Int → Int} {i v j : Int} (h : j ≠ i) : rr_u f i v j = f j := if_neg h
theorem u_e (f : Int → Int) (i v j : Int) : rr_u f i v j = if j = i then v else f j := rfl
theorem s_s (σ : rr_T) (k : Nat) (i v : Int) : rr_s σ k i v k = rr_u (σ k) i v := if_pos rfl
theorem s_n {σ : rr_T} {k : Nat} {i v : Int} {j : Nat} (h : j ≠ k) : rr_s σ k i v j = σ j := if_neg h
theorem t_s (σ : rr_T) (k : Nat) (v i : Int) : rr_t σ k v k i = v := congrFun (show rr_t σ k v k = fun _ => v from if_pos rfl) i
theorem t_n {σ : rr_T} {k : Nat} {v : Int} {j : Nat} (h : j ≠ k) : rr_t σ k v j = σ j := if_neg h
theorem z_s (S : Nat → rr_T) (k : Nat) (τ : rr_T) : rr_z S k τ k = τ := if_pos rfl
theorem z_n {S : Nat → rr_T} {k : Nat} {τ : rr_T} {j : Nat} (h : j ≠ k) : rr_z S k τ j = S j := if_neg h
theorem w_s (σ : rr_T) (k : Nat) (f : Int → Int) : rr_w σ k f k = f := if_pos rfl
theorem w_n {σ : rr_T} {k : Nat} {f : Int → Int} {j : Nat} (h : j ≠ k) : rr_w σ k f j = σ j := if_neg h
