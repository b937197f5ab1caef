/-! The text, read by both. -/
def rdK : rr_T → Option (Int × rr_T) := fun σ_12 => rr_c (rr_g (σ_12 6 0)) (if (σ_12 6 0) = 0 then rr_c (rr_g (σ_12 5 0)) (if (σ_12 5 0) ≤ 0 then some ((σ_12 1 0), σ_12) else some ((-1), σ_12)) else some ((σ_12 1 0), σ_12))
def Tx (t : Int → Int) (L : Int) : Prop := (0 ≤ L ∧ L ≤ 120) ∧ ∀ i : Int, 0 ≤ i → i < L → 0 ≤ t i ∧ t i ≤ 127
def Tc (t : Int → Int) (L : Int) (σ : rr_T) : Prop := σ 0 = t ∧ σ 1 0 = L
def CR (t : Int → Int) (L : Int) (x : Nat) (σ : rr_T) (r : Int) (Q : rr_T → Prop) : Prop := ∀ n : Nat, 121 ≤ x + n → ∃ σ2, L2_read_12 rdK n x σ = some (r, σ2) ∧ (r = -1 → Q σ2) ∧ Tc t L σ2
def Ty (t : Int → Int) (L : Int) (τ : rr_T) : Prop := (∀ i : Int, 0 ≤ i → i < L → τ 11 i = t i) ∧ τ 12 0 = L
theorem Tc_c {t : Int → Int} {L : Int} {σ σ2 : rr_T} (h : Tc t L σ) (e0 : σ2 0 = σ 0) (e1 : σ2 1 = σ 1) : Tc t L σ2 := by
  unfold Tc; rw [e0, e1]; exact h
theorem Ty_c {t : Int → Int} {L : Int} {τ τ2 : rr_T} (h : Ty t L τ) (e0 : τ2 11 = τ 11) (e1 : τ2 12 = τ 12) : Ty t L τ2 := by
  unfold Ty; rw [e0, e1]; exact h
theorem CR_step {t : Int → Int} {L : Int} (hT : Tx t L) {σ σ1 : rr_T} {x : Nat} {r : Int} {Q : rr_T → Prop} (hc : Tc t L σ) (hx : (x : Int) < L) (e : M2_accepts (t x) σ = some (1, σ1)) (h : CR t L (x + 1) σ1 r Q) : CR t L x σ r Q := by
  have hL := hT.1
  intro n hn
  cases n with
  | zero => omega
  | succ n =>
    have e1 := hc.2
    rw [L2_read_12_s, rr_c_pos (by omega), if_neg (by omega), rr_c_pos (by omega), hc.1, e, Option.bind_some, rr_c_pos (show rr_g 1 by decide), if_neg (show ¬ (1 : Int) = 0 by decide), show (x : Int) + 1 = ((x + 1 : Nat) : Int) by omega]
    exact h n (by omega)
theorem CR_bad {t : Int → Int} {L : Int} (hT : Tx t L) {σ : rr_T} {x : Nat} {Q : rr_T → Prop} (hc : Tc t L σ) (hx : (x : Int) < L) (e : M2_accepts (t x) σ = some (0, σ)) : CR t L x σ x Q := by
  have hL := hT.1
  intro n hn
  cases n with
  | zero => omega
  | succ n =>
    have e1 := hc.2
    refine ⟨σ, ?_, fun a => by omega, hc⟩
    rw [L2_read_12_s, rr_c_pos (by omega), if_neg (by omega), rr_c_pos (by omega), hc.1, e, Option.bind_some, rr_c_pos (show rr_g 0 by decide), if_pos rfl]
theorem CR_end {t : Int → Int} {L : Int} (hT : Tx t L) {σ : rr_T} {x : Nat} {Q : rr_T → Prop} (hc : Tc t L σ) (hx : (x : Int) = L) (h6 : σ 6 0 = 1 ∨ σ 6 0 = 2 ∨ σ 6 0 = 3) : CR t L x σ L Q := by
  have hL := hT.1
  intro n hn
  cases n with
  | zero => omega
  | succ n =>
    have e1 := hc.2
    refine ⟨σ, ?_, fun a => by omega, hc⟩
    rw [L2_read_12_s, rr_c_pos (by omega), if_pos (by omega)]
    unfold rdK
    rw [rr_c_pos (by omega), if_neg (by omega), e1]
theorem CR_none {t : Int → Int} {L : Int} (hT : Tx t L) {σ : rr_T} {x : Nat} {Q : rr_T → Prop} (hc : Tc t L σ) (hx : (x : Int) = L) (h6 : σ 6 0 = 0) (h5 : σ 5 0 = 0) : CR t L x σ L Q := by
  have hL := hT.1
  intro n hn
  cases n with
  | zero => omega
  | succ n =>
    have e1 := hc.2
    refine ⟨σ, ?_, fun a => by omega, hc⟩
    rw [L2_read_12_s, rr_c_pos (by omega), if_pos (by omega)]
    unfold rdK
    rw [rr_c_pos (by omega), if_pos h6, rr_c_pos (by omega), if_pos (by omega), e1]
theorem CR_fin {t : Int → Int} {L : Int} (hT : Tx t L) {σ : rr_T} {x : Nat} {Q : rr_T → Prop} (hc : Tc t L σ) (hx : (x : Int) = L) (h6 : σ 6 0 = 0) (h5 : 0 < σ 5 0 ∧ σ 5 0 ≤ 40) (hQ : Q σ) : CR t L x σ (-1) Q := by
  have hL := hT.1
  intro n hn
  cases n with
  | zero => omega
  | succ n =>
    have e1 := hc.2
    refine ⟨σ, ?_, fun _ => hQ, hc⟩
    rw [L2_read_12_s, rr_c_pos (by omega), if_pos (by omega)]
    unfold rdK
    rw [rr_c_pos (by omega), if_pos h6, rr_c_pos (by omega), if_neg (by omega)]
theorem nof {x : Int} (hx : rr_g x) : (M2_numbersOf x = some 1 ∧ M5_numbersOf x = some 1 ∧ (x = 100 ∨ x = 101 ∨ x = 103 ∨ x = 107)) ∨ (M2_numbersOf x = some 2 ∧ M5_numbersOf x = some 2 ∧ (x = 104 ∨ x = 119)) ∨ (M2_numbersOf x = some 0 ∧ M5_numbersOf x = some (-1) ∧ x ≠ 100 ∧ x ≠ 101 ∧ x ≠ 103 ∧ x ≠ 104 ∧ x ≠ 107 ∧ x ≠ 119) := by
  by_cases a1 : x = 100
  · subst a1; exact Or.inl ⟨rfl, rfl, by decide⟩
  · by_cases a2 : x = 101
    · subst a2; exact Or.inl ⟨rfl, rfl, by decide⟩
    · by_cases a3 : x = 103
      · subst a3; exact Or.inl ⟨rfl, rfl, by decide⟩
      · by_cases a4 : x = 104
        · subst a4; exact Or.inr (Or.inl ⟨rfl, rfl, by decide⟩)
        · by_cases a5 : x = 107
          · subst a5; exact Or.inl ⟨rfl, rfl, by decide⟩
          · by_cases a6 : x = 119
            · subst a6; exact Or.inr (Or.inl ⟨rfl, rfl, by decide⟩)
            · refine Or.inr (Or.inr ⟨?_, ?_, a1, a2, a3, a4, a5, a6⟩)
              · unfold M2_numbersOf; rw [rr_c_pos hx, if_neg a1, if_neg a2, if_neg a3, if_neg a4, if_neg a5, if_neg a6]
              · unfold M5_numbersOf; rw [rr_c_pos hx, if_neg a1, if_neg a2, if_neg a3, if_neg a4, if_neg a5, if_neg a6]
theorem fig_y {x : Int} (h : 48 ≤ x ∧ x ≤ 57) : M2_isFigure x = some 1 := by
  unfold M2_isFigure; rw [rr_c_pos (by omega), if_neg (by omega), if_neg (by omega)]
theorem fig_n {x : Int} (hx : rr_g x) (h : ¬ (48 ≤ x ∧ x ≤ 57)) : M2_isFigure x = some 0 := by
  apply wp_eq
  unfold M2_isFigure
  exact wp_c hx (wp_if (fun _ => wp_some rfl) (fun z => wp_t (by omega) (wp_some rfl)))
theorem ac_sp {σ : rr_T} (h : σ 6 0 = 0 ∨ σ 6 0 = 1 ∨ σ 6 0 = 3) : M2_accepts 32 σ = some (1, σ) := by
  apply wp_eq
  unfold M2_accepts
  exact wp_c (by omega) (wp_f (by omega) (wp_c (by decide) (wp_t rfl (wp_some rfl))))
theorem ac_0y {σ : rr_T} (h : σ 6 0 = 0) {x v : Int} (hx : rr_g x) (h32 : x ≠ 32) (hv : M2_numbersOf x = some v) (v0 : v = 1 ∨ v = 2) (h5 : 0 ≤ σ 5 0 ∧ σ 5 0 < 40) : M2_accepts x σ = some (1, rr_t (rr_t (rr_s σ 2 (σ 5 0) x) 7 0) 6 1) := by
  apply wp_eq
  unfold M2_accepts M2_startsOrder
  exact wp_c (by omega) (wp_f (by omega) (wp_c hx (wp_f h32 (wp_t h (wp_be (a := (1, rr_t (rr_t (rr_s σ 2 (σ 5 0) x) 7 0) 6 1)) (by rw [hv, Option.bind_some, rr_c_pos (by omega), if_neg (by omega), rr_c_pos (by omega), if_pos (by omega), rr_c_pos (by omega)]) (wp_c (Or.inr rfl) (wp_some rfl)))))))
theorem ac_0n {σ : rr_T} (h : σ 6 0 = 0) {x : Int} (hx : rr_g x) (h32 : x ≠ 32) (hv : M2_numbersOf x = some 0) : M2_accepts x σ = some (0, σ) := by
  apply wp_eq
  unfold M2_accepts M2_startsOrder
  exact wp_c (by omega) (wp_f (by omega) (wp_c hx (wp_f h32 (wp_t h (wp_be (a := (0, σ)) (by rw [hv, Option.bind_some, rr_c_pos (by decide), if_pos rfl]) (wp_c (Or.inl rfl) (wp_some rfl)))))))
theorem ac_1y {σ : rr_T} (h : σ 6 0 = 1) {x : Int} (hx : 48 ≤ x ∧ x ≤ 57) : ∃ σ1 : rr_T, M2_accepts x σ = some (1, σ1) ∧ (∀ k, k ≠ 6 → k ≠ 8 → k ≠ 9 → σ1 k = σ k) ∧ σ1 6 0 = 2 ∧ σ1 8 0 = 1 ∧ σ1 9 0 = x - 48 := by
  have z8 : rr_t (rr_t (rr_t σ 9 0) 8 0) 6 2 8 0 = 0 := by rw [t_n (by decide), t_s]
  have z9 : rr_t (rr_t (rr_t σ 9 0) 8 0) 6 2 9 0 = 0 := by rw [t_n (by decide), t_n (by decide), t_s]
  have eA : M2_addsFigure x (rr_t (rr_t (rr_t σ 9 0) 8 0) 6 2) = some (1, rr_t (rr_t (rr_t (rr_t (rr_t σ 9 0) 8 0) 6 2) 9 (10 * 0 + (x - 48))) 8 (0 + 1)) := by
    unfold M2_addsFigure; rw [z8, z9, rr_c_pos (by decide), if_pos (by decide)]
  refine ⟨rr_t (rr_t (rr_t (rr_t (rr_t σ 9 0) 8 0) 6 2) 9 (10 * 0 + (x - 48))) 8 (0 + 1), ?_, fun k a b c => ?_, ?_, ?_, ?_⟩
  · apply wp_eq
    unfold M2_accepts M2_startsNumber
    exact wp_c (by omega) (wp_f (by omega) (wp_c (by omega) (wp_f (by omega) (wp_f (by omega) (wp_t h (wp_b (wp_be (fig_y hx) (wp_c (by decide) (wp_f (by decide) (wp_be eA (wp_c (Or.inr rfl) (wp_some (wp_c (Or.inr rfl) (wp_some rfl))))))))))))))
  · rw [t_n b, t_n c, t_n a, t_n b, t_n c]
  · rw [t_n (by decide), t_n (by decide), t_s]
  · rw [t_s]; rfl
  · rw [t_n (by decide), t_s]; omega
theorem ac_1n {σ : rr_T} (h : σ 6 0 = 1) {x : Int} (hg : rr_g x) (h32 : x ≠ 32) (hx : ¬ (48 ≤ x ∧ x ≤ 57)) : M2_accepts x σ = some (0, σ) := by
  apply wp_eq
  unfold M2_accepts M2_startsNumber
  exact wp_c (by omega) (wp_f (by omega) (wp_c hg (wp_f h32 (wp_f (by omega) (wp_t h (wp_b (wp_be (fig_n hg hx) (wp_c (by decide) (wp_t rfl (wp_some (wp_c (Or.inl rfl) (wp_some rfl))))))))))))
theorem ac_2y {σ : rr_T} (h : σ 6 0 = 2) {x : Int} (hx : 48 ≤ x ∧ x ≤ 57) (h8 : 0 ≤ σ 8 0 ∧ σ 8 0 < 3) : ∃ σ1 : rr_T, M2_accepts x σ = some (1, σ1) ∧ (∀ k, k ≠ 8 → k ≠ 9 → σ1 k = σ k) ∧ σ1 8 0 = σ 8 0 + 1 ∧ σ1 9 0 = 10 * σ 9 0 + (x - 48) := by
  refine ⟨rr_t (rr_t σ 9 (10 * σ 9 0 + (x - 48))) 8 (σ 8 0 + 1), ?_, fun k a b => ?_, ?_, ?_⟩
  · apply wp_eq
    unfold M2_accepts M2_addsFigure
    exact wp_c (by omega) (wp_t h (wp_be (fig_y hx) (wp_c (by decide) (wp_f (by decide) (wp_b (wp_c (by omega) (wp_t h8.2 (wp_some (wp_c (Or.inr rfl) (wp_some rfl))))))))))
  · rw [t_n a, t_n b]
  · rw [t_s]
  · rw [t_n (by decide), t_s]
theorem ac_2n {σ : rr_T} (h : σ 6 0 = 2) {x : Int} (hx : 48 ≤ x ∧ x ≤ 57) (h8 : σ 8 0 = 3) : M2_accepts x σ = some (0, σ) := by
  apply wp_eq
  unfold M2_accepts M2_addsFigure
  exact wp_c (by omega) (wp_t h (wp_be (fig_y hx) (wp_c (by decide) (wp_f (by decide) (wp_b (wp_c (by omega) (wp_f (by omega) (wp_some (wp_c (Or.inl rfl) (wp_some rfl))))))))))
theorem ac_2e {σ σ1 : rr_T} (h : σ 6 0 = 2) {x : Int} (hg : rr_g x) (hx : ¬ (48 ≤ x ∧ x ≤ 57)) (e : M2_endNumber σ = some σ1) (h1 : σ1 6 0 = 1 ∨ σ1 6 0 = 3) : M2_accepts x σ = M2_accepts x σ1 := by
  unfold M2_accepts
  rw [rr_c_pos (show rr_g (σ 6 0) by omega), if_pos h, fig_n hg hx, Option.bind_some, rr_c_pos (show rr_g 0 by decide), if_pos rfl, e, Option.bind_some, rr_c_pos hg]
  rw [rr_c_pos (show rr_g (σ1 6 0) by omega), if_neg (show ¬ σ1 6 0 = 2 by omega)]
  rw [rr_c_pos (show rr_g (σ1 6 0) by omega), rr_c_pos hg]
theorem ac_3y {σ : rr_T} (h : σ 6 0 = 3) : M2_accepts 59 σ = some (1, rr_t (rr_t σ 5 (σ 5 0 + 1)) 6 0) := by
  apply wp_eq
  unfold M2_accepts M2_endsOrder
  exact wp_c (by omega) (wp_f (by omega) (wp_c (by decide) (wp_f (by decide) (wp_f (by omega) (wp_f (by omega) (wp_b (wp_c (by decide) (wp_t rfl (wp_some (wp_c (Or.inr rfl) (wp_some rfl)))))))))))
theorem ac_3n {σ : rr_T} (h : σ 6 0 = 3) {x : Int} (hg : rr_g x) (h32 : x ≠ 32) (hx : x ≠ 59) : M2_accepts x σ = some (0, σ) := by
  apply wp_eq
  unfold M2_accepts M2_endsOrder
  exact wp_c (by omega) (wp_f (by omega) (wp_c hg (wp_f h32 (wp_f (by omega) (wp_f (by omega) (wp_b (wp_c hg (wp_f hx (wp_some (wp_c (Or.inl rfl) (wp_some rfl)))))))))))
/-- the number ends -/
theorem en_e {σ : rr_T} (h5 : 0 ≤ σ 5 0 ∧ σ 5 0 < 40) (h7 : σ 7 0 = 0 ∨ σ 7 0 = 1) {v : Int} (hv : M2_numbersOf (σ 2 (σ 5 0)) = some v) (v0 : v = 1 ∨ v = 2) : ∃ σ1 : rr_T, M2_endNumber σ = some σ1 ∧ (∀ k, k ≠ 3 → k ≠ 4 → k ≠ 6 → k ≠ 7 → σ1 k = σ k) ∧ σ1 7 0 = σ 7 0 + 1 ∧ (v ≤ σ 7 0 + 1 → σ1 6 0 = 3) ∧ (¬ v ≤ σ 7 0 + 1 → σ1 6 0 = 1) ∧ (σ 7 0 = 0 → σ1 3 = rr_u (σ 3) (σ 5 0) (σ 9 0) ∧ σ1 4 = σ 4) ∧ (σ 7 0 = 1 → σ1 4 = rr_u (σ 4) (σ 5 0) (σ 9 0) ∧ σ1 3 = σ 3) := by
  have key : rr_wp (M2_endNumber σ) (fun σ1 => (∀ k, k ≠ 3 → k ≠ 4 → k ≠ 6 → k ≠ 7 → σ1 k = σ k) ∧ σ1 7 0 = σ 7 0 + 1 ∧ (v ≤ σ 7 0 + 1 → σ1 6 0 = 3) ∧ (¬ v ≤ σ 7 0 + 1 → σ1 6 0 = 1) ∧ (σ 7 0 = 0 → σ1 3 = rr_u (σ 3) (σ 5 0) (σ 9 0) ∧ σ1 4 = σ 4) ∧ (σ 7 0 = 1 → σ1 4 = rr_u (σ 4) (σ 5 0) (σ 9 0) ∧ σ1 3 = σ 3)) := by
    unfold M2_endNumber
    refine wp_c (by omega) ?_
    by_cases q : σ 7 0 = 0
    · refine wp_t q (wp_c (by omega) (wp_be hv (wp_c (by omega) (wp_if (fun z => wp_some ?_) (fun z => wp_some ?_)))))
      · refine ⟨fun k a b c d => by rw [t_n c, t_n d, s_n a], by rw [t_n (by decide), t_s], fun _ => by rw [t_s], fun z2 => absurd z z2, fun _ => ⟨by rw [t_n (by decide), t_n (by decide), s_s], by rw [t_n (by decide), t_n (by decide), s_n (by decide)]⟩, fun z2 => by omega⟩
      · refine ⟨fun k a b c d => by rw [t_n c, t_n d, s_n a], by rw [t_n (by decide), t_s], fun z2 => absurd z2 z, fun _ => by rw [t_s], fun _ => ⟨by rw [t_n (by decide), t_n (by decide), s_s], by rw [t_n (by decide), t_n (by decide), s_n (by decide)]⟩, fun z2 => by omega⟩
    · refine wp_f q (wp_c (by omega) (wp_be hv (wp_c (by omega) (wp_if (fun z => wp_some ?_) (fun z => wp_some ?_)))))
      · refine ⟨fun k a b c d => by rw [t_n c, t_n d, s_n b], by rw [t_n (by decide), t_s], fun _ => by rw [t_s], fun z2 => absurd z z2, fun z2 => absurd z2 q, fun _ => ⟨by rw [t_n (by decide), t_n (by decide), s_s], by rw [t_n (by decide), t_n (by decide), s_n (by decide)]⟩⟩
      · refine ⟨fun k a b c d => by rw [t_n c, t_n d, s_n b], by rw [t_n (by decide), t_s], fun z2 => absurd z2 z, fun _ => by rw [t_s], fun z2 => absurd z2 q, fun _ => ⟨by rw [t_n (by decide), t_n (by decide), s_s], by rw [t_n (by decide), t_n (by decide), s_n (by decide)]⟩⟩
  exact key
