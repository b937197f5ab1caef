/-! The first state. -/
theorem St_i0 : St rr_i0 (rr_i5 0) := by
  have e : rr_i5 0 = rr_u (fun _ => 0) 141 25 := rfl
  rw [e]
  have z : ∀ n : Int, n ≠ 141 → rr_u (fun _ => 0) 141 25 n = 0 := fun n hn => by rw [u_n hn]
  have i3 : rr_i0 3 0 = 0 := rfl
  have i4 : rr_i0 4 0 = 0 := rfl
  have i5 : rr_i0 5 0 = 25 := rfl
  have i6 : rr_i0 6 0 = 0 := rfl
  unfold St
  rw [i3, i4, i5, i6]
  exact ⟨by decide, by decide, by decide, by decide, fun i a b => by omega, fun i j a b c => by omega, fun n a b _ => z n (by omega), fun i a b => by omega, fun i j a b c => by omega, z 140 (by decide), u_s _ _ _, z 142 (by decide)⟩
theorem O_init : rr_ki Sim := by
  obtain ⟨o1, a1, a2, a3⟩ := M1_lay_w St_i0
  obtain ⟨o5, b1, b2, b3⟩ := M5_lay_w (St_Nu St_i0)
  have b0 : o5 0 = rr_i5 0 := b2 0 (by decide) (by decide) (by decide) (by decide)
  have bk : ∀ k, k = 3 ∨ k = 4 ∨ k = 12 → ∀ i, o5 k i = 0 := fun k hk i => by
    rw [b2 k (by omega) (by omega) (by omega) (by omega)]
    show rr_s (fun _ _ => 0) 0 141 25 k i = 0
    rw [s_n (by omega)]
  refine ⟨o1, o5, a1, b1, ?_⟩
  have c0 : rr_iC o1 0 = o1 := rfl
  have c9 : rr_iC o1 9 0 0 = 0 := rfl
  have c2 : rr_iC o1 2 1 0 = 0 := rfl
  have c3 : ∀ j : Nat, rr_iC o1 3 j 0 = 0 := fun j => rfl
  unfold Sim
  rw [c0, b0]
  refine ⟨St_7 a2 St_i0, a3, b3, ?_, ?_, ?_⟩
  · unfold Hi
    rw [c9, bk 3 (by decide) 0]
    exact ⟨by decide, rfl, fun j hj => by omega⟩
  · unfold Sc
    rw [c2, bk 12 (by decide) 0]
    exact ⟨by decide, rfl, fun i a b => by omega⟩
  · unfold Ct
    rw [c3, c3, c3, bk 4 (by decide) 0, bk 4 (by decide) 1, bk 4 (by decide) 2]
    exact ⟨by decide, by decide, by decide⟩
