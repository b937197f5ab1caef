def rr_wS (g : rr_G) (ad : Nat → Nat) (σ : rr_T) : va_W := [(ad 0, .inr (3, [.ref (ad 1), .ref (ad 2), .ref (ad 3), .int (rr_i (σ 3 0)), .int (rr_i (σ 4 0)), .int (rr_i (σ 5 0)), .int (rr_i (σ 6 0))])), (ad 1, .inl (g.2.1, 6, .inl (rr_a (σ 0)))), (ad 2, .inl (g.2.1, 6, .inl (rr_a (σ 1)))), (ad 3, .inl (g.2.1, 40, .inl (rr_a (σ 2))))]
def rr_wR (g : rr_G) (ad : Nat → Nat) (σ : rr_T) : va_W := [(ad 0, .inr (1, [.ref (ad 8), .ref (ad 1), .ref (ad 2), .ref (ad 3), .ref (ad 4), .ref (ad 5), .ref (ad 6), .ref (ad 7)])), (ad 1, .inl (g.2.1, 101, .inl (rr_a (σ 7)))), (ad 2, .inl (g.2.1, 48, .inl (rr_a (σ 8)))), (ad 3, .inl (g.2.1, 6, .inl (rr_a (σ 9)))), (ad 4, .inl (g.2.1, 6, .inl (rr_a (σ 10)))), (ad 5, .inl (g.2.1, 40, .inl (rr_a (σ 11)))), (ad 6, .inl (g.2.1, 40, .inl (rr_a (σ 12)))), (ad 7, .inl (g.2.1, 40, .inl (rr_a (σ 13)))), (ad 8, .inr (3, [.ref (ad 9), .ref (ad 10), .ref (ad 11), .int (rr_i (σ 3 0)), .int (rr_i (σ 4 0)), .int (rr_i (σ 5 0)), .int (rr_i (σ 6 0))])), (ad 9, .inl (g.2.1, 6, .inl (rr_a (σ 0)))), (ad 10, .inl (g.2.1, 6, .inl (rr_a (σ 1)))), (ad 11, .inl (g.2.1, 40, .inl (rr_a (σ 2))))]
def rr_wT (g : rr_G) (ad : Nat → Nat) (σ : rr_T) : va_W := [(ad 0, .inr (2, [.ref (ad 1), .int (rr_i (σ 1 0)), .ref (ad 2), .ref (ad 3), .ref (ad 4), .int (rr_i (σ 5 0)), .int (rr_i (σ 6 0)), .int (rr_i (σ 7 0)), .int (rr_i (σ 8 0)), .int (rr_i (σ 9 0))])), (ad 1, .inl (g.2.1, 120, .inl (rr_a (σ 0)))), (ad 2, .inl (g.2.1, 40, .inl (rr_a (σ 2)))), (ad 3, .inl (g.2.1, 40, .inl (rr_a (σ 3)))), (ad 4, .inl (g.2.1, 40, .inl (rr_a (σ 4))))]
def rr_wM (g : rr_G) (ad : Nat → Nat) (σ : rr_T) (hh : Int) : va_W := [(ad 0, .inr (5, [.ref (ad 1), .ref (ad 2), .ref (ad 3), .int (rr_i (σ 3 0)), .ref (ad 4), .ref (ad 5), .ref (ad 6), .ref (ad 7), .ref (ad 8), .ref (ad 9), .ref (ad 10), .ref (ad 11), .int (rr_i (σ 12 0)), .int (rr_i (σ 13 0)), .int (rr_i (σ 14 0)), .int (rr_i (σ 15 0)), .ref (ad 12), .ref (ad 13), .long (rr_l hh)])), (ad 1, .inl (g.2.1, 143, .inl (rr_a (σ 0)))), (ad 2, .inl (g.2.1, 143, .inl (rr_a (σ 1)))), (ad 3, .inl (g.2.1, 715, .inl (rr_a (σ 2)))), (ad 4, .inl (g.2.1, 3, .inl (rr_a (σ 4)))), (ad 5, .inl (g.2.1, 101, .inl (rr_a (σ 5)))), (ad 6, .inl (g.2.1, 40, .inl (rr_a (σ 6)))), (ad 7, .inl (g.2.1, 40, .inl (rr_a (σ 7)))), (ad 8, .inl (g.2.1, 100, .inl (rr_a (σ 8)))), (ad 9, .inl (g.2.1, 40, .inl (rr_a (σ 9)))), (ad 10, .inl (g.2.2.1, 101, .inl (rr_a (σ 10)))), (ad 11, .inl (g.2.1, 120, .inl (rr_a (σ 11)))), (ad 12, .inl (g.2.1, 40, .inl (rr_a (σ 16)))), (ad 13, .inl (g.2.1, 80, .inl (rr_a (σ 17))))]
def rr_wHL (g : rr_G) (a : Nat) (ad : Nat → Nat) (L : List Nat) (Ω : Nat → rr_T) : va_W := [(a, .inr (0, [.ref (ad 0), .int (rr_i (Ω 9 0 0))])), (ad 0, .inl (g.2.2.2, 5, .inr (.inr (.inr (.inr (rr_lf L)))))), (ad 1, .inr (3, [.ref (ad 2), .ref (ad 3), .ref (ad 4), .int (rr_i (Ω 4 3 0)), .int (rr_i (Ω 4 4 0)), .int (rr_i (Ω 4 5 0)), .int (rr_i (Ω 4 6 0))])), (ad 2, .inl (g.2.1, 6, .inl (rr_a (Ω 4 0)))), (ad 3, .inl (g.2.1, 6, .inl (rr_a (Ω 4 1)))), (ad 4, .inl (g.2.1, 40, .inl (rr_a (Ω 4 2)))), (ad 5, .inr (3, [.ref (ad 6), .ref (ad 7), .ref (ad 8), .int (rr_i (Ω 5 3 0)), .int (rr_i (Ω 5 4 0)), .int (rr_i (Ω 5 5 0)), .int (rr_i (Ω 5 6 0))])), (ad 6, .inl (g.2.1, 6, .inl (rr_a (Ω 5 0)))), (ad 7, .inl (g.2.1, 6, .inl (rr_a (Ω 5 1)))), (ad 8, .inl (g.2.1, 40, .inl (rr_a (Ω 5 2)))), (ad 9, .inr (3, [.ref (ad 10), .ref (ad 11), .ref (ad 12), .int (rr_i (Ω 6 3 0)), .int (rr_i (Ω 6 4 0)), .int (rr_i (Ω 6 5 0)), .int (rr_i (Ω 6 6 0))])), (ad 10, .inl (g.2.1, 6, .inl (rr_a (Ω 6 0)))), (ad 11, .inl (g.2.1, 6, .inl (rr_a (Ω 6 1)))), (ad 12, .inl (g.2.1, 40, .inl (rr_a (Ω 6 2)))), (ad 13, .inr (3, [.ref (ad 14), .ref (ad 15), .ref (ad 16), .int (rr_i (Ω 7 3 0)), .int (rr_i (Ω 7 4 0)), .int (rr_i (Ω 7 5 0)), .int (rr_i (Ω 7 6 0))])), (ad 14, .inl (g.2.1, 6, .inl (rr_a (Ω 7 0)))), (ad 15, .inl (g.2.1, 6, .inl (rr_a (Ω 7 1)))), (ad 16, .inl (g.2.1, 40, .inl (rr_a (Ω 7 2)))), (ad 17, .inr (3, [.ref (ad 18), .ref (ad 19), .ref (ad 20), .int (rr_i (Ω 8 3 0)), .int (rr_i (Ω 8 4 0)), .int (rr_i (Ω 8 5 0)), .int (rr_i (Ω 8 6 0))])), (ad 18, .inl (g.2.1, 6, .inl (rr_a (Ω 8 0)))), (ad 19, .inl (g.2.1, 6, .inl (rr_a (Ω 8 1)))), (ad 20, .inl (g.2.1, 40, .inl (rr_a (Ω 8 2))))]
def rr_wH (g : rr_G) (a : Nat) (ad : Nat → Nat) (Ω : Nat → rr_T) : va_W := [(a, .inr (0, [.ref (ad 0), .int (rr_i (Ω 9 0 0))])), (ad 0, .inl (g.2.2.2, 5, .inr (.inr (.inr (.inr (rr_lf [ad 1, ad 5, ad 9, ad 13, ad 17])))))), (ad 1, .inr (3, [.ref (ad 2), .ref (ad 3), .ref (ad 4), .int (rr_i (Ω 4 3 0)), .int (rr_i (Ω 4 4 0)), .int (rr_i (Ω 4 5 0)), .int (rr_i (Ω 4 6 0))])), (ad 2, .inl (g.2.1, 6, .inl (rr_a (Ω 4 0)))), (ad 3, .inl (g.2.1, 6, .inl (rr_a (Ω 4 1)))), (ad 4, .inl (g.2.1, 40, .inl (rr_a (Ω 4 2)))), (ad 5, .inr (3, [.ref (ad 6), .ref (ad 7), .ref (ad 8), .int (rr_i (Ω 5 3 0)), .int (rr_i (Ω 5 4 0)), .int (rr_i (Ω 5 5 0)), .int (rr_i (Ω 5 6 0))])), (ad 6, .inl (g.2.1, 6, .inl (rr_a (Ω 5 0)))), (ad 7, .inl (g.2.1, 6, .inl (rr_a (Ω 5 1)))), (ad 8, .inl (g.2.1, 40, .inl (rr_a (Ω 5 2)))), (ad 9, .inr (3, [.ref (ad 10), .ref (ad 11), .ref (ad 12), .int (rr_i (Ω 6 3 0)), .int (rr_i (Ω 6 4 0)), .int (rr_i (Ω 6 5 0)), .int (rr_i (Ω 6 6 0))])), (ad 10, .inl (g.2.1, 6, .inl (rr_a (Ω 6 0)))), (ad 11, .inl (g.2.1, 6, .inl (rr_a (Ω 6 1)))), (ad 12, .inl (g.2.1, 40, .inl (rr_a (Ω 6 2)))), (ad 13, .inr (3, [.ref (ad 14), .ref (ad 15), .ref (ad 16), .int (rr_i (Ω 7 3 0)), .int (rr_i (Ω 7 4 0)), .int (rr_i (Ω 7 5 0)), .int (rr_i (Ω 7 6 0))])), (ad 14, .inl (g.2.1, 6, .inl (rr_a (Ω 7 0)))), (ad 15, .inl (g.2.1, 6, .inl (rr_a (Ω 7 1)))), (ad 16, .inl (g.2.1, 40, .inl (rr_a (Ω 7 2)))), (ad 17, .inr (3, [.ref (ad 18), .ref (ad 19), .ref (ad 20), .int (rr_i (Ω 8 3 0)), .int (rr_i (Ω 8 4 0)), .int (rr_i (Ω 8 5 0)), .int (rr_i (Ω 8 6 0))])), (ad 18, .inl (g.2.1, 6, .inl (rr_a (Ω 8 0)))), (ad 19, .inl (g.2.1, 6, .inl (rr_a (Ω 8 1)))), (ad 20, .inl (g.2.1, 40, .inl (rr_a (Ω 8 2))))]
def rr_wC (g : rr_G) (a : Nat) (ad : Nat → Nat) (Ω : Nat → rr_T) : va_W := [(a, .inr (4, [.ref (ad 0), .ref (ad 12), .ref (ad 24), .ref (ad 46), .int (rr_i (Ω 3 0 0)), .int (rr_i (Ω 3 1 0)), .int (rr_i (Ω 3 2 0))])), (ad 0, .inr (1, [.ref (ad 8), .ref (ad 1), .ref (ad 2), .ref (ad 3), .ref (ad 4), .ref (ad 5), .ref (ad 6), .ref (ad 7)])), (ad 1, .inl (g.2.1, 101, .inl (rr_a (Ω 0 7)))), (ad 2, .inl (g.2.1, 48, .inl (rr_a (Ω 0 8)))), (ad 3, .inl (g.2.1, 6, .inl (rr_a (Ω 0 9)))), (ad 4, .inl (g.2.1, 6, .inl (rr_a (Ω 0 10)))), (ad 5, .inl (g.2.1, 40, .inl (rr_a (Ω 0 11)))), (ad 6, .inl (g.2.1, 40, .inl (rr_a (Ω 0 12)))), (ad 7, .inl (g.2.1, 40, .inl (rr_a (Ω 0 13)))), (ad 8, .inr (3, [.ref (ad 9), .ref (ad 10), .ref (ad 11), .int (rr_i (Ω 0 3 0)), .int (rr_i (Ω 0 4 0)), .int (rr_i (Ω 0 5 0)), .int (rr_i (Ω 0 6 0))])), (ad 9, .inl (g.2.1, 6, .inl (rr_a (Ω 0 0)))), (ad 10, .inl (g.2.1, 6, .inl (rr_a (Ω 0 1)))), (ad 11, .inl (g.2.1, 40, .inl (rr_a (Ω 0 2)))), (ad 12, .inr (1, [.ref (ad 20), .ref (ad 13), .ref (ad 14), .ref (ad 15), .ref (ad 16), .ref (ad 17), .ref (ad 18), .ref (ad 19)])), (ad 13, .inl (g.2.1, 101, .inl (rr_a (Ω 1 7)))), (ad 14, .inl (g.2.1, 48, .inl (rr_a (Ω 1 8)))), (ad 15, .inl (g.2.1, 6, .inl (rr_a (Ω 1 9)))), (ad 16, .inl (g.2.1, 6, .inl (rr_a (Ω 1 10)))), (ad 17, .inl (g.2.1, 40, .inl (rr_a (Ω 1 11)))), (ad 18, .inl (g.2.1, 40, .inl (rr_a (Ω 1 12)))), (ad 19, .inl (g.2.1, 40, .inl (rr_a (Ω 1 13)))), (ad 20, .inr (3, [.ref (ad 21), .ref (ad 22), .ref (ad 23), .int (rr_i (Ω 1 3 0)), .int (rr_i (Ω 1 4 0)), .int (rr_i (Ω 1 5 0)), .int (rr_i (Ω 1 6 0))])), (ad 21, .inl (g.2.1, 6, .inl (rr_a (Ω 1 0)))), (ad 22, .inl (g.2.1, 6, .inl (rr_a (Ω 1 1)))), (ad 23, .inl (g.2.1, 40, .inl (rr_a (Ω 1 2)))), (ad 24, .inr (0, [.ref (ad 25), .int (rr_i (Ω 9 0 0))])), (ad 25, .inl (g.2.2.2, 5, .inr (.inr (.inr (.inr (rr_lf [ad 26, ad 30, ad 34, ad 38, ad 42])))))), (ad 26, .inr (3, [.ref (ad 27), .ref (ad 28), .ref (ad 29), .int (rr_i (Ω 4 3 0)), .int (rr_i (Ω 4 4 0)), .int (rr_i (Ω 4 5 0)), .int (rr_i (Ω 4 6 0))])), (ad 27, .inl (g.2.1, 6, .inl (rr_a (Ω 4 0)))), (ad 28, .inl (g.2.1, 6, .inl (rr_a (Ω 4 1)))), (ad 29, .inl (g.2.1, 40, .inl (rr_a (Ω 4 2)))), (ad 30, .inr (3, [.ref (ad 31), .ref (ad 32), .ref (ad 33), .int (rr_i (Ω 5 3 0)), .int (rr_i (Ω 5 4 0)), .int (rr_i (Ω 5 5 0)), .int (rr_i (Ω 5 6 0))])), (ad 31, .inl (g.2.1, 6, .inl (rr_a (Ω 5 0)))), (ad 32, .inl (g.2.1, 6, .inl (rr_a (Ω 5 1)))), (ad 33, .inl (g.2.1, 40, .inl (rr_a (Ω 5 2)))), (ad 34, .inr (3, [.ref (ad 35), .ref (ad 36), .ref (ad 37), .int (rr_i (Ω 6 3 0)), .int (rr_i (Ω 6 4 0)), .int (rr_i (Ω 6 5 0)), .int (rr_i (Ω 6 6 0))])), (ad 35, .inl (g.2.1, 6, .inl (rr_a (Ω 6 0)))), (ad 36, .inl (g.2.1, 6, .inl (rr_a (Ω 6 1)))), (ad 37, .inl (g.2.1, 40, .inl (rr_a (Ω 6 2)))), (ad 38, .inr (3, [.ref (ad 39), .ref (ad 40), .ref (ad 41), .int (rr_i (Ω 7 3 0)), .int (rr_i (Ω 7 4 0)), .int (rr_i (Ω 7 5 0)), .int (rr_i (Ω 7 6 0))])), (ad 39, .inl (g.2.1, 6, .inl (rr_a (Ω 7 0)))), (ad 40, .inl (g.2.1, 6, .inl (rr_a (Ω 7 1)))), (ad 41, .inl (g.2.1, 40, .inl (rr_a (Ω 7 2)))), (ad 42, .inr (3, [.ref (ad 43), .ref (ad 44), .ref (ad 45), .int (rr_i (Ω 8 3 0)), .int (rr_i (Ω 8 4 0)), .int (rr_i (Ω 8 5 0)), .int (rr_i (Ω 8 6 0))])), (ad 43, .inl (g.2.1, 6, .inl (rr_a (Ω 8 0)))), (ad 44, .inl (g.2.1, 6, .inl (rr_a (Ω 8 1)))), (ad 45, .inl (g.2.1, 40, .inl (rr_a (Ω 8 2)))), (ad 46, .inr (2, [.ref (ad 47), .int (rr_i (Ω 2 1 0)), .ref (ad 48), .ref (ad 49), .ref (ad 50), .int (rr_i (Ω 2 5 0)), .int (rr_i (Ω 2 6 0)), .int (rr_i (Ω 2 7 0)), .int (rr_i (Ω 2 8 0)), .int (rr_i (Ω 2 9 0))])), (ad 47, .inl (g.2.1, 120, .inl (rr_a (Ω 2 0)))), (ad 48, .inl (g.2.1, 40, .inl (rr_a (Ω 2 2)))), (ad 49, .inl (g.2.1, 40, .inl (rr_a (Ω 2 3)))), (ad 50, .inl (g.2.1, 40, .inl (rr_a (Ω 2 4))))]
-- RoomRing$Ring.placeBehind
def M1_placeBehind (x0 : Int) : Option Int := rr_c (rr_g (x0 + 1)) (if 101 ≤ (x0 + 1) then some 0 else some (x0 + 1))
-- RoomRing$Ring.freePlaceFrom
def L1_freePlaceFrom_4 (σ : rr_T) (K : Int → Option Int) : Nat → Int → Int → Option Int
  | 0 => fun _ _ => none
  | n + 1 => fun x2 x3 => rr_c (rr_g x3) (if 101 ≤ x3 then K x2 else rr_c (0 ≤ x2 ∧ x2 < 101) (rr_c (rr_g (σ 7 x2)) (if (σ 7 x2) = (-1) then K x2 else (M1_placeBehind x2).bind (fun v6 => L1_freePlaceFrom_4 σ K n v6 (x3 + 1)))))
theorem L1_freePlaceFrom_4_s (σ : rr_T) (K : Int → Option Int) (n : Nat) (x2 : Int) (x3 : Int) : L1_freePlaceFrom_4 σ K (n + 1) x2 x3 = rr_c (rr_g x3) (if 101 ≤ x3 then K x2 else rr_c (0 ≤ x2 ∧ x2 < 101) (rr_c (rr_g (σ 7 x2)) (if (σ 7 x2) = (-1) then K x2 else (M1_placeBehind x2).bind (fun v6 => L1_freePlaceFrom_4 σ K n v6 (x3 + 1))))) := rfl
def M1_freePlaceFrom (x1 : Int) (σ : rr_T) : Option Int := L1_freePlaceFrom_4 σ (fun y2_4 => some y2_4) 1000 x1 0
-- RoomRing$Ring.setMarks
def L1_setMarks_2 (K : rr_T → Option rr_T) : Nat → Int → rr_T → Option rr_T
  | 0 => fun _ _ => none
  | n + 1 => fun x1 σ => rr_c (rr_g x1) (if 101 ≤ x1 then K σ else rr_c (0 ≤ x1 ∧ x1 < 101) (L1_setMarks_2 K n (x1 + 1) (rr_s σ 7 x1 (-1))))
theorem L1_setMarks_2_s (K : rr_T → Option rr_T) (n : Nat) (x1 : Int) (σ : rr_T) : L1_setMarks_2 K (n + 1) x1 σ = rr_c (rr_g x1) (if 101 ≤ x1 then K σ else rr_c (0 ≤ x1 ∧ x1 < 101) (L1_setMarks_2 K n (x1 + 1) (rr_s σ 7 x1 (-1)))) := rfl
def L1_setMarks_48 (x1 : Int) (x2 : Int) (K : rr_T → Option rr_T) : Nat → Int → rr_T → Option rr_T
  | 0 => fun _ _ => none
  | n + 1 => fun x3 σ => rr_c ((rr_g x3) ∧ (rr_g x2)) (if x2 ≤ x3 then K σ else rr_c (0 ≤ x1 ∧ x1 < 6) (rr_c (0 ≤ (((41 * (σ 0 x1)) + (29 * x3)) + 5) ∧ (((41 * (σ 0 x1)) + (29 * x3)) + 5) < 2147483648) ((M1_freePlaceFrom ((((41 * (σ 0 x1)) + (29 * x3)) + 5) % 101) σ).bind (fun v11 => rr_c (0 ≤ v11 ∧ v11 < 101) (rr_c (0 ≤ ((x1 * 8) + x3) ∧ ((x1 * 8) + x3) < 48) (L1_setMarks_48 x1 x2 K n (x3 + 1) (rr_s (rr_s σ 7 v11 x1) 8 ((x1 * 8) + x3) v11)))))))
theorem L1_setMarks_48_s (x1 : Int) (x2 : Int) (K : rr_T → Option rr_T) (n : Nat) (x3 : Int) (σ : rr_T) : L1_setMarks_48 x1 x2 K (n + 1) x3 σ = rr_c ((rr_g x3) ∧ (rr_g x2)) (if x2 ≤ x3 then K σ else rr_c (0 ≤ x1 ∧ x1 < 6) (rr_c (0 ≤ (((41 * (σ 0 x1)) + (29 * x3)) + 5) ∧ (((41 * (σ 0 x1)) + (29 * x3)) + 5) < 2147483648) ((M1_freePlaceFrom ((((41 * (σ 0 x1)) + (29 * x3)) + 5) % 101) σ).bind (fun v11 => rr_c (0 ≤ v11 ∧ v11 < 101) (rr_c (0 ≤ ((x1 * 8) + x3) ∧ ((x1 * 8) + x3) < 48) (L1_setMarks_48 x1 x2 K n (x3 + 1) (rr_s (rr_s σ 7 v11 x1) 8 ((x1 * 8) + x3) v11))))))) := rfl
def L1_setMarks_23 (K : rr_T → Option rr_T) : Nat → Int → rr_T → Option rr_T
  | 0 => fun _ _ => none
  | n + 1 => fun x1 σ => rr_c ((rr_g x1) ∧ (rr_g (σ 3 0))) (if (σ 3 0) ≤ x1 then K σ else rr_c (0 ≤ x1 ∧ x1 < 6) (L1_setMarks_48 x1 (2 * (σ 1 x1)) (fun σ_48 => L1_setMarks_23 K n (x1 + 1) σ_48) 1000 0 σ))
theorem L1_setMarks_23_s (K : rr_T → Option rr_T) (n : Nat) (x1 : Int) (σ : rr_T) : L1_setMarks_23 K (n + 1) x1 σ = rr_c ((rr_g x1) ∧ (rr_g (σ 3 0))) (if (σ 3 0) ≤ x1 then K σ else rr_c (0 ≤ x1 ∧ x1 < 6) (L1_setMarks_48 x1 (2 * (σ 1 x1)) (fun σ_48 => L1_setMarks_23 K n (x1 + 1) σ_48) 1000 0 σ)) := rfl
def M1_setMarks (σ : rr_T) : Option rr_T := L1_setMarks_2 (fun σ_2 => L1_setMarks_23 (fun σ_23 => some σ_23) 1000 0 σ_2) 1000 0 σ
-- RoomRing$Stock.allWeights
def L3_allWeights_4 (σ : rr_T) (K : Int → Option Int) : Nat → Int → Int → Option Int
  | 0 => fun _ _ => none
  | n + 1 => fun x1 x2 => rr_c ((rr_g x2) ∧ (rr_g (σ 3 0))) (if (σ 3 0) ≤ x2 then K x1 else rr_c (0 ≤ x2 ∧ x2 < 6) (L3_allWeights_4 σ K n (x1 + (σ 1 x2)) (x2 + 1)))
theorem L3_allWeights_4_s (σ : rr_T) (K : Int → Option Int) (n : Nat) (x1 : Int) (x2 : Int) : L3_allWeights_4 σ K (n + 1) x1 x2 = rr_c ((rr_g x2) ∧ (rr_g (σ 3 0))) (if (σ 3 0) ≤ x2 then K x1 else rr_c (0 ≤ x2 ∧ x2 < 6) (L3_allWeights_4 σ K n (x1 + (σ 1 x2)) (x2 + 1))) := rfl
def M3_allWeights (σ : rr_T) : Option Int := L3_allWeights_4 σ (fun y1_4 => some y1_4) 1000 0 0
-- RoomRing$Ring.setBounds
def L1_setBounds_13 (x1 : Int) (K : rr_T → Option rr_T) : Nat → Int → rr_T → Option rr_T
  | 0 => fun _ _ => none
  | n + 1 => fun x2 σ => rr_c ((rr_g x2) ∧ (rr_g (σ 3 0))) (if (σ 3 0) ≤ x2 then K σ else rr_c (rr_g x1) (if x1 ≤ 0 then K σ else rr_c (0 ≤ x2 ∧ x2 < 6) (rr_c ((0 ≤ (((((σ 4 0) * (σ 1 x2)) * (100 + (σ 5 0))) + x1) - 1) ∧ (((((σ 4 0) * (σ 1 x2)) * (100 + (σ 5 0))) + x1) - 1) < 2147483648) ∧ (0 < x1 ∧ x1 < 2147483648)) (L1_setBounds_13 x1 K n (x2 + 1) (rr_s (rr_s σ 9 x2 ((((((σ 4 0) * (σ 1 x2)) * (100 + (σ 5 0))) + x1) - 1) / x1)) 10 x2 0)))))
theorem L1_setBounds_13_s (x1 : Int) (K : rr_T → Option rr_T) (n : Nat) (x2 : Int) (σ : rr_T) : L1_setBounds_13 x1 K (n + 1) x2 σ = rr_c ((rr_g x2) ∧ (rr_g (σ 3 0))) (if (σ 3 0) ≤ x2 then K σ else rr_c (rr_g x1) (if x1 ≤ 0 then K σ else rr_c (0 ≤ x2 ∧ x2 < 6) (rr_c ((0 ≤ (((((σ 4 0) * (σ 1 x2)) * (100 + (σ 5 0))) + x1) - 1) ∧ (((((σ 4 0) * (σ 1 x2)) * (100 + (σ 5 0))) + x1) - 1) < 2147483648) ∧ (0 < x1 ∧ x1 < 2147483648)) (L1_setBounds_13 x1 K n (x2 + 1) (rr_s (rr_s σ 9 x2 ((((((σ 4 0) * (σ 1 x2)) * (100 + (σ 5 0))) + x1) - 1) / x1)) 10 x2 0))))) := rfl
def M1_setBounds (σ : rr_T) : Option rr_T := (M3_allWeights σ).bind (fun v1 => L1_setBounds_13 (100 * v1) (fun σ_13 => some σ_13) 1000 0 σ)
-- RoomRing$Ring.placeOfKey
def M1_placeOfKey (x1 : Int) (σ : rr_T) : Option Int := rr_c (0 ≤ x1 ∧ x1 < 40) (rr_c (0 ≤ ((53 * (σ 2 x1)) + 17) ∧ ((53 * (σ 2 x1)) + 17) < 2147483648) (some (((53 * (σ 2 x1)) + 17) % 101)))
-- RoomRing$Ring.layKey
def L1_layKey_32 (σ : rr_T) (x1 : Int) (K : Option rr_T) : Nat → Int → Int → Int → Option rr_T
  | 0 => fun _ _ _ => none
  | n + 1 => fun x2 x3 x4 => rr_c (rr_g x4) (if 101 ≤ x4 then K else rr_c (0 ≤ x2 ∧ x2 < 101) (rr_c (rr_g (σ 7 x2)) (if (σ 7 x2) = (-1) then if (σ 7 x2) = (-1) then (M1_placeBehind x2).bind (fun v10 => L1_layKey_32 σ x1 K n v10 x3 (x4 + 1)) else (M1_placeBehind x2).bind (fun v12 => L1_layKey_32 σ x1 K n v12 (x3 + 1) (x4 + 1)) else rr_c (0 ≤ (σ 7 x2) ∧ (σ 7 x2) < 6) (rr_c ((rr_g (σ 10 (σ 7 x2))) ∧ (rr_g (σ 9 (σ 7 x2)))) (if (σ 9 (σ 7 x2)) ≤ (σ 10 (σ 7 x2)) then if (σ 7 x2) = (-1) then (M1_placeBehind x2).bind (fun v18 => L1_layKey_32 σ x1 K n v18 x3 (x4 + 1)) else (M1_placeBehind x2).bind (fun v20 => L1_layKey_32 σ x1 K n v20 (x3 + 1) (x4 + 1)) else rr_c (0 ≤ x1 ∧ x1 < 40) (some (rr_s (rr_s (rr_s (rr_s σ 11 x1 (σ 7 x2)) 12 x1 x3) 13 x1 x4) 10 (σ 7 x2) ((σ 10 (σ 7 x2)) + 1))))))))
theorem L1_layKey_32_s (σ : rr_T) (x1 : Int) (K : Option rr_T) (n : Nat) (x2 : Int) (x3 : Int) (x4 : Int) : L1_layKey_32 σ x1 K (n + 1) x2 x3 x4 = rr_c (rr_g x4) (if 101 ≤ x4 then K else rr_c (0 ≤ x2 ∧ x2 < 101) (rr_c (rr_g (σ 7 x2)) (if (σ 7 x2) = (-1) then if (σ 7 x2) = (-1) then (M1_placeBehind x2).bind (fun v10 => L1_layKey_32 σ x1 K n v10 x3 (x4 + 1)) else (M1_placeBehind x2).bind (fun v12 => L1_layKey_32 σ x1 K n v12 (x3 + 1) (x4 + 1)) else rr_c (0 ≤ (σ 7 x2) ∧ (σ 7 x2) < 6) (rr_c ((rr_g (σ 10 (σ 7 x2))) ∧ (rr_g (σ 9 (σ 7 x2)))) (if (σ 9 (σ 7 x2)) ≤ (σ 10 (σ 7 x2)) then if (σ 7 x2) = (-1) then (M1_placeBehind x2).bind (fun v18 => L1_layKey_32 σ x1 K n v18 x3 (x4 + 1)) else (M1_placeBehind x2).bind (fun v20 => L1_layKey_32 σ x1 K n v20 (x3 + 1) (x4 + 1)) else rr_c (0 ≤ x1 ∧ x1 < 40) (some (rr_s (rr_s (rr_s (rr_s σ 11 x1 (σ 7 x2)) 12 x1 x3) 13 x1 x4) 10 (σ 7 x2) ((σ 10 (σ 7 x2)) + 1)))))))) := rfl
def M1_layKey (x1 : Int) (σ : rr_T) : Option rr_T := rr_c (0 ≤ x1 ∧ x1 < 40) ((M1_placeOfKey x1 (rr_s (rr_s (rr_s σ 11 x1 (-1)) 12 x1 (-1)) 13 x1 (-1))).bind (fun v2 => L1_layKey_32 (rr_s (rr_s (rr_s σ 11 x1 (-1)) 12 x1 (-1)) 13 x1 (-1)) x1 (some (rr_s (rr_s (rr_s σ 11 x1 (-1)) 12 x1 (-1)) 13 x1 (-1))) 1000 v2 0 0))
-- RoomRing$Ring.lay
def L1_lay_10 (K : rr_T → Option rr_T) : Nat → Int → rr_T → Option rr_T
  | 0 => fun _ _ => none
  | n + 1 => fun x1 σ => rr_c ((rr_g x1) ∧ (rr_g (σ 4 0))) (if (σ 4 0) ≤ x1 then K σ else (M1_layKey x1 σ).bind (fun v7 => L1_lay_10 K n (x1 + 1) v7))
theorem L1_lay_10_s (K : rr_T → Option rr_T) (n : Nat) (x1 : Int) (σ : rr_T) : L1_lay_10 K (n + 1) x1 σ = rr_c ((rr_g x1) ∧ (rr_g (σ 4 0))) (if (σ 4 0) ≤ x1 then K σ else (M1_layKey x1 σ).bind (fun v7 => L1_lay_10 K n (x1 + 1) v7)) := rfl
def M1_lay (σ : rr_T) : Option rr_T := (M1_setMarks σ).bind (fun v1 => (M1_setBounds v1).bind (fun v3 => L1_lay_10 (fun σ_10 => some σ_10) 1000 0 v3))
-- RoomRing$Stock.copyFrom
def M3_copyFrom (σ : rr_T) (τ : rr_T) : Option rr_T := some (rr_t (rr_t (rr_t (rr_t (rr_w (rr_w (rr_w σ 0 (rr_cp (τ 0) (σ 0) 6)) 1 (rr_cp (τ 1) (σ 1) 6)) 2 (rr_cp (τ 2) (σ 2) 40)) 3 (τ 3 0)) 4 (τ 4 0)) 5 (τ 5 0)) 6 (τ 6 0))
-- RoomRing.isName
def M4_isName (x0 : Int) : Option Int := rr_c (rr_g x0) (if x0 < 0 then some 0 else if 99 < x0 then some 0 else some 1)
-- RoomRing.isWeight
def M4_isWeight (x0 : Int) : Option Int := rr_c (rr_g x0) (if x0 < 1 then some 0 else if 4 < x0 then some 0 else some 1)
-- RoomRing$Stock.findHost
def L3_findHost_2 (σ : rr_T) (x1 : Int) (K : Option Int) : Nat → Int → Option Int
  | 0 => fun _ => none
  | n + 1 => fun x2 => rr_c ((rr_g x2) ∧ (rr_g (σ 3 0))) (if (σ 3 0) ≤ x2 then K else rr_c (0 ≤ x2 ∧ x2 < 6) (rr_c ((rr_g (σ 0 x2)) ∧ (rr_g x1)) (if (σ 0 x2) = x1 then some x2 else L3_findHost_2 σ x1 K n (x2 + 1))))
theorem L3_findHost_2_s (σ : rr_T) (x1 : Int) (K : Option Int) (n : Nat) (x2 : Int) : L3_findHost_2 σ x1 K (n + 1) x2 = rr_c ((rr_g x2) ∧ (rr_g (σ 3 0))) (if (σ 3 0) ≤ x2 then K else rr_c (0 ≤ x2 ∧ x2 < 6) (rr_c ((rr_g (σ 0 x2)) ∧ (rr_g x1)) (if (σ 0 x2) = x1 then some x2 else L3_findHost_2 σ x1 K n (x2 + 1)))) := rfl
def M3_findHost (x1 : Int) (σ : rr_T) : Option Int := L3_findHost_2 σ x1 (some (-1)) 1000 0
-- RoomRing$Stock.addHost
def L3_addHost_45 (x1 : Int) (x2 : Int) (K : Int → rr_T → Option (Int × rr_T)) : Nat → Int → rr_T → Option (Int × rr_T)
  | 0 => fun _ _ => none
  | n + 1 => fun x3 σ => rr_c (rr_g x3) (if x3 ≤ 0 then K x3 σ else rr_c (0 ≤ (x3 - 1) ∧ (x3 - 1) < 6) (rr_c ((rr_g (σ 0 (x3 - 1))) ∧ (rr_g x1)) (if (σ 0 (x3 - 1)) ≤ x1 then K x3 σ else rr_c (0 ≤ x3 ∧ x3 < 6) (L3_addHost_45 x1 x2 K n (x3 + (-1)) (rr_s (rr_s σ 0 x3 (σ 0 (x3 - 1))) 1 x3 (σ 1 (x3 - 1)))))))
theorem L3_addHost_45_s (x1 : Int) (x2 : Int) (K : Int → rr_T → Option (Int × rr_T)) (n : Nat) (x3 : Int) (σ : rr_T) : L3_addHost_45 x1 x2 K (n + 1) x3 σ = rr_c (rr_g x3) (if x3 ≤ 0 then K x3 σ else rr_c (0 ≤ (x3 - 1) ∧ (x3 - 1) < 6) (rr_c ((rr_g (σ 0 (x3 - 1))) ∧ (rr_g x1)) (if (σ 0 (x3 - 1)) ≤ x1 then K x3 σ else rr_c (0 ≤ x3 ∧ x3 < 6) (L3_addHost_45 x1 x2 K n (x3 + (-1)) (rr_s (rr_s σ 0 x3 (σ 0 (x3 - 1))) 1 x3 (σ 1 (x3 - 1))))))) := rfl
def M3_addHost (x1 : Int) (x2 : Int) (σ : rr_T) : Option (Int × rr_T) := (M4_isName x1).bind (fun v1 => rr_c (rr_g v1) (if v1 = 0 then some ((-2), σ) else (M4_isWeight x2).bind (fun v5 => rr_c (rr_g v5) (if v5 = 0 then some ((-2), σ) else (M3_findHost x1 σ).bind (fun v9 => rr_c (rr_g v9) (if v9 < 0 then rr_c (rr_g (σ 3 0)) (if (σ 3 0) < 6 then L3_addHost_45 x1 x2 (fun y3_45 σ_45 => rr_c (0 ≤ y3_45 ∧ y3_45 < 6) (some (0, (rr_t (rr_s (rr_s σ_45 0 y3_45 x1) 1 y3_45 x2) 3 ((σ_45 3 0) + 1))))) 1000 (σ 3 0) σ else some ((-4), σ)) else some ((-3), σ)))))))
-- RoomRing$Stock.weighAnew
def M3_weighAnew (x1 : Int) (x2 : Int) (σ : rr_T) : Option (Int × rr_T) := (M4_isName x1).bind (fun v1 => rr_c (rr_g v1) (if v1 = 0 then some ((-2), σ) else (M4_isWeight x2).bind (fun v5 => rr_c (rr_g v5) (if v5 = 0 then some ((-2), σ) else (M3_findHost x1 σ).bind (fun v9 => rr_c (rr_g v9) (if 0 ≤ v9 then rr_c (0 ≤ v9 ∧ v9 < 6) (some (0, (rr_s σ 1 v9 x2))) else some ((-3), σ)))))))
-- RoomRing$Stock.removeHost
def L3_removeHost_27 (K : rr_T → Option (Int × rr_T)) : Nat → Int → rr_T → Option (Int × rr_T)
  | 0 => fun _ _ => none
  | n + 1 => fun x3 σ => rr_c ((rr_g x3) ∧ (rr_g (σ 3 0))) (if (σ 3 0) ≤ x3 then K σ else rr_c (0 ≤ x3 ∧ x3 < 6) (rr_c (0 ≤ (x3 - 1) ∧ (x3 - 1) < 6) (L3_removeHost_27 K n (x3 + 1) (rr_s (rr_s σ 0 (x3 - 1) (σ 0 x3)) 1 (x3 - 1) (σ 1 x3)))))
theorem L3_removeHost_27_s (K : rr_T → Option (Int × rr_T)) (n : Nat) (x3 : Int) (σ : rr_T) : L3_removeHost_27 K (n + 1) x3 σ = rr_c ((rr_g x3) ∧ (rr_g (σ 3 0))) (if (σ 3 0) ≤ x3 then K σ else rr_c (0 ≤ x3 ∧ x3 < 6) (rr_c (0 ≤ (x3 - 1) ∧ (x3 - 1) < 6) (L3_removeHost_27 K n (x3 + 1) (rr_s (rr_s σ 0 (x3 - 1) (σ 0 x3)) 1 (x3 - 1) (σ 1 x3))))) := rfl
def M3_removeHost (x1 : Int) (σ : rr_T) : Option (Int × rr_T) := (M4_isName x1).bind (fun v1 => rr_c (rr_g v1) (if v1 = 0 then some ((-2), σ) else (M3_findHost x1 σ).bind (fun v5 => rr_c (rr_g v5) (if 0 ≤ v5 then L3_removeHost_27 (fun σ_27 => some (0, (rr_t σ_27 3 ((σ_27 3 0) - 1)))) 1000 (v5 + 1) σ else some ((-3), σ)))))
-- RoomRing.isKey
def M4_isKey (x0 : Int) : Option Int := rr_c (rr_g x0) (if x0 < 0 then some 0 else if 999 < x0 then some 0 else some 1)
-- RoomRing$Stock.findKey
def L3_findKey_2 (σ : rr_T) (x1 : Int) (K : Option Int) : Nat → Int → Option Int
  | 0 => fun _ => none
  | n + 1 => fun x2 => rr_c ((rr_g x2) ∧ (rr_g (σ 4 0))) (if (σ 4 0) ≤ x2 then K else rr_c (0 ≤ x2 ∧ x2 < 40) (rr_c ((rr_g (σ 2 x2)) ∧ (rr_g x1)) (if (σ 2 x2) = x1 then some x2 else L3_findKey_2 σ x1 K n (x2 + 1))))
theorem L3_findKey_2_s (σ : rr_T) (x1 : Int) (K : Option Int) (n : Nat) (x2 : Int) : L3_findKey_2 σ x1 K (n + 1) x2 = rr_c ((rr_g x2) ∧ (rr_g (σ 4 0))) (if (σ 4 0) ≤ x2 then K else rr_c (0 ≤ x2 ∧ x2 < 40) (rr_c ((rr_g (σ 2 x2)) ∧ (rr_g x1)) (if (σ 2 x2) = x1 then some x2 else L3_findKey_2 σ x1 K n (x2 + 1)))) := rfl
def M3_findKey (x1 : Int) (σ : rr_T) : Option Int := L3_findKey_2 σ x1 (some (-1)) 1000 0
-- RoomRing$Stock.addKey
def L3_addKey_38 (x1 : Int) (K : Int → rr_T → Option (Int × rr_T)) : Nat → Int → rr_T → Option (Int × rr_T)
  | 0 => fun _ _ => none
  | n + 1 => fun x2 σ => rr_c (rr_g x2) (if x2 ≤ 0 then K x2 σ else rr_c (0 ≤ (x2 - 1) ∧ (x2 - 1) < 40) (rr_c ((rr_g (σ 2 (x2 - 1))) ∧ (rr_g x1)) (if (σ 2 (x2 - 1)) ≤ x1 then K x2 σ else rr_c (0 ≤ x2 ∧ x2 < 40) (L3_addKey_38 x1 K n (x2 + (-1)) (rr_s σ 2 x2 (σ 2 (x2 - 1)))))))
theorem L3_addKey_38_s (x1 : Int) (K : Int → rr_T → Option (Int × rr_T)) (n : Nat) (x2 : Int) (σ : rr_T) : L3_addKey_38 x1 K (n + 1) x2 σ = rr_c (rr_g x2) (if x2 ≤ 0 then K x2 σ else rr_c (0 ≤ (x2 - 1) ∧ (x2 - 1) < 40) (rr_c ((rr_g (σ 2 (x2 - 1))) ∧ (rr_g x1)) (if (σ 2 (x2 - 1)) ≤ x1 then K x2 σ else rr_c (0 ≤ x2 ∧ x2 < 40) (L3_addKey_38 x1 K n (x2 + (-1)) (rr_s σ 2 x2 (σ 2 (x2 - 1))))))) := rfl
def M3_addKey (x1 : Int) (σ : rr_T) : Option (Int × rr_T) := (M4_isKey x1).bind (fun v1 => rr_c (rr_g v1) (if v1 = 0 then some ((-2), σ) else (M3_findKey x1 σ).bind (fun v5 => rr_c (rr_g v5) (if v5 < 0 then rr_c (rr_g (σ 4 0)) (if (σ 4 0) < 40 then L3_addKey_38 x1 (fun y2_38 σ_38 => rr_c (0 ≤ y2_38 ∧ y2_38 < 40) (some (0, (rr_t (rr_s σ_38 2 y2_38 x1) 4 ((σ_38 4 0) + 1))))) 1000 (σ 4 0) σ else some ((-4), σ)) else some ((-3), σ)))))
-- RoomRing$Stock.removeKey
def L3_removeKey_27 (K : rr_T → Option (Int × rr_T)) : Nat → Int → rr_T → Option (Int × rr_T)
  | 0 => fun _ _ => none
  | n + 1 => fun x3 σ => rr_c ((rr_g x3) ∧ (rr_g (σ 4 0))) (if (σ 4 0) ≤ x3 then K σ else rr_c (0 ≤ x3 ∧ x3 < 40) (rr_c (0 ≤ (x3 - 1) ∧ (x3 - 1) < 40) (L3_removeKey_27 K n (x3 + 1) (rr_s σ 2 (x3 - 1) (σ 2 x3)))))
theorem L3_removeKey_27_s (K : rr_T → Option (Int × rr_T)) (n : Nat) (x3 : Int) (σ : rr_T) : L3_removeKey_27 K (n + 1) x3 σ = rr_c ((rr_g x3) ∧ (rr_g (σ 4 0))) (if (σ 4 0) ≤ x3 then K σ else rr_c (0 ≤ x3 ∧ x3 < 40) (rr_c (0 ≤ (x3 - 1) ∧ (x3 - 1) < 40) (L3_removeKey_27 K n (x3 + 1) (rr_s σ 2 (x3 - 1) (σ 2 x3))))) := rfl
def M3_removeKey (x1 : Int) (σ : rr_T) : Option (Int × rr_T) := (M4_isKey x1).bind (fun v1 => rr_c (rr_g v1) (if v1 = 0 then some ((-2), σ) else (M3_findKey x1 σ).bind (fun v5 => rr_c (rr_g v5) (if 0 ≤ v5 then L3_removeKey_27 (fun σ_27 => some (0, (rr_t σ_27 4 ((σ_27 4 0) - 1)))) 1000 (v5 + 1) σ else some ((-3), σ)))))
-- RoomRing$Stock.changeExtra
def M3_changeExtra (x1 : Int) (σ : rr_T) : Option (Int × rr_T) := rr_c (rr_g x1) (if x1 < 0 then some ((-2), σ) else if x1 ≤ 200 then some (0, (rr_t σ 5 x1)) else some ((-2), σ))
-- RoomRing$Stock.take
def M3_take (x1 : Int) (x2 : Int) (x3 : Int) (σ : rr_T) : Option (Int × rr_T) := rr_c (rr_g x1) (if x1 = 100 then (M3_removeKey x2 σ).bind (fun v4 => some (v4.1, v4.2)) else if x1 = 103 then (M3_removeHost x2 σ).bind (fun v7 => some (v7.1, v7.2)) else if x1 = 104 then (M3_addHost x2 x3 σ).bind (fun v10 => some (v10.1, v10.2)) else if x1 = 107 then (M3_addKey x2 σ).bind (fun v13 => some (v13.1, v13.2)) else if x1 = 119 then (M3_weighAnew x2 x3 σ).bind (fun v16 => some (v16.1, v16.2)) else (M3_changeExtra x2 σ).bind (fun v18 => some (v18.1, v18.2)))
-- RoomRing.refuse
def M4_refuse (x1 : Int) (Ω : (Nat → rr_T)) : Option (Int × (Nat → rr_T)) := rr_c (rr_g x1) (if x1 = (-2) then some (x1, (rr_z Ω 3 (rr_t (Ω 3) 0 (((Ω 3) 0 0) + 1)))) else if x1 = (-3) then some (x1, (rr_z Ω 3 (rr_t (Ω 3) 1 (((Ω 3) 1 0) + 1)))) else some (x1, (rr_z Ω 3 (rr_t (Ω 3) 2 (((Ω 3) 2 0) + 1)))))
-- RoomRing$Stock.nameOf
def M3_nameOf (x1 : Int) (σ : rr_T) : Option Int := rr_c (rr_g x1) (if x1 < 0 then some (-1) else rr_c (rr_g (σ 3 0)) (if (σ 3 0) ≤ x1 then some (-1) else rr_c (0 ≤ x1 ∧ x1 < 6) (some (σ 0 x1))))
-- RoomRing$Ring.hostNameOfKey
def M1_hostNameOfKey (x1 : Int) (σ : rr_T) : Option Int := (M3_findKey x1 σ).bind (fun v1 => rr_c (rr_g v1) (if 0 ≤ v1 then rr_c (0 ≤ v1 ∧ v1 < 40) ((M3_nameOf (σ 11 v1) σ).bind (fun v6 => some v6)) else some (-1)))
-- RoomRing$Ring.movedSince
def L1_movedSince_4 (σ : rr_T) (τ : rr_T) (K : Int → Option Int) : Nat → Int → Int → Option Int
  | 0 => fun _ _ => none
  | n + 1 => fun x2 x3 => rr_c ((rr_g x3) ∧ (rr_g (τ 4 0))) (if (τ 4 0) ≤ x3 then K x2 else rr_c (0 ≤ x3 ∧ x3 < 40) ((M3_nameOf (τ 11 x3) τ).bind (fun v4 => (M3_findKey (τ 2 x3) σ).bind (fun v6 => rr_c (rr_g v6) (if v6 < 0 then L1_movedSince_4 σ τ K n x2 (x3 + 1) else (M1_hostNameOfKey (τ 2 x3) σ).bind (fun v10 => rr_c ((rr_g v10) ∧ (rr_g v4)) (if v10 = v4 then L1_movedSince_4 σ τ K n x2 (x3 + 1) else L1_movedSince_4 σ τ K n (x2 + 1) (x3 + 1))))))))
theorem L1_movedSince_4_s (σ : rr_T) (τ : rr_T) (K : Int → Option Int) (n : Nat) (x2 : Int) (x3 : Int) : L1_movedSince_4 σ τ K (n + 1) x2 x3 = rr_c ((rr_g x3) ∧ (rr_g (τ 4 0))) (if (τ 4 0) ≤ x3 then K x2 else rr_c (0 ≤ x3 ∧ x3 < 40) ((M3_nameOf (τ 11 x3) τ).bind (fun v4 => (M3_findKey (τ 2 x3) σ).bind (fun v6 => rr_c (rr_g v6) (if v6 < 0 then L1_movedSince_4 σ τ K n x2 (x3 + 1) else (M1_hostNameOfKey (τ 2 x3) σ).bind (fun v10 => rr_c ((rr_g v10) ∧ (rr_g v4)) (if v10 = v4 then L1_movedSince_4 σ τ K n x2 (x3 + 1) else L1_movedSince_4 σ τ K n (x2 + 1) (x3 + 1)))))))) := rfl
def M1_movedSince (σ : rr_T) (τ : rr_T) : Option Int := L1_movedSince_4 σ τ (fun y2_4 => some y2_4) 1000 0 0
-- RoomRing$History.forgetOldest
def M0_forgetOldest (Ω : (Nat → rr_T)) : Option (Nat → rr_T) := some (rr_z (rr_z (rr_z (rr_z (rr_z (rr_z Ω 4 (Ω 5)) 5 (Ω 6)) 6 (Ω 7)) 7 (Ω 8)) 8 (Ω 4)) 9 (rr_t (Ω 9) 0 4))
-- RoomRing$History.keep
def M0_keep (Ω : (Nat → rr_T)) (τ : rr_T) : Option (Nat → rr_T) := rr_c (rr_g ((Ω 9) 0 0)) (if ((Ω 9) 0 0) < 5 then if ((Ω 9) 0 0) = 0 then (M3_copyFrom (Ω 4) τ).bind (fun v4 => some (rr_z (rr_z Ω 4 v4) 9 (rr_t (Ω 9) 0 (((Ω 9) 0 0) + 1)))) else if ((Ω 9) 0 0) = 1 then (M3_copyFrom (Ω 5) τ).bind (fun v7 => some (rr_z (rr_z Ω 5 v7) 9 (rr_t (Ω 9) 0 (((Ω 9) 0 0) + 1)))) else if ((Ω 9) 0 0) = 2 then (M3_copyFrom (Ω 6) τ).bind (fun v10 => some (rr_z (rr_z Ω 6 v10) 9 (rr_t (Ω 9) 0 (((Ω 9) 0 0) + 1)))) else if ((Ω 9) 0 0) = 3 then (M3_copyFrom (Ω 7) τ).bind (fun v13 => some (rr_z (rr_z Ω 7 v13) 9 (rr_t (Ω 9) 0 (((Ω 9) 0 0) + 1)))) else if ((Ω 9) 0 0) = 4 then (M3_copyFrom (Ω 8) τ).bind (fun v16 => some (rr_z (rr_z Ω 8 v16) 9 (rr_t (Ω 9) 0 (((Ω 9) 0 0) + 1)))) else none else (M0_forgetOldest Ω).bind (fun v18 => if ((v18 9) 0 0) = 0 then (M3_copyFrom (v18 4) τ).bind (fun v21 => some (rr_z (rr_z v18 4 v21) 9 (rr_t (v18 9) 0 (((v18 9) 0 0) + 1)))) else if ((v18 9) 0 0) = 1 then (M3_copyFrom (v18 5) τ).bind (fun v24 => some (rr_z (rr_z v18 5 v24) 9 (rr_t (v18 9) 0 (((v18 9) 0 0) + 1)))) else if ((v18 9) 0 0) = 2 then (M3_copyFrom (v18 6) τ).bind (fun v27 => some (rr_z (rr_z v18 6 v27) 9 (rr_t (v18 9) 0 (((v18 9) 0 0) + 1)))) else if ((v18 9) 0 0) = 3 then (M3_copyFrom (v18 7) τ).bind (fun v30 => some (rr_z (rr_z v18 7 v30) 9 (rr_t (v18 9) 0 (((v18 9) 0 0) + 1)))) else if ((v18 9) 0 0) = 4 then (M3_copyFrom (v18 8) τ).bind (fun v33 => some (rr_z (rr_z v18 8 v33) 9 (rr_t (v18 9) 0 (((v18 9) 0 0) + 1)))) else none))
-- RoomRing.keepDraft
def M4_keepDraft (Ω : (Nat → rr_T)) : Option (Nat → rr_T) := (M1_lay (Ω 1)).bind (fun v1 => (M1_movedSince v1 (Ω 0)).bind (fun v3 => (M0_keep (rr_z Ω 1 (rr_t v1 6 v3)) (Ω 0)).bind (fun v5 => some (rr_z (rr_z (rr_z (rr_z (rr_z (rr_z (rr_z (rr_z Ω 0 (rr_t v1 6 v3)) 1 (Ω 0)) 4 (v5 4)) 5 (v5 5)) 6 (v5 6)) 7 (v5 7)) 8 (v5 8)) 9 (v5 9)))))
-- RoomRing.tellOne
def M4_tellOne (x1 : Int) (x2 : Int) (x3 : Int) (Ω : (Nat → rr_T)) : Option (Int × (Nat → rr_T)) := (M3_copyFrom (Ω 1) (Ω 0)).bind (fun v1 => (M3_take x1 x2 x3 (rr_m 7 v1 (Ω 1))).bind (fun v3 => rr_c (rr_g v3.1) (if v3.1 = 0 then (M4_keepDraft (rr_z Ω 1 (rr_m 7 v3.2 (rr_m 7 v1 (Ω 1))))).bind (fun v7 => some (((v7 0) 6 0), v7)) else (M4_refuse v3.1 (rr_z Ω 1 (rr_m 7 v3.2 (rr_m 7 v1 (Ω 1))))).bind (fun v9 => some (v9.1, v9.2)))))
-- RoomRing.host
def M4_host (x1 : Int) (x2 : Int) (Ω : (Nat → rr_T)) : Option (Int × (Nat → rr_T)) := (M4_tellOne 104 x1 x2 Ω).bind (fun v1 => some (v1.1, v1.2))
-- RoomRing.weighs
def M4_weighs (x1 : Int) (x2 : Int) (Ω : (Nat → rr_T)) : Option (Int × (Nat → rr_T)) := (M4_tellOne 119 x1 x2 Ω).bind (fun v1 => some (v1.1, v1.2))
-- RoomRing.goes
def M4_goes (x1 : Int) (Ω : (Nat → rr_T)) : Option (Int × (Nat → rr_T)) := (M4_tellOne 103 x1 0 Ω).bind (fun v1 => some (v1.1, v1.2))
-- RoomRing.key
def M4_key (x1 : Int) (Ω : (Nat → rr_T)) : Option (Int × (Nat → rr_T)) := (M4_tellOne 107 x1 0 Ω).bind (fun v1 => rr_c (rr_g v1.1) (if 0 ≤ v1.1 then (M1_hostNameOfKey x1 (v1.2 0)).bind (fun v5 => some (v5, v1.2)) else some (v1.1, v1.2)))
-- RoomRing.drops
def M4_drops (x1 : Int) (Ω : (Nat → rr_T)) : Option (Int × (Nat → rr_T)) := (M4_tellOne 100 x1 0 Ω).bind (fun v1 => some (v1.1, v1.2))
-- RoomRing.extra
def M4_extra (x1 : Int) (Ω : (Nat → rr_T)) : Option (Int × (Nat → rr_T)) := (M4_tellOne 101 x1 0 Ω).bind (fun v1 => some (v1.1, v1.2))
-- RoomRing$Ring.keyOfHost
def L1_keyOfHost_5 (σ : rr_T) (x1 : Int) (x2 : Int) (K : Option Int) : Nat → Int → Int → Option Int
  | 0 => fun _ _ => none
  | n + 1 => fun x3 x4 => rr_c ((rr_g x4) ∧ (rr_g (σ 4 0))) (if (σ 4 0) ≤ x4 then K else rr_c (0 ≤ x4 ∧ x4 < 40) (rr_c ((rr_g (σ 11 x4)) ∧ (rr_g x1)) (if (σ 11 x4) = x1 then rr_c ((rr_g x3) ∧ (rr_g x2)) (if x3 = x2 then some (σ 2 x4) else L1_keyOfHost_5 σ x1 x2 K n (x3 + 1) (x4 + 1)) else L1_keyOfHost_5 σ x1 x2 K n x3 (x4 + 1))))
theorem L1_keyOfHost_5_s (σ : rr_T) (x1 : Int) (x2 : Int) (K : Option Int) (n : Nat) (x3 : Int) (x4 : Int) : L1_keyOfHost_5 σ x1 x2 K (n + 1) x3 x4 = rr_c ((rr_g x4) ∧ (rr_g (σ 4 0))) (if (σ 4 0) ≤ x4 then K else rr_c (0 ≤ x4 ∧ x4 < 40) (rr_c ((rr_g (σ 11 x4)) ∧ (rr_g x1)) (if (σ 11 x4) = x1 then rr_c ((rr_g x3) ∧ (rr_g x2)) (if x3 = x2 then some (σ 2 x4) else L1_keyOfHost_5 σ x1 x2 K n (x3 + 1) (x4 + 1)) else L1_keyOfHost_5 σ x1 x2 K n x3 (x4 + 1)))) := rfl
def M1_keyOfHost (x1 : Int) (x2 : Int) (σ : rr_T) : Option Int := L1_keyOfHost_5 σ x1 x2 (some (-1)) 1000 0 0
-- RoomRing$Ring.hostFact
def M1_hostFact (x1 : Int) (x2 : Int) (σ : rr_T) : Option Int := rr_c (rr_g x2) (if x2 = 0 then rr_c (0 ≤ x1 ∧ x1 < 6) (some (σ 1 x1)) else if x2 = 1 then rr_c (0 ≤ x1 ∧ x1 < 6) (some (σ 9 x1)) else if x2 = 2 then rr_c (0 ≤ x1 ∧ x1 < 6) (some (σ 10 x1)) else (M1_keyOfHost x1 (x2 - 3) σ).bind (fun v9 => some v9))
-- RoomRing.of
def M4_of (x1 : Int) (x2 : Int) (Ω : (Nat → rr_T)) : Option (Int × (Nat → rr_T)) := (M4_isName x1).bind (fun v1 => rr_c (rr_g v1) (if v1 = 0 then (M4_refuse (-2) Ω).bind (fun v5 => some (v5.1, v5.2)) else rr_c (rr_g x2) (if x2 < 0 then (M4_refuse (-2) Ω).bind (fun v9 => some (v9.1, v9.2)) else if x2 < 43 then (M3_findHost x1 (Ω 0)).bind (fun v12 => rr_c (rr_g v12) (if 0 ≤ v12 then (M1_hostFact v12 x2 (Ω 0)).bind (fun v16 => some (v16, Ω)) else (M4_refuse (-3) Ω).bind (fun v18 => some (v18.1, v18.2)))) else (M4_refuse (-2) Ω).bind (fun v20 => some (v20.1, v20.2)))))
-- RoomRing$Ring.placeOfMark
def M1_placeOfMark (x1 : Int) (x2 : Int) (σ : rr_T) : Option Int := rr_c (0 ≤ x1 ∧ x1 < 6) (rr_c ((rr_g x2) ∧ (rr_g (2 * (σ 1 x1)))) (if (2 * (σ 1 x1)) ≤ x2 then some (-1) else rr_c (0 ≤ ((x1 * 8) + x2) ∧ ((x1 * 8) + x2) < 48) (some (σ 8 ((x1 * 8) + x2)))))
-- RoomRing.mark
def M4_mark (x1 : Int) (x2 : Int) (Ω : (Nat → rr_T)) : Option (Int × (Nat → rr_T)) := (M4_isName x1).bind (fun v1 => rr_c (rr_g v1) (if v1 = 0 then (M4_refuse (-2) Ω).bind (fun v5 => some (v5.1, v5.2)) else rr_c (rr_g x2) (if x2 < 0 then (M4_refuse (-2) Ω).bind (fun v9 => some (v9.1, v9.2)) else if x2 < 8 then (M3_findHost x1 (Ω 0)).bind (fun v12 => rr_c (rr_g v12) (if 0 ≤ v12 then (M1_placeOfMark v12 x2 (Ω 0)).bind (fun v16 => some (v16, Ω)) else (M4_refuse (-3) Ω).bind (fun v18 => some (v18.1, v18.2)))) else (M4_refuse (-2) Ω).bind (fun v20 => some (v20.1, v20.2)))))
-- RoomRing.at
def M4_at (x1 : Int) (Ω : (Nat → rr_T)) : Option (Int × (Nat → rr_T)) := rr_c (rr_g x1) (if x1 < 0 then (M4_refuse (-2) Ω).bind (fun v3 => some (v3.1, v3.2)) else if x1 < 101 then rr_c (0 ≤ x1 ∧ x1 < 101) ((M3_nameOf ((Ω 0) 7 x1) (Ω 0)).bind (fun v7 => some (v7, Ω))) else (M4_refuse (-2) Ω).bind (fun v9 => some (v9.1, v9.2)))
-- RoomRing.name
def M4_name (x1 : Int) (Ω : (Nat → rr_T)) : Option (Int × (Nat → rr_T)) := rr_c (rr_g x1) (if 0 ≤ x1 then (M3_nameOf x1 (Ω 0)).bind (fun v3 => some (v3, Ω)) else (M4_refuse (-2) Ω).bind (fun v5 => some (v5.1, v5.2)))
-- RoomRing$Ring.firstOwner
def L1_firstOwner_2 (σ : rr_T) (K : Option Int) : Nat → Int → Option Int
  | 0 => fun _ => none
  | n + 1 => fun x1 => rr_c (rr_g x1) (if 101 ≤ x1 then K else rr_c (0 ≤ x1 ∧ x1 < 101) (rr_c (rr_g (σ 7 x1)) (if (σ 7 x1) = (-1) then L1_firstOwner_2 σ K n (x1 + 1) else some (σ 7 x1))))
theorem L1_firstOwner_2_s (σ : rr_T) (K : Option Int) (n : Nat) (x1 : Int) : L1_firstOwner_2 σ K (n + 1) x1 = rr_c (rr_g x1) (if 101 ≤ x1 then K else rr_c (0 ≤ x1 ∧ x1 < 101) (rr_c (rr_g (σ 7 x1)) (if (σ 7 x1) = (-1) then L1_firstOwner_2 σ K n (x1 + 1) else some (σ 7 x1)))) := rfl
def M1_firstOwner (σ : rr_T) : Option Int := L1_firstOwner_2 σ (some (-1)) 1000 0
-- RoomRing$Ring.placesLeadingTo
def L1_placesLeadingTo_11 (σ : rr_T) (x1 : Int) (K : Int → Option Int) : Nat → Int → Int → Int → Option Int
  | 0 => fun _ _ _ => none
  | n + 1 => fun x2 x3 x4 => rr_c (rr_g x4) (if x4 < 0 then K x3 else rr_c (0 ≤ x4 ∧ x4 < 101) (rr_c (rr_g (σ 7 x4)) (if (σ 7 x4) = (-1) then rr_c ((rr_g x2) ∧ (rr_g x1)) (if x2 = x1 then L1_placesLeadingTo_11 σ x1 K n x2 (x3 + 1) (x4 + (-1)) else L1_placesLeadingTo_11 σ x1 K n x2 x3 (x4 + (-1))) else rr_c (rr_g x1) (if (σ 7 x4) = x1 then L1_placesLeadingTo_11 σ x1 K n (σ 7 x4) (x3 + 1) (x4 + (-1)) else L1_placesLeadingTo_11 σ x1 K n (σ 7 x4) x3 (x4 + (-1))))))
theorem L1_placesLeadingTo_11_s (σ : rr_T) (x1 : Int) (K : Int → Option Int) (n : Nat) (x2 : Int) (x3 : Int) (x4 : Int) : L1_placesLeadingTo_11 σ x1 K (n + 1) x2 x3 x4 = rr_c (rr_g x4) (if x4 < 0 then K x3 else rr_c (0 ≤ x4 ∧ x4 < 101) (rr_c (rr_g (σ 7 x4)) (if (σ 7 x4) = (-1) then rr_c ((rr_g x2) ∧ (rr_g x1)) (if x2 = x1 then L1_placesLeadingTo_11 σ x1 K n x2 (x3 + 1) (x4 + (-1)) else L1_placesLeadingTo_11 σ x1 K n x2 x3 (x4 + (-1))) else rr_c (rr_g x1) (if (σ 7 x4) = x1 then L1_placesLeadingTo_11 σ x1 K n (σ 7 x4) (x3 + 1) (x4 + (-1)) else L1_placesLeadingTo_11 σ x1 K n (σ 7 x4) x3 (x4 + (-1)))))) := rfl
def M1_placesLeadingTo (x1 : Int) (σ : rr_T) : Option Int := (M1_firstOwner σ).bind (fun v1 => L1_placesLeadingTo_11 σ x1 (fun y3_11 => some y3_11) 1000 v1 0 100)
-- RoomRing.share
def M4_share (x1 : Int) (Ω : (Nat → rr_T)) : Option (Int × (Nat → rr_T)) := (M4_isName x1).bind (fun v1 => rr_c (rr_g v1) (if v1 = 0 then (M4_refuse (-2) Ω).bind (fun v13 => some (v13.1, v13.2)) else (M3_findHost x1 (Ω 0)).bind (fun v5 => rr_c (rr_g v5) (if 0 ≤ v5 then (M1_placesLeadingTo v5 (Ω 0)).bind (fun v9 => some (v9, Ω)) else (M4_refuse (-3) Ω).bind (fun v11 => some (v11.1, v11.2))))))
-- RoomRing.has
def M4_has (x1 : Int) (Ω : (Nat → rr_T)) : Option (Int × (Nat → rr_T)) := (M4_isKey x1).bind (fun v1 => rr_c (rr_g v1) (if v1 = 0 then (M4_refuse (-2) Ω).bind (fun v14 => some (v14.1, v14.2)) else (M3_findKey x1 (Ω 0)).bind (fun v5 => rr_c (rr_g v5) (if 0 ≤ v5 then rr_c (0 ≤ v5 ∧ v5 < 40) ((M3_nameOf ((Ω 0) 11 v5) (Ω 0)).bind (fun v10 => some (v10, Ω))) else (M4_refuse (-3) Ω).bind (fun v12 => some (v12.1, v12.2))))))
-- RoomRing$Ring.keyFact
def M1_keyFact (x1 : Int) (x2 : Int) (σ : rr_T) : Option Int := rr_c (rr_g x2) (if x2 = 0 then (M1_placeOfKey x1 σ).bind (fun v4 => some v4) else if x2 = 1 then rr_c (0 ≤ x1 ∧ x1 < 40) (some (σ 12 x1)) else rr_c (0 ≤ x1 ∧ x1 < 40) (some (σ 13 x1)))
-- RoomRing.about
def M4_about (x1 : Int) (x2 : Int) (Ω : (Nat → rr_T)) : Option (Int × (Nat → rr_T)) := (M4_isKey x1).bind (fun v1 => rr_c (rr_g v1) (if v1 = 0 then (M4_refuse (-2) Ω).bind (fun v5 => some (v5.1, v5.2)) else rr_c (rr_g x2) (if x2 < 0 then (M4_refuse (-2) Ω).bind (fun v9 => some (v9.1, v9.2)) else if x2 < 3 then (M3_findKey x1 (Ω 0)).bind (fun v12 => rr_c (rr_g v12) (if 0 ≤ v12 then (M1_keyFact v12 x2 (Ω 0)).bind (fun v16 => some (v16, Ω)) else (M4_refuse (-3) Ω).bind (fun v18 => some (v18.1, v18.2)))) else (M4_refuse (-2) Ω).bind (fun v20 => some (v20.1, v20.2)))))
-- RoomRing.tryOne
def M4_tryOne (x1 : Int) (x2 : Int) (Ω : (Nat → rr_T)) : Option (Int × (Nat → rr_T)) := (M3_copyFrom (Ω 1) (Ω 0)).bind (fun v1 => (M3_take x1 x2 0 (rr_m 7 v1 (Ω 1))).bind (fun v3 => rr_c (rr_g v3.1) (if v3.1 = 0 then (M1_lay (rr_m 7 v3.2 (rr_m 7 v1 (Ω 1)))).bind (fun v7 => some (v3.1, (rr_z Ω 1 v7))) else some (v3.1, (rr_z Ω 1 (rr_m 7 v3.2 (rr_m 7 v1 (Ω 1))))))))
-- RoomRing.would
def M4_would (x1 : Int) (Ω : (Nat → rr_T)) : Option (Int × (Nat → rr_T)) := (M4_tryOne 107 x1 Ω).bind (fun v1 => rr_c (rr_g v1.1) (if v1.1 = 0 then (M1_hostNameOfKey x1 (v1.2 1)).bind (fun v7 => some (v7, v1.2)) else (M4_refuse v1.1 v1.2).bind (fun v5 => some (v5.1, v5.2))))
-- RoomRing.without
def M4_without (x1 : Int) (Ω : (Nat → rr_T)) : Option (Int × (Nat → rr_T)) := (M4_tryOne 103 x1 Ω).bind (fun v1 => rr_c (rr_g v1.1) (if v1.1 = 0 then (M1_movedSince (v1.2 1) (v1.2 0)).bind (fun v7 => some (v7, v1.2)) else (M4_refuse v1.1 v1.2).bind (fun v5 => some (v5.1, v5.2))))
-- RoomRing$Ring.fullHosts
def L1_fullHosts_4 (σ : rr_T) (K : Int → Option Int) : Nat → Int → Int → Option Int
  | 0 => fun _ _ => none
  | n + 1 => fun x1 x2 => rr_c ((rr_g x2) ∧ (rr_g (σ 3 0))) (if (σ 3 0) ≤ x2 then K x1 else rr_c (0 ≤ x2 ∧ x2 < 6) (rr_c ((rr_g (σ 10 x2)) ∧ (rr_g (σ 9 x2))) (if (σ 10 x2) = (σ 9 x2) then L1_fullHosts_4 σ K n (x1 + 1) (x2 + 1) else L1_fullHosts_4 σ K n x1 (x2 + 1))))
theorem L1_fullHosts_4_s (σ : rr_T) (K : Int → Option Int) (n : Nat) (x1 : Int) (x2 : Int) : L1_fullHosts_4 σ K (n + 1) x1 x2 = rr_c ((rr_g x2) ∧ (rr_g (σ 3 0))) (if (σ 3 0) ≤ x2 then K x1 else rr_c (0 ≤ x2 ∧ x2 < 6) (rr_c ((rr_g (σ 10 x2)) ∧ (rr_g (σ 9 x2))) (if (σ 10 x2) = (σ 9 x2) then L1_fullHosts_4 σ K n (x1 + 1) (x2 + 1) else L1_fullHosts_4 σ K n x1 (x2 + 1)))) := rfl
def M1_fullHosts (σ : rr_T) : Option Int := L1_fullHosts_4 σ (fun y1_4 => some y1_4) 1000 0 0
-- RoomRing$Ring.allPassed
def L1_allPassed_4 (σ : rr_T) (K : Int → Option Int) : Nat → Int → Int → Option Int
  | 0 => fun _ _ => none
  | n + 1 => fun x1 x2 => rr_c ((rr_g x2) ∧ (rr_g (σ 4 0))) (if (σ 4 0) ≤ x2 then K x1 else rr_c (0 ≤ x2 ∧ x2 < 40) (rr_c (rr_g (σ 12 x2)) (if (σ 12 x2) = (-1) then L1_allPassed_4 σ K n x1 (x2 + 1) else L1_allPassed_4 σ K n (x1 + (σ 12 x2)) (x2 + 1))))
theorem L1_allPassed_4_s (σ : rr_T) (K : Int → Option Int) (n : Nat) (x1 : Int) (x2 : Int) : L1_allPassed_4 σ K (n + 1) x1 x2 = rr_c ((rr_g x2) ∧ (rr_g (σ 4 0))) (if (σ 4 0) ≤ x2 then K x1 else rr_c (0 ≤ x2 ∧ x2 < 40) (rr_c (rr_g (σ 12 x2)) (if (σ 12 x2) = (-1) then L1_allPassed_4 σ K n x1 (x2 + 1) else L1_allPassed_4 σ K n (x1 + (σ 12 x2)) (x2 + 1)))) := rfl
def M1_allPassed (σ : rr_T) : Option Int := L1_allPassed_4 σ (fun y1_4 => some y1_4) 1000 0 0
-- RoomRing$Ring.mostLoad
def L1_mostLoad_4 (σ : rr_T) (K : Int → Option Int) : Nat → Int → Int → Option Int
  | 0 => fun _ _ => none
  | n + 1 => fun x1 x2 => rr_c ((rr_g x2) ∧ (rr_g (σ 3 0))) (if (σ 3 0) ≤ x2 then K x1 else rr_c (0 ≤ x2 ∧ x2 < 6) (rr_c ((rr_g x1) ∧ (rr_g (σ 10 x2))) (L1_mostLoad_4 σ K n (if x1 < (σ 10 x2) then (σ 10 x2) else x1) (x2 + 1))))
theorem L1_mostLoad_4_s (σ : rr_T) (K : Int → Option Int) (n : Nat) (x1 : Int) (x2 : Int) : L1_mostLoad_4 σ K (n + 1) x1 x2 = rr_c ((rr_g x2) ∧ (rr_g (σ 3 0))) (if (σ 3 0) ≤ x2 then K x1 else rr_c (0 ≤ x2 ∧ x2 < 6) (rr_c ((rr_g x1) ∧ (rr_g (σ 10 x2))) (L1_mostLoad_4 σ K n (if x1 < (σ 10 x2) then (σ 10 x2) else x1) (x2 + 1)))) := rfl
def M1_mostLoad (σ : rr_T) : Option Int := L1_mostLoad_4 σ (fun y1_4 => some y1_4) 1000 0 0
-- RoomRing.count
def M4_count (x1 : Int) (Ω : (Nat → rr_T)) : Option (Int × (Nat → rr_T)) := rr_c (rr_g x1) (if x1 = 0 then some (((Ω 0) 3 0), Ω) else if x1 = 1 then some (((Ω 0) 4 0), Ω) else if x1 = 2 then some (((Ω 0) 5 0), Ω) else if x1 = 3 then (M3_allWeights (Ω 0)).bind (fun v7 => some ((2 * v7), Ω)) else if x1 = 4 then some (((Ω 0) 6 0), Ω) else if x1 = 5 then (M1_fullHosts (Ω 0)).bind (fun v11 => some (v11, Ω)) else if x1 = 6 then (M1_allPassed (Ω 0)).bind (fun v14 => some (v14, Ω)) else if x1 = 7 then (M1_mostLoad (Ω 0)).bind (fun v17 => some (v17, Ω)) else if x1 = 8 then (M3_allWeights (Ω 0)).bind (fun v20 => some (v20, Ω)) else (M4_refuse (-2) Ω).bind (fun v22 => some (v22.1, v22.2)))
-- RoomRing$Script.append
def M2_append (x1 : Int) (σ : rr_T) : Option (Int × rr_T) := rr_c (rr_g (σ 1 0)) (if (σ 1 0) < 120 then rr_c (0 ≤ (σ 1 0) ∧ (σ 1 0) < 120) (some (1, (rr_t (rr_s σ 0 (σ 1 0) x1) 1 ((σ 1 0) + 1)))) else some (0, σ))
-- RoomRing.type
def M4_type (x1 : Int) (Ω : (Nat → rr_T)) : Option (Int × (Nat → rr_T)) := rr_c (rr_g x1) (if x1 < 0 then (M4_refuse (-2) Ω).bind (fun v3 => some (v3.1, v3.2)) else if x1 ≤ 127 then (M2_append x1 (Ω 2)).bind (fun v6 => rr_c (rr_g v6.1) (if v6.1 = 0 then (M4_refuse (-4) (rr_z Ω 2 v6.2)).bind (fun v10 => some (v10.1, v10.2)) else some ((v6.2 1 0), (rr_z Ω 2 v6.2)))) else (M4_refuse (-2) Ω).bind (fun v12 => some (v12.1, v12.2)))
-- RoomRing.clear
def M4_clear (Ω : (Nat → rr_T)) : Option (Int × (Nat → rr_T)) := some (((Ω 2) 1 0), (rr_z Ω 2 (rr_t (Ω 2) 1 0)))
-- RoomRing$Script.isFigure
def M2_isFigure (x0 : Int) : Option Int := rr_c (rr_g x0) (if x0 < 48 then some 0 else if 57 < x0 then some 0 else some 1)
-- RoomRing$Script.addsFigure
def M2_addsFigure (x1 : Int) (σ : rr_T) : Option (Int × rr_T) := rr_c (rr_g (σ 8 0)) (if (σ 8 0) < 3 then some (1, (rr_t (rr_t σ 9 ((10 * (σ 9 0)) + (x1 - 48))) 8 ((σ 8 0) + 1))) else some (0, σ))
-- RoomRing$Script.numbersOf
def M2_numbersOf (x0 : Int) : Option Int := rr_c (rr_g x0) (if x0 = 100 then some 1 else if x0 = 101 then some 1 else if x0 = 103 then some 1 else if x0 = 104 then some 2 else if x0 = 107 then some 1 else if x0 = 119 then some 2 else some 0)
-- RoomRing$Script.endNumber
def M2_endNumber (σ : rr_T) : Option rr_T := rr_c (rr_g (σ 7 0)) (if (σ 7 0) = 0 then rr_c (0 ≤ (σ 5 0) ∧ (σ 5 0) < 40) ((M2_numbersOf (σ 2 (σ 5 0))).bind (fun v9 => rr_c ((rr_g ((σ 7 0) + 1)) ∧ (rr_g v9)) (if v9 ≤ ((σ 7 0) + 1) then some (rr_t (rr_t (rr_s σ 3 (σ 5 0) (σ 9 0)) 7 ((σ 7 0) + 1)) 6 3) else some (rr_t (rr_t (rr_s σ 3 (σ 5 0) (σ 9 0)) 7 ((σ 7 0) + 1)) 6 1)))) else rr_c (0 ≤ (σ 5 0) ∧ (σ 5 0) < 40) ((M2_numbersOf (σ 2 (σ 5 0))).bind (fun v4 => rr_c ((rr_g ((σ 7 0) + 1)) ∧ (rr_g v4)) (if v4 ≤ ((σ 7 0) + 1) then some (rr_t (rr_t (rr_s σ 4 (σ 5 0) (σ 9 0)) 7 ((σ 7 0) + 1)) 6 3) else some (rr_t (rr_t (rr_s σ 4 (σ 5 0) (σ 9 0)) 7 ((σ 7 0) + 1)) 6 1)))))
-- RoomRing$Script.startsOrder
def M2_startsOrder (x1 : Int) (σ : rr_T) : Option (Int × rr_T) := (M2_numbersOf x1).bind (fun v1 => rr_c (rr_g v1) (if v1 = 0 then some (0, σ) else rr_c (rr_g (σ 5 0)) (if (σ 5 0) < 40 then rr_c (0 ≤ (σ 5 0) ∧ (σ 5 0) < 40) (some (1, (rr_t (rr_t (rr_s σ 2 (σ 5 0) x1) 7 0) 6 1))) else some (0, σ))))
-- RoomRing$Script.startsNumber
def M2_startsNumber (x1 : Int) (σ : rr_T) : Option (Int × rr_T) := (M2_isFigure x1).bind (fun v1 => rr_c (rr_g v1) (if v1 = 0 then some (0, σ) else (M2_addsFigure x1 (rr_t (rr_t (rr_t σ 9 0) 8 0) 6 2)).bind (fun v5 => rr_c (v5.1 = 0 ∨ v5.1 = 1) (some (v5.1, v5.2)))))
-- RoomRing$Script.endsOrder
def M2_endsOrder (x1 : Int) (σ : rr_T) : Option (Int × rr_T) := rr_c (rr_g x1) (if x1 = 59 then some (1, (rr_t (rr_t σ 5 ((σ 5 0) + 1)) 6 0)) else some (0, σ))
-- RoomRing$Script.accepts
def M2_accepts (x1 : Int) (σ : rr_T) : Option (Int × rr_T) := rr_c (rr_g (σ 6 0)) (if (σ 6 0) = 2 then (M2_isFigure x1).bind (fun v17 => rr_c (rr_g v17) (if v17 = 0 then (M2_endNumber σ).bind (fun v21 => rr_c (rr_g x1) (if x1 = 32 then some (1, v21) else rr_c (rr_g (v21 6 0)) (if (v21 6 0) = 0 then (M2_startsOrder x1 v21).bind (fun v28 => rr_c (v28.1 = 0 ∨ v28.1 = 1) (some (v28.1, v28.2))) else if (v21 6 0) = 1 then (M2_startsNumber x1 v21).bind (fun v32 => rr_c (v32.1 = 0 ∨ v32.1 = 1) (some (v32.1, v32.2))) else (M2_endsOrder x1 v21).bind (fun v35 => rr_c (v35.1 = 0 ∨ v35.1 = 1) (some (v35.1, v35.2)))))) else (M2_addsFigure x1 σ).bind (fun v38 => rr_c (v38.1 = 0 ∨ v38.1 = 1) (some (v38.1, v38.2))))) else rr_c (rr_g x1) (if x1 = 32 then some (1, σ) else if (σ 6 0) = 0 then (M2_startsOrder x1 σ).bind (fun v7 => rr_c (v7.1 = 0 ∨ v7.1 = 1) (some (v7.1, v7.2))) else if (σ 6 0) = 1 then (M2_startsNumber x1 σ).bind (fun v11 => rr_c (v11.1 = 0 ∨ v11.1 = 1) (some (v11.1, v11.2))) else (M2_endsOrder x1 σ).bind (fun v14 => rr_c (v14.1 = 0 ∨ v14.1 = 1) (some (v14.1, v14.2)))))
-- RoomRing$Script.read
def L2_read_12 (K : rr_T → Option (Int × rr_T)) : Nat → Int → rr_T → Option (Int × rr_T)
  | 0 => fun _ _ => none
  | n + 1 => fun x1 σ => rr_c ((rr_g x1) ∧ (rr_g (σ 1 0))) (if (σ 1 0) ≤ x1 then K σ else rr_c (0 ≤ x1 ∧ x1 < 120) ((M2_accepts (σ 0 x1) σ).bind (fun v4 => rr_c (rr_g v4.1) (if v4.1 = 0 then some (x1, v4.2) else L2_read_12 K n (x1 + 1) v4.2))))
theorem L2_read_12_s (K : rr_T → Option (Int × rr_T)) (n : Nat) (x1 : Int) (σ : rr_T) : L2_read_12 K (n + 1) x1 σ = rr_c ((rr_g x1) ∧ (rr_g (σ 1 0))) (if (σ 1 0) ≤ x1 then K σ else rr_c (0 ≤ x1 ∧ x1 < 120) ((M2_accepts (σ 0 x1) σ).bind (fun v4 => rr_c (rr_g v4.1) (if v4.1 = 0 then some (x1, v4.2) else L2_read_12 K n (x1 + 1) v4.2)))) := rfl
def M2_read (σ : rr_T) : Option (Int × rr_T) := L2_read_12 (fun σ_12 => rr_c (rr_g (σ_12 6 0)) (if (σ_12 6 0) = 0 then rr_c (rr_g (σ_12 5 0)) (if (σ_12 5 0) ≤ 0 then some ((σ_12 1 0), σ_12) else some ((-1), σ_12)) else some ((σ_12 1 0), σ_12))) 1000 0 (rr_t (rr_t σ 5 0) 6 0)
-- RoomRing.does
def L4_does_37 (K : (Nat → rr_T) → Option (Int × (Nat → rr_T))) : Nat → Int → (Nat → rr_T) → Option (Int × (Nat → rr_T))
  | 0 => fun _ _ => none
  | n + 1 => fun x2 Ω => rr_c ((rr_g x2) ∧ (rr_g ((Ω 2) 5 0))) (if ((Ω 2) 5 0) ≤ x2 then K Ω else rr_c (0 ≤ x2 ∧ x2 < 40) ((M3_take ((Ω 2) 2 x2) ((Ω 2) 3 x2) ((Ω 2) 4 x2) (Ω 1)).bind (fun v10 => rr_c (rr_g v10.1) (if v10.1 = 0 then L4_does_37 K n (x2 + 1) (rr_z Ω 1 (rr_m 7 v10.2 (Ω 1))) else some (((-1000) - x2), (rr_z Ω 1 (rr_m 7 v10.2 (Ω 1))))))))
theorem L4_does_37_s (K : (Nat → rr_T) → Option (Int × (Nat → rr_T))) (n : Nat) (x2 : Int) (Ω : (Nat → rr_T)) : L4_does_37 K (n + 1) x2 Ω = rr_c ((rr_g x2) ∧ (rr_g ((Ω 2) 5 0))) (if ((Ω 2) 5 0) ≤ x2 then K Ω else rr_c (0 ≤ x2 ∧ x2 < 40) ((M3_take ((Ω 2) 2 x2) ((Ω 2) 3 x2) ((Ω 2) 4 x2) (Ω 1)).bind (fun v10 => rr_c (rr_g v10.1) (if v10.1 = 0 then L4_does_37 K n (x2 + 1) (rr_z Ω 1 (rr_m 7 v10.2 (Ω 1))) else some (((-1000) - x2), (rr_z Ω 1 (rr_m 7 v10.2 (Ω 1)))))))) := rfl
def M4_does (Ω : (Nat → rr_T)) : Option (Int × (Nat → rr_T)) := (M2_read (Ω 2)).bind (fun v1 => rr_c (rr_g v1.1) (if v1.1 = (-1) then (M3_copyFrom (Ω 1) (Ω 0)).bind (fun v5 => L4_does_37 (fun σ_37 => (M4_keepDraft σ_37).bind (fun v14 => some (((v14 2) 5 0), v14))) 1000 0 (rr_z (rr_z Ω 1 (rr_m 7 v5 (Ω 1))) 2 v1.2)) else some (((-10) - v1.1), (rr_z Ω 2 v1.2))))
-- RoomRing$History.takeBack
def M0_takeBack (Ω : (Nat → rr_T)) (τ : rr_T) : Option ((Nat → rr_T) × rr_T) := rr_c (rr_g ((Ω 9) 0 0)) (if ((Ω 9) 0 0) ≤ 0 then some (Ω, τ) else if (((Ω 9) 0 0) - 1) = 0 then (M3_copyFrom τ (Ω 4)).bind (fun v4 => some ((rr_z Ω 9 (rr_t (Ω 9) 0 (((Ω 9) 0 0) - 1))), v4)) else if (((Ω 9) 0 0) - 1) = 1 then (M3_copyFrom τ (Ω 5)).bind (fun v7 => some ((rr_z Ω 9 (rr_t (Ω 9) 0 (((Ω 9) 0 0) - 1))), v7)) else if (((Ω 9) 0 0) - 1) = 2 then (M3_copyFrom τ (Ω 6)).bind (fun v10 => some ((rr_z Ω 9 (rr_t (Ω 9) 0 (((Ω 9) 0 0) - 1))), v10)) else if (((Ω 9) 0 0) - 1) = 3 then (M3_copyFrom τ (Ω 7)).bind (fun v13 => some ((rr_z Ω 9 (rr_t (Ω 9) 0 (((Ω 9) 0 0) - 1))), v13)) else if (((Ω 9) 0 0) - 1) = 4 then (M3_copyFrom τ (Ω 8)).bind (fun v16 => some ((rr_z Ω 9 (rr_t (Ω 9) 0 (((Ω 9) 0 0) - 1))), v16)) else none)
-- RoomRing.back
def M4_back (Ω : (Nat → rr_T)) : Option (Int × (Nat → rr_T)) := rr_c (rr_g ((Ω 9) 0 0)) (if ((Ω 9) 0 0) = 0 then (M4_refuse (-3) Ω).bind (fun v7 => some (v7.1, v7.2)) else (M0_takeBack Ω (Ω 0)).bind (fun v3 => (M1_lay (rr_m 7 v3.2 (Ω 0))).bind (fun v5 => some (((v3.1 9) 0 0), (rr_z (rr_z (rr_z (rr_z (rr_z (rr_z (rr_z Ω 0 v5) 4 (v3.1 4)) 5 (v3.1 5)) 6 (v3.1 6)) 7 (v3.1 7)) 8 (v3.1 8)) 9 (v3.1 9))))))
-- RoomRing.told
def M4_told (x1 : Int) (Ω : (Nat → rr_T)) : Option (Int × (Nat → rr_T)) := rr_c (rr_g x1) (if x1 = 0 then some (((Ω 3) 0 0), Ω) else if x1 = 1 then some (((Ω 3) 1 0), Ω) else if x1 = 2 then some (((Ω 3) 2 0), Ω) else if x1 = 3 then some (((Ω 2) 1 0), Ω) else if x1 = 4 then some (((Ω 9) 0 0), Ω) else (M4_refuse (-2) Ω).bind (fun v8 => some (v8.1, v8.2)))
-- RoomRing.digestHosts
def L4_digestHosts_44 (Ω : (Nat → rr_T)) (x5 : Int) (K : Int → Option Int) : Nat → Int → Int → Option Int
  | 0 => fun _ _ => none
  | n + 1 => fun x3 x6 => rr_c (rr_g x6) (if 3 ≤ x6 then K x3 else (M1_hostFact x5 x6 (Ω 0)).bind (fun v7 => rr_c (rr_g v7) (L4_digestHosts_44 Ω x5 K n ((31 * x3) + v7) (x6 + 1))))
theorem L4_digestHosts_44_s (Ω : (Nat → rr_T)) (x5 : Int) (K : Int → Option Int) (n : Nat) (x3 : Int) (x6 : Int) : L4_digestHosts_44 Ω x5 K (n + 1) x3 x6 = rr_c (rr_g x6) (if 3 ≤ x6 then K x3 else (M1_hostFact x5 x6 (Ω 0)).bind (fun v7 => rr_c (rr_g v7) (L4_digestHosts_44 Ω x5 K n ((31 * x3) + v7) (x6 + 1)))) := rfl
def L4_digestHosts_5 (Ω : (Nat → rr_T)) (K : Int → Option Int) : Nat → Int → Int → Option Int
  | 0 => fun _ _ => none
  | n + 1 => fun x3 x5 => rr_c ((rr_g x5) ∧ (rr_g ((Ω 0) 3 0))) (if ((Ω 0) 3 0) ≤ x5 then K x3 else rr_c (0 ≤ x5 ∧ x5 < 6) (rr_c (rr_g ((Ω 0) 0 x5)) (L4_digestHosts_44 Ω x5 (fun y3_44 => L4_digestHosts_5 Ω K n y3_44 (x5 + 1)) 1000 ((31 * x3) + ((Ω 0) 0 x5)) 0)))
theorem L4_digestHosts_5_s (Ω : (Nat → rr_T)) (K : Int → Option Int) (n : Nat) (x3 : Int) (x5 : Int) : L4_digestHosts_5 Ω K (n + 1) x3 x5 = rr_c ((rr_g x5) ∧ (rr_g ((Ω 0) 3 0))) (if ((Ω 0) 3 0) ≤ x5 then K x3 else rr_c (0 ≤ x5 ∧ x5 < 6) (rr_c (rr_g ((Ω 0) 0 x5)) (L4_digestHosts_44 Ω x5 (fun y3_44 => L4_digestHosts_5 Ω K n y3_44 (x5 + 1)) 1000 ((31 * x3) + ((Ω 0) 0 x5)) 0))) := rfl
def M4_digestHosts (x1 : Int) (Ω : (Nat → rr_T)) : Option Int := L4_digestHosts_5 Ω (fun y3_5 => some y3_5) 1000 x1 0
-- RoomRing.digestKeys
def L4_digestKeys_72 (Ω : (Nat → rr_T)) (x5 : Int) (K : Int → Option Int) : Nat → Int → Int → Option Int
  | 0 => fun _ _ => none
  | n + 1 => fun x3 x6 => rr_c (rr_g x6) (if 3 ≤ x6 then K x3 else (M1_keyFact x5 x6 (Ω 0)).bind (fun v10 => rr_c (rr_g v10) (L4_digestKeys_72 Ω x5 K n ((31 * x3) + v10) (x6 + 1))))
theorem L4_digestKeys_72_s (Ω : (Nat → rr_T)) (x5 : Int) (K : Int → Option Int) (n : Nat) (x3 : Int) (x6 : Int) : L4_digestKeys_72 Ω x5 K (n + 1) x3 x6 = rr_c (rr_g x6) (if 3 ≤ x6 then K x3 else (M1_keyFact x5 x6 (Ω 0)).bind (fun v10 => rr_c (rr_g v10) (L4_digestKeys_72 Ω x5 K n ((31 * x3) + v10) (x6 + 1)))) := rfl
def L4_digestKeys_5 (Ω : (Nat → rr_T)) (K : Int → Option Int) : Nat → Int → Int → Option Int
  | 0 => fun _ _ => none
  | n + 1 => fun x3 x5 => rr_c ((rr_g x5) ∧ (rr_g ((Ω 0) 4 0))) (if ((Ω 0) 4 0) ≤ x5 then K x3 else rr_c (0 ≤ x5 ∧ x5 < 40) (rr_c (rr_g ((Ω 0) 2 x5)) ((M3_nameOf ((Ω 0) 11 x5) (Ω 0)).bind (fun v5 => rr_c (rr_g v5) (L4_digestKeys_72 Ω x5 (fun y3_72 => L4_digestKeys_5 Ω K n y3_72 (x5 + 1)) 1000 ((31 * ((31 * x3) + ((Ω 0) 2 x5))) + v5) 0)))))
theorem L4_digestKeys_5_s (Ω : (Nat → rr_T)) (K : Int → Option Int) (n : Nat) (x3 : Int) (x5 : Int) : L4_digestKeys_5 Ω K (n + 1) x3 x5 = rr_c ((rr_g x5) ∧ (rr_g ((Ω 0) 4 0))) (if ((Ω 0) 4 0) ≤ x5 then K x3 else rr_c (0 ≤ x5 ∧ x5 < 40) (rr_c (rr_g ((Ω 0) 2 x5)) ((M3_nameOf ((Ω 0) 11 x5) (Ω 0)).bind (fun v5 => rr_c (rr_g v5) (L4_digestKeys_72 Ω x5 (fun y3_72 => L4_digestKeys_5 Ω K n y3_72 (x5 + 1)) 1000 ((31 * ((31 * x3) + ((Ω 0) 2 x5))) + v5) 0))))) := rfl
def M4_digestKeys (x1 : Int) (Ω : (Nat → rr_T)) : Option Int := L4_digestKeys_5 Ω (fun y3_5 => some y3_5) 1000 x1 0
-- RoomRing.digest
def L4_digest_6 (K : Int → (Nat → rr_T) → Option (Int × (Nat → rr_T))) : Nat → Int → Int → (Nat → rr_T) → Option (Int × (Nat → rr_T))
  | 0 => fun _ _ _ => none
  | n + 1 => fun x1 x3 Ω => rr_c (rr_g x3) (if 5 ≤ x3 then K x1 Ω else (M4_told x3 Ω).bind (fun v3 => rr_c (rr_g v3.1) (L4_digest_6 K n ((31 * x1) + v3.1) (x3 + 1) v3.2)))
theorem L4_digest_6_s (K : Int → (Nat → rr_T) → Option (Int × (Nat → rr_T))) (n : Nat) (x1 : Int) (x3 : Int) (Ω : (Nat → rr_T)) : L4_digest_6 K (n + 1) x1 x3 Ω = rr_c (rr_g x3) (if 5 ≤ x3 then K x1 Ω else (M4_told x3 Ω).bind (fun v3 => rr_c (rr_g v3.1) (L4_digest_6 K n ((31 * x1) + v3.1) (x3 + 1) v3.2))) := rfl
def L4_digest_32 (K : Int → (Nat → rr_T) → Option (Int × (Nat → rr_T))) : Nat → Int → Int → (Nat → rr_T) → Option (Int × (Nat → rr_T))
  | 0 => fun _ _ _ => none
  | n + 1 => fun x1 x3 Ω => rr_c (rr_g x3) (if 9 ≤ x3 then K x1 Ω else (M4_count x3 Ω).bind (fun v8 => rr_c (rr_g v8.1) (L4_digest_32 K n ((31 * x1) + v8.1) (x3 + 1) v8.2)))
theorem L4_digest_32_s (K : Int → (Nat → rr_T) → Option (Int × (Nat → rr_T))) (n : Nat) (x1 : Int) (x3 : Int) (Ω : (Nat → rr_T)) : L4_digest_32 K (n + 1) x1 x3 Ω = rr_c (rr_g x3) (if 9 ≤ x3 then K x1 Ω else (M4_count x3 Ω).bind (fun v8 => rr_c (rr_g v8.1) (L4_digest_32 K n ((31 * x1) + v8.1) (x3 + 1) v8.2))) := rfl
def L4_digest_59 (K : Int → (Nat → rr_T) → Option (Int × (Nat → rr_T))) : Nat → Int → Int → (Nat → rr_T) → Option (Int × (Nat → rr_T))
  | 0 => fun _ _ _ => none
  | n + 1 => fun x1 x3 Ω => rr_c (rr_g x3) (if 101 ≤ x3 then K x1 Ω else (M4_at x3 Ω).bind (fun v13 => rr_c (rr_g v13.1) (L4_digest_59 K n ((31 * x1) + v13.1) (x3 + 1) v13.2)))
theorem L4_digest_59_s (K : Int → (Nat → rr_T) → Option (Int × (Nat → rr_T))) (n : Nat) (x1 : Int) (x3 : Int) (Ω : (Nat → rr_T)) : L4_digest_59 K (n + 1) x1 x3 Ω = rr_c (rr_g x3) (if 101 ≤ x3 then K x1 Ω else (M4_at x3 Ω).bind (fun v13 => rr_c (rr_g v13.1) (L4_digest_59 K n ((31 * x1) + v13.1) (x3 + 1) v13.2))) := rfl
def M4_digest (Ω : (Nat → rr_T)) : Option (Int × (Nat → rr_T)) := L4_digest_6 (fun y1_6 σ_6 => L4_digest_32 (fun y1_32 σ_32 => L4_digest_59 (fun y1_59 σ_59 => (M4_digestHosts y1_59 σ_59).bind (fun v16 => (M4_digestKeys v16 σ_59).bind (fun v18 => some (v18, σ_59)))) 1000 y1_32 0 σ_32) 1000 y1_6 0 σ_6) 1000 2820 0 Ω
-- RoomRingModel.first
def M5_first (x0 : Int) (x1 : Int) : Option Int := rr_c (0 ≤ (((41 * x0) + (29 * x1)) + 5) ∧ (((41 * x0) + (29 * x1)) + 5) < 2147483648) (some ((((41 * x0) + (29 * x1)) + 5) % 101))
-- RoomRingModel.layMarks
def L5_layMarks_2 (K : rr_T → Option rr_T) : Nat → Int → rr_T → Option rr_T
  | 0 => fun _ _ => none
  | n + 1 => fun x1 σ => rr_c (rr_g x1) (if 101 ≤ x1 then K σ else rr_c (0 ≤ x1 ∧ x1 < 101) (L5_layMarks_2 K n (x1 + 1) (rr_s σ 5 x1 (-1))))
theorem L5_layMarks_2_s (K : rr_T → Option rr_T) (n : Nat) (x1 : Int) (σ : rr_T) : L5_layMarks_2 K (n + 1) x1 σ = rr_c (rr_g x1) (if 101 ≤ x1 then K σ else rr_c (0 ≤ x1 ∧ x1 < 101) (L5_layMarks_2 K n (x1 + 1) (rr_s σ 5 x1 (-1)))) := rfl
def L5_layMarks_49 (σ : rr_T) (x1 : Int) (x2 : Int) (K : Int → Option rr_T) : Nat → Int → Option rr_T
  | 0 => fun _ => none
  | n + 1 => fun x3 => rr_c (0 ≤ x3 ∧ x3 < 101) (rr_c (rr_g (σ 5 x3)) (if (σ 5 x3) = (-1) then K x3 else rr_c (0 ≤ (x3 + 1) ∧ (x3 + 1) < 2147483648) (L5_layMarks_49 σ x1 x2 K n ((x3 + 1) % 101))))
theorem L5_layMarks_49_s (σ : rr_T) (x1 : Int) (x2 : Int) (K : Int → Option rr_T) (n : Nat) (x3 : Int) : L5_layMarks_49 σ x1 x2 K (n + 1) x3 = rr_c (0 ≤ x3 ∧ x3 < 101) (rr_c (rr_g (σ 5 x3)) (if (σ 5 x3) = (-1) then K x3 else rr_c (0 ≤ (x3 + 1) ∧ (x3 + 1) < 2147483648) (L5_layMarks_49 σ x1 x2 K n ((x3 + 1) % 101)))) := rfl
def L5_layMarks_31 (x1 : Int) (K : rr_T → Option rr_T) : Nat → Int → rr_T → Option rr_T
  | 0 => fun _ _ => none
  | n + 1 => fun x2 σ => rr_c (0 ≤ x1 ∧ x1 < 143) (rr_c ((rr_g x2) ∧ (rr_g (2 * (σ 0 x1)))) (if (2 * (σ 0 x1)) ≤ x2 then K σ else (M5_first x1 x2).bind (fun v9 => L5_layMarks_49 σ x1 x2 (fun y3_49 => rr_c (0 ≤ y3_49 ∧ y3_49 < 101) (L5_layMarks_31 x1 K n (x2 + 1) (rr_s σ 5 y3_49 x1))) 1000 v9)))
theorem L5_layMarks_31_s (x1 : Int) (K : rr_T → Option rr_T) (n : Nat) (x2 : Int) (σ : rr_T) : L5_layMarks_31 x1 K (n + 1) x2 σ = rr_c (0 ≤ x1 ∧ x1 < 143) (rr_c ((rr_g x2) ∧ (rr_g (2 * (σ 0 x1)))) (if (2 * (σ 0 x1)) ≤ x2 then K σ else (M5_first x1 x2).bind (fun v9 => L5_layMarks_49 σ x1 x2 (fun y3_49 => rr_c (0 ≤ y3_49 ∧ y3_49 < 101) (L5_layMarks_31 x1 K n (x2 + 1) (rr_s σ 5 y3_49 x1))) 1000 v9))) := rfl
def L5_layMarks_23 (K : rr_T → Option rr_T) : Nat → Int → rr_T → Option rr_T
  | 0 => fun _ _ => none
  | n + 1 => fun x1 σ => rr_c (rr_g x1) (if 100 ≤ x1 then K σ else L5_layMarks_31 x1 (fun σ_31 => L5_layMarks_23 K n (x1 + 1) σ_31) 1000 0 σ)
theorem L5_layMarks_23_s (K : rr_T → Option rr_T) (n : Nat) (x1 : Int) (σ : rr_T) : L5_layMarks_23 K (n + 1) x1 σ = rr_c (rr_g x1) (if 100 ≤ x1 then K σ else L5_layMarks_31 x1 (fun σ_31 => L5_layMarks_23 K n (x1 + 1) σ_31) 1000 0 σ) := rfl
def M5_layMarks (σ : rr_T) : Option rr_T := L5_layMarks_2 (fun σ_2 => L5_layMarks_23 (fun σ_23 => some σ_23) 1000 0 σ_2) 1000 0 σ
-- RoomRingModel.weights
def L5_weights_4 (σ : rr_T) (K : Int → Option Int) : Nat → Int → Int → Option Int
  | 0 => fun _ _ => none
  | n + 1 => fun x1 x2 => rr_c (rr_g x2) (if 100 ≤ x2 then K x1 else rr_c (0 ≤ x2 ∧ x2 < 143) (L5_weights_4 σ K n (x1 + (σ 0 x2)) (x2 + 1)))
theorem L5_weights_4_s (σ : rr_T) (K : Int → Option Int) (n : Nat) (x1 : Int) (x2 : Int) : L5_weights_4 σ K (n + 1) x1 x2 = rr_c (rr_g x2) (if 100 ≤ x2 then K x1 else rr_c (0 ≤ x2 ∧ x2 < 143) (L5_weights_4 σ K n (x1 + (σ 0 x2)) (x2 + 1))) := rfl
def M5_weights (σ : rr_T) : Option Int := L5_weights_4 σ (fun y1_4 => some y1_4) 1000 0 0
-- RoomRingModel.placeOf
def M5_placeOf (x0 : Int) : Option Int := rr_c (0 ≤ ((53 * x0) + 17) ∧ ((53 * x0) + 17) < 2147483648) (some (((53 * x0) + 17) % 101))
-- RoomRingModel.bound
def M5_bound (x1 : Int) (σ : rr_T) : Option Int := rr_c (0 ≤ x1 ∧ x1 < 143) ((M5_weights σ).bind (fun v2 => rr_c (rr_g (100 * v2)) (if (100 * v2) = 0 then some 0 else rr_c ((0 ≤ (((((σ 0 140) * (σ 0 x1)) * (100 + (σ 0 141))) + (100 * v2)) - 1) ∧ (((((σ 0 140) * (σ 0 x1)) * (100 + (σ 0 141))) + (100 * v2)) - 1) < 2147483648) ∧ (0 < (100 * v2) ∧ (100 * v2) < 2147483648)) (some ((((((σ 0 140) * (σ 0 x1)) * (100 + (σ 0 141))) + (100 * v2)) - 1) / (100 * v2))))))
-- RoomRingModel.isRoom
def M5_isRoom (x1 : Int) (σ : rr_T) : Option Int := rr_c (0 ≤ x1 ∧ x1 < 101) (rr_c (rr_g (σ 5 x1)) (if (σ 5 x1) = (-1) then some 0 else if 0 ≤ (σ 5 x1) then rr_c (0 ≤ (σ 5 x1) ∧ (σ 5 x1) < 100) (if 0 ≤ (σ 5 x1) then (M5_bound (σ 5 x1) σ).bind (fun v7 => rr_c ((rr_g (σ 8 (σ 5 x1))) ∧ (rr_g v7)) (if v7 ≤ (σ 8 (σ 5 x1)) then some 0 else some 1)) else (M5_bound 0 σ).bind (fun v11 => rr_c ((rr_g (σ 8 (σ 5 x1))) ∧ (rr_g v11)) (if v11 ≤ (σ 8 (σ 5 x1)) then some 0 else some 1))) else if 0 ≤ (σ 5 x1) then (M5_bound (σ 5 x1) σ).bind (fun v16 => rr_c ((rr_g (σ 8 0)) ∧ (rr_g v16)) (if v16 ≤ (σ 8 0) then some 0 else some 1)) else (M5_bound 0 σ).bind (fun v20 => rr_c ((rr_g (σ 8 0)) ∧ (rr_g v20)) (if v20 ≤ (σ 8 0) then some 0 else some 1))))
-- RoomRingModel.lay
def L5_lay_6 (K : rr_T → Option rr_T) : Nat → Int → rr_T → Option rr_T
  | 0 => fun _ _ => none
  | n + 1 => fun x1 σ => rr_c (rr_g x1) (if 100 ≤ x1 then K σ else rr_c (0 ≤ x1 ∧ x1 < 100) (L5_lay_6 K n (x1 + 1) (rr_s σ 8 x1 0)))
theorem L5_lay_6_s (K : rr_T → Option rr_T) (n : Nat) (x1 : Int) (σ : rr_T) : L5_lay_6 K (n + 1) x1 σ = rr_c (rr_g x1) (if 100 ≤ x1 then K σ else rr_c (0 ≤ x1 ∧ x1 < 100) (L5_lay_6 K n (x1 + 1) (rr_s σ 8 x1 0))) := rfl
def L5_lay_68 (σ : rr_T) (x1 : Int) (x2 : Int) (K : Int → Option rr_T) : Nat → Int → Int → Option rr_T
  | 0 => fun _ _ => none
  | n + 1 => fun x3 x4 => rr_c (rr_g x4) (if 101 ≤ x4 then K x3 else rr_c (rr_g x1) (if x1 = 0 then (M5_isRoom x3 σ).bind (fun v19 => rr_c (rr_g v19) (if v19 = 0 then rr_c (0 ≤ (x3 + 1) ∧ (x3 + 1) < 2147483648) (L5_lay_68 σ x1 x2 K n ((x3 + 1) % 101) (x4 + 1)) else K x3)) else K x3))
theorem L5_lay_68_s (σ : rr_T) (x1 : Int) (x2 : Int) (K : Int → Option rr_T) (n : Nat) (x3 : Int) (x4 : Int) : L5_lay_68 σ x1 x2 K (n + 1) x3 x4 = rr_c (rr_g x4) (if 101 ≤ x4 then K x3 else rr_c (rr_g x1) (if x1 = 0 then (M5_isRoom x3 σ).bind (fun v19 => rr_c (rr_g v19) (if v19 = 0 then rr_c (0 ≤ (x3 + 1) ∧ (x3 + 1) < 2147483648) (L5_lay_68 σ x1 x2 K n ((x3 + 1) % 101) (x4 + 1)) else K x3)) else K x3)) := rfl
def L5_lay_40 (x1 : Int) (K : rr_T → Option rr_T) : Nat → Int → rr_T → Option rr_T
  | 0 => fun _ _ => none
  | n + 1 => fun x2 σ => rr_c ((rr_g x2) ∧ (rr_g (σ 0 140))) (if (σ 0 140) ≤ x2 then K σ else rr_c (0 ≤ (100 + x2) ∧ (100 + x2) < 143) ((M5_placeOf (σ 0 (100 + x2))).bind (fun v13 => L5_lay_68 σ x1 x2 (fun y3_68 => rr_c (rr_g x1) (if x1 = 0 then rr_c (0 ≤ y3_68 ∧ y3_68 < 101) (rr_c (0 ≤ x2 ∧ x2 < 40) (if x1 = 0 then rr_c (0 ≤ (σ 5 y3_68) ∧ (σ 5 y3_68) < 100) (L5_lay_40 x1 K n (x2 + 1) (rr_s (rr_s (rr_s σ 6 x2 (σ 5 y3_68)) 7 x2 y3_68) 8 (σ 5 y3_68) ((σ 8 (σ 5 y3_68)) + 1))) else L5_lay_40 x1 K n (x2 + 1) (rr_s (rr_s σ 6 x2 (σ 5 y3_68)) 7 x2 y3_68))) else rr_c (0 ≤ x2 ∧ x2 < 40) (if x1 = 0 then rr_c (0 ≤ y3_68 ∧ y3_68 < 101) (rr_c (0 ≤ (σ 5 y3_68) ∧ (σ 5 y3_68) < 100) (L5_lay_40 x1 K n (x2 + 1) (rr_s (rr_s (rr_s σ 6 x2 (-1)) 7 x2 y3_68) 8 (σ 5 y3_68) ((σ 8 (σ 5 y3_68)) + 1)))) else L5_lay_40 x1 K n (x2 + 1) (rr_s (rr_s σ 6 x2 (-1)) 7 x2 y3_68)))) 1000 v13 0)))
theorem L5_lay_40_s (x1 : Int) (K : rr_T → Option rr_T) (n : Nat) (x2 : Int) (σ : rr_T) : L5_lay_40 x1 K (n + 1) x2 σ = rr_c ((rr_g x2) ∧ (rr_g (σ 0 140))) (if (σ 0 140) ≤ x2 then K σ else rr_c (0 ≤ (100 + x2) ∧ (100 + x2) < 143) ((M5_placeOf (σ 0 (100 + x2))).bind (fun v13 => L5_lay_68 σ x1 x2 (fun y3_68 => rr_c (rr_g x1) (if x1 = 0 then rr_c (0 ≤ y3_68 ∧ y3_68 < 101) (rr_c (0 ≤ x2 ∧ x2 < 40) (if x1 = 0 then rr_c (0 ≤ (σ 5 y3_68) ∧ (σ 5 y3_68) < 100) (L5_lay_40 x1 K n (x2 + 1) (rr_s (rr_s (rr_s σ 6 x2 (σ 5 y3_68)) 7 x2 y3_68) 8 (σ 5 y3_68) ((σ 8 (σ 5 y3_68)) + 1))) else L5_lay_40 x1 K n (x2 + 1) (rr_s (rr_s σ 6 x2 (σ 5 y3_68)) 7 x2 y3_68))) else rr_c (0 ≤ x2 ∧ x2 < 40) (if x1 = 0 then rr_c (0 ≤ y3_68 ∧ y3_68 < 101) (rr_c (0 ≤ (σ 5 y3_68) ∧ (σ 5 y3_68) < 100) (L5_lay_40 x1 K n (x2 + 1) (rr_s (rr_s (rr_s σ 6 x2 (-1)) 7 x2 y3_68) 8 (σ 5 y3_68) ((σ 8 (σ 5 y3_68)) + 1)))) else L5_lay_40 x1 K n (x2 + 1) (rr_s (rr_s σ 6 x2 (-1)) 7 x2 y3_68)))) 1000 v13 0))) := rfl
def M5_lay (σ : rr_T) : Option rr_T := (M5_layMarks σ).bind (fun v1 => L5_lay_6 (fun σ_6 => (M5_weights σ_6).bind (fun v6 => rr_c (rr_g v6) (if v6 = 0 then L5_lay_40 1 (fun σ_40 => some σ_40) 1000 0 σ_6 else L5_lay_40 0 (fun σ_40 => some σ_40) 1000 0 σ_6))) 1000 0 v1)
-- RoomRingModel.in
def M5_in (x0 : Int) (x1 : Int) (x2 : Int) : Option Int := rr_c ((rr_g x0) ∧ (rr_g x1)) (if x0 < x1 then some 0 else rr_c (rr_g x2) (if x2 < x0 then some 0 else some 1))
-- RoomRingModel.refuses
def M5_refuses (x1 : Int) (σ : rr_T) : Option (Int × rr_T) := rr_c (0 ≤ ((-2) - x1) ∧ ((-2) - x1) < 3) (some (x1, (rr_s σ 4 ((-2) - x1) ((σ 4 ((-2) - x1)) + 1))))
-- RoomRingModel.hold
def L5_hold_2 (K : rr_T → Option rr_T) : Nat → Int → rr_T → Option rr_T
  | 0 => fun _ _ => none
  | n + 1 => fun x1 σ => rr_c (rr_g x1) (if 143 ≤ x1 then K σ else rr_c (0 ≤ x1 ∧ x1 < 143) (L5_hold_2 K n (x1 + 1) (rr_s σ 1 x1 (σ 0 x1))))
theorem L5_hold_2_s (K : rr_T → Option rr_T) (n : Nat) (x1 : Int) (σ : rr_T) : L5_hold_2 K (n + 1) x1 σ = rr_c (rr_g x1) (if 143 ≤ x1 then K σ else rr_c (0 ≤ x1 ∧ x1 < 143) (L5_hold_2 K n (x1 + 1) (rr_s σ 1 x1 (σ 0 x1)))) := rfl
def L5_hold_29 (K : rr_T → Option rr_T) : Nat → Int → rr_T → Option rr_T
  | 0 => fun _ _ => none
  | n + 1 => fun x1 σ => rr_c (rr_g x1) (if 40 ≤ x1 then K σ else rr_c (0 ≤ x1 ∧ x1 < 40) (L5_hold_29 K n (x1 + 1) (rr_s σ 9 x1 (σ 6 x1))))
theorem L5_hold_29_s (K : rr_T → Option rr_T) (n : Nat) (x1 : Int) (σ : rr_T) : L5_hold_29 K (n + 1) x1 σ = rr_c (rr_g x1) (if 40 ≤ x1 then K σ else rr_c (0 ≤ x1 ∧ x1 < 40) (L5_hold_29 K n (x1 + 1) (rr_s σ 9 x1 (σ 6 x1)))) := rfl
def M5_hold (σ : rr_T) : Option rr_T := L5_hold_2 (fun σ_2 => L5_hold_29 (fun σ_29 => some σ_29) 1000 0 σ_2) 1000 0 σ
-- RoomRingModel.release
def L5_release_2 (K : rr_T → Option rr_T) : Nat → Int → rr_T → Option rr_T
  | 0 => fun _ _ => none
  | n + 1 => fun x1 σ => rr_c (rr_g x1) (if 143 ≤ x1 then K σ else rr_c (0 ≤ x1 ∧ x1 < 143) (L5_release_2 K n (x1 + 1) (rr_s σ 0 x1 (σ 1 x1))))
theorem L5_release_2_s (K : rr_T → Option rr_T) (n : Nat) (x1 : Int) (σ : rr_T) : L5_release_2 K (n + 1) x1 σ = rr_c (rr_g x1) (if 143 ≤ x1 then K σ else rr_c (0 ≤ x1 ∧ x1 < 143) (L5_release_2 K n (x1 + 1) (rr_s σ 0 x1 (σ 1 x1)))) := rfl
def M5_release (σ : rr_T) : Option rr_T := L5_release_2 (fun σ_2 => some σ_2) 1000 0 σ
-- RoomRingModel.moved
def L5_moved_18 (σ : rr_T) (x2 : Int) (K : Int → Option Int) : Nat → Int → Int → Option Int
  | 0 => fun _ _ => none
  | n + 1 => fun x1 x3 => rr_c ((rr_g x3) ∧ (rr_g (σ 1 140))) (if (σ 1 140) ≤ x3 then K x1 else rr_c (0 ≤ (100 + x2) ∧ (100 + x2) < 143) (rr_c (0 ≤ (100 + x3) ∧ (100 + x3) < 143) (rr_c ((rr_g (σ 0 (100 + x2))) ∧ (rr_g (σ 1 (100 + x3)))) (if (σ 0 (100 + x2)) = (σ 1 (100 + x3)) then rr_c (0 ≤ x2 ∧ x2 < 40) (rr_c (0 ≤ x3 ∧ x3 < 40) (rr_c ((rr_g (σ 6 x2)) ∧ (rr_g (σ 9 x3))) (if (σ 6 x2) = (σ 9 x3) then L5_moved_18 σ x2 K n (x1 + 0) (x3 + 1) else L5_moved_18 σ x2 K n (x1 + 1) (x3 + 1)))) else L5_moved_18 σ x2 K n (x1 + 0) (x3 + 1)))))
theorem L5_moved_18_s (σ : rr_T) (x2 : Int) (K : Int → Option Int) (n : Nat) (x1 : Int) (x3 : Int) : L5_moved_18 σ x2 K (n + 1) x1 x3 = rr_c ((rr_g x3) ∧ (rr_g (σ 1 140))) (if (σ 1 140) ≤ x3 then K x1 else rr_c (0 ≤ (100 + x2) ∧ (100 + x2) < 143) (rr_c (0 ≤ (100 + x3) ∧ (100 + x3) < 143) (rr_c ((rr_g (σ 0 (100 + x2))) ∧ (rr_g (σ 1 (100 + x3)))) (if (σ 0 (100 + x2)) = (σ 1 (100 + x3)) then rr_c (0 ≤ x2 ∧ x2 < 40) (rr_c (0 ≤ x3 ∧ x3 < 40) (rr_c ((rr_g (σ 6 x2)) ∧ (rr_g (σ 9 x3))) (if (σ 6 x2) = (σ 9 x3) then L5_moved_18 σ x2 K n (x1 + 0) (x3 + 1) else L5_moved_18 σ x2 K n (x1 + 1) (x3 + 1)))) else L5_moved_18 σ x2 K n (x1 + 0) (x3 + 1))))) := rfl
def L5_moved_4 (σ : rr_T) (K : Int → Option Int) : Nat → Int → Int → Option Int
  | 0 => fun _ _ => none
  | n + 1 => fun x1 x2 => rr_c ((rr_g x2) ∧ (rr_g (σ 0 140))) (if (σ 0 140) ≤ x2 then K x1 else L5_moved_18 σ x2 (fun y1_18 => L5_moved_4 σ K n y1_18 (x2 + 1)) 1000 x1 0)
theorem L5_moved_4_s (σ : rr_T) (K : Int → Option Int) (n : Nat) (x1 : Int) (x2 : Int) : L5_moved_4 σ K (n + 1) x1 x2 = rr_c ((rr_g x2) ∧ (rr_g (σ 0 140))) (if (σ 0 140) ≤ x2 then K x1 else L5_moved_18 σ x2 (fun y1_18 => L5_moved_4 σ K n y1_18 (x2 + 1)) 1000 x1 0) := rfl
def M5_moved (σ : rr_T) : Option Int := L5_moved_4 σ (fun y1_4 => some y1_4) 1000 0 0
-- RoomRingModel.push
def L5_push_67 (K : rr_T → Option rr_T) : Nat → Int → rr_T → Option rr_T
  | 0 => fun _ _ => none
  | n + 1 => fun x1 σ => rr_c (rr_g x1) (if 143 ≤ x1 then K σ else rr_c (0 ≤ x1 ∧ x1 < 143) (rr_c (0 ≤ ((143 * (σ 3 0)) + x1) ∧ ((143 * (σ 3 0)) + x1) < 715) (L5_push_67 K n (x1 + 1) (rr_s σ 2 ((143 * (σ 3 0)) + x1) (σ 1 x1)))))
theorem L5_push_67_s (K : rr_T → Option rr_T) (n : Nat) (x1 : Int) (σ : rr_T) : L5_push_67 K (n + 1) x1 σ = rr_c (rr_g x1) (if 143 ≤ x1 then K σ else rr_c (0 ≤ x1 ∧ x1 < 143) (rr_c (0 ≤ ((143 * (σ 3 0)) + x1) ∧ ((143 * (σ 3 0)) + x1) < 715) (L5_push_67 K n (x1 + 1) (rr_s σ 2 ((143 * (σ 3 0)) + x1) (σ 1 x1))))) := rfl
def L5_push_26 (K : rr_T → Option rr_T) : Nat → Int → rr_T → Option rr_T
  | 0 => fun _ _ => none
  | n + 1 => fun x1 σ => rr_c (rr_g x1) (if 572 ≤ x1 then K σ else rr_c (0 ≤ (x1 + 143) ∧ (x1 + 143) < 715) (rr_c (0 ≤ x1 ∧ x1 < 715) (L5_push_26 K n (x1 + 1) (rr_s σ 2 x1 (σ 2 (x1 + 143))))))
theorem L5_push_26_s (K : rr_T → Option rr_T) (n : Nat) (x1 : Int) (σ : rr_T) : L5_push_26 K (n + 1) x1 σ = rr_c (rr_g x1) (if 572 ≤ x1 then K σ else rr_c (0 ≤ (x1 + 143) ∧ (x1 + 143) < 715) (rr_c (0 ≤ x1 ∧ x1 < 715) (L5_push_26 K n (x1 + 1) (rr_s σ 2 x1 (σ 2 (x1 + 143)))))) := rfl
def M5_push (σ : rr_T) : Option rr_T := (M5_lay σ).bind (fun v1 => (M5_moved v1).bind (fun v3 => rr_c (rr_g (v1 3 0)) (if (v1 3 0) = 5 then L5_push_26 (fun σ_26 => L5_push_67 (fun σ_67 => some (rr_t σ_67 3 ((σ_67 3 0) + 1))) 1000 0 (rr_t σ_26 3 ((σ_26 3 0) - 1))) 1000 0 (rr_s v1 0 142 v3) else L5_push_67 (fun σ_67 => some (rr_t σ_67 3 ((σ_67 3 0) + 1))) 1000 0 (rr_s v1 0 142 v3))))
-- RoomRingModel.ends
def M5_ends (x1 : Int) (σ : rr_T) : Option (Int × rr_T) := rr_c (rr_g x1) (if x1 = 0 then (M5_push σ).bind (fun v3 => some ((v3 0 142), v3)) else (M5_refuses x1 σ).bind (fun v5 => some (v5.1, v5.2)))
-- RoomRingModel.back
def L5_back_26 (K : rr_T → Option (Int × rr_T)) : Nat → Int → rr_T → Option (Int × rr_T)
  | 0 => fun _ _ => none
  | n + 1 => fun x1 σ => rr_c (rr_g x1) (if 143 ≤ x1 then K σ else rr_c (0 ≤ ((143 * (σ 3 0)) + x1) ∧ ((143 * (σ 3 0)) + x1) < 715) (rr_c (0 ≤ x1 ∧ x1 < 143) (L5_back_26 K n (x1 + 1) (rr_s σ 0 x1 (σ 2 ((143 * (σ 3 0)) + x1))))))
theorem L5_back_26_s (K : rr_T → Option (Int × rr_T)) (n : Nat) (x1 : Int) (σ : rr_T) : L5_back_26 K (n + 1) x1 σ = rr_c (rr_g x1) (if 143 ≤ x1 then K σ else rr_c (0 ≤ ((143 * (σ 3 0)) + x1) ∧ ((143 * (σ 3 0)) + x1) < 715) (rr_c (0 ≤ x1 ∧ x1 < 143) (L5_back_26 K n (x1 + 1) (rr_s σ 0 x1 (σ 2 ((143 * (σ 3 0)) + x1)))))) := rfl
def M5_back (σ : rr_T) : Option (Int × rr_T) := rr_c (rr_g (σ 3 0)) (if (σ 3 0) = 0 then (M5_refuses (-3) σ).bind (fun v9 => some (v9.1, v9.2)) else L5_back_26 (fun σ_26 => (M5_lay σ_26).bind (fun v7 => some ((v7 3 0), v7))) 1000 0 (rr_t σ 3 ((σ 3 0) - 1)))
-- RoomRingModel.isName
def M5_isName (x0 : Int) : Option Int := (M5_in x0 0 99).bind (fun v1 => rr_c (v1 = 0 ∨ v1 = 1) (some v1))
-- RoomRingModel.isHost
def M5_isHost (x1 : Int) (σ : rr_T) : Option Int := rr_c (0 ≤ x1 ∧ x1 < 143) (rr_c (rr_g (σ 0 x1)) (if (σ 0 x1) ≤ 0 then some 0 else some 1))
-- RoomRingModel.hostMany
def L5_hostMany_4 (σ : rr_T) (K : Int → Option Int) : Nat → Int → Int → Option Int
  | 0 => fun _ _ => none
  | n + 1 => fun x1 x2 => rr_c (rr_g x2) (if 100 ≤ x2 then K x1 else (M5_isHost x2 σ).bind (fun v3 => rr_c (rr_g v3) (if v3 = 0 then L5_hostMany_4 σ K n (x1 + 0) (x2 + 1) else L5_hostMany_4 σ K n (x1 + 1) (x2 + 1))))
theorem L5_hostMany_4_s (σ : rr_T) (K : Int → Option Int) (n : Nat) (x1 : Int) (x2 : Int) : L5_hostMany_4 σ K (n + 1) x1 x2 = rr_c (rr_g x2) (if 100 ≤ x2 then K x1 else (M5_isHost x2 σ).bind (fun v3 => rr_c (rr_g v3) (if v3 = 0 then L5_hostMany_4 σ K n (x1 + 0) (x2 + 1) else L5_hostMany_4 σ K n (x1 + 1) (x2 + 1)))) := rfl
def M5_hostMany (σ : rr_T) : Option Int := L5_hostMany_4 σ (fun y1_4 => some y1_4) 1000 0 0
-- RoomRingModel.isKey
def M5_isKey (x0 : Int) : Option Int := (M5_in x0 0 999).bind (fun v1 => rr_c (v1 = 0 ∨ v1 = 1) (some v1))
-- RoomRingModel.rowOf
def L5_rowOf_4 (σ : rr_T) (x1 : Int) (K : Int → Option Int) : Nat → Int → Int → Option Int
  | 0 => fun _ _ => none
  | n + 1 => fun x2 x3 => rr_c ((rr_g x3) ∧ (rr_g (σ 0 140))) (if (σ 0 140) ≤ x3 then K x2 else rr_c (0 ≤ (100 + x3) ∧ (100 + x3) < 143) (rr_c ((rr_g (σ 0 (100 + x3))) ∧ (rr_g x1)) (if (σ 0 (100 + x3)) = x1 then L5_rowOf_4 σ x1 K n x3 (x3 + 1) else L5_rowOf_4 σ x1 K n x2 (x3 + 1))))
theorem L5_rowOf_4_s (σ : rr_T) (x1 : Int) (K : Int → Option Int) (n : Nat) (x2 : Int) (x3 : Int) : L5_rowOf_4 σ x1 K (n + 1) x2 x3 = rr_c ((rr_g x3) ∧ (rr_g (σ 0 140))) (if (σ 0 140) ≤ x3 then K x2 else rr_c (0 ≤ (100 + x3) ∧ (100 + x3) < 143) (rr_c ((rr_g (σ 0 (100 + x3))) ∧ (rr_g x1)) (if (σ 0 (100 + x3)) = x1 then L5_rowOf_4 σ x1 K n x3 (x3 + 1) else L5_rowOf_4 σ x1 K n x2 (x3 + 1)))) := rfl
def M5_rowOf (x1 : Int) (σ : rr_T) : Option Int := L5_rowOf_4 σ x1 (fun y2_4 => some y2_4) 1000 (-1) 0
-- RoomRingModel.doHost
def M5_doHost (x1 : Int) (x2 : Int) (σ : rr_T) : Option (Int × rr_T) := (M5_isName x1).bind (fun v1 => rr_c (rr_g v1) (if v1 = 0 then some ((-2), σ) else (M5_in x2 1 4).bind (fun v5 => rr_c (rr_g v5) (if v5 = 0 then some ((-2), σ) else (M5_isHost x1 σ).bind (fun v9 => rr_c (rr_g v9) (if v9 = 0 then (M5_hostMany σ).bind (fun v13 => rr_c (rr_g v13) (if v13 = 6 then some ((-4), σ) else rr_c (0 ≤ x1 ∧ x1 < 143) (some (0, (rr_s σ 0 x1 x2))))) else some ((-3), σ)))))))
-- RoomRingModel.doWeighs
def M5_doWeighs (x1 : Int) (x2 : Int) (σ : rr_T) : Option (Int × rr_T) := (M5_isName x1).bind (fun v1 => rr_c (rr_g v1) (if v1 = 0 then some ((-2), σ) else (M5_in x2 1 4).bind (fun v5 => rr_c (rr_g v5) (if v5 = 0 then some ((-2), σ) else (M5_isHost x1 σ).bind (fun v9 => rr_c (rr_g v9) (if v9 = 0 then some ((-3), σ) else rr_c (0 ≤ x1 ∧ x1 < 143) (some (0, (rr_s σ 0 x1 x2)))))))))
-- RoomRingModel.doGoes
def M5_doGoes (x1 : Int) (σ : rr_T) : Option (Int × rr_T) := (M5_isName x1).bind (fun v1 => rr_c (rr_g v1) (if v1 = 0 then some ((-2), σ) else (M5_isHost x1 σ).bind (fun v5 => rr_c (rr_g v5) (if v5 = 0 then some ((-3), σ) else rr_c (0 ≤ x1 ∧ x1 < 143) (some (0, (rr_s σ 0 x1 0)))))))
-- RoomRingModel.mayCome
def M5_mayCome (x1 : Int) (σ : rr_T) : Option Int := (M5_isKey x1).bind (fun v1 => rr_c (rr_g v1) (if v1 = 0 then some (-2) else (M5_rowOf x1 σ).bind (fun v5 => rr_c (rr_g v5) (if v5 = (-1) then rr_c (rr_g (σ 0 140)) (if (σ 0 140) = 40 then some (-4) else some 0) else some (-3)))))
-- RoomRingModel.doKey
def L5_doKey_21 (x1 : Int) (K : Int → rr_T → Option (Int × rr_T)) : Nat → Int → rr_T → Option (Int × rr_T)
  | 0 => fun _ _ => none
  | n + 1 => fun x3 σ => rr_c (rr_g x3) (if x3 ≤ 0 then K x3 σ else rr_c (0 ≤ ((100 + x3) - 1) ∧ ((100 + x3) - 1) < 143) (rr_c ((rr_g (σ 0 ((100 + x3) - 1))) ∧ (rr_g x1)) (if (σ 0 ((100 + x3) - 1)) ≤ x1 then K x3 σ else rr_c (0 ≤ (100 + x3) ∧ (100 + x3) < 143) (L5_doKey_21 x1 K n (x3 + (-1)) (rr_s σ 0 (100 + x3) (σ 0 ((100 + x3) - 1)))))))
theorem L5_doKey_21_s (x1 : Int) (K : Int → rr_T → Option (Int × rr_T)) (n : Nat) (x3 : Int) (σ : rr_T) : L5_doKey_21 x1 K (n + 1) x3 σ = rr_c (rr_g x3) (if x3 ≤ 0 then K x3 σ else rr_c (0 ≤ ((100 + x3) - 1) ∧ ((100 + x3) - 1) < 143) (rr_c ((rr_g (σ 0 ((100 + x3) - 1))) ∧ (rr_g x1)) (if (σ 0 ((100 + x3) - 1)) ≤ x1 then K x3 σ else rr_c (0 ≤ (100 + x3) ∧ (100 + x3) < 143) (L5_doKey_21 x1 K n (x3 + (-1)) (rr_s σ 0 (100 + x3) (σ 0 ((100 + x3) - 1))))))) := rfl
def M5_doKey (x1 : Int) (σ : rr_T) : Option (Int × rr_T) := (M5_mayCome x1 σ).bind (fun v1 => rr_c (rr_g v1) (if v1 = 0 then L5_doKey_21 x1 (fun y3_21 σ_21 => rr_c (0 ≤ (100 + y3_21) ∧ (100 + y3_21) < 143) (some (0, (rr_s (rr_s σ_21 0 (100 + y3_21) x1) 0 140 ((rr_u (σ_21 0) (100 + y3_21) x1 140) + 1))))) 1000 (σ 0 140) σ else some (v1, σ)))
-- RoomRingModel.doDrops
def L5_doDrops_38 (K : rr_T → Option (Int × rr_T)) : Nat → Int → rr_T → Option (Int × rr_T)
  | 0 => fun _ _ => none
  | n + 1 => fun x3 σ => rr_c ((rr_g x3) ∧ (rr_g (σ 0 140))) (if (σ 0 140) ≤ x3 then K σ else rr_c (0 ≤ ((100 + x3) + 1) ∧ ((100 + x3) + 1) < 143) (rr_c (0 ≤ (100 + x3) ∧ (100 + x3) < 143) (L5_doDrops_38 K n (x3 + 1) (rr_s σ 0 (100 + x3) (σ 0 ((100 + x3) + 1))))))
theorem L5_doDrops_38_s (K : rr_T → Option (Int × rr_T)) (n : Nat) (x3 : Int) (σ : rr_T) : L5_doDrops_38 K (n + 1) x3 σ = rr_c ((rr_g x3) ∧ (rr_g (σ 0 140))) (if (σ 0 140) ≤ x3 then K σ else rr_c (0 ≤ ((100 + x3) + 1) ∧ ((100 + x3) + 1) < 143) (rr_c (0 ≤ (100 + x3) ∧ (100 + x3) < 143) (L5_doDrops_38 K n (x3 + 1) (rr_s σ 0 (100 + x3) (σ 0 ((100 + x3) + 1)))))) := rfl
def M5_doDrops (x1 : Int) (σ : rr_T) : Option (Int × rr_T) := (M5_isKey x1).bind (fun v1 => rr_c (rr_g v1) (if v1 = 0 then some ((-2), σ) else (M5_rowOf x1 σ).bind (fun v5 => rr_c (rr_g v5) (if v5 = (-1) then some ((-3), σ) else L5_doDrops_38 (fun σ_38 => some (0, σ_38)) 1000 v5 (rr_s σ 0 140 ((σ 0 140) - 1))))))
-- RoomRingModel.doExtra
def M5_doExtra (x1 : Int) (σ : rr_T) : Option (Int × rr_T) := (M5_in x1 0 200).bind (fun v1 => rr_c (rr_g v1) (if v1 = 0 then some ((-2), σ) else some (0, (rr_s σ 0 141 x1))))
-- RoomRingModel.host
def M5_host (x1 : Int) (x2 : Int) (σ : rr_T) : Option (Int × rr_T) := (M5_hold σ).bind (fun v1 => (M5_doHost x1 x2 v1).bind (fun v3 => (M5_ends v3.1 v3.2).bind (fun v5 => some (v5.1, v5.2))))
-- RoomRingModel.weighs
def M5_weighs (x1 : Int) (x2 : Int) (σ : rr_T) : Option (Int × rr_T) := (M5_hold σ).bind (fun v1 => (M5_doWeighs x1 x2 v1).bind (fun v3 => (M5_ends v3.1 v3.2).bind (fun v5 => some (v5.1, v5.2))))
-- RoomRingModel.goes
def M5_goes (x1 : Int) (σ : rr_T) : Option (Int × rr_T) := (M5_hold σ).bind (fun v1 => (M5_doGoes x1 v1).bind (fun v3 => (M5_ends v3.1 v3.2).bind (fun v5 => some (v5.1, v5.2))))
-- RoomRingModel.key
def M5_key (x1 : Int) (σ : rr_T) : Option (Int × rr_T) := (M5_hold σ).bind (fun v1 => (M5_doKey x1 v1).bind (fun v3 => rr_c (rr_g v3.1) (if v3.1 = 0 then (M5_push v3.2).bind (fun v7 => (M5_rowOf x1 v7).bind (fun v9 => rr_c (0 ≤ v9 ∧ v9 < 40) (some ((v7 6 v9), v7)))) else (M5_refuses v3.1 v3.2).bind (fun v12 => some (v12.1, v12.2)))))
-- RoomRingModel.drops
def M5_drops (x1 : Int) (σ : rr_T) : Option (Int × rr_T) := (M5_hold σ).bind (fun v1 => (M5_doDrops x1 v1).bind (fun v3 => (M5_ends v3.1 v3.2).bind (fun v5 => some (v5.1, v5.2))))
-- RoomRingModel.extra
def M5_extra (x1 : Int) (σ : rr_T) : Option (Int × rr_T) := (M5_hold σ).bind (fun v1 => (M5_doExtra x1 v1).bind (fun v3 => (M5_ends v3.1 v3.2).bind (fun v5 => some (v5.1, v5.2))))
-- RoomRingModel.ofHost
def L5_ofHost_45 (σ : rr_T) (x1 : Int) (K : Option Int) : Nat → Int → Int → Option Int
  | 0 => fun _ _ => none
  | n + 1 => fun x3 x4 => rr_c ((rr_g x4) ∧ (rr_g (σ 0 140))) (if (σ 0 140) ≤ x4 then K else rr_c (0 ≤ x4 ∧ x4 < 40) (rr_c ((rr_g (σ 6 x4)) ∧ (rr_g x1)) (if (σ 6 x4) = x1 then rr_c (rr_g x3) (if x3 = 0 then rr_c (0 ≤ (100 + x4) ∧ (100 + x4) < 143) (some (σ 0 (100 + x4))) else L5_ofHost_45 σ x1 K n (x3 + (-1)) (x4 + 1)) else L5_ofHost_45 σ x1 K n x3 (x4 + 1))))
theorem L5_ofHost_45_s (σ : rr_T) (x1 : Int) (K : Option Int) (n : Nat) (x3 : Int) (x4 : Int) : L5_ofHost_45 σ x1 K (n + 1) x3 x4 = rr_c ((rr_g x4) ∧ (rr_g (σ 0 140))) (if (σ 0 140) ≤ x4 then K else rr_c (0 ≤ x4 ∧ x4 < 40) (rr_c ((rr_g (σ 6 x4)) ∧ (rr_g x1)) (if (σ 6 x4) = x1 then rr_c (rr_g x3) (if x3 = 0 then rr_c (0 ≤ (100 + x4) ∧ (100 + x4) < 143) (some (σ 0 (100 + x4))) else L5_ofHost_45 σ x1 K n (x3 + (-1)) (x4 + 1)) else L5_ofHost_45 σ x1 K n x3 (x4 + 1)))) := rfl
def M5_ofHost (x1 : Int) (x2 : Int) (σ : rr_T) : Option Int := rr_c (rr_g x2) (if 3 ≤ x2 then L5_ofHost_45 σ x1 (some (-1)) 1000 (x2 - 3) 0 else if x2 = 0 then rr_c (0 ≤ x1 ∧ x1 < 143) (some (σ 0 x1)) else if x2 = 1 then (M5_bound x1 σ).bind (fun v14 => some v14) else rr_c (0 ≤ x1 ∧ x1 < 100) (some (σ 8 x1)))
-- RoomRingModel.of
def M5_of (x1 : Int) (x2 : Int) (σ : rr_T) : Option (Int × rr_T) := (M5_isName x1).bind (fun v1 => rr_c (rr_g v1) (if v1 = 0 then (M5_refuses (-2) σ).bind (fun v5 => some (v5.1, v5.2)) else (M5_in x2 0 42).bind (fun v7 => rr_c (rr_g v7) (if v7 = 0 then (M5_refuses (-2) σ).bind (fun v19 => some (v19.1, v19.2)) else (M5_isHost x1 σ).bind (fun v11 => rr_c (rr_g v11) (if v11 = 0 then (M5_refuses (-3) σ).bind (fun v15 => some (v15.1, v15.2)) else (M5_ofHost x1 x2 σ).bind (fun v17 => some (v17, σ))))))))
-- RoomRingModel.markOf
def L5_markOf_2 (x1 : Int) (x2 : Int) (K : rr_T → Option (Int × rr_T)) : Nat → Int → rr_T → Option (Int × rr_T)
  | 0 => fun _ _ => none
  | n + 1 => fun x3 σ => rr_c (rr_g x3) (if 101 ≤ x3 then K σ else rr_c (0 ≤ x3 ∧ x3 < 101) (L5_markOf_2 x1 x2 K n (x3 + 1) (rr_s σ 10 x3 0)))
theorem L5_markOf_2_s (x1 : Int) (x2 : Int) (K : rr_T → Option (Int × rr_T)) (n : Nat) (x3 : Int) (σ : rr_T) : L5_markOf_2 x1 x2 K (n + 1) x3 σ = rr_c (rr_g x3) (if 101 ≤ x3 then K σ else rr_c (0 ≤ x3 ∧ x3 < 101) (L5_markOf_2 x1 x2 K n (x3 + 1) (rr_s σ 10 x3 0))) := rfl
def L5_markOf_70 (σ : rr_T) (x1 : Int) (x2 : Int) (x4 : Int) (x5 : Int) (K : Int → Option (Int × rr_T)) : Nat → Int → Option (Int × rr_T)
  | 0 => fun _ => none
  | n + 1 => fun x6 => rr_c (0 ≤ x6 ∧ x6 < 101) (rr_c (rr_g (σ 10 x6)) (if (σ 10 x6) = 0 then K x6 else rr_c (0 ≤ (x6 + 1) ∧ (x6 + 1) < 2147483648) (L5_markOf_70 σ x1 x2 x4 x5 K n ((x6 + 1) % 101))))
theorem L5_markOf_70_s (σ : rr_T) (x1 : Int) (x2 : Int) (x4 : Int) (x5 : Int) (K : Int → Option (Int × rr_T)) (n : Nat) (x6 : Int) : L5_markOf_70 σ x1 x2 x4 x5 K (n + 1) x6 = rr_c (0 ≤ x6 ∧ x6 < 101) (rr_c (rr_g (σ 10 x6)) (if (σ 10 x6) = 0 then K x6 else rr_c (0 ≤ (x6 + 1) ∧ (x6 + 1) < 2147483648) (L5_markOf_70 σ x1 x2 x4 x5 K n ((x6 + 1) % 101)))) := rfl
def L5_markOf_35 (x1 : Int) (x2 : Int) (x4 : Int) (K : Int → rr_T → Option (Int × rr_T)) : Nat → Int → Int → rr_T → Option (Int × rr_T)
  | 0 => fun _ _ _ => none
  | n + 1 => fun x3 x5 σ => rr_c (0 ≤ x4 ∧ x4 < 143) (rr_c ((rr_g x5) ∧ (rr_g (2 * (σ 0 x4)))) (if (2 * (σ 0 x4)) ≤ x5 then K x3 σ else rr_c ((rr_g x4) ∧ (rr_g x1)) (if x4 < x1 then (M5_first x4 x5).bind (fun v11 => L5_markOf_70 σ x1 x2 x4 x5 (fun y6_70 => rr_c (0 ≤ y6_70 ∧ y6_70 < 101) (L5_markOf_35 x1 x2 x4 K n y6_70 (x5 + 1) (rr_s σ 10 y6_70 1))) 1000 v11) else rr_c (rr_g x2) (if x2 < x5 then K x3 σ else (M5_first x4 x5).bind (fun v20 => L5_markOf_70 σ x1 x2 x4 x5 (fun y6_70 => rr_c (0 ≤ y6_70 ∧ y6_70 < 101) (L5_markOf_35 x1 x2 x4 K n y6_70 (x5 + 1) (rr_s σ 10 y6_70 1))) 1000 v20)))))
theorem L5_markOf_35_s (x1 : Int) (x2 : Int) (x4 : Int) (K : Int → rr_T → Option (Int × rr_T)) (n : Nat) (x3 : Int) (x5 : Int) (σ : rr_T) : L5_markOf_35 x1 x2 x4 K (n + 1) x3 x5 σ = rr_c (0 ≤ x4 ∧ x4 < 143) (rr_c ((rr_g x5) ∧ (rr_g (2 * (σ 0 x4)))) (if (2 * (σ 0 x4)) ≤ x5 then K x3 σ else rr_c ((rr_g x4) ∧ (rr_g x1)) (if x4 < x1 then (M5_first x4 x5).bind (fun v11 => L5_markOf_70 σ x1 x2 x4 x5 (fun y6_70 => rr_c (0 ≤ y6_70 ∧ y6_70 < 101) (L5_markOf_35 x1 x2 x4 K n y6_70 (x5 + 1) (rr_s σ 10 y6_70 1))) 1000 v11) else rr_c (rr_g x2) (if x2 < x5 then K x3 σ else (M5_first x4 x5).bind (fun v20 => L5_markOf_70 σ x1 x2 x4 x5 (fun y6_70 => rr_c (0 ≤ y6_70 ∧ y6_70 < 101) (L5_markOf_35 x1 x2 x4 K n y6_70 (x5 + 1) (rr_s σ 10 y6_70 1))) 1000 v20))))) := rfl
def L5_markOf_26 (x1 : Int) (x2 : Int) (K : Int → rr_T → Option (Int × rr_T)) : Nat → Int → Int → rr_T → Option (Int × rr_T)
  | 0 => fun _ _ _ => none
  | n + 1 => fun x3 x4 σ => rr_c ((rr_g x4) ∧ (rr_g x1)) (if x1 < x4 then K x3 σ else L5_markOf_35 x1 x2 x4 (fun y3_35 σ_35 => L5_markOf_26 x1 x2 K n y3_35 (x4 + 1) σ_35) 1000 x3 0 σ)
theorem L5_markOf_26_s (x1 : Int) (x2 : Int) (K : Int → rr_T → Option (Int × rr_T)) (n : Nat) (x3 : Int) (x4 : Int) (σ : rr_T) : L5_markOf_26 x1 x2 K (n + 1) x3 x4 σ = rr_c ((rr_g x4) ∧ (rr_g x1)) (if x1 < x4 then K x3 σ else L5_markOf_35 x1 x2 x4 (fun y3_35 σ_35 => L5_markOf_26 x1 x2 K n y3_35 (x4 + 1) σ_35) 1000 x3 0 σ) := rfl
def M5_markOf (x1 : Int) (x2 : Int) (σ : rr_T) : Option (Int × rr_T) := L5_markOf_2 x1 x2 (fun σ_2 => L5_markOf_26 x1 x2 (fun y3_26 σ_26 => some (y3_26, σ_26)) 1000 (-1) 0 σ_2) 1000 0 σ
-- RoomRingModel.mark
def M5_mark (x1 : Int) (x2 : Int) (σ : rr_T) : Option (Int × rr_T) := (M5_isName x1).bind (fun v1 => rr_c (rr_g v1) (if v1 = 0 then (M5_refuses (-2) σ).bind (fun v5 => some (v5.1, v5.2)) else (M5_in x2 0 7).bind (fun v7 => rr_c (rr_g v7) (if v7 = 0 then (M5_refuses (-2) σ).bind (fun v22 => some (v22.1, v22.2)) else (M5_isHost x1 σ).bind (fun v11 => rr_c (rr_g v11) (if v11 = 0 then (M5_refuses (-3) σ).bind (fun v20 => some (v20.1, v20.2)) else rr_c (0 ≤ x1 ∧ x1 < 143) (rr_c ((rr_g x2) ∧ (rr_g (2 * (σ 0 x1)))) (if (2 * (σ 0 x1)) ≤ x2 then some ((-1), σ) else (M5_markOf x1 x2 σ).bind (fun v18 => some (v18.1, v18.2))))))))))
-- RoomRingModel.at
def M5_at (x1 : Int) (σ : rr_T) : Option (Int × rr_T) := (M5_in x1 0 100).bind (fun v1 => rr_c (rr_g v1) (if v1 = 0 then (M5_refuses (-2) σ).bind (fun v5 => some (v5.1, v5.2)) else rr_c (0 ≤ x1 ∧ x1 < 101) (some ((σ 5 x1), σ))))
-- RoomRingModel.name
def L5_name_15 (σ : rr_T) (K : Option (Int × rr_T)) : Nat → Int → Int → Option (Int × rr_T)
  | 0 => fun _ _ => none
  | n + 1 => fun x2 x3 => rr_c (rr_g x3) (if 100 ≤ x3 then K else (M5_isHost x3 σ).bind (fun v5 => rr_c (rr_g v5) (if v5 = 0 then L5_name_15 σ K n x2 (x3 + 1) else rr_c (rr_g x2) (if x2 = 0 then some (x3, σ) else L5_name_15 σ K n (x2 + (-1)) (x3 + 1)))))
theorem L5_name_15_s (σ : rr_T) (K : Option (Int × rr_T)) (n : Nat) (x2 : Int) (x3 : Int) : L5_name_15 σ K (n + 1) x2 x3 = rr_c (rr_g x3) (if 100 ≤ x3 then K else (M5_isHost x3 σ).bind (fun v5 => rr_c (rr_g v5) (if v5 = 0 then L5_name_15 σ K n x2 (x3 + 1) else rr_c (rr_g x2) (if x2 = 0 then some (x3, σ) else L5_name_15 σ K n (x2 + (-1)) (x3 + 1))))) := rfl
def M5_name (x1 : Int) (σ : rr_T) : Option (Int × rr_T) := rr_c (rr_g x1) (if 0 ≤ x1 then L5_name_15 σ (some ((-1), σ)) 1000 x1 0 else (M5_refuses (-2) σ).bind (fun v11 => some (v11.1, v11.2)))
-- RoomRingModel.shareOf
def L5_shareOf_13 (σ : rr_T) (x1 : Int) (x2 : Int) (x3 : Int) (K : Int → Option Int) : Nat → Int → Option Int
  | 0 => fun _ => none
  | n + 1 => fun x4 => rr_c (0 ≤ x4 ∧ x4 < 101) (rr_c (rr_g (σ 5 x4)) (if (σ 5 x4) = (-1) then rr_c (0 ≤ (x4 + 1) ∧ (x4 + 1) < 2147483648) (L5_shareOf_13 σ x1 x2 x3 K n ((x4 + 1) % 101)) else K x4))
theorem L5_shareOf_13_s (σ : rr_T) (x1 : Int) (x2 : Int) (x3 : Int) (K : Int → Option Int) (n : Nat) (x4 : Int) : L5_shareOf_13 σ x1 x2 x3 K (n + 1) x4 = rr_c (0 ≤ x4 ∧ x4 < 101) (rr_c (rr_g (σ 5 x4)) (if (σ 5 x4) = (-1) then rr_c (0 ≤ (x4 + 1) ∧ (x4 + 1) < 2147483648) (L5_shareOf_13 σ x1 x2 x3 K n ((x4 + 1) % 101)) else K x4)) := rfl
def L5_shareOf_4 (σ : rr_T) (x1 : Int) (K : Int → Option Int) : Nat → Int → Int → Option Int
  | 0 => fun _ _ => none
  | n + 1 => fun x2 x3 => rr_c (rr_g x3) (if 101 ≤ x3 then K x2 else L5_shareOf_13 σ x1 x2 x3 (fun y4_13 => rr_c (0 ≤ y4_13 ∧ y4_13 < 101) (rr_c ((rr_g (σ 5 y4_13)) ∧ (rr_g x1)) (if (σ 5 y4_13) = x1 then L5_shareOf_4 σ x1 K n (x2 + 1) (x3 + 1) else L5_shareOf_4 σ x1 K n (x2 + 0) (x3 + 1)))) 1000 x3)
theorem L5_shareOf_4_s (σ : rr_T) (x1 : Int) (K : Int → Option Int) (n : Nat) (x2 : Int) (x3 : Int) : L5_shareOf_4 σ x1 K (n + 1) x2 x3 = rr_c (rr_g x3) (if 101 ≤ x3 then K x2 else L5_shareOf_13 σ x1 x2 x3 (fun y4_13 => rr_c (0 ≤ y4_13 ∧ y4_13 < 101) (rr_c ((rr_g (σ 5 y4_13)) ∧ (rr_g x1)) (if (σ 5 y4_13) = x1 then L5_shareOf_4 σ x1 K n (x2 + 1) (x3 + 1) else L5_shareOf_4 σ x1 K n (x2 + 0) (x3 + 1)))) 1000 x3) := rfl
def M5_shareOf (x1 : Int) (σ : rr_T) : Option Int := L5_shareOf_4 σ x1 (fun y2_4 => some y2_4) 1000 0 0
-- RoomRingModel.share
def M5_share (x1 : Int) (σ : rr_T) : Option (Int × rr_T) := (M5_isName x1).bind (fun v1 => rr_c (rr_g v1) (if v1 = 0 then (M5_refuses (-2) σ).bind (fun v13 => some (v13.1, v13.2)) else (M5_isHost x1 σ).bind (fun v5 => rr_c (rr_g v5) (if v5 = 0 then (M5_refuses (-3) σ).bind (fun v9 => some (v9.1, v9.2)) else (M5_shareOf x1 σ).bind (fun v11 => some (v11, σ))))))
-- RoomRingModel.has
def M5_has (x1 : Int) (σ : rr_T) : Option (Int × rr_T) := (M5_isKey x1).bind (fun v1 => rr_c (rr_g v1) (if v1 = 0 then (M5_refuses (-2) σ).bind (fun v13 => some (v13.1, v13.2)) else (M5_rowOf x1 σ).bind (fun v5 => rr_c (rr_g v5) (if v5 = (-1) then (M5_refuses (-3) σ).bind (fun v11 => some (v11.1, v11.2)) else if 0 ≤ v5 then rr_c (0 ≤ v5 ∧ v5 < 40) (some ((σ 6 v5), σ)) else some ((σ 6 0), σ)))))
-- RoomRingModel.aboutKey
def L5_aboutKey_46 (σ : rr_T) (x1 : Int) (x2 : Int) (K : Int → Int → Option Int) : Nat → Int → Int → Int → Option Int
  | 0 => fun _ _ _ => none
  | n + 1 => fun x4 x5 x6 => rr_c (0 ≤ x1 ∧ x1 < 40) (rr_c ((rr_g x6) ∧ (rr_g (σ 7 x1))) (if x6 = (σ 7 x1) then K x4 x5 else rr_c (0 ≤ x6 ∧ x6 < 101) (rr_c (rr_g (σ 5 x6)) (if (σ 5 x6) = (-1) then rr_c (0 ≤ (x6 + 1) ∧ (x6 + 1) < 2147483648) (L5_aboutKey_46 σ x1 x2 K n (x4 + 0) (x5 + 1) ((x6 + 1) % 101)) else rr_c (0 ≤ (x6 + 1) ∧ (x6 + 1) < 2147483648) (L5_aboutKey_46 σ x1 x2 K n (x4 + 1) (x5 + 1) ((x6 + 1) % 101))))))
theorem L5_aboutKey_46_s (σ : rr_T) (x1 : Int) (x2 : Int) (K : Int → Int → Option Int) (n : Nat) (x4 : Int) (x5 : Int) (x6 : Int) : L5_aboutKey_46 σ x1 x2 K (n + 1) x4 x5 x6 = rr_c (0 ≤ x1 ∧ x1 < 40) (rr_c ((rr_g x6) ∧ (rr_g (σ 7 x1))) (if x6 = (σ 7 x1) then K x4 x5 else rr_c (0 ≤ x6 ∧ x6 < 101) (rr_c (rr_g (σ 5 x6)) (if (σ 5 x6) = (-1) then rr_c (0 ≤ (x6 + 1) ∧ (x6 + 1) < 2147483648) (L5_aboutKey_46 σ x1 x2 K n (x4 + 0) (x5 + 1) ((x6 + 1) % 101)) else rr_c (0 ≤ (x6 + 1) ∧ (x6 + 1) < 2147483648) (L5_aboutKey_46 σ x1 x2 K n (x4 + 1) (x5 + 1) ((x6 + 1) % 101)))))) := rfl
def M5_aboutKey (x1 : Int) (x2 : Int) (σ : rr_T) : Option Int := rr_c (0 ≤ (100 + x1) ∧ (100 + x1) < 143) ((M5_placeOf (σ 0 (100 + x1))).bind (fun v2 => rr_c (rr_g x2) (if x2 = 0 then if x2 = 0 then some v2 else some (-1) else rr_c (0 ≤ x1 ∧ x1 < 40) (rr_c (rr_g (σ 6 x1)) (if (σ 6 x1) = (-1) then if x2 = 0 then some v2 else some (-1) else L5_aboutKey_46 σ x1 x2 (fun y4_46 y5_46 => if x2 = 1 then some y4_46 else some y5_46) 1000 0 0 v2)))))
-- RoomRingModel.about
def M5_about (x1 : Int) (x2 : Int) (σ : rr_T) : Option (Int × rr_T) := (M5_isKey x1).bind (fun v1 => rr_c (rr_g v1) (if v1 = 0 then (M5_refuses (-2) σ).bind (fun v5 => some (v5.1, v5.2)) else (M5_in x2 0 2).bind (fun v7 => rr_c (rr_g v7) (if v7 = 0 then (M5_refuses (-2) σ).bind (fun v22 => some (v22.1, v22.2)) else (M5_rowOf x1 σ).bind (fun v11 => rr_c (rr_g v11) (if v11 = (-1) then (M5_refuses (-3) σ).bind (fun v20 => some (v20.1, v20.2)) else if 0 ≤ v11 then (M5_aboutKey v11 x2 σ).bind (fun v16 => some (v16, σ)) else (M5_aboutKey 0 x2 σ).bind (fun v18 => some (v18, σ))))))))
-- RoomRingModel.would
def M5_would (x1 : Int) (σ : rr_T) : Option (Int × rr_T) := (M5_mayCome x1 σ).bind (fun v1 => rr_c (rr_g v1) (if v1 = 0 then (M5_hold σ).bind (fun v5 => (M5_doKey x1 v5).bind (fun v7 => (M5_lay v7.2).bind (fun v9 => (M5_rowOf x1 v9).bind (fun v11 => rr_c (0 ≤ v11 ∧ v11 < 40) ((M5_release v9).bind (fun v14 => (M5_lay v14).bind (fun v16 => some ((v9 6 v11), v16)))))))) else (M5_refuses v1 σ).bind (fun v18 => some (v18.1, v18.2))))
-- RoomRingModel.without
def M5_without (x1 : Int) (σ : rr_T) : Option (Int × rr_T) := (M5_isName x1).bind (fun v1 => rr_c (rr_g v1) (if v1 = 0 then (M5_refuses (-2) σ).bind (fun v23 => some (v23.1, v23.2)) else (M5_isHost x1 σ).bind (fun v5 => rr_c (rr_g v5) (if v5 = 0 then (M5_refuses (-3) σ).bind (fun v21 => some (v21.1, v21.2)) else (M5_hold σ).bind (fun v9 => (M5_doGoes x1 v9).bind (fun v11 => (M5_lay v11.2).bind (fun v13 => (M5_moved v13).bind (fun v15 => (M5_release v13).bind (fun v17 => (M5_lay v17).bind (fun v19 => some (v15, v19)))))))))))
-- RoomRingModel.marks
def M5_marks (σ : rr_T) : Option Int := (M5_weights σ).bind (fun v1 => some (2 * v1))
-- RoomRingModel.byHosts
def L5_byHosts_7 (σ : rr_T) (x1 : Int) (K : Int → Int → Option Int) : Nat → Int → Int → Int → Option Int
  | 0 => fun _ _ _ => none
  | n + 1 => fun x2 x3 x4 => rr_c (rr_g x4) (if 100 ≤ x4 then K x2 x3 else (M5_isHost x4 σ).bind (fun v3 => rr_c (rr_g v3) (if v3 = 0 then rr_c (0 ≤ x4 ∧ x4 < 100) (rr_c ((rr_g (σ 8 x4)) ∧ (rr_g x3)) (if (σ 8 x4) ≤ x3 then L5_byHosts_7 σ x1 K n (x2 + 0) x3 (x4 + 1) else L5_byHosts_7 σ x1 K n (x2 + 0) (σ 8 x4) (x4 + 1))) else rr_c (0 ≤ x4 ∧ x4 < 100) ((M5_bound x4 σ).bind (fun v11 => rr_c ((rr_g (σ 8 x4)) ∧ (rr_g v11)) (if (σ 8 x4) = v11 then rr_c (rr_g x3) (if (σ 8 x4) ≤ x3 then L5_byHosts_7 σ x1 K n (x2 + 1) x3 (x4 + 1) else L5_byHosts_7 σ x1 K n (x2 + 1) (σ 8 x4) (x4 + 1)) else rr_c (rr_g x3) (if (σ 8 x4) ≤ x3 then L5_byHosts_7 σ x1 K n (x2 + 0) x3 (x4 + 1) else L5_byHosts_7 σ x1 K n (x2 + 0) (σ 8 x4) (x4 + 1))))))))
theorem L5_byHosts_7_s (σ : rr_T) (x1 : Int) (K : Int → Int → Option Int) (n : Nat) (x2 : Int) (x3 : Int) (x4 : Int) : L5_byHosts_7 σ x1 K (n + 1) x2 x3 x4 = rr_c (rr_g x4) (if 100 ≤ x4 then K x2 x3 else (M5_isHost x4 σ).bind (fun v3 => rr_c (rr_g v3) (if v3 = 0 then rr_c (0 ≤ x4 ∧ x4 < 100) (rr_c ((rr_g (σ 8 x4)) ∧ (rr_g x3)) (if (σ 8 x4) ≤ x3 then L5_byHosts_7 σ x1 K n (x2 + 0) x3 (x4 + 1) else L5_byHosts_7 σ x1 K n (x2 + 0) (σ 8 x4) (x4 + 1))) else rr_c (0 ≤ x4 ∧ x4 < 100) ((M5_bound x4 σ).bind (fun v11 => rr_c ((rr_g (σ 8 x4)) ∧ (rr_g v11)) (if (σ 8 x4) = v11 then rr_c (rr_g x3) (if (σ 8 x4) ≤ x3 then L5_byHosts_7 σ x1 K n (x2 + 1) x3 (x4 + 1) else L5_byHosts_7 σ x1 K n (x2 + 1) (σ 8 x4) (x4 + 1)) else rr_c (rr_g x3) (if (σ 8 x4) ≤ x3 then L5_byHosts_7 σ x1 K n (x2 + 0) x3 (x4 + 1) else L5_byHosts_7 σ x1 K n (x2 + 0) (σ 8 x4) (x4 + 1)))))))) := rfl
def M5_byHosts (x1 : Int) (σ : rr_T) : Option Int := L5_byHosts_7 σ x1 (fun y2_7 y3_7 => rr_c (rr_g x1) (if x1 = 0 then some y3_7 else some y2_7)) 1000 0 0 0
-- RoomRingModel.passedAll
def L5_passedAll_4 (σ : rr_T) (K : Int → Option Int) : Nat → Int → Int → Option Int
  | 0 => fun _ _ => none
  | n + 1 => fun x1 x2 => rr_c ((rr_g x2) ∧ (rr_g (σ 0 140))) (if (σ 0 140) ≤ x2 then K x1 else rr_c (0 ≤ x2 ∧ x2 < 40) (rr_c (rr_g (σ 6 x2)) (if (σ 6 x2) = (-1) then L5_passedAll_4 σ K n (x1 + 0) (x2 + 1) else (M5_aboutKey x2 1 σ).bind (fun v6 => L5_passedAll_4 σ K n (x1 + v6) (x2 + 1)))))
theorem L5_passedAll_4_s (σ : rr_T) (K : Int → Option Int) (n : Nat) (x1 : Int) (x2 : Int) : L5_passedAll_4 σ K (n + 1) x1 x2 = rr_c ((rr_g x2) ∧ (rr_g (σ 0 140))) (if (σ 0 140) ≤ x2 then K x1 else rr_c (0 ≤ x2 ∧ x2 < 40) (rr_c (rr_g (σ 6 x2)) (if (σ 6 x2) = (-1) then L5_passedAll_4 σ K n (x1 + 0) (x2 + 1) else (M5_aboutKey x2 1 σ).bind (fun v6 => L5_passedAll_4 σ K n (x1 + v6) (x2 + 1))))) := rfl
def M5_passedAll (σ : rr_T) : Option Int := L5_passedAll_4 σ (fun y1_4 => some y1_4) 1000 0 0
-- RoomRingModel.counted
def M5_counted (x1 : Int) (σ : rr_T) : Option Int := rr_c (rr_g x1) (if x1 = 0 then (M5_hostMany σ).bind (fun v4 => some v4) else if x1 = 1 then some (σ 0 140) else if x1 = 2 then some (σ 0 141) else if x1 = 3 then (M5_marks σ).bind (fun v9 => some v9) else if x1 = 4 then some (σ 0 142) else if x1 = 5 then (M5_byHosts 1 σ).bind (fun v13 => some v13) else if x1 = 6 then (M5_passedAll σ).bind (fun v16 => some v16) else if x1 = 7 then (M5_byHosts 0 σ).bind (fun v19 => some v19) else (M5_weights σ).bind (fun v21 => some v21))
-- RoomRingModel.count
def M5_count (x1 : Int) (σ : rr_T) : Option (Int × rr_T) := (M5_in x1 0 8).bind (fun v1 => rr_c (rr_g v1) (if v1 = 0 then (M5_refuses (-2) σ).bind (fun v5 => some (v5.1, v5.2)) else (M5_counted x1 σ).bind (fun v7 => some (v7, σ))))
-- RoomRingModel.type
def M5_type (x1 : Int) (σ : rr_T) : Option (Int × rr_T) := (M5_in x1 0 127).bind (fun v1 => rr_c (rr_g v1) (if v1 = 0 then (M5_refuses (-2) σ).bind (fun v10 => some (v10.1, v10.2)) else rr_c (rr_g (σ 12 0)) (if (σ 12 0) = 120 then (M5_refuses (-4) σ).bind (fun v8 => some (v8.1, v8.2)) else rr_c (0 ≤ (σ 12 0) ∧ (σ 12 0) < 120) (some (((σ 12 0) + 1), (rr_t (rr_s σ 11 (σ 12 0) x1) 12 ((σ 12 0) + 1)))))))
-- RoomRingModel.clear
def M5_clear (σ : rr_T) : Option (Int × rr_T) := some ((σ 12 0), (rr_t σ 12 0))
-- RoomRingModel.here
def L5_here_0 (K : rr_T → Option (Int × rr_T)) : Nat → rr_T → Option (Int × rr_T)
  | 0 => fun _ => none
  | n + 1 => fun σ => rr_c ((rr_g (σ 13 0)) ∧ (rr_g (σ 12 0))) (if (σ 12 0) ≤ (σ 13 0) then K σ else rr_c (0 ≤ (σ 13 0) ∧ (σ 13 0) < 120) (rr_c (rr_g (σ 11 (σ 13 0))) (if (σ 11 (σ 13 0)) = 32 then L5_here_0 K n (rr_t σ 13 ((σ 13 0) + 1)) else K σ)))
theorem L5_here_0_s (K : rr_T → Option (Int × rr_T)) (n : Nat) (σ : rr_T) : L5_here_0 K (n + 1) σ = rr_c ((rr_g (σ 13 0)) ∧ (rr_g (σ 12 0))) (if (σ 12 0) ≤ (σ 13 0) then K σ else rr_c (0 ≤ (σ 13 0) ∧ (σ 13 0) < 120) (rr_c (rr_g (σ 11 (σ 13 0))) (if (σ 11 (σ 13 0)) = 32 then L5_here_0 K n (rr_t σ 13 ((σ 13 0) + 1)) else K σ))) := rfl
def M5_here (σ : rr_T) : Option (Int × rr_T) := L5_here_0 (fun σ_0 => rr_c ((rr_g (σ_0 13 0)) ∧ (rr_g (σ_0 12 0))) (if (σ_0 12 0) ≤ (σ_0 13 0) then some ((-1), σ_0) else rr_c (0 ≤ (σ_0 13 0) ∧ (σ_0 13 0) < 120) (some ((σ_0 11 (σ_0 13 0)), σ_0)))) 1000 σ
-- RoomRingModel.must
def M5_must (x1 : Int) (σ : rr_T) : Option rr_T := rr_c (rr_g (σ 14 0)) (if (σ 14 0) = (-1) then rr_c (rr_g x1) (if x1 = 0 then some (rr_t σ 14 (σ 13 0)) else some (rr_t σ 13 ((σ 13 0) + 1))) else some σ)
-- RoomRingModel.isFigure
def M5_isFigure (σ : rr_T) : Option Int := rr_c ((rr_g (σ 13 0)) ∧ (rr_g (σ 12 0))) (if (σ 12 0) ≤ (σ 13 0) then some 0 else rr_c (0 ≤ (σ 13 0) ∧ (σ 13 0) < 120) ((M5_in (σ 11 (σ 13 0)) 48 57).bind (fun v4 => rr_c (rr_g v4) (if v4 = 0 then some 0 else some 1))))
-- RoomRingModel.number
def L5_number_42 (K : Int → rr_T → Option (Int × rr_T)) : Nat → Int → Int → rr_T → Option (Int × rr_T)
  | 0 => fun _ _ _ => none
  | n + 1 => fun x1 x2 σ => rr_c (rr_g x2) (if 2 ≤ x2 then K x1 σ else (M5_isFigure σ).bind (fun v12 => rr_c (rr_g v12) (if v12 = 0 then K x1 σ else rr_c (0 ≤ (σ 13 0) ∧ (σ 13 0) < 120) (L5_number_42 K n (((10 * x1) + (σ 11 (σ 13 0))) - 48) (x2 + 1) (rr_t σ 13 ((σ 13 0) + 1))))))
theorem L5_number_42_s (K : Int → rr_T → Option (Int × rr_T)) (n : Nat) (x1 : Int) (x2 : Int) (σ : rr_T) : L5_number_42 K (n + 1) x1 x2 σ = rr_c (rr_g x2) (if 2 ≤ x2 then K x1 σ else (M5_isFigure σ).bind (fun v12 => rr_c (rr_g v12) (if v12 = 0 then K x1 σ else rr_c (0 ≤ (σ 13 0) ∧ (σ 13 0) < 120) (L5_number_42 K n (((10 * x1) + (σ 11 (σ 13 0))) - 48) (x2 + 1) (rr_t σ 13 ((σ 13 0) + 1)))))) := rfl
def M5_number (σ : rr_T) : Option (Int × rr_T) := (M5_here σ).bind (fun v1 => (M5_in v1.1 48 57).bind (fun v3 => (M5_must v3 v1.2).bind (fun v5 => rr_c (rr_g (v5 14 0)) (if (v5 14 0) = (-1) then rr_c (0 ≤ ((v5 13 0) - 1) ∧ ((v5 13 0) - 1) < 120) (L5_number_42 (fun y1_42 σ_42 => (M5_isFigure σ_42).bind (fun v17 => rr_c (rr_g v17) (if v17 = 0 then some (y1_42, σ_42) else some (y1_42, (rr_t σ_42 14 (σ_42 13 0)))))) 1000 ((v5 11 ((v5 13 0) - 1)) - 48) 0 v5) else some (0, v5)))))
-- RoomRingModel.numbersOf
def M5_numbersOf (x0 : Int) : Option Int := rr_c (rr_g x0) (if x0 = 100 then some 1 else if x0 = 101 then some 1 else if x0 = 103 then some 1 else if x0 = 104 then some 2 else if x0 = 107 then some 1 else if x0 = 119 then some 2 else some (-1))
-- RoomRingModel.readOrder
def L5_readOrder_26 (x1 : Int) (x2 : Int) (K : rr_T → Option rr_T) : Nat → Int → rr_T → Option rr_T
  | 0 => fun _ _ => none
  | n + 1 => fun x3 σ => rr_c ((rr_g x3) ∧ (rr_g x2)) (if x2 ≤ x3 then K σ else rr_c (rr_g (σ 14 0)) (if (σ 14 0) = (-1) then (M5_number σ).bind (fun v13 => rr_c (0 ≤ ((2 * (σ 15 0)) + x3) ∧ ((2 * (σ 15 0)) + x3) < 80) (L5_readOrder_26 x1 x2 K n (x3 + 1) (rr_s v13.2 17 ((2 * (σ 15 0)) + x3) v13.1))) else K σ))
theorem L5_readOrder_26_s (x1 : Int) (x2 : Int) (K : rr_T → Option rr_T) (n : Nat) (x3 : Int) (σ : rr_T) : L5_readOrder_26 x1 x2 K (n + 1) x3 σ = rr_c ((rr_g x3) ∧ (rr_g x2)) (if x2 ≤ x3 then K σ else rr_c (rr_g (σ 14 0)) (if (σ 14 0) = (-1) then (M5_number σ).bind (fun v13 => rr_c (0 ≤ ((2 * (σ 15 0)) + x3) ∧ ((2 * (σ 15 0)) + x3) < 80) (L5_readOrder_26 x1 x2 K n (x3 + 1) (rr_s v13.2 17 ((2 * (σ 15 0)) + x3) v13.1))) else K σ)) := rfl
def M5_readOrder (σ : rr_T) : Option rr_T := (M5_here σ).bind (fun v1 => (M5_numbersOf v1.1).bind (fun v3 => rr_c (rr_g v3) (if v3 = (-1) then (M5_must 0 v1.2).bind (fun v7 => L5_readOrder_26 v1.1 v3 (fun σ_26 => rr_c (rr_g (σ_26 14 0)) (if (σ_26 14 0) = (-1) then rr_c (0 ≤ (σ_26 15 0) ∧ (σ_26 15 0) < 40) ((M5_here (rr_t (rr_s σ_26 16 (σ_26 15 0) v1.1) 15 ((σ_26 15 0) + 1))).bind (fun v19 => rr_c (rr_g v19.1) (if v19.1 = 59 then (M5_must 1 v19.2).bind (fun v25 => some v25) else (M5_must 0 v19.2).bind (fun v23 => some v23)))) else some σ_26)) 1000 0 v7) else (M5_must 1 v1.2).bind (fun v27 => L5_readOrder_26 v1.1 v3 (fun σ_26 => rr_c (rr_g (σ_26 14 0)) (if (σ_26 14 0) = (-1) then rr_c (0 ≤ (σ_26 15 0) ∧ (σ_26 15 0) < 40) ((M5_here (rr_t (rr_s σ_26 16 (σ_26 15 0) v1.1) 15 ((σ_26 15 0) + 1))).bind (fun v32 => rr_c (rr_g v32.1) (if v32.1 = 59 then (M5_must 1 v32.2).bind (fun v38 => some v38) else (M5_must 0 v32.2).bind (fun v36 => some v36)))) else some σ_26)) 1000 0 v27))))
-- RoomRingModel.doOrder
def M5_doOrder (x1 : Int) (σ : rr_T) : Option (Int × rr_T) := rr_c (0 ≤ (2 * x1) ∧ (2 * x1) < 80) (rr_c (0 ≤ ((2 * x1) + 1) ∧ ((2 * x1) + 1) < 80) (rr_c (0 ≤ x1 ∧ x1 < 40) (rr_c (rr_g (σ 16 x1)) (if (σ 16 x1) = 100 then (M5_doDrops (σ 17 (2 * x1)) σ).bind (fun v7 => some (v7.1, v7.2)) else if (σ 16 x1) = 103 then (M5_doGoes (σ 17 (2 * x1)) σ).bind (fun v10 => some (v10.1, v10.2)) else if (σ 16 x1) = 104 then (M5_doHost (σ 17 (2 * x1)) (σ 17 ((2 * x1) + 1)) σ).bind (fun v13 => some (v13.1, v13.2)) else if (σ 16 x1) = 107 then (M5_doKey (σ 17 (2 * x1)) σ).bind (fun v16 => some (v16.1, v16.2)) else if (σ 16 x1) = 119 then (M5_doWeighs (σ 17 (2 * x1)) (σ 17 ((2 * x1) + 1)) σ).bind (fun v19 => some (v19.1, v19.2)) else (M5_doExtra (σ 17 (2 * x1)) σ).bind (fun v21 => some (v21.1, v21.2))))))
-- RoomRingModel.does
def L5_does_31 (K : rr_T → Option (Int × rr_T)) : Nat → rr_T → Option (Int × rr_T)
  | 0 => fun _ => none
  | n + 1 => fun σ => rr_c (rr_g (σ 14 0)) (if (σ 14 0) = (-1) then (M5_here σ).bind (fun v7 => rr_c (rr_g v7.1) (if v7.1 = (-1) then K v7.2 else (M5_readOrder v7.2).bind (fun v11 => L5_does_31 K n v11))) else K σ)
theorem L5_does_31_s (K : rr_T → Option (Int × rr_T)) (n : Nat) (σ : rr_T) : L5_does_31 K (n + 1) σ = rr_c (rr_g (σ 14 0)) (if (σ 14 0) = (-1) then (M5_here σ).bind (fun v7 => rr_c (rr_g v7.1) (if v7.1 = (-1) then K v7.2 else (M5_readOrder v7.2).bind (fun v11 => L5_does_31 K n v11))) else K σ) := rfl
def L5_does_76 (K : rr_T → Option (Int × rr_T)) : Nat → Int → rr_T → Option (Int × rr_T)
  | 0 => fun _ _ => none
  | n + 1 => fun x1 σ => rr_c ((rr_g x1) ∧ (rr_g (σ 15 0))) (if (σ 15 0) ≤ x1 then K σ else (M5_doOrder x1 σ).bind (fun v19 => rr_c (rr_g v19.1) (if v19.1 = 0 then L5_does_76 K n (x1 + 1) v19.2 else (M5_release v19.2).bind (fun v23 => some (((-1000) - x1), v23)))))
theorem L5_does_76_s (K : rr_T → Option (Int × rr_T)) (n : Nat) (x1 : Int) (σ : rr_T) : L5_does_76 K (n + 1) x1 σ = rr_c ((rr_g x1) ∧ (rr_g (σ 15 0))) (if (σ 15 0) ≤ x1 then K σ else (M5_doOrder x1 σ).bind (fun v19 => rr_c (rr_g v19.1) (if v19.1 = 0 then L5_does_76 K n (x1 + 1) v19.2 else (M5_release v19.2).bind (fun v23 => some (((-1000) - x1), v23))))) := rfl
def M5_does (σ : rr_T) : Option (Int × rr_T) := (M5_here (rr_t (rr_t (rr_t σ 13 0) 14 (-1)) 15 0)).bind (fun v1 => rr_c (rr_g v1.1) (if v1.1 = (-1) then some (((-10) - (v1.2 12 0)), v1.2) else L5_does_31 (fun σ_31 => rr_c (rr_g (σ_31 14 0)) (if (σ_31 14 0) = (-1) then (M5_hold σ_31).bind (fun v15 => L5_does_76 (fun σ_76 => (M5_push σ_76).bind (fun v25 => some ((v25 15 0), v25))) 1000 0 v15) else some (((-10) - (σ_31 14 0)), σ_31))) 1000 v1.2))
-- RoomRingModel.toldOf
def M5_toldOf (x1 : Int) (σ : rr_T) : Option Int := rr_c (rr_g x1) (if 3 ≤ x1 then if x1 = 3 then some (σ 12 0) else some (σ 3 0) else rr_c (0 ≤ x1 ∧ x1 < 3) (some (σ 4 x1)))
-- RoomRingModel.told
def M5_told (x1 : Int) (σ : rr_T) : Option (Int × rr_T) := (M5_in x1 0 4).bind (fun v1 => rr_c (rr_g v1) (if v1 = 0 then (M5_refuses (-2) σ).bind (fun v5 => some (v5.1, v5.2)) else (M5_toldOf x1 σ).bind (fun v7 => some (v7, σ))))
-- RoomRingModel.mix
def M5_mix (x1 : Int) (hh : Int) (σ : rr_T) : Option Int := rr_c (rr_g x1) (some ((31 * hh) + x1))
-- RoomRingModel.digest
def L5_digest_9 (σ : rr_T) (K : Int → Option (Int × Int)) : Nat → Int → Int → Option (Int × Int)
  | 0 => fun _ _ => none
  | n + 1 => fun x1 hh => rr_c (rr_g x1) (if 5 ≤ x1 then K hh else (M5_toldOf x1 σ).bind (fun v3 => (M5_mix v3 hh σ).bind (fun v5 => L5_digest_9 σ K n (x1 + 1) v5)))
theorem L5_digest_9_s (σ : rr_T) (K : Int → Option (Int × Int)) (n : Nat) (x1 : Int) (hh : Int) : L5_digest_9 σ K (n + 1) x1 hh = rr_c (rr_g x1) (if 5 ≤ x1 then K hh else (M5_toldOf x1 σ).bind (fun v3 => (M5_mix v3 hh σ).bind (fun v5 => L5_digest_9 σ K n (x1 + 1) v5))) := rfl
def L5_digest_31 (σ : rr_T) (K : Int → Option (Int × Int)) : Nat → Int → Int → Option (Int × Int)
  | 0 => fun _ _ => none
  | n + 1 => fun x1 hh => rr_c (rr_g x1) (if 9 ≤ x1 then K hh else (M5_counted x1 σ).bind (fun v9 => (M5_mix v9 hh σ).bind (fun v11 => L5_digest_31 σ K n (x1 + 1) v11)))
theorem L5_digest_31_s (σ : rr_T) (K : Int → Option (Int × Int)) (n : Nat) (x1 : Int) (hh : Int) : L5_digest_31 σ K (n + 1) x1 hh = rr_c (rr_g x1) (if 9 ≤ x1 then K hh else (M5_counted x1 σ).bind (fun v9 => (M5_mix v9 hh σ).bind (fun v11 => L5_digest_31 σ K n (x1 + 1) v11))) := rfl
def L5_digest_54 (σ : rr_T) (K : Int → Option (Int × Int)) : Nat → Int → Int → Option (Int × Int)
  | 0 => fun _ _ => none
  | n + 1 => fun x1 hh => rr_c (rr_g x1) (if 101 ≤ x1 then K hh else rr_c (0 ≤ x1 ∧ x1 < 101) ((M5_mix (σ 5 x1) hh σ).bind (fun v16 => L5_digest_54 σ K n (x1 + 1) v16)))
theorem L5_digest_54_s (σ : rr_T) (K : Int → Option (Int × Int)) (n : Nat) (x1 : Int) (hh : Int) : L5_digest_54 σ K (n + 1) x1 hh = rr_c (rr_g x1) (if 101 ≤ x1 then K hh else rr_c (0 ≤ x1 ∧ x1 < 101) ((M5_mix (σ 5 x1) hh σ).bind (fun v16 => L5_digest_54 σ K n (x1 + 1) v16))) := rfl
def L5_digest_78 (σ : rr_T) (K : Int → Option (Int × Int)) : Nat → Int → Int → Option (Int × Int)
  | 0 => fun _ _ => none
  | n + 1 => fun x1 hh => rr_c (rr_g x1) (if 100 ≤ x1 then K hh else (M5_isHost x1 σ).bind (fun v20 => rr_c (rr_g v20) (if v20 = 0 then L5_digest_78 σ K n (x1 + 1) hh else (M5_mix x1 hh σ).bind (fun v24 => (M5_ofHost x1 0 σ).bind (fun v26 => (M5_mix v26 v24 σ).bind (fun v28 => (M5_ofHost x1 1 σ).bind (fun v30 => (M5_mix v30 v28 σ).bind (fun v32 => (M5_ofHost x1 2 σ).bind (fun v34 => (M5_mix v34 v32 σ).bind (fun v36 => L5_digest_78 σ K n (x1 + 1) v36))))))))))
theorem L5_digest_78_s (σ : rr_T) (K : Int → Option (Int × Int)) (n : Nat) (x1 : Int) (hh : Int) : L5_digest_78 σ K (n + 1) x1 hh = rr_c (rr_g x1) (if 100 ≤ x1 then K hh else (M5_isHost x1 σ).bind (fun v20 => rr_c (rr_g v20) (if v20 = 0 then L5_digest_78 σ K n (x1 + 1) hh else (M5_mix x1 hh σ).bind (fun v24 => (M5_ofHost x1 0 σ).bind (fun v26 => (M5_mix v26 v24 σ).bind (fun v28 => (M5_ofHost x1 1 σ).bind (fun v30 => (M5_mix v30 v28 σ).bind (fun v32 => (M5_ofHost x1 2 σ).bind (fun v34 => (M5_mix v34 v32 σ).bind (fun v36 => L5_digest_78 σ K n (x1 + 1) v36)))))))))) := rfl
def L5_digest_172 (σ : rr_T) (x1 : Int) (K : Int → Option (Int × Int)) : Nat → Int → Int → Option (Int × Int)
  | 0 => fun _ _ => none
  | n + 1 => fun x2 hh => rr_c (rr_g x2) (if 3 ≤ x2 then K hh else (M5_aboutKey x1 x2 σ).bind (fun v48 => (M5_mix v48 hh σ).bind (fun v50 => L5_digest_172 σ x1 K n (x2 + 1) v50)))
theorem L5_digest_172_s (σ : rr_T) (x1 : Int) (K : Int → Option (Int × Int)) (n : Nat) (x2 : Int) (hh : Int) : L5_digest_172 σ x1 K (n + 1) x2 hh = rr_c (rr_g x2) (if 3 ≤ x2 then K hh else (M5_aboutKey x1 x2 σ).bind (fun v48 => (M5_mix v48 hh σ).bind (fun v50 => L5_digest_172 σ x1 K n (x2 + 1) v50))) := rfl
def L5_digest_135 (σ : rr_T) (K : Int → Option (Int × Int)) : Nat → Int → Int → Option (Int × Int)
  | 0 => fun _ _ => none
  | n + 1 => fun x1 hh => rr_c ((rr_g x1) ∧ (rr_g (σ 0 140))) (if (σ 0 140) ≤ x1 then K hh else rr_c (0 ≤ (100 + x1) ∧ (100 + x1) < 143) ((M5_mix (σ 0 (100 + x1)) hh σ).bind (fun v41 => rr_c (0 ≤ x1 ∧ x1 < 40) ((M5_mix (σ 6 x1) v41 σ).bind (fun v44 => L5_digest_172 σ x1 (fun σ_172 => L5_digest_135 σ K n (x1 + 1) σ_172) 1000 0 v44)))))
theorem L5_digest_135_s (σ : rr_T) (K : Int → Option (Int × Int)) (n : Nat) (x1 : Int) (hh : Int) : L5_digest_135 σ K (n + 1) x1 hh = rr_c ((rr_g x1) ∧ (rr_g (σ 0 140))) (if (σ 0 140) ≤ x1 then K hh else rr_c (0 ≤ (100 + x1) ∧ (100 + x1) < 143) ((M5_mix (σ 0 (100 + x1)) hh σ).bind (fun v41 => rr_c (0 ≤ x1 ∧ x1 < 40) ((M5_mix (σ 6 x1) v41 σ).bind (fun v44 => L5_digest_172 σ x1 (fun σ_172 => L5_digest_135 σ K n (x1 + 1) σ_172) 1000 0 v44))))) := rfl
def M5_digest (hh : Int) (σ : rr_T) : Option (Int × Int) := L5_digest_9 σ (fun σ_9 => L5_digest_31 σ (fun σ_31 => L5_digest_54 σ (fun σ_54 => L5_digest_78 σ (fun σ_78 => L5_digest_135 σ (fun σ_135 => some (σ_135, σ_135)) 1000 0 σ_78) 1000 0 σ_54) 1000 0 σ_31) 1000 0 σ_9) 1000 0 2820
