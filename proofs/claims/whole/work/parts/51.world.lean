/-! ===== the cells that were made are those of the world ===== -/
section jWd
variable {ω : jW} {f g h : Nat → Int32}
theorem jrow_0 : jS0 f g h 0 = (fun _ => 0) := rfl
theorem jrow_1 : jS0 f g h 1 = (fun _ => 0) := rfl
theorem jrow_2 : jS0 f g h 2 = (fun _ => 0) := rfl
theorem jrow_3 : jS0 f g h 3 = (fun _ => 0) := rfl
theorem jrow_4 : jS0 f g h 4 = (fun _ => 0) := rfl
theorem jrow_5 : jS0 f g h 5 = (fun j => (f j).toInt) := rfl
theorem jrow_6 : jS0 f g h 6 = (fun _ => 0) := rfl
theorem jrow_7 : jS0 f g h 7 = (fun _ => 0) := rfl
theorem jrow_8 : jS0 f g h 8 = (fun _ => 0) := rfl
theorem jrow_9 : jS0 f g h 9 = (fun _ => 0) := rfl
theorem jrow_10 : jS0 f g h 10 = jR10 := rfl
theorem jrow_11 : jS0 f g h 11 = (fun j => (g j).toInt) := rfl
theorem jrow_12 : jS0 f g h 12 = (fun _ => 0) := rfl
theorem jrow_13 : jS0 f g h 13 = (fun _ => 0) := rfl
theorem jrow_14 : jS0 f g h 14 = (fun _ => 0) := rfl
theorem jrow_15 : jS0 f g h 15 = (fun _ => 0) := rfl
theorem jrow_16 : jS0 f g h 16 = (fun _ => 0) := rfl
theorem jrow_17 : jS0 f g h 17 = jR17 := rfl
theorem jrow_18 : jS0 f g h 18 = (fun _ => 0) := rfl
theorem jrow_19 : jS0 f g h 19 = (fun _ => 0) := rfl
theorem jrow_20 : jS0 f g h 20 = (fun _ => 0) := rfl
theorem jrow_21 : jS0 f g h 21 = (fun _ => 0) := rfl
theorem jrow_22 : jS0 f g h 22 = (fun _ => 0) := rfl
theorem jrow_23 : jS0 f g h 23 = (fun _ => 0) := rfl
theorem jrow_24 : jS0 f g h 24 = jR24 := rfl
theorem jrow_25 : jS0 f g h 25 = (fun j => (h j).toInt) := rfl
theorem jrow_26 : jS0 f g h 26 = (fun _ => 0) := rfl
theorem jrow_27 : jS0 f g h 27 = (fun _ => 0) := rfl
theorem jrow_28 : jS0 f g h 28 = (fun _ => 0) := rfl
theorem jrow_29 : jS0 f g h 29 = (fun _ => 0) := rfl
theorem jrow_30 : jS0 f g h 30 = (fun _ => 0) := rfl
theorem jrow_31 : jS0 f g h 31 = (fun _ => 0) := rfl
theorem jrow_32 : jS0 f g h 32 = (fun _ => 0) := rfl
theorem jrow_33 : jS0 f g h 33 = (fun _ => 0) := rfl
theorem jrow_34 : jS0 f g h 34 = (fun _ => 0) := rfl
theorem jrow_35 : jS0 f g h 35 = (fun _ => 0) := rfl
theorem jrow_36 : jS0 f g h 36 = (fun _ => 0) := rfl
theorem jw_0 : jce ω (jS0 f g h 0) (.inr (7, [some 1, some 7, some 10, some 14, some 15, some 17, some 18])) = (.inr (7, [.ref (jad ω 1), .ref (jad ω 7), .ref (jad ω 10), .ref (jad ω 14), .ref (jad ω 15), .ref (jad ω 17), .ref (jad ω 18)]) : va_E) := by
  rw [jrow_0]
  show (Sum.inr (7, jfs (jad ω) _ _) : va_E) = _
  simp only [jfs, List.mapIdx_cons, List.mapIdx_nil, jfv]
theorem jw_1 : jce ω (jS0 f g h 1) (.inr (6, [some 2, some 3, some 4, some 5, some 6, none])) = (.inr (6, [.ref (jad ω 2), .ref (jad ω 3), .ref (jad ω 4), .ref (jad ω 5), .ref (jad ω 6), .int 0]) : va_E) := by
  rw [jrow_1]
  show (Sum.inr (6, jfs (jad ω) _ _) : va_E) = _
  simp only [jfs, List.mapIdx_cons, List.mapIdx_nil, jfv]
  rfl
theorem jw_2 : jce ω (jS0 f g h 2) (.inl (0, 40)) = (.inl (ω.2.2.1, 40, .inl (fun _ => 0)) : va_E) := by
  rw [jrow_2]
  rfl
theorem jw_3 : jce ω (jS0 f g h 3) (.inl (0, 40)) = (.inl (ω.2.2.1, 40, .inl (fun _ => 0)) : va_E) := by
  rw [jrow_3]
  rfl
theorem jw_4 : jce ω (jS0 f g h 4) (.inl (1, 20)) = (.inl (ω.2.2.2.1, 20, .inr (.inl (fun _ => 0))) : va_E) := by
  rw [jrow_4]
  rfl
theorem jw_5 : jce ω (jS0 f g h 5) (.inl (0, 20)) = (.inl (ω.2.2.1, 20, .inl f) : va_E) := by
  rw [jrow_5]
  show (Sum.inl (_, 20, Sum.inl (fun j => jI (f j).toInt)) : va_E) = _
  rw [show (fun j => jI (f j).toInt) = f from funext (fun j => jI_of _)]
theorem jw_6 : jce ω (jS0 f g h 6) (.inl (0, 1600)) = (.inl (ω.2.2.1, 1600, .inl (fun _ => 0)) : va_E) := by
  rw [jrow_6]
  rfl
theorem jw_7 : jce ω (jS0 f g h 7) (.inr (0, [some 8, some 9, none])) = (.inr (0, [.ref (jad ω 8), .ref (jad ω 9), .int 0]) : va_E) := by
  rw [jrow_7]
  show (Sum.inr (0, jfs (jad ω) _ _) : va_E) = _
  simp only [jfs, List.mapIdx_cons, List.mapIdx_nil, jfv]
  rfl
theorem jw_8 : jce ω (jS0 f g h 8) (.inl (1, 40)) = (.inl (ω.2.2.2.1, 40, .inr (.inl (fun _ => 0))) : va_E) := by
  rw [jrow_8]
  rfl
theorem jw_9 : jce ω (jS0 f g h 9) (.inl (1, 40)) = (.inl (ω.2.2.2.1, 40, .inr (.inl (fun _ => 0))) : va_E) := by
  rw [jrow_9]
  rfl
theorem jw_10 : jce ω (jS0 f g h 10) (.inr (2, [some 1, some 11, some 12, some 13, none, none])) = (.inr (2, [.ref (jad ω 1), .ref (jad ω 11), .ref (jad ω 12), .ref (jad ω 13), .int 10, .int 1]) : va_E) := by
  rw [jrow_10]
  show (Sum.inr (2, jfs (jad ω) _ _) : va_E) = _
  simp only [jfs, List.mapIdx_cons, List.mapIdx_nil, jfv]
  rfl
theorem jw_11 : jce ω (jS0 f g h 11) (.inl (0, 40)) = (.inl (ω.2.2.1, 40, .inl g) : va_E) := by
  rw [jrow_11]
  show (Sum.inl (_, 40, Sum.inl (fun j => jI (g j).toInt)) : va_E) = _
  rw [show (fun j => jI (g j).toInt) = g from funext (fun j => jI_of _)]
theorem jw_12 : jce ω (jS0 f g h 12) (.inl (1, 40)) = (.inl (ω.2.2.2.1, 40, .inr (.inl (fun _ => 0))) : va_E) := by
  rw [jrow_12]
  rfl
theorem jw_13 : jce ω (jS0 f g h 13) (.inl (0, 40)) = (.inl (ω.2.2.1, 40, .inl (fun _ => 0)) : va_E) := by
  rw [jrow_13]
  rfl
theorem jw_14 : jce ω (jS0 f g h 14) (.inr (5, [some 1, some 7, some 10, none])) = (.inr (5, [.ref (jad ω 1), .ref (jad ω 7), .ref (jad ω 10), .int 0]) : va_E) := by
  rw [jrow_14]
  show (Sum.inr (5, jfs (jad ω) _ _) : va_E) = _
  simp only [jfs, List.mapIdx_cons, List.mapIdx_nil, jfv]
  rfl
theorem jw_15 : jce ω (jS0 f g h 15) (.inr (4, [some 1, some 7, some 16, none, none])) = (.inr (4, [.ref (jad ω 1), .ref (jad ω 7), .ref (jad ω 16), .int 0, .int 0]) : va_E) := by
  rw [jrow_15]
  show (Sum.inr (4, jfs (jad ω) _ _) : va_E) = _
  simp only [jfs, List.mapIdx_cons, List.mapIdx_nil, jfv]
  rfl
theorem jw_16 : jce ω (jS0 f g h 16) (.inl (1, 7)) = (.inl (ω.2.2.2.1, 7, .inr (.inl (fun _ => 0))) : va_E) := by
  rw [jrow_16]
  rfl
theorem jw_17 : jce ω (jS0 f g h 17) (.inr (3, [some 1, none, none])) = (.inr (3, [.ref (jad ω 1), .int 60, .int 1]) : va_E) := by
  rw [jrow_17]
  show (Sum.inr (3, jfs (jad ω) _ _) : va_E) = _
  simp only [jfs, List.mapIdx_cons, List.mapIdx_nil, jfv]
  rfl
theorem jw_18 : jce ω (jS0 f g h 18) (.inr (1, [some 1, some 10, some 17, some 19, none, some 20, none, some 21, some 22, some 23, none])) = (.inr (1, [.ref (jad ω 1), .ref (jad ω 10), .ref (jad ω 17), .ref (jad ω 19), .int 0, .ref (jad ω 20), .int 0, .ref (jad ω 21), .ref (jad ω 22), .ref (jad ω 23), .int 0]) : va_E) := by
  rw [jrow_18]
  show (Sum.inr (1, jfs (jad ω) _ _) : va_E) = _
  simp only [jfs, List.mapIdx_cons, List.mapIdx_nil, jfv]
  rfl
theorem jw_19 : jce ω (jS0 f g h 19) (.inl (0, 5)) = (.inl (ω.2.2.1, 5, .inl (fun _ => 0)) : va_E) := by
  rw [jrow_19]
  rfl
theorem jw_20 : jce ω (jS0 f g h 20) (.inl (0, 5)) = (.inl (ω.2.2.1, 5, .inl (fun _ => 0)) : va_E) := by
  rw [jrow_20]
  rfl
theorem jw_21 : jce ω (jS0 f g h 21) (.inl (0, 25)) = (.inl (ω.2.2.1, 25, .inl (fun _ => 0)) : va_E) := by
  rw [jrow_21]
  rfl
theorem jw_22 : jce ω (jS0 f g h 22) (.inl (0, 5)) = (.inl (ω.2.2.1, 5, .inl (fun _ => 0)) : va_E) := by
  rw [jrow_22]
  rfl
theorem jw_23 : jce ω (jS0 f g h 23) (.inl (0, 5)) = (.inl (ω.2.2.1, 5, .inl (fun _ => 0)) : va_E) := by
  rw [jrow_23]
  rfl
theorem jw_24 : jce ω (jS0 f g h 24) (.inr (8, [some 25, none, none, none, none, none, some 26, some 27, some 28, some 29, none, some 30, some 31, some 32, none, some 33, none, some 34, some 35, some 36, none])) = (.inr (8, [.ref (jad ω 25), .int 10, .int 1, .int 60, .int 1, .int 0, .ref (jad ω 26), .ref (jad ω 27), .ref (jad ω 28), .ref (jad ω 29), .int 0, .ref (jad ω 30), .ref (jad ω 31), .ref (jad ω 32), .int 0, .ref (jad ω 33), .int 0, .ref (jad ω 34), .ref (jad ω 35), .ref (jad ω 36), .int 0]) : va_E) := by
  rw [jrow_24]
  show (Sum.inr (8, jfs (jad ω) _ _) : va_E) = _
  simp only [jfs, List.mapIdx_cons, List.mapIdx_nil, jfv]
  rfl
theorem jw_25 : jce ω (jS0 f g h 25) (.inl (0, 20)) = (.inl (ω.2.2.1, 20, .inl h) : va_E) := by
  rw [jrow_25]
  show (Sum.inl (_, 20, Sum.inl (fun j => jI (h j).toInt)) : va_E) = _
  rw [show (fun j => jI (h j).toInt) = h from funext (fun j => jI_of _)]
theorem jw_26 : jce ω (jS0 f g h 26) (.inl (0, 40)) = (.inl (ω.2.2.1, 40, .inl (fun _ => 0)) : va_E) := by
  rw [jrow_26]
  rfl
theorem jw_27 : jce ω (jS0 f g h 27) (.inl (0, 40)) = (.inl (ω.2.2.1, 40, .inl (fun _ => 0)) : va_E) := by
  rw [jrow_27]
  rfl
theorem jw_28 : jce ω (jS0 f g h 28) (.inl (0, 40)) = (.inl (ω.2.2.1, 40, .inl (fun _ => 0)) : va_E) := by
  rw [jrow_28]
  rfl
theorem jw_29 : jce ω (jS0 f g h 29) (.inl (0, 1600)) = (.inl (ω.2.2.1, 1600, .inl (fun _ => 0)) : va_E) := by
  rw [jrow_29]
  rfl
theorem jw_30 : jce ω (jS0 f g h 30) (.inl (0, 60)) = (.inl (ω.2.2.1, 60, .inl (fun _ => 0)) : va_E) := by
  rw [jrow_30]
  rfl
theorem jw_31 : jce ω (jS0 f g h 31) (.inl (0, 60)) = (.inl (ω.2.2.1, 60, .inl (fun _ => 0)) : va_E) := by
  rw [jrow_31]
  rfl
theorem jw_32 : jce ω (jS0 f g h 32) (.inl (2, 60)) = (.inl (ω.2.2.2.2.1, 60, .inl (fun _ => 0)) : va_E) := by
  rw [jrow_32]
  rfl
theorem jw_33 : jce ω (jS0 f g h 33) (.inl (0, 5)) = (.inl (ω.2.2.1, 5, .inl (fun _ => 0)) : va_E) := by
  rw [jrow_33]
  rfl
theorem jw_34 : jce ω (jS0 f g h 34) (.inl (0, 7)) = (.inl (ω.2.2.1, 7, .inl (fun _ => 0)) : va_E) := by
  rw [jrow_34]
  rfl
theorem jw_35 : jce ω (jS0 f g h 35) (.inl (0, 5)) = (.inl (ω.2.2.1, 5, .inl (fun _ => 0)) : va_E) := by
  rw [jrow_35]
  rfl
theorem jw_36 : jce ω (jS0 f g h 36) (.inl (0, 5)) = (.inl (ω.2.2.1, 5, .inl (fun _ => 0)) : va_E) := by
  rw [jrow_36]
  rfl
end jWd
def wW (τ : ClassId × ClassId × ClassId) (x0 m0 : Nat) (u : (Nat → Nat) × (Nat → Int32) × (Nat → Int32)) (v : (Nat → Nat) × (Nat → Int32)) : va_W := [(x0, .inr (7, [.ref (u.1 0), .ref (u.1 6), .ref (u.1 9), .ref (u.1 13), .ref (u.1 14), .ref (u.1 16), .ref (u.1 17)])), ((u.1 0), .inr (6, [.ref (u.1 1), .ref (u.1 2), .ref (u.1 3), .ref (u.1 4), .ref (u.1 5), .int 0])), ((u.1 1), .inl (τ.1, 40, .inl (fun _ => 0))), ((u.1 2), .inl (τ.1, 40, .inl (fun _ => 0))), ((u.1 3), .inl (τ.2.1, 20, .inr (.inl (fun _ => 0)))), ((u.1 5), .inl (τ.1, 1600, .inl (fun _ => 0))), ((u.1 4), .inl (τ.1, 20, .inl (u.2.1))), ((u.1 6), .inr (0, [.ref (u.1 7), .ref (u.1 8), .int 0])), ((u.1 7), .inl (τ.2.1, 40, .inr (.inl (fun _ => 0)))), ((u.1 8), .inl (τ.2.1, 40, .inr (.inl (fun _ => 0)))), ((u.1 9), .inr (2, [.ref (u.1 0), .ref (u.1 10), .ref (u.1 11), .ref (u.1 12), .int 10, .int 1])), ((u.1 11), .inl (τ.2.1, 40, .inr (.inl (fun _ => 0)))), ((u.1 12), .inl (τ.1, 40, .inl (fun _ => 0))), ((u.1 10), .inl (τ.1, 40, .inl (u.2.2))), ((u.1 13), .inr (5, [.ref (u.1 0), .ref (u.1 6), .ref (u.1 9), .int 0])), ((u.1 14), .inr (4, [.ref (u.1 0), .ref (u.1 6), .ref (u.1 15), .int 0, .int 0])), ((u.1 15), .inl (τ.2.1, 7, .inr (.inl (fun _ => 0)))), ((u.1 16), .inr (3, [.ref (u.1 0), .int 60, .int 1])), ((u.1 17), .inr (1, [.ref (u.1 0), .ref (u.1 9), .ref (u.1 16), .ref (u.1 18), .int 0, .ref (u.1 19), .int 0, .ref (u.1 20), .ref (u.1 21), .ref (u.1 22), .int 0])), ((u.1 18), .inl (τ.1, 5, .inl (fun _ => 0))), ((u.1 19), .inl (τ.1, 5, .inl (fun _ => 0))), ((u.1 20), .inl (τ.1, 25, .inl (fun _ => 0))), ((u.1 21), .inl (τ.1, 5, .inl (fun _ => 0))), ((u.1 22), .inl (τ.1, 5, .inl (fun _ => 0))), (m0, .inr (8, [.ref (v.1 0), .int 10, .int 1, .int 60, .int 1, .int 0, .ref (v.1 1), .ref (v.1 2), .ref (v.1 3), .ref (v.1 4), .int 0, .ref (v.1 5), .ref (v.1 6), .ref (v.1 7), .int 0, .ref (v.1 8), .int 0, .ref (v.1 9), .ref (v.1 10), .ref (v.1 11), .int 0])), ((v.1 0), .inl (τ.1, 20, .inl (v.2))), ((v.1 1), .inl (τ.1, 40, .inl (fun _ => 0))), ((v.1 2), .inl (τ.1, 40, .inl (fun _ => 0))), ((v.1 3), .inl (τ.1, 40, .inl (fun _ => 0))), ((v.1 4), .inl (τ.1, 1600, .inl (fun _ => 0))), ((v.1 5), .inl (τ.1, 60, .inl (fun _ => 0))), ((v.1 6), .inl (τ.1, 60, .inl (fun _ => 0))), ((v.1 7), .inl (τ.2.2, 60, .inl (fun _ => 0))), ((v.1 8), .inl (τ.1, 5, .inl (fun _ => 0))), ((v.1 9), .inl (τ.1, 7, .inl (fun _ => 0))), ((v.1 10), .inl (τ.1, 5, .inl (fun _ => 0))), ((v.1 11), .inl (τ.1, 5, .inl (fun _ => 0)))]
def wO (D : va_G) (τ : ClassId × ClassId × ClassId) (x0 m0 b : Nat) (u : (Nat → Nat) × (Nat → Int32) × (Nat → Int32)) (v : (Nat → Nat) × (Nat → Int32)) : jW := (D.1, D.2, τ.1, τ.2.1, τ.2.2, fun k => [x0, u.1 0, u.1 1, u.1 2, u.1 3, u.1 4, u.1 5, u.1 6, u.1 7, u.1 8, u.1 9, u.1 10, u.1 11, u.1 12, u.1 13, u.1 14, u.1 15, u.1 16, u.1 17, u.1 18, u.1 19, u.1 20, u.1 21, u.1 22, m0, v.1 0, v.1 1, v.1 2, v.1 3, v.1 4, v.1 5, v.1 6, v.1 7, v.1 8, v.1 9, v.1 10, v.1 11, b].getD k 0)
def wpm (k : Nat) : Nat := [0, 1, 2, 3, 4, 6, 5, 7, 8, 9, 10, 13, 11, 12, 14, 15, 16, 17, 18, 19, 20, 21, 22, 23, 24, 25, 26, 27, 28, 29, 30, 31, 32, 33, 34, 35, 36].getD k 0
theorem by37 {P : Nat → Prop} (h0 : P 0) (h1 : P 1) (h2 : P 2) (h3 : P 3) (h4 : P 4) (h5 : P 5) (h6 : P 6) (h7 : P 7) (h8 : P 8) (h9 : P 9) (h10 : P 10) (h11 : P 11) (h12 : P 12) (h13 : P 13) (h14 : P 14) (h15 : P 15) (h16 : P 16) (h17 : P 17) (h18 : P 18) (h19 : P 19) (h20 : P 20) (h21 : P 21) (h22 : P 22) (h23 : P 23) (h24 : P 24) (h25 : P 25) (h26 : P 26) (h27 : P 27) (h28 : P 28) (h29 : P 29) (h30 : P 30) (h31 : P 31) (h32 : P 32) (h33 : P 33) (h34 : P 34) (h35 : P 35) (h36 : P 36) : ∀ k, k < 37 → P k := by
  intro k hk
  have hc : k = 0 ∨ k = 1 ∨ k = 2 ∨ k = 3 ∨ k = 4 ∨ k = 5 ∨ k = 6 ∨ k = 7 ∨ k = 8 ∨ k = 9 ∨ k = 10 ∨ k = 11 ∨ k = 12 ∨ k = 13 ∨ k = 14 ∨ k = 15 ∨ k = 16 ∨ k = 17 ∨ k = 18 ∨ k = 19 ∨ k = 20 ∨ k = 21 ∨ k = 22 ∨ k = 23 ∨ k = 24 ∨ k = 25 ∨ k = 26 ∨ k = 27 ∨ k = 28 ∨ k = 29 ∨ k = 30 ∨ k = 31 ∨ k = 32 ∨ k = 33 ∨ k = 34 ∨ k = 35 ∨ k = 36 := by omega
  rcases hc with rfl | rfl | rfl | rfl | rfl | rfl | rfl | rfl | rfl | rfl | rfl | rfl | rfl | rfl | rfl | rfl | rfl | rfl | rfl | rfl | rfl | rfl | rfl | rfl | rfl | rfl | rfl | rfl | rfl | rfl | rfl | rfl | rfl | rfl | rfl | rfl | rfl
  · exact h0
  · exact h1
  · exact h2
  · exact h3
  · exact h4
  · exact h5
  · exact h6
  · exact h7
  · exact h8
  · exact h9
  · exact h10
  · exact h11
  · exact h12
  · exact h13
  · exact h14
  · exact h15
  · exact h16
  · exact h17
  · exact h18
  · exact h19
  · exact h20
  · exact h21
  · exact h22
  · exact h23
  · exact h24
  · exact h25
  · exact h26
  · exact h27
  · exact h28
  · exact h29
  · exact h30
  · exact h31
  · exact h32
  · exact h33
  · exact h34
  · exact h35
  · exact h36
section jWe
variable {D : va_G} {τ : ClassId × ClassId × ClassId} {x0 m0 b : Nat} {u : (Nat → Nat) × (Nat → Int32) × (Nat → Int32)} {v : (Nat → Nat) × (Nat → Int32)}
theorem wp_0 : (wW τ x0 m0 u v)[0]? = some (jad (wO D τ x0 m0 b u v) 0, (.inr (7, [.ref (jad (wO D τ x0 m0 b u v) 1), .ref (jad (wO D τ x0 m0 b u v) 7), .ref (jad (wO D τ x0 m0 b u v) 10), .ref (jad (wO D τ x0 m0 b u v) 14), .ref (jad (wO D τ x0 m0 b u v) 15), .ref (jad (wO D τ x0 m0 b u v) 17), .ref (jad (wO D τ x0 m0 b u v) 18)]) : va_E)) := rfl
theorem wp_1 : (wW τ x0 m0 u v)[1]? = some (jad (wO D τ x0 m0 b u v) 1, (.inr (6, [.ref (jad (wO D τ x0 m0 b u v) 2), .ref (jad (wO D τ x0 m0 b u v) 3), .ref (jad (wO D τ x0 m0 b u v) 4), .ref (jad (wO D τ x0 m0 b u v) 5), .ref (jad (wO D τ x0 m0 b u v) 6), .int 0]) : va_E)) := rfl
theorem wp_2 : (wW τ x0 m0 u v)[2]? = some (jad (wO D τ x0 m0 b u v) 2, (.inl ((wO D τ x0 m0 b u v).2.2.1, 40, .inl (fun _ => 0)) : va_E)) := rfl
theorem wp_3 : (wW τ x0 m0 u v)[3]? = some (jad (wO D τ x0 m0 b u v) 3, (.inl ((wO D τ x0 m0 b u v).2.2.1, 40, .inl (fun _ => 0)) : va_E)) := rfl
theorem wp_4 : (wW τ x0 m0 u v)[4]? = some (jad (wO D τ x0 m0 b u v) 4, (.inl ((wO D τ x0 m0 b u v).2.2.2.1, 20, .inr (.inl (fun _ => 0))) : va_E)) := rfl
theorem wp_5 : (wW τ x0 m0 u v)[6]? = some (jad (wO D τ x0 m0 b u v) 5, (.inl ((wO D τ x0 m0 b u v).2.2.1, 20, .inl u.2.1) : va_E)) := rfl
theorem wp_6 : (wW τ x0 m0 u v)[5]? = some (jad (wO D τ x0 m0 b u v) 6, (.inl ((wO D τ x0 m0 b u v).2.2.1, 1600, .inl (fun _ => 0)) : va_E)) := rfl
theorem wp_7 : (wW τ x0 m0 u v)[7]? = some (jad (wO D τ x0 m0 b u v) 7, (.inr (0, [.ref (jad (wO D τ x0 m0 b u v) 8), .ref (jad (wO D τ x0 m0 b u v) 9), .int 0]) : va_E)) := rfl
theorem wp_8 : (wW τ x0 m0 u v)[8]? = some (jad (wO D τ x0 m0 b u v) 8, (.inl ((wO D τ x0 m0 b u v).2.2.2.1, 40, .inr (.inl (fun _ => 0))) : va_E)) := rfl
theorem wp_9 : (wW τ x0 m0 u v)[9]? = some (jad (wO D τ x0 m0 b u v) 9, (.inl ((wO D τ x0 m0 b u v).2.2.2.1, 40, .inr (.inl (fun _ => 0))) : va_E)) := rfl
theorem wp_10 : (wW τ x0 m0 u v)[10]? = some (jad (wO D τ x0 m0 b u v) 10, (.inr (2, [.ref (jad (wO D τ x0 m0 b u v) 1), .ref (jad (wO D τ x0 m0 b u v) 11), .ref (jad (wO D τ x0 m0 b u v) 12), .ref (jad (wO D τ x0 m0 b u v) 13), .int 10, .int 1]) : va_E)) := rfl
theorem wp_11 : (wW τ x0 m0 u v)[13]? = some (jad (wO D τ x0 m0 b u v) 11, (.inl ((wO D τ x0 m0 b u v).2.2.1, 40, .inl u.2.2) : va_E)) := rfl
theorem wp_12 : (wW τ x0 m0 u v)[11]? = some (jad (wO D τ x0 m0 b u v) 12, (.inl ((wO D τ x0 m0 b u v).2.2.2.1, 40, .inr (.inl (fun _ => 0))) : va_E)) := rfl
theorem wp_13 : (wW τ x0 m0 u v)[12]? = some (jad (wO D τ x0 m0 b u v) 13, (.inl ((wO D τ x0 m0 b u v).2.2.1, 40, .inl (fun _ => 0)) : va_E)) := rfl
theorem wp_14 : (wW τ x0 m0 u v)[14]? = some (jad (wO D τ x0 m0 b u v) 14, (.inr (5, [.ref (jad (wO D τ x0 m0 b u v) 1), .ref (jad (wO D τ x0 m0 b u v) 7), .ref (jad (wO D τ x0 m0 b u v) 10), .int 0]) : va_E)) := rfl
theorem wp_15 : (wW τ x0 m0 u v)[15]? = some (jad (wO D τ x0 m0 b u v) 15, (.inr (4, [.ref (jad (wO D τ x0 m0 b u v) 1), .ref (jad (wO D τ x0 m0 b u v) 7), .ref (jad (wO D τ x0 m0 b u v) 16), .int 0, .int 0]) : va_E)) := rfl
theorem wp_16 : (wW τ x0 m0 u v)[16]? = some (jad (wO D τ x0 m0 b u v) 16, (.inl ((wO D τ x0 m0 b u v).2.2.2.1, 7, .inr (.inl (fun _ => 0))) : va_E)) := rfl
theorem wp_17 : (wW τ x0 m0 u v)[17]? = some (jad (wO D τ x0 m0 b u v) 17, (.inr (3, [.ref (jad (wO D τ x0 m0 b u v) 1), .int 60, .int 1]) : va_E)) := rfl
theorem wp_18 : (wW τ x0 m0 u v)[18]? = some (jad (wO D τ x0 m0 b u v) 18, (.inr (1, [.ref (jad (wO D τ x0 m0 b u v) 1), .ref (jad (wO D τ x0 m0 b u v) 10), .ref (jad (wO D τ x0 m0 b u v) 17), .ref (jad (wO D τ x0 m0 b u v) 19), .int 0, .ref (jad (wO D τ x0 m0 b u v) 20), .int 0, .ref (jad (wO D τ x0 m0 b u v) 21), .ref (jad (wO D τ x0 m0 b u v) 22), .ref (jad (wO D τ x0 m0 b u v) 23), .int 0]) : va_E)) := rfl
theorem wp_19 : (wW τ x0 m0 u v)[19]? = some (jad (wO D τ x0 m0 b u v) 19, (.inl ((wO D τ x0 m0 b u v).2.2.1, 5, .inl (fun _ => 0)) : va_E)) := rfl
theorem wp_20 : (wW τ x0 m0 u v)[20]? = some (jad (wO D τ x0 m0 b u v) 20, (.inl ((wO D τ x0 m0 b u v).2.2.1, 5, .inl (fun _ => 0)) : va_E)) := rfl
theorem wp_21 : (wW τ x0 m0 u v)[21]? = some (jad (wO D τ x0 m0 b u v) 21, (.inl ((wO D τ x0 m0 b u v).2.2.1, 25, .inl (fun _ => 0)) : va_E)) := rfl
theorem wp_22 : (wW τ x0 m0 u v)[22]? = some (jad (wO D τ x0 m0 b u v) 22, (.inl ((wO D τ x0 m0 b u v).2.2.1, 5, .inl (fun _ => 0)) : va_E)) := rfl
theorem wp_23 : (wW τ x0 m0 u v)[23]? = some (jad (wO D τ x0 m0 b u v) 23, (.inl ((wO D τ x0 m0 b u v).2.2.1, 5, .inl (fun _ => 0)) : va_E)) := rfl
theorem wp_24 : (wW τ x0 m0 u v)[24]? = some (jad (wO D τ x0 m0 b u v) 24, (.inr (8, [.ref (jad (wO D τ x0 m0 b u v) 25), .int 10, .int 1, .int 60, .int 1, .int 0, .ref (jad (wO D τ x0 m0 b u v) 26), .ref (jad (wO D τ x0 m0 b u v) 27), .ref (jad (wO D τ x0 m0 b u v) 28), .ref (jad (wO D τ x0 m0 b u v) 29), .int 0, .ref (jad (wO D τ x0 m0 b u v) 30), .ref (jad (wO D τ x0 m0 b u v) 31), .ref (jad (wO D τ x0 m0 b u v) 32), .int 0, .ref (jad (wO D τ x0 m0 b u v) 33), .int 0, .ref (jad (wO D τ x0 m0 b u v) 34), .ref (jad (wO D τ x0 m0 b u v) 35), .ref (jad (wO D τ x0 m0 b u v) 36), .int 0]) : va_E)) := rfl
theorem wp_25 : (wW τ x0 m0 u v)[25]? = some (jad (wO D τ x0 m0 b u v) 25, (.inl ((wO D τ x0 m0 b u v).2.2.1, 20, .inl v.2) : va_E)) := rfl
theorem wp_26 : (wW τ x0 m0 u v)[26]? = some (jad (wO D τ x0 m0 b u v) 26, (.inl ((wO D τ x0 m0 b u v).2.2.1, 40, .inl (fun _ => 0)) : va_E)) := rfl
theorem wp_27 : (wW τ x0 m0 u v)[27]? = some (jad (wO D τ x0 m0 b u v) 27, (.inl ((wO D τ x0 m0 b u v).2.2.1, 40, .inl (fun _ => 0)) : va_E)) := rfl
theorem wp_28 : (wW τ x0 m0 u v)[28]? = some (jad (wO D τ x0 m0 b u v) 28, (.inl ((wO D τ x0 m0 b u v).2.2.1, 40, .inl (fun _ => 0)) : va_E)) := rfl
theorem wp_29 : (wW τ x0 m0 u v)[29]? = some (jad (wO D τ x0 m0 b u v) 29, (.inl ((wO D τ x0 m0 b u v).2.2.1, 1600, .inl (fun _ => 0)) : va_E)) := rfl
theorem wp_30 : (wW τ x0 m0 u v)[30]? = some (jad (wO D τ x0 m0 b u v) 30, (.inl ((wO D τ x0 m0 b u v).2.2.1, 60, .inl (fun _ => 0)) : va_E)) := rfl
theorem wp_31 : (wW τ x0 m0 u v)[31]? = some (jad (wO D τ x0 m0 b u v) 31, (.inl ((wO D τ x0 m0 b u v).2.2.1, 60, .inl (fun _ => 0)) : va_E)) := rfl
theorem wp_32 : (wW τ x0 m0 u v)[32]? = some (jad (wO D τ x0 m0 b u v) 32, (.inl ((wO D τ x0 m0 b u v).2.2.2.2.1, 60, .inl (fun _ => 0)) : va_E)) := rfl
theorem wp_33 : (wW τ x0 m0 u v)[33]? = some (jad (wO D τ x0 m0 b u v) 33, (.inl ((wO D τ x0 m0 b u v).2.2.1, 5, .inl (fun _ => 0)) : va_E)) := rfl
theorem wp_34 : (wW τ x0 m0 u v)[34]? = some (jad (wO D τ x0 m0 b u v) 34, (.inl ((wO D τ x0 m0 b u v).2.2.1, 7, .inl (fun _ => 0)) : va_E)) := rfl
theorem wp_35 : (wW τ x0 m0 u v)[35]? = some (jad (wO D τ x0 m0 b u v) 35, (.inl ((wO D τ x0 m0 b u v).2.2.1, 5, .inl (fun _ => 0)) : va_E)) := rfl
theorem wp_36 : (wW τ x0 m0 u v)[36]? = some (jad (wO D τ x0 m0 b u v) 36, (.inl ((wO D τ x0 m0 b u v).2.2.1, 5, .inl (fun _ => 0)) : va_E)) := rfl
theorem wq_0 : ∀ q, (jWO (wO D τ x0 m0 b u v) (jS0 u.2.1 u.2.2 v.2))[0]? = some q → (wW τ x0 m0 u v)[wpm 0]? = some q := by
  intro q hk
  rw [jWO_at (k := 0) (s := .inr (7, [some 1, some 7, some 10, some 14, some 15, some 17, some 18])) rfl, jw_0] at hk
  rw [← hk]
  exact wp_0
theorem wq_1 : ∀ q, (jWO (wO D τ x0 m0 b u v) (jS0 u.2.1 u.2.2 v.2))[1]? = some q → (wW τ x0 m0 u v)[wpm 1]? = some q := by
  intro q hk
  rw [jWO_at (k := 1) (s := .inr (6, [some 2, some 3, some 4, some 5, some 6, none])) rfl, jw_1] at hk
  rw [← hk]
  exact wp_1
theorem wq_2 : ∀ q, (jWO (wO D τ x0 m0 b u v) (jS0 u.2.1 u.2.2 v.2))[2]? = some q → (wW τ x0 m0 u v)[wpm 2]? = some q := by
  intro q hk
  rw [jWO_at (k := 2) (s := .inl (0, 40)) rfl, jw_2] at hk
  rw [← hk]
  exact wp_2
theorem wq_3 : ∀ q, (jWO (wO D τ x0 m0 b u v) (jS0 u.2.1 u.2.2 v.2))[3]? = some q → (wW τ x0 m0 u v)[wpm 3]? = some q := by
  intro q hk
  rw [jWO_at (k := 3) (s := .inl (0, 40)) rfl, jw_3] at hk
  rw [← hk]
  exact wp_3
theorem wq_4 : ∀ q, (jWO (wO D τ x0 m0 b u v) (jS0 u.2.1 u.2.2 v.2))[4]? = some q → (wW τ x0 m0 u v)[wpm 4]? = some q := by
  intro q hk
  rw [jWO_at (k := 4) (s := .inl (1, 20)) rfl, jw_4] at hk
  rw [← hk]
  exact wp_4
theorem wq_5 : ∀ q, (jWO (wO D τ x0 m0 b u v) (jS0 u.2.1 u.2.2 v.2))[5]? = some q → (wW τ x0 m0 u v)[wpm 5]? = some q := by
  intro q hk
  rw [jWO_at (k := 5) (s := .inl (0, 20)) rfl, jw_5] at hk
  rw [← hk]
  exact wp_5
theorem wq_6 : ∀ q, (jWO (wO D τ x0 m0 b u v) (jS0 u.2.1 u.2.2 v.2))[6]? = some q → (wW τ x0 m0 u v)[wpm 6]? = some q := by
  intro q hk
  rw [jWO_at (k := 6) (s := .inl (0, 1600)) rfl, jw_6] at hk
  rw [← hk]
  exact wp_6
theorem wq_7 : ∀ q, (jWO (wO D τ x0 m0 b u v) (jS0 u.2.1 u.2.2 v.2))[7]? = some q → (wW τ x0 m0 u v)[wpm 7]? = some q := by
  intro q hk
  rw [jWO_at (k := 7) (s := .inr (0, [some 8, some 9, none])) rfl, jw_7] at hk
  rw [← hk]
  exact wp_7
theorem wq_8 : ∀ q, (jWO (wO D τ x0 m0 b u v) (jS0 u.2.1 u.2.2 v.2))[8]? = some q → (wW τ x0 m0 u v)[wpm 8]? = some q := by
  intro q hk
  rw [jWO_at (k := 8) (s := .inl (1, 40)) rfl, jw_8] at hk
  rw [← hk]
  exact wp_8
theorem wq_9 : ∀ q, (jWO (wO D τ x0 m0 b u v) (jS0 u.2.1 u.2.2 v.2))[9]? = some q → (wW τ x0 m0 u v)[wpm 9]? = some q := by
  intro q hk
  rw [jWO_at (k := 9) (s := .inl (1, 40)) rfl, jw_9] at hk
  rw [← hk]
  exact wp_9
theorem wq_10 : ∀ q, (jWO (wO D τ x0 m0 b u v) (jS0 u.2.1 u.2.2 v.2))[10]? = some q → (wW τ x0 m0 u v)[wpm 10]? = some q := by
  intro q hk
  rw [jWO_at (k := 10) (s := .inr (2, [some 1, some 11, some 12, some 13, none, none])) rfl, jw_10] at hk
  rw [← hk]
  exact wp_10
theorem wq_11 : ∀ q, (jWO (wO D τ x0 m0 b u v) (jS0 u.2.1 u.2.2 v.2))[11]? = some q → (wW τ x0 m0 u v)[wpm 11]? = some q := by
  intro q hk
  rw [jWO_at (k := 11) (s := .inl (0, 40)) rfl, jw_11] at hk
  rw [← hk]
  exact wp_11
theorem wq_12 : ∀ q, (jWO (wO D τ x0 m0 b u v) (jS0 u.2.1 u.2.2 v.2))[12]? = some q → (wW τ x0 m0 u v)[wpm 12]? = some q := by
  intro q hk
  rw [jWO_at (k := 12) (s := .inl (1, 40)) rfl, jw_12] at hk
  rw [← hk]
  exact wp_12
theorem wq_13 : ∀ q, (jWO (wO D τ x0 m0 b u v) (jS0 u.2.1 u.2.2 v.2))[13]? = some q → (wW τ x0 m0 u v)[wpm 13]? = some q := by
  intro q hk
  rw [jWO_at (k := 13) (s := .inl (0, 40)) rfl, jw_13] at hk
  rw [← hk]
  exact wp_13
theorem wq_14 : ∀ q, (jWO (wO D τ x0 m0 b u v) (jS0 u.2.1 u.2.2 v.2))[14]? = some q → (wW τ x0 m0 u v)[wpm 14]? = some q := by
  intro q hk
  rw [jWO_at (k := 14) (s := .inr (5, [some 1, some 7, some 10, none])) rfl, jw_14] at hk
  rw [← hk]
  exact wp_14
theorem wq_15 : ∀ q, (jWO (wO D τ x0 m0 b u v) (jS0 u.2.1 u.2.2 v.2))[15]? = some q → (wW τ x0 m0 u v)[wpm 15]? = some q := by
  intro q hk
  rw [jWO_at (k := 15) (s := .inr (4, [some 1, some 7, some 16, none, none])) rfl, jw_15] at hk
  rw [← hk]
  exact wp_15
theorem wq_16 : ∀ q, (jWO (wO D τ x0 m0 b u v) (jS0 u.2.1 u.2.2 v.2))[16]? = some q → (wW τ x0 m0 u v)[wpm 16]? = some q := by
  intro q hk
  rw [jWO_at (k := 16) (s := .inl (1, 7)) rfl, jw_16] at hk
  rw [← hk]
  exact wp_16
theorem wq_17 : ∀ q, (jWO (wO D τ x0 m0 b u v) (jS0 u.2.1 u.2.2 v.2))[17]? = some q → (wW τ x0 m0 u v)[wpm 17]? = some q := by
  intro q hk
  rw [jWO_at (k := 17) (s := .inr (3, [some 1, none, none])) rfl, jw_17] at hk
  rw [← hk]
  exact wp_17
theorem wq_18 : ∀ q, (jWO (wO D τ x0 m0 b u v) (jS0 u.2.1 u.2.2 v.2))[18]? = some q → (wW τ x0 m0 u v)[wpm 18]? = some q := by
  intro q hk
  rw [jWO_at (k := 18) (s := .inr (1, [some 1, some 10, some 17, some 19, none, some 20, none, some 21, some 22, some 23, none])) rfl, jw_18] at hk
  rw [← hk]
  exact wp_18
theorem wq_19 : ∀ q, (jWO (wO D τ x0 m0 b u v) (jS0 u.2.1 u.2.2 v.2))[19]? = some q → (wW τ x0 m0 u v)[wpm 19]? = some q := by
  intro q hk
  rw [jWO_at (k := 19) (s := .inl (0, 5)) rfl, jw_19] at hk
  rw [← hk]
  exact wp_19
theorem wq_20 : ∀ q, (jWO (wO D τ x0 m0 b u v) (jS0 u.2.1 u.2.2 v.2))[20]? = some q → (wW τ x0 m0 u v)[wpm 20]? = some q := by
  intro q hk
  rw [jWO_at (k := 20) (s := .inl (0, 5)) rfl, jw_20] at hk
  rw [← hk]
  exact wp_20
theorem wq_21 : ∀ q, (jWO (wO D τ x0 m0 b u v) (jS0 u.2.1 u.2.2 v.2))[21]? = some q → (wW τ x0 m0 u v)[wpm 21]? = some q := by
  intro q hk
  rw [jWO_at (k := 21) (s := .inl (0, 25)) rfl, jw_21] at hk
  rw [← hk]
  exact wp_21
theorem wq_22 : ∀ q, (jWO (wO D τ x0 m0 b u v) (jS0 u.2.1 u.2.2 v.2))[22]? = some q → (wW τ x0 m0 u v)[wpm 22]? = some q := by
  intro q hk
  rw [jWO_at (k := 22) (s := .inl (0, 5)) rfl, jw_22] at hk
  rw [← hk]
  exact wp_22
theorem wq_23 : ∀ q, (jWO (wO D τ x0 m0 b u v) (jS0 u.2.1 u.2.2 v.2))[23]? = some q → (wW τ x0 m0 u v)[wpm 23]? = some q := by
  intro q hk
  rw [jWO_at (k := 23) (s := .inl (0, 5)) rfl, jw_23] at hk
  rw [← hk]
  exact wp_23
theorem wq_24 : ∀ q, (jWO (wO D τ x0 m0 b u v) (jS0 u.2.1 u.2.2 v.2))[24]? = some q → (wW τ x0 m0 u v)[wpm 24]? = some q := by
  intro q hk
  rw [jWO_at (k := 24) (s := .inr (8, [some 25, none, none, none, none, none, some 26, some 27, some 28, some 29, none, some 30, some 31, some 32, none, some 33, none, some 34, some 35, some 36, none])) rfl, jw_24] at hk
  rw [← hk]
  exact wp_24
theorem wq_25 : ∀ q, (jWO (wO D τ x0 m0 b u v) (jS0 u.2.1 u.2.2 v.2))[25]? = some q → (wW τ x0 m0 u v)[wpm 25]? = some q := by
  intro q hk
  rw [jWO_at (k := 25) (s := .inl (0, 20)) rfl, jw_25] at hk
  rw [← hk]
  exact wp_25
theorem wq_26 : ∀ q, (jWO (wO D τ x0 m0 b u v) (jS0 u.2.1 u.2.2 v.2))[26]? = some q → (wW τ x0 m0 u v)[wpm 26]? = some q := by
  intro q hk
  rw [jWO_at (k := 26) (s := .inl (0, 40)) rfl, jw_26] at hk
  rw [← hk]
  exact wp_26
theorem wq_27 : ∀ q, (jWO (wO D τ x0 m0 b u v) (jS0 u.2.1 u.2.2 v.2))[27]? = some q → (wW τ x0 m0 u v)[wpm 27]? = some q := by
  intro q hk
  rw [jWO_at (k := 27) (s := .inl (0, 40)) rfl, jw_27] at hk
  rw [← hk]
  exact wp_27
theorem wq_28 : ∀ q, (jWO (wO D τ x0 m0 b u v) (jS0 u.2.1 u.2.2 v.2))[28]? = some q → (wW τ x0 m0 u v)[wpm 28]? = some q := by
  intro q hk
  rw [jWO_at (k := 28) (s := .inl (0, 40)) rfl, jw_28] at hk
  rw [← hk]
  exact wp_28
theorem wq_29 : ∀ q, (jWO (wO D τ x0 m0 b u v) (jS0 u.2.1 u.2.2 v.2))[29]? = some q → (wW τ x0 m0 u v)[wpm 29]? = some q := by
  intro q hk
  rw [jWO_at (k := 29) (s := .inl (0, 1600)) rfl, jw_29] at hk
  rw [← hk]
  exact wp_29
theorem wq_30 : ∀ q, (jWO (wO D τ x0 m0 b u v) (jS0 u.2.1 u.2.2 v.2))[30]? = some q → (wW τ x0 m0 u v)[wpm 30]? = some q := by
  intro q hk
  rw [jWO_at (k := 30) (s := .inl (0, 60)) rfl, jw_30] at hk
  rw [← hk]
  exact wp_30
theorem wq_31 : ∀ q, (jWO (wO D τ x0 m0 b u v) (jS0 u.2.1 u.2.2 v.2))[31]? = some q → (wW τ x0 m0 u v)[wpm 31]? = some q := by
  intro q hk
  rw [jWO_at (k := 31) (s := .inl (0, 60)) rfl, jw_31] at hk
  rw [← hk]
  exact wp_31
theorem wq_32 : ∀ q, (jWO (wO D τ x0 m0 b u v) (jS0 u.2.1 u.2.2 v.2))[32]? = some q → (wW τ x0 m0 u v)[wpm 32]? = some q := by
  intro q hk
  rw [jWO_at (k := 32) (s := .inl (2, 60)) rfl, jw_32] at hk
  rw [← hk]
  exact wp_32
theorem wq_33 : ∀ q, (jWO (wO D τ x0 m0 b u v) (jS0 u.2.1 u.2.2 v.2))[33]? = some q → (wW τ x0 m0 u v)[wpm 33]? = some q := by
  intro q hk
  rw [jWO_at (k := 33) (s := .inl (0, 5)) rfl, jw_33] at hk
  rw [← hk]
  exact wp_33
theorem wq_34 : ∀ q, (jWO (wO D τ x0 m0 b u v) (jS0 u.2.1 u.2.2 v.2))[34]? = some q → (wW τ x0 m0 u v)[wpm 34]? = some q := by
  intro q hk
  rw [jWO_at (k := 34) (s := .inl (0, 7)) rfl, jw_34] at hk
  rw [← hk]
  exact wp_34
theorem wq_35 : ∀ q, (jWO (wO D τ x0 m0 b u v) (jS0 u.2.1 u.2.2 v.2))[35]? = some q → (wW τ x0 m0 u v)[wpm 35]? = some q := by
  intro q hk
  rw [jWO_at (k := 35) (s := .inl (0, 5)) rfl, jw_35] at hk
  rw [← hk]
  exact wp_35
theorem wq_36 : ∀ q, (jWO (wO D τ x0 m0 b u v) (jS0 u.2.1 u.2.2 v.2))[36]? = some q → (wW τ x0 m0 u v)[wpm 36]? = some q := by
  intro q hk
  rw [jWO_at (k := 36) (s := .inl (0, 5)) rfl, jw_36] at hk
  rw [← hk]
  exact wp_36
theorem wpm_at : ∀ k q, (jWO (wO D τ x0 m0 b u v) (jS0 u.2.1 u.2.2 v.2))[k]? = some q → (wW τ x0 m0 u v)[wpm k]? = some q := by
  intro k q hk
  exact by37 (P := fun k => ∀ q, (jWO (wO D τ x0 m0 b u v) (jS0 u.2.1 u.2.2 v.2))[k]? = some q → (wW τ x0 m0 u v)[wpm k]? = some q) wq_0 wq_1 wq_2 wq_3 wq_4 wq_5 wq_6 wq_7 wq_8 wq_9 wq_10 wq_11 wq_12 wq_13 wq_14 wq_15 wq_16 wq_17 wq_18 wq_19 wq_20 wq_21 wq_22 wq_23 wq_24 wq_25 wq_26 wq_27 wq_28 wq_29 wq_30 wq_31 wq_32 wq_33 wq_34 wq_35 wq_36 k (jWO_of hk).1 q hk
end jWe
theorem wpm_inj : ∀ i, i < 37 → ∀ j, j < 37 → wpm i = wpm j → i = j := by decide +kernel
