/-! ===== sums ===== -/
def js (f : Nat → Int) : Nat → Int
  | 0 => 0
  | n + 1 => js f n + f n
theorem js_congr {f g : Nat → Int} {n : Nat} (h : ∀ i, i < n → f i = g i) : js f n = js g n := by
  induction n with
  | zero => rfl
  | succ n ih =>
    simp only [js]
    rw [ih (fun i hi => h i (by omega)), h n (by omega)]
theorem js_le {f : Nat → Int} {n : Nat} {b : Int} (h : ∀ i, i < n → 0 ≤ f i ∧ f i ≤ b) : 0 ≤ js f n ∧ js f n ≤ n * b := by
  induction n with
  | zero => simp [js]
  | succ n ih =>
    have h1 := ih (fun i hi => h i (by omega))
    have h2 := h n (by omega)
    simp only [js]
    have e : ((n + 1 : Nat) : Int) * b = n * b + b := by rw [show ((n + 1 : Nat) : Int) = (n : Int) + 1 by omega, Int.add_mul, Int.one_mul]
    omega
/-! ===== Uses ===== -/
set_option maxRecDepth 100000 in
theorem bitraw_ok {d : Nat} {σ : jMem} {K : Option Value → jMem → Prop} {u : Nat} (h : u < 63) (hK : K (some (.long (jL ((2 ^ u : Nat) : Int)))) σ) : jRun d mX7_bit [.int (jI (u : Int))] σ K := by
  refine jenter (lv := [_]) rfl rfl (Nat.le_of_ble_eq_true rfl) ?_
  refine jr_lconst (x := 1) gM dX7_bit_0 rfl rfl ?_
  refine jr_iload_n gM dX7_bit_1 rfl rfl ?_
  refine jr_lshl (((2 ^ u : Nat) : Int)) gM dX7_bit_2 rfl (by have := wb_shl 1 (k := u) (by omega); rw [Nat.one_mul] at this; exact this) ?_
  refine jr_lreturn dX7_bit_3 rfl ?_
  exact hK
set_option maxRecDepth 100000 in
theorem all_ok {d : Nat} {σ : jMem} {K : Option Value → jMem → Prop} {n : Nat} (hn : σ 1 5 = (n : Int)) (hn2 : n ≤ 40) (hK : K (some (.long (jL (jk (fun i => decide (i < n)))))) σ) : jRun (d + 1) mX6_all [.ref 1] σ K := by
  refine jenter (lv := [_]) rfl rfl (Nat.le_of_ble_eq_true rfl) ?_
  refine jr_aload_n gM dX6_all_0 rfl rfl ?_
  refine jr_gfi gM dX6_all_1 rfl fX6_34 rfl rfl ?_
  rw [hn]
  refine jr_inn (as := [_]) gM dX6_all_4 rfl kX6_38 rfl rfl (Nat.le_of_ble_eq_true rfl) ?_
  refine bitraw_ok (by omega) ?_
  dsimp only [Option.toList, List.cons_append, List.nil_append]
  refine jr_lconst (x := 1) gM dX6_all_7 rfl rfl ?_
  refine jr_lsub gM dX6_all_8 rfl ?_
  have e : ((2 ^ n : Nat) : Int) - 1 = jk (fun i => decide (i < n)) := by
    unfold jk
    rw [← jm_all hn2]
    have := Nat.two_pow_pos n
    omega
  rw [e]
  refine jr_lreturn dX6_all_9 rfl ?_
  exact hK
set_option maxRecDepth 100000 in
theorem toGroup_ok {d : Nat} {σ : jMem} {K : Option Value → jMem → Prop} {n u : Nat} {p : Nat → Bool} (hn : σ 1 5 = (n : Int)) (hn2 : n ≤ 40) (hu : u < 40) (hK : K (some (.int (jI (js (fun o => if p o then σ 6 (u * 40 + o) else 0) n)))) σ) : jRun (d + 1) mX6_toGroup [.ref 1, .int (jI (u : Int)), .long (jL (jk p))] σ K := by
  refine jenter (lv := [_, _, _, _, _, _]) rfl rfl (Nat.le_of_ble_eq_true rfl) ?_
  refine jr_iconst gM dX6_toGroup_0 rfl ?_
  refine jr_istore (lv' := [_, _, _, _, _, _]) gM dX6_toGroup_1 rfl rfl (Nat.le_of_ble_eq_true rfl) ?_
  refine jr_iconst gM dX6_toGroup_3 rfl ?_
  refine jr_istore (lv' := [_, _, _, _, _, _]) gM dX6_toGroup_4 rfl rfl (Nat.le_of_ble_eq_true rfl) ?_
  have lp : ∀ i, i ≤ n → jV (jP mX6_toGroup (d + 1) K) 6 [some (.ref 1), some (.int (jI (u : Int))), some (.long (jL (jk p))), none, some (.int (jI (js (fun o => if p o then σ 6 (u * 40 + o) else 0) i))), some (.int (jI (i : Int)))] [] σ := by
    refine jdown n ?_
    intro i hi ih
    refine jr_iload gM dX6_toGroup_6 rfl rfl ?_
    refine jr_aload_n gM dX6_toGroup_8 rfl rfl ?_
    refine jr_gfi gM dX6_toGroup_9 rfl fX6_34 rfl rfl ?_
    refine jr_icmp_ge gM dX6_toGroup_12 rfl rfl ⟨by omega, by omega⟩ ⟨by omega, by omega⟩ (fun c12 => ?_) (fun c12 => ?_)
    · refine jr_iload gM dX6_toGroup_42 rfl rfl ?_
      refine jr_ireturn dX6_toGroup_44 rfl ?_
      have e : i = n := by omega
      subst e
      exact hK
    · have h := ih (i + 1) (by omega) (by omega)
      refine jr_lload_n gM dX6_toGroup_15 rfl rfl ?_
      refine jr_iload gM dX6_toGroup_16 rfl rfl ?_
      refine jr_inn (as := [_, _]) gM dX6_toGroup_18 rfl kX6_53 rfl rfl (Nat.le_of_ble_eq_true rfl) ?_
      refine holds_ok (by omega) ?_
      dsimp only [Option.toList, List.cons_append, List.nil_append]
      refine jr_pb_eq gM dX6_toGroup_21 rfl rfl (fun c21 => ?_) (fun c21 => ?_)
      · refine jr_iinc (lv' := [_, _, _, _, _, _]) gM dX6_toGroup_36 rfl rfl rfl ?_
        refine jr_goto gM dX6_toGroup_39 rfl ?_
        rw [show js (fun o => if p o then σ 6 (u * 40 + o) else 0) (i + 1) = js (fun o => if p o then σ 6 (u * 40 + o) else 0) i by simp [js, c21]] at h
        exact h
      · refine jr_iload gM dX6_toGroup_24 rfl rfl ?_
        refine jr_aload_n gM dX6_toGroup_26 rfl rfl ?_
        refine jr_iload_n gM dX6_toGroup_27 rfl rfl ?_
        refine jr_iload gM dX6_toGroup_28 rfl rfl ?_
        refine jr_inv (as := [_, _]) gM dX6_toGroup_30 rfl kX6_50 rfl rfl rfl (Nat.le_of_ble_eq_true rfl) ?_
        refine between_ok hu (by omega) ?_
        dsimp only [Option.toList, List.cons_append, List.nil_append]
        refine jr_iadd gM dX6_toGroup_33 rfl ?_
        refine jr_istore (lv' := [_, _, _, _, _, _]) gM dX6_toGroup_34 rfl rfl (Nat.le_of_ble_eq_true rfl) ?_
        refine jr_iinc (lv' := [_, _, _, _, _, _]) gM dX6_toGroup_36 rfl rfl rfl ?_
        refine jr_goto gM dX6_toGroup_39 rfl ?_
        rw [show js (fun o => if p o then σ 6 (u * 40 + o) else 0) (i + 1) = js (fun o => if p o then σ 6 (u * 40 + o) else 0) i + σ 6 (u * 40 + i) by simp [js, c21]] at h
        exact h
  exact lp 0 (Nat.zero_le _)
