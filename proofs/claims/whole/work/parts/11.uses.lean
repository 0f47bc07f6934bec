/-! ===== sums ===== -/
def js (f : Nat → Int) : Nat → Int
  | 0 => 0
  | n + 1 => js f n + f n
theorem js_congr {f g : Nat → Int} {n : Nat} (h : ∀ i, i < n → f i = g i) : js f n = js g n := by
  induction n with
  | zero => rfl
  | succ n ih =>
    simp only [js]
    rw [ih (fun i hi => h i (by omega)), h n (by omega)]
theorem js_le {f : Nat → Int} {n : Nat} {b : Int} (h : ∀ i, i < n → 0 ≤ f i ∧ f i ≤ b) : 0 ≤ js f n ∧ js f n ≤ n * b := by
  induction n with
  | zero => simp [js]
  | succ n ih =>
    have h1 := ih (fun i hi => h i (by omega))
    have h2 := h n (by omega)
    simp only [js]
    have e : ((n + 1 : Nat) : Int) * b = n * b + b := by rw [show ((n + 1 : Nat) : Int) = (n : Int) + 1 by omega, Int.add_mul, Int.one_mul]
    omega
/-! ===== Uses ===== -/
set_option maxRecDepth 100000 in
theorem bitraw_ok {d : Nat} {σ : jMem} {K : Option Value → jMem → Prop} {u : Nat} (h : u < 63) (hK : K (some (.long (jL ((2 ^ u : Nat) : Int)))) σ) : jRun d mX7_bit [.int (jI (u : Int))] σ K := by
  refine jenter (lv := [_]) rfl rfl (Nat.le_of_ble_eq_true rfl) ?_
  refine jr_lconst (x := 1) gM dX7_bit_0 rfl rfl ?_
  refine jr_iload_n gM dX7_bit_1 rfl rfl ?_
  refine jr_lshl (((2 ^ u : Nat) : Int)) gM dX7_bit_2 rfl (by have := wb_shl 1 (k := u) (by omega); rw [Nat.one_mul] at this; exact this) ?_
  refine jr_lreturn dX7_bit_3 rfl ?_
  exact hK
set_option maxRecDepth 100000 in
theorem all_ok {d : Nat} {σ : jMem} {K : Option Value → jMem → Prop} {n : Nat} (hn : σ 1 5 = (n : Int)) (hn2 : n ≤ 40) (hK : K (some (.long (jL (jk (fun i => decide (i < n)))))) σ) : jRun (d + 1) mX6_all [.ref 1] σ K := by
  refine jenter (lv := [_]) rfl rfl (Nat.le_of_ble_eq_true rfl) ?_
  refine jr_aload_n gM dX6_all_0 rfl rfl ?_
  refine jr_gfi gM dX6_all_1 rfl fX6_34 rfl rfl ?_
  rw [hn]
  refine jr_inn (as := [_]) gM dX6_all_4 rfl kX6_38 rfl rfl (Nat.le_of_ble_eq_true rfl) ?_
  refine bitraw_ok (by omega) ?_
  dsimp only [Option.toList, List.cons_append, List.nil_append]
  refine jr_lconst (x := 1) gM dX6_all_7 rfl rfl ?_
  refine jr_lsub gM dX6_all_8 rfl ?_
  have e : ((2 ^ n : Nat) : Int) - 1 = jk (fun i => decide (i < n)) := by
    unfold jk
    rw [← jm_all hn2]
    have := Nat.two_pow_pos n
    omega
  rw [e]
  refine jr_lreturn dX6_all_9 rfl ?_
  exact hK
set_option maxRecDepth 100000 in
theorem toGroup_ok {d : Nat} {σ : jMem} {K : Option Value → jMem → Prop} {n u : Nat} {p : Nat → Bool} (hn : σ 1 5 = (n : Int)) (hn2 : n ≤ 40) (hu : u < 40) (hK : K (some (.int (jI (js (fun o => if p o then σ 6 (u * 40 + o) else 0) n)))) σ) : jRun (d + 1) mX6_toGroup [.ref 1, .int (jI (u : Int)), .long (jL (jk p))] σ K := by
  refine jenter (lv := [_, _, _, _, _, _]) rfl rfl (Nat.le_of_ble_eq_true rfl) ?_
  refine jr_iconst gM dX6_toGroup_0 rfl ?_
  refine jr_istore (lv' := [_, _, _, _, _, _]) gM dX6_toGroup_1 rfl rfl (Nat.le_of_ble_eq_true rfl) ?_
  refine jr_iconst gM dX6_toGroup_3 rfl ?_
  refine jr_istore (lv' := [_, _, _, _, _, _]) gM dX6_toGroup_4 rfl rfl (Nat.le_of_ble_eq_true rfl) ?_
  have lp : ∀ i, i ≤ n → jV (jP mX6_toGroup (d + 1) K) 6 [some (.ref 1), some (.int (jI (u : Int))), some (.long (jL (jk p))), none, some (.int (jI (js (fun o => if p o then σ 6 (u * 40 + o) else 0) i))), some (.int (jI (i : Int)))] [] σ := by
    refine jdown n ?_
    intro i hi ih
    refine jr_iload gM dX6_toGroup_6 rfl rfl ?_
    refine jr_aload_n gM dX6_toGroup_8 rfl rfl ?_
    refine jr_gfi gM dX6_toGroup_9 rfl fX6_34 rfl rfl ?_
    refine jr_icmp_ge gM dX6_toGroup_12 rfl rfl ⟨by omega, by omega⟩ ⟨by omega, by omega⟩ (fun c12 => ?_) (fun c12 => ?_)
    · refine jr_iload gM dX6_toGroup_42 rfl rfl ?_
      refine jr_ireturn dX6_toGroup_44 rfl ?_
      have e : i = n := by omega
      subst e
      exact hK
    · have h := ih (i + 1) (by omega) (by omega)
      refine jr_lload_n gM dX6_toGroup_15 rfl rfl ?_
      refine jr_iload gM dX6_toGroup_16 rfl rfl ?_
      refine jr_inn (as := [_, _]) gM dX6_toGroup_18 rfl kX6_53 rfl rfl (Nat.le_of_ble_eq_true rfl) ?_
      refine holds_ok (by omega) ?_
      dsimp only [Option.toList, List.cons_append, List.nil_append]
      refine jr_pb_eq gM dX6_toGroup_21 rfl rfl (fun c21 => ?_) (fun c21 => ?_)
      · refine jr_iinc (lv' := [_, _, _, _, _, _]) gM dX6_toGroup_36 rfl rfl rfl ?_
        refine jr_goto gM dX6_toGroup_39 rfl ?_
        rw [show js (fun o => if p o then σ 6 (u * 40 + o) else 0) (i + 1) = js (fun o => if p o then σ 6 (u * 40 + o) else 0) i by simp [js, c21]] at h
        exact h
      · refine jr_iload gM dX6_toGroup_24 rfl rfl ?_
        refine jr_aload_n gM dX6_toGroup_26 rfl rfl ?_
        refine jr_iload_n gM dX6_toGroup_27 rfl rfl ?_
        refine jr_iload gM dX6_toGroup_28 rfl rfl ?_
        refine jr_inv (as := [_, _]) gM dX6_toGroup_30 rfl kX6_50 rfl rfl rfl (Nat.le_of_ble_eq_true rfl) ?_
        refine between_ok hu (by omega) ?_
        dsimp only [Option.toList, List.cons_append, List.nil_append]
        refine jr_iadd gM dX6_toGroup_33 rfl ?_
        refine jr_istore (lv' := [_, _, _, _, _, _]) gM dX6_toGroup_34 rfl rfl (Nat.le_of_ble_eq_true rfl) ?_
        refine jr_iinc (lv' := [_, _, _, _, _, _]) gM dX6_toGroup_36 rfl rfl rfl ?_
        refine jr_goto gM dX6_toGroup_39 rfl ?_
        rw [show js (fun o => if p o then σ 6 (u * 40 + o) else 0) (i + 1) = js (fun o => if p o then σ 6 (u * 40 + o) else 0) i + σ 6 (u * 40 + i) by simp [js, c21]] at h
        exact h
  exact lp 0 (Nat.zero_le _)
theorem jx_xor (a b : Nat) : jI (a : Int) ^^^ jI (b : Int) = jI ((a ^^^ b : Nat) : Int) := nx_xor a b
theorem jx_shr {a k : Nat} (ha : a < 2147483648) (hk : k < 32) : jI (a : Int) >>> (jI (k : Int) &&& 31) = jI ((a / 2 ^ k : Nat) : Int) := pk_shrN (by omega) _ k (s_l k hk)
theorem jx_lo {a k : Nat} (ha : a < 2147483648) : jI ((a / 2 ^ k : Nat) : Int) &&& jI 1 = jI (bI (a.testBit k = true)) := by
  have h1 : a / 2 ^ k < 2 ^ 32 := Nat.lt_of_le_of_lt (Nat.div_le_self _ _) (by omega)
  have h2 : nI (a / 2 ^ k) &&& (1 : Int32) = nI (a / 2 ^ k % 2 ^ 1) := pk_andN h1 1 (by decide)
  have h3 : jI (bI (a.testBit k = true)) = nI (a / 2 ^ k % 2 ^ 1) := by
    rw [Nat.testBit_eq_decide_div_mod_eq]
    unfold bI
    have := Nat.mod_lt (a / 2 ^ k) (show 2 > 0 by omega)
    by_cases e : a / 2 ^ k % 2 = 1
    · simp [e]
      rfl
    · have e2 : a / 2 ^ k % 2 = 0 := by omega
      simp [e2]
      rfl
  rw [h3]
  exact h2
theorem jx_xlt {a b n : Nat} (ha : a < 2 ^ n) (hb : b < 2 ^ n) : a ^^^ b < 2 ^ n := Nat.xor_lt_two_pow ha hb
/-- FAR of two sets of neighbours, by weights w -/
def jfar (w : Nat → Int) (a b : Nat) : Int := js (fun k => if (a ^^^ b).testBit k then w k else 0) 20
theorem jfar_self (w : Nat → Int) (a : Nat) : jfar w a a = 0 := by
  unfold jfar
  rw [Nat.xor_self]
  simp [js]
theorem jfar_symm (w : Nat → Int) (a b : Nat) : jfar w a b = jfar w b a := by
  unfold jfar
  rw [Nat.xor_comm]
theorem jfar_congr {w v : Nat → Int} {a b : Nat} (h : ∀ k, k < 20 → w k = v k) : jfar w a b = jfar v a b := by
  unfold jfar
  apply js_congr
  intro i hi
  rw [h i hi]
theorem jfar_le {w : Nat → Int} {a b : Nat} (h : ∀ k, k < 20 → 1 ≤ w k ∧ w k ≤ 9) : 0 ≤ jfar w a b ∧ jfar w a b ≤ 180 := by
  have := js_le (f := fun k => if (a ^^^ b).testBit k then w k else 0) (n := 20) (b := 9) (fun i hi => by
    have := h i hi
    split <;> omega)
  unfold jfar
  omega
set_option maxRecDepth 100000 in
theorem apart_ok {d : Nat} {σ : jMem} {K : Option Value → jMem → Prop} {a b : Nat} (ha : a < 2 ^ 20) (hb : b < 2 ^ 20) (hK : K (some (.int (jI (jfar (σ 5) a b)))) σ) : jRun d mX6_apart [.ref 1, .int (jI (a : Int)), .int (jI (b : Int))] σ K := by
  have hx := jx_xlt ha hb
  refine jenter (lv := [_, _, _, _, _, _]) rfl rfl (Nat.le_of_ble_eq_true rfl) ?_
  refine jr_iload_n gM dX6_apart_0 rfl rfl ?_
  refine jr_iload_n gM dX6_apart_1 rfl rfl ?_
  refine jr_ixor (((a ^^^ b : Nat) : Int)) gM dX6_apart_2 rfl (jx_xor a b) ?_
  refine jr_istore_n (lv' := [_, _, _, _, _, _]) gM dX6_apart_3 rfl rfl (Nat.le_of_ble_eq_true rfl) ?_
  refine jr_iconst gM dX6_apart_4 rfl ?_
  refine jr_istore (lv' := [_, _, _, _, _, _]) gM dX6_apart_5 rfl rfl (Nat.le_of_ble_eq_true rfl) ?_
  refine jr_iconst gM dX6_apart_7 rfl ?_
  refine jr_istore (lv' := [_, _, _, _, _, _]) gM dX6_apart_8 rfl rfl (Nat.le_of_ble_eq_true rfl) ?_
  have lp : ∀ i, i ≤ 20 → jV (jP mX6_apart d K) 10 [some (.ref 1), some (.int (jI (a : Int))), some (.int (jI (b : Int))), some (.int (jI ((a ^^^ b : Nat) : Int))), some (.int (jI (js (fun k => if (a ^^^ b).testBit k then σ 5 k else 0) i))), some (.int (jI (i : Int)))] [] σ := by
    refine jdown 20 ?_
    intro i hi ih
    refine jr_iload gM dX6_apart_10 rfl rfl ?_
    refine jr_bipush gM dX6_apart_12 rfl rfl ?_
    refine jr_icmp_ge gM dX6_apart_14 rfl rfl ⟨by omega, by omega⟩ ⟨by omega, by omega⟩ (fun c14 => ?_) (fun c14 => ?_)
    · refine jr_iload gM dX6_apart_44 rfl rfl ?_
      refine jr_ireturn dX6_apart_46 rfl ?_
      have e : i = 20 := by omega
      subst e
      exact hK
    · have h := ih (i + 1) (by omega) (by omega)
      refine jr_iload_n gM dX6_apart_17 rfl rfl ?_
      refine jr_iload gM dX6_apart_18 rfl rfl ?_
      refine jr_ishr ((((a ^^^ b) / 2 ^ i : Nat) : Int)) gM dX6_apart_20 rfl (jx_shr (by omega) (by omega)) ?_
      refine jr_iconst gM dX6_apart_21 rfl ?_
      refine jr_iand (bI ((a ^^^ b).testBit i = true)) gM dX6_apart_22 rfl (jx_lo (by omega)) ?_
      refine jr_pb_eq gM dX6_apart_23 rfl rfl (fun c23 => ?_) (fun c23 => ?_)
      · refine jr_iinc (lv' := [_, _, _, _, _, _]) gM dX6_apart_38 rfl rfl rfl ?_
        refine jr_goto gM dX6_apart_41 rfl ?_
        rw [show js (fun k => if (a ^^^ b).testBit k then σ 5 k else 0) (i + 1) = js (fun k => if (a ^^^ b).testBit k then σ 5 k else 0) i by simp [js, c23]] at h
        exact h
      · refine jr_iload gM dX6_apart_26 rfl rfl ?_
        refine jr_aload_n gM dX6_apart_28 rfl rfl ?_
        refine jr_gfr gM dX6_apart_29 rfl fX6_22 rfl rfl ?_
        refine jr_iload gM dX6_apart_32 rfl rfl ?_
        refine jr_iald _ gM dX6_apart_34 rfl rfl rfl (by omega) (by decide) ?_
        refine jr_iadd gM dX6_apart_35 rfl ?_
        refine jr_istore (lv' := [_, _, _, _, _, _]) gM dX6_apart_36 rfl rfl (Nat.le_of_ble_eq_true rfl) ?_
        refine jr_iinc (lv' := [_, _, _, _, _, _]) gM dX6_apart_38 rfl rfl rfl ?_
        refine jr_goto gM dX6_apart_41 rfl ?_
        rw [show js (fun k => if (a ^^^ b).testBit k then σ 5 k else 0) (i + 1) = js (fun k => if (a ^^^ b).testBit k then σ 5 k else 0) i + σ 5 i by simp [js, c23]] at h
        exact h
  exact lp 0 (by omega)
set_option maxRecDepth 100000 in
theorem setBetween_ok {d : Nat} {σ : jMem} {K : Option Value → jMem → Prop} {a b : Nat} {x : Int} (ha : a < 40) (hb : b < 40) (hK : K none (jup (jup σ 6 (a * 40 + b) x) 6 (b * 40 + a) x)) : jRun d mX6_setBetween [.ref 1, .int (jI (a : Int)), .int (jI (b : Int)), .int (jI x)] σ K := by
  refine jenter (lv := [_, _, _, _]) rfl rfl (Nat.le_of_ble_eq_true rfl) ?_
  refine jr_aload_n gM dX6_setBetween_0 rfl rfl ?_
  refine jr_gfr gM dX6_setBetween_1 rfl fX6_25 rfl rfl ?_
  refine jr_iload_n gM dX6_setBetween_4 rfl rfl ?_
  refine jr_bipush gM dX6_setBetween_5 rfl rfl ?_
  refine jr_imul gM dX6_setBetween_7 rfl ?_
  refine jr_iload_n gM dX6_setBetween_8 rfl rfl ?_
  refine jr_iadd gM dX6_setBetween_9 rfl ?_
  refine jr_iload_n gM dX6_setBetween_10 rfl rfl ?_
  refine jr_iast (a * 40 + b) gM dX6_setBetween_11 rfl rfl (by omega) (by omega) (by decide) ?_
  refine jr_aload_n gM dX6_setBetween_12 rfl rfl ?_
  refine jr_gfr gM dX6_setBetween_13 rfl fX6_25 rfl rfl ?_
  refine jr_iload_n gM dX6_setBetween_16 rfl rfl ?_
  refine jr_bipush gM dX6_setBetween_17 rfl rfl ?_
  refine jr_imul gM dX6_setBetween_19 rfl ?_
  refine jr_iload_n gM dX6_setBetween_20 rfl rfl ?_
  refine jr_iadd gM dX6_setBetween_21 rfl ?_
  refine jr_iload_n gM dX6_setBetween_22 rfl rfl ?_
  refine jr_iast (b * 40 + a) gM dX6_setBetween_23 rfl rfl (by omega) (by omega) (by decide) ?_
  refine jr_vreturn dX6_setBetween_24 rfl ?_
  exact hK
set_option maxRecDepth 100000 in
theorem ofYears_ok {d : Nat} {σ : jMem} {K : Option Value → jMem → Prop} {n : Nat} {p : Nat → Bool} {x y : Int} (hn : σ 1 5 = (n : Int)) (hn2 : n ≤ 40) (hx : jR x) (hy : jR y) (hyr : ∀ u, u < n → jR (σ 3 u)) (hK : K (some (.int (jI (js (fun u => bI (p u = true ∧ x ≤ σ 3 u ∧ σ 3 u ≤ y)) n)))) σ) : jRun (d + 1) mX6_ofYears [.ref 1, .long (jL (jk p)), .int (jI x), .int (jI y)] σ K := by
  refine jenter (lv := [_, _, _, _, _, _, _]) rfl rfl (Nat.le_of_ble_eq_true rfl) ?_
  refine jr_iconst gM dX6_ofYears_0 rfl ?_
  refine jr_istore (lv' := [_, _, _, _, _, _, _]) gM dX6_ofYears_1 rfl rfl (Nat.le_of_ble_eq_true rfl) ?_
  refine jr_iconst gM dX6_ofYears_3 rfl ?_
  refine jr_istore (lv' := [_, _, _, _, _, _, _]) gM dX6_ofYears_4 rfl rfl (Nat.le_of_ble_eq_true rfl) ?_
  have lp : ∀ i, i ≤ n → jV (jP mX6_ofYears (d + 1) K) 6 [some (.ref 1), some (.long (jL (jk p))), none, some (.int (jI x)), some (.int (jI y)), some (.int (jI (js (fun u => bI (p u = true ∧ x ≤ σ 3 u ∧ σ 3 u ≤ y)) i))), some (.int (jI (i : Int)))] [] σ := by
    refine jdown n ?_
    intro i hi ih
    refine jr_iload gM dX6_ofYears_6 rfl rfl ?_
    refine jr_aload_n gM dX6_ofYears_8 rfl rfl ?_
    refine jr_gfi gM dX6_ofYears_9 rfl fX6_34 rfl rfl ?_
    refine jr_icmp_ge gM dX6_ofYears_12 rfl rfl ⟨by omega, by omega⟩ ⟨by omega, by omega⟩ (fun c12 => ?_) (fun c12 => ?_)
    · refine jr_iload gM dX6_ofYears_49 rfl rfl ?_
      refine jr_ireturn dX6_ofYears_51 rfl ?_
      have e : i = n := by omega
      subst e
      exact hK
    · have h := ih (i + 1) (by omega) (by omega)
      have e0 : js (fun u => bI (p u = true ∧ x ≤ σ 3 u ∧ σ 3 u ≤ y)) (i + 1) = js (fun u => bI (p u = true ∧ x ≤ σ 3 u ∧ σ 3 u ≤ y)) i + bI (p i = true ∧ x ≤ σ 3 i ∧ σ 3 i ≤ y) := rfl
      rw [e0] at h
      refine jr_lload_n gM dX6_ofYears_15 rfl rfl ?_
      refine jr_iload gM dX6_ofYears_16 rfl rfl ?_
      refine jr_inn (as := [_, _]) gM dX6_ofYears_18 rfl kX6_53 rfl rfl (Nat.le_of_ble_eq_true rfl) ?_
      refine holds_ok (by omega) ?_
      dsimp only [Option.toList, List.cons_append, List.nil_append]
      refine jr_pb_eq gM dX6_ofYears_21 rfl rfl (fun c21 => ?_) (fun c21 => ?_)
      · refine jr_iinc (lv' := [_, _, _, _, _, _, _]) gM dX6_ofYears_43 rfl rfl rfl ?_
        refine jr_goto gM dX6_ofYears_46 rfl ?_
        rw [bI_f (fun q => c21 q.1), Int.add_zero] at h
        exact h
      · refine jr_aload_n gM dX6_ofYears_24 rfl rfl ?_
        refine jr_gfr gM dX6_ofYears_25 rfl fX6_15 rfl rfl ?_
        refine jr_iload gM dX6_ofYears_28 rfl rfl ?_
        refine jr_iald _ gM dX6_ofYears_30 rfl rfl rfl (by omega) (by decide) ?_
        refine jr_iload_n gM dX6_ofYears_31 rfl rfl ?_
        refine jr_iload gM dX6_ofYears_32 rfl rfl ?_
        refine jr_inn (as := [_, _, _]) gM dX6_ofYears_34 rfl kX6_57 rfl rfl (Nat.le_of_ble_eq_true rfl) ?_
        refine within_ok (hyr i (by omega)) hx hy ?_
        dsimp only [Option.toList, List.cons_append, List.nil_append]
        refine jr_pb_eq gM dX6_ofYears_37 rfl rfl (fun c37 => ?_) (fun c37 => ?_)
        · refine jr_iinc (lv' := [_, _, _, _, _, _, _]) gM dX6_ofYears_43 rfl rfl rfl ?_
          refine jr_goto gM dX6_ofYears_46 rfl ?_
          rw [bI_f (fun q => c37 q.2), Int.add_zero] at h
          exact h
        · refine jr_iinc (lv' := [_, _, _, _, _, _, _]) gM dX6_ofYears_40 rfl rfl rfl ?_
          refine jr_iinc (lv' := [_, _, _, _, _, _, _]) gM dX6_ofYears_43 rfl rfl rfl ?_
          refine jr_goto gM dX6_ofYears_46 rfl ?_
          rw [bI_t ⟨c21, c37⟩] at h
          exact h
  exact lp 0 (by omega)
