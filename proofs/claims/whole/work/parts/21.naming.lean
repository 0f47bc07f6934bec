/-! ===== Naming ===== -/
theorem jx_or (a b : Nat) : jI (a : Int) ||| jI (b : Int) = jI ((a ||| b : Nat) : Int) := fa_or a b
theorem jx_shl {k : Nat} (hk : k < 31) : jI 1 <<< (jI (k : Int) &&& 31) = jI ((2 ^ k : Nat) : Int) := by
  have h2 : 2 ^ k ≤ 2 ^ 30 := Nat.pow_le_pow_right (by omega) (by omega)
  have := pk_shlN (n := 1) (nI k &&& 31) k (s_l k (by omega)) (by omega)
  rw [Nat.one_mul] at this
  exact this
theorem jm_push {p : Nat → Bool} {n : Nat} (h : p n = true) : jm p n ||| 2 ^ n = jm p (n + 1) := by
  apply jm_eq
  intro i
  rw [Nat.testBit_or, jm_tb, Nat.testBit_two_pow]
  by_cases e : n = i
  · subst e
    simp [h]
  · by_cases q : i < n
    · simp [q, e, Nat.lt_succ_of_lt q]
    · simp [q, e, show ¬ i < n + 1 by omega]
theorem jm_skip {p : Nat → Bool} {n : Nat} (h : ¬ p n = true) : jm p (n + 1) = jm p n := by
  simp only [jm]
  rw [if_neg h, Nat.add_zero]
def hvF (n : Nat) (nb : Nat → Nat) (k : Nat) : Nat → Bool := fun u => decide (u < n) && (nb u).testBit k
/-- CORE of the uses q: the neighbours that at least half of them have -/
def coF (n : Nat) (nb : Nat → Nat) (q : Nat → Bool) : Nat → Bool := fun k => decide (jn q 40 ≤ 2 * jn (fun u => hvF n nb k u && q u) 40)
set_option maxRecDepth 100000 in
theorem coreOf_ok {d : Nat} {σ : jMem} {K : Option Value → jMem → Prop} {n : Nat} {nb : Nat → Nat} {yr wt : Nat → Int} {q : Nat → Bool} (hU : UI n nb yr wt σ) (hK : K (some (.int (jI ((jm (coF n nb q) 20 : Nat) : Int)))) σ) : jRun (d + 1) mX3_coreOf [.ref 17, .long (jL (jk q))] σ K := by
  have hq := jn_le q 40
  refine jenter (lv := [_, _, _, _, _, _]) rfl rfl (Nat.le_of_ble_eq_true rfl) ?_
  refine jr_lload_n (pc' := 1) gM dX3_coreOf_0 rfl rfl ?_
  refine jr_ins (pc' := 4) (as := [_]) gM dX3_coreOf_1 rfl kX3_22 rfl rfl (Nat.le_of_ble_eq_true rfl) ?_
  refine bitCount_ok ?_
  dsimp only [Option.toList, List.cons_append, List.nil_append]
  refine jr_istore_n (pc' := 5) (lv' := [_, _, _, _, _, _]) gM dX3_coreOf_4 rfl rfl (Nat.le_of_ble_eq_true rfl) ?_
  refine jr_iconst (pc' := 6) gM dX3_coreOf_5 rfl ?_
  refine jr_istore (pc' := 8) (lv' := [_, _, _, _, _, _]) gM dX3_coreOf_6 rfl rfl (Nat.le_of_ble_eq_true rfl) ?_
  refine jr_iconst (pc' := 9) gM dX3_coreOf_8 rfl ?_
  refine jr_istore (pc' := 11) (lv' := [_, _, _, _, _, _]) gM dX3_coreOf_9 rfl rfl (Nat.le_of_ble_eq_true rfl) ?_
  have lp : ∀ i, i ≤ 20 → jV (jP mX3_coreOf (d + 1) K) 11 [some (.ref 17), some (.long (jL (jk q))), none, some (.int (jI ((jn q 40 : Nat) : Int))), some (.int (jI ((jm (coF n nb q) i : Nat) : Int))), some (.int (jI (i : Int)))] [] σ := by
    refine jdown 20 ?_
    intro i hi ih
    refine jr_iload (pc' := 13) gM dX3_coreOf_11 rfl rfl ?_
    refine jr_bipush (pc' := 15) gM dX3_coreOf_13 rfl rfl ?_
    refine jr_icmp_ge (tgt := 54) (pc' := 18) gM dX3_coreOf_15 rfl rfl ⟨by omega, by omega⟩ ⟨by omega, by omega⟩ (fun c15 => ?_) (fun c15 => ?_)
    · refine jr_iload (pc' := 56) gM dX3_coreOf_54 rfl rfl ?_
      refine jr_ireturn dX3_coreOf_56 rfl ?_
      have e : i = 20 := by omega
      subst e
      exact hK
    · have h := ih (i + 1) (by omega) (by omega)
      refine jr_iconst (pc' := 19) gM dX3_coreOf_18 rfl ?_
      refine jr_aload_n (pc' := 20) gM dX3_coreOf_19 rfl rfl ?_
      refine jr_gfr (pc' := 23) gM dX3_coreOf_20 rfl fX3_9 rfl rfl ?_
      refine jr_gfr (pc' := 26) gM dX3_coreOf_23 rfl fX3_28 rfl rfl ?_
      refine jr_iload (pc' := 28) gM dX3_coreOf_26 rfl rfl ?_
      refine jr_lald (pc' := 29) _ gM dX3_coreOf_28 rfl rfl rfl (by omega) (by decide) ?_
      refine jr_lload_n (pc' := 30) gM dX3_coreOf_29 rfl rfl ?_
      rw [hU.2.2.2.1 i (by omega)]
      refine jr_land (pc' := 31) (jk (fun u => hvF n nb i u && q u)) gM dX3_coreOf_30 rfl (jk_and _ _) ?_
      refine jr_ins (pc' := 34) (as := [_]) gM dX3_coreOf_31 rfl kX3_22 rfl rfl (Nat.le_of_ble_eq_true rfl) ?_
      refine bitCount_ok ?_
      dsimp only [Option.toList, List.cons_append, List.nil_append]
      have hb := jn_le (fun u => hvF n nb i u && q u) 40
      refine jr_imul (pc' := 35) gM dX3_coreOf_34 rfl ?_
      refine jr_iload_n (pc' := 36) gM dX3_coreOf_35 rfl rfl ?_
      refine jr_icmp_lt (tgt := 48) (pc' := 39) gM dX3_coreOf_36 rfl rfl ⟨by omega, by omega⟩ ⟨by omega, by omega⟩ (fun c36 => ?_) (fun c36 => ?_)
      · refine jr_iinc (pc' := 51) (lv' := [_, _, _, _, _, _]) gM dX3_coreOf_48 rfl rfl rfl ?_
        refine jr_goto (tgt := 11) gM dX3_coreOf_51 rfl ?_
        rw [jm_skip (by unfold coF; simp only [decide_eq_true_eq]; omega)] at h
        exact h
      · refine jr_iload (pc' := 41) gM dX3_coreOf_39 rfl rfl ?_
        refine jr_iconst (pc' := 42) gM dX3_coreOf_41 rfl ?_
        refine jr_iload (pc' := 44) gM dX3_coreOf_42 rfl rfl ?_
        refine jr_ishl (pc' := 45) (((2 ^ i : Nat) : Int)) gM dX3_coreOf_44 rfl (jx_shl (by omega)) ?_
        refine jr_ior (pc' := 46) (((jm (coF n nb q) (i + 1) : Nat) : Int)) gM dX3_coreOf_45 rfl (by rw [jx_or, jm_push (by unfold coF; simp only [decide_eq_true_eq]; omega)]) ?_
        refine jr_istore (pc' := 48) (lv' := [_, _, _, _, _, _]) gM dX3_coreOf_46 rfl rfl (Nat.le_of_ble_eq_true rfl) ?_
        refine jr_iinc (pc' := 51) (lv' := [_, _, _, _, _, _]) gM dX3_coreOf_48 rfl rfl rfl ?_
        refine jr_goto (tgt := 11) gM dX3_coreOf_51 rfl ?_
        exact h
  exact lp 0 (by omega)
/-- a set that the uses p have is a name of the uses q -/
def ndF (share few : Int) (p q : Nat → Bool) : Prop := share * (jn q 40 : Int) ≤ (jn (fun u => p u && q u) 40 : Int) * 100 ∧ (jn (fun u => p u && !q u) 40 : Int) ≤ few
set_option maxRecDepth 100000 in
theorem marksOut_ok {d : Nat} {σ : jMem} {K : Option Value → jMem → Prop} {p q : Nat → Bool} {share few : Int} (hs : σ 17 1 = share) (hf : σ 17 2 = few) (hsr : 0 ≤ share ∧ share ≤ 100) (hfr : 0 ≤ few ∧ few ≤ 9) (hK1 : ndF share few p q → K (some (.int (jI 1))) σ) (hK0 : ¬ ndF share few p q → K (some (.int (jI 0))) σ) : jRun (d + 1) mX3_marksOut [.ref 17, .long (jL (jk p)), .long (jL (jk q))] σ K := by
  unfold ndF at hK1 hK0
  have q1 := jn_le (fun u => p u && q u) 40
  have q2 := jn_le (fun u => p u && !q u) 40
  have q3 := jn_le q 40
  have q4 : 0 ≤ share * (jn q 40 : Int) ∧ share * (jn q 40 : Int) ≤ 4000 := by
    constructor
    · exact Int.mul_nonneg (by omega) (by omega)
    · exact Int.le_trans (Int.mul_le_mul (show share ≤ 100 by omega) (show (jn q 40 : Int) ≤ 40 by omega) (by omega) (by omega)) (by omega)
  refine jenter (lv := [_, _, _, _, _, _, _]) rfl rfl (Nat.le_of_ble_eq_true rfl) ?_
  refine jr_lload_n (pc' := 1) gM dX3_marksOut_0 rfl rfl ?_
  refine jr_lload_n (pc' := 2) gM dX3_marksOut_1 rfl rfl ?_
  refine jr_land (pc' := 3) (jk (fun u => p u && q u)) gM dX3_marksOut_2 rfl (jk_and _ _) ?_
  refine jr_ins (pc' := 6) (as := [_]) gM dX3_marksOut_3 rfl kX3_22 rfl rfl (Nat.le_of_ble_eq_true rfl) ?_
  refine bitCount_ok ?_
  dsimp only [Option.toList, List.cons_append, List.nil_append]
  refine jr_istore (pc' := 8) (lv' := [_, _, _, _, _, _, _]) gM dX3_marksOut_6 rfl rfl (Nat.le_of_ble_eq_true rfl) ?_
  refine jr_lload_n (pc' := 9) gM dX3_marksOut_8 rfl rfl ?_
  refine jr_lload_n (pc' := 10) gM dX3_marksOut_9 rfl rfl ?_
  refine jr_ldc2 (pc' := 13) gM dX3_marksOut_10 rfl qX3_47 ?_
  refine jr_lxor (pc' := 14) (-1 - jk q) gM dX3_marksOut_13 rfl (jL_not _) ?_
  refine jr_land (pc' := 15) (jk (fun u => p u && !q u)) gM dX3_marksOut_14 rfl (jk_andn _ _) ?_
  refine jr_ins (pc' := 18) (as := [_]) gM dX3_marksOut_15 rfl kX3_22 rfl rfl (Nat.le_of_ble_eq_true rfl) ?_
  refine bitCount_ok ?_
  dsimp only [Option.toList, List.cons_append, List.nil_append]
  refine jr_istore (pc' := 20) (lv' := [_, _, _, _, _, _, _]) gM dX3_marksOut_18 rfl rfl (Nat.le_of_ble_eq_true rfl) ?_
  refine jr_iload (pc' := 22) gM dX3_marksOut_20 rfl rfl ?_
  refine jr_bipush (pc' := 24) gM dX3_marksOut_22 rfl rfl ?_
  refine jr_imul (pc' := 25) gM dX3_marksOut_24 rfl ?_
  refine jr_aload_n (pc' := 26) gM dX3_marksOut_25 rfl rfl ?_
  refine jr_gfi (pc' := 29) gM dX3_marksOut_26 rfl fX3_15 rfl rfl ?_
  refine jr_lload_n (pc' := 30) gM dX3_marksOut_29 rfl rfl ?_
  rw [hs]
  refine jr_ins (pc' := 33) (as := [_]) gM dX3_marksOut_30 rfl kX3_22 rfl rfl (Nat.le_of_ble_eq_true rfl) ?_
  refine bitCount_ok ?_
  dsimp only [Option.toList, List.cons_append, List.nil_append]
  refine jr_imul (pc' := 34) gM dX3_marksOut_33 rfl ?_
  refine jr_icmp_lt (tgt := 50) (pc' := 37) gM dX3_marksOut_34 rfl rfl ⟨by omega, by omega⟩ ⟨by omega, by omega⟩ (fun c34 => ?_) (fun c34 => ?_)
  · refine jr_iconst (pc' := 51) gM dX3_marksOut_50 rfl ?_
    refine jr_zreturn dX3_marksOut_51 rfl (by first | omega | exact bI_01 _) ?_
    exact hK0 (by omega)
  · refine jr_iload (pc' := 39) gM dX3_marksOut_37 rfl rfl ?_
    refine jr_aload_n (pc' := 40) gM dX3_marksOut_39 rfl rfl ?_
    refine jr_gfi (pc' := 43) gM dX3_marksOut_40 rfl fX3_19 rfl rfl ?_
    rw [hf]
    refine jr_icmp_gt (tgt := 50) (pc' := 46) gM dX3_marksOut_43 rfl rfl ⟨by omega, by omega⟩ ⟨by omega, by omega⟩ (fun c43 => ?_) (fun c43 => ?_)
    · refine jr_iconst (pc' := 51) gM dX3_marksOut_50 rfl ?_
      refine jr_zreturn dX3_marksOut_51 rfl (by first | omega | exact bI_01 _) ?_
      exact hK0 (by omega)
    · refine jr_iconst (pc' := 47) gM dX3_marksOut_46 rfl ?_
      refine jr_goto (tgt := 51) gM dX3_marksOut_47 rfl ?_
      refine jr_zreturn dX3_marksOut_51 rfl (by first | omega | exact bI_01 _) ?_
      exact hK1 (by omega)
theorem frs_first {α : Type} {f : Nat → Option α} {n : Nat} (hn : 0 < n) (h : f 0 = none) : frs f 0 n = frs f 1 (n - 1) := by
  cases n with
  | zero => omega
  | succ n => exact frs_n h
def n1F (n : Nat) (nb : Nat → Nat) (share few : Int) (q : Nat → Bool) (a : Nat) : Option Nat := if share * (jn q 40 : Int) ≤ (jn (fun u => hvF n nb a u && q u) 40 : Int) * 100 ∧ (jn (fun u => hvF n nb a u && !q u) 40 : Int) ≤ few then some (2 ^ a) else none
def n2F (n : Nat) (nb : Nat → Nat) (share few : Int) (q : Nat → Bool) (b a : Nat) : Option Nat := if share * (jn q 40 : Int) ≤ (jn (fun u => (hvF n nb b u && hvF n nb a u) && q u) 40 : Int) * 100 ∧ (jn (fun u => (hvF n nb b u && hvF n nb a u) && !q u) 40 : Int) ≤ few then some (2 ^ b ||| 2 ^ a) else none
def n3F (n : Nat) (nb : Nat → Nat) (share few : Int) (q : Nat → Bool) (c b a : Nat) : Option Nat := if share * (jn q 40 : Int) ≤ (jn (fun u => ((hvF n nb c u && hvF n nb b u) && hvF n nb a u) && q u) 40 : Int) * 100 ∧ (jn (fun u => ((hvF n nb c u && hvF n nb b u) && hvF n nb a u) && !q u) 40 : Int) ≤ few then some (2 ^ c ||| 2 ^ b ||| 2 ^ a) else none
set_option maxRecDepth 100000 in
theorem nameOfOne_ok {d : Nat} {σ : jMem} {K : Option Value → jMem → Prop} {n : Nat} {nb : Nat → Nat} {yr wt : Nat → Int} {q : Nat → Bool} {share few : Int} (hU : UI n nb yr wt σ) (hs : σ 17 1 = share) (hf : σ 17 2 = few) (hsr : 0 ≤ share ∧ share ≤ 100) (hfr : 0 ≤ few ∧ few ≤ 9)
    (hK : K (some (.int (jI (((frs (n1F n nb share few q) 0 20).getD 0 : Nat) : Int)))) σ) : jRun (d + 2) mX3_nameOfOne [.ref 17, .long (jL (jk q))] σ K := by
  refine jenter (lv := [_, _, _, _]) rfl rfl (Nat.le_of_ble_eq_true rfl) ?_
  refine jr_iconst (pc' := 1) gM dX3_nameOfOne_0 rfl ?_
  refine jr_istore_n (pc' := 2) (lv' := [_, _, _, _]) gM dX3_nameOfOne_1 rfl rfl (Nat.le_of_ble_eq_true rfl) ?_
  have lp : ∀ i, i ≤ 20 → frs (n1F n nb share few q) 0 20 = frs (n1F n nb share few q) i (20 - i) → jV (jP mX3_nameOfOne (d + 2) K) 2 [some (.ref 17), some (.long (jL (jk q))), none, some (.int (jI (i : Int)))] [] σ := by
    refine jdown 20 ?_
    intro i hi ih g
    refine jr_iload_n (pc' := 3) gM dX3_nameOfOne_2 rfl rfl ?_
    refine jr_bipush (pc' := 5) gM dX3_nameOfOne_3 rfl rfl ?_
    refine jr_icmp_ge (tgt := 35) (pc' := 8) gM dX3_nameOfOne_5 rfl rfl ⟨by omega, by omega⟩ ⟨by omega, by omega⟩ (fun c5 => ?_) (fun c5 => ?_)
    · refine jr_iconst (pc' := 36) gM dX3_nameOfOne_35 rfl ?_
      refine jr_ireturn dX3_nameOfOne_36 rfl ?_
      rw [g, show 20 - i = 0 by omega] at hK
      exact hK
    · rw [show 20 - i = (20 - (i + 1)) + 1 by omega] at g
      refine jr_aload_n (pc' := 9) gM dX3_nameOfOne_8 rfl rfl ?_
      refine jr_aload_n (pc' := 10) gM dX3_nameOfOne_9 rfl rfl ?_
      refine jr_gfr (pc' := 13) gM dX3_nameOfOne_10 rfl fX3_9 rfl rfl ?_
      refine jr_gfr (pc' := 16) gM dX3_nameOfOne_13 rfl fX3_28 rfl rfl ?_
      refine jr_iload_n (pc' := 17) gM dX3_nameOfOne_16 rfl rfl ?_
      refine jr_lald (pc' := 18) _ gM dX3_nameOfOne_17 rfl rfl rfl (by omega) (by decide) ?_
      refine jr_lload_n (pc' := 19) gM dX3_nameOfOne_18 rfl rfl ?_
      rw [hU.2.2.2.1 i (by omega)]
      refine jr_inv (pc' := 22) (as := [_, _]) gM dX3_nameOfOne_19 rfl kX3_43 rfl rfl rfl (Nat.le_of_ble_eq_true rfl) ?_
      refine marksOut_ok hs hf hsr hfr (fun h => ?_) (fun h => ?_)
      · dsimp only [Option.toList, List.cons_append, List.nil_append]
        refine jr_if_eq (tgt := 29) (pc' := 25) gM dX3_nameOfOne_22 rfl rfl ⟨by omega, by omega⟩ (fun cc => absurd cc (by omega)) (fun _ => ?_)
        refine jr_iconst (pc' := 26) gM dX3_nameOfOne_25 rfl ?_
        refine jr_iload_n (pc' := 27) gM dX3_nameOfOne_26 rfl rfl ?_
        refine jr_ishl (pc' := 28) (((2 ^ i : Nat) : Int)) gM dX3_nameOfOne_27 rfl (jx_shl (by omega)) ?_
        refine jr_ireturn dX3_nameOfOne_28 rfl ?_
        rw [g, frs_s (x := 2 ^ i) (by unfold n1F; exact if_pos h)] at hK
        exact hK
      · dsimp only [Option.toList, List.cons_append, List.nil_append]
        refine jr_if_eq (tgt := 29) (pc' := 25) gM dX3_nameOfOne_22 rfl rfl ⟨by omega, by omega⟩ (fun _ => ?_) (fun cc => absurd cc (by omega))
        refine jr_iinc (pc' := 32) (lv' := [_, _, _, _]) gM dX3_nameOfOne_29 rfl rfl rfl ?_
        refine jr_goto (tgt := 2) gM dX3_nameOfOne_32 rfl ?_
        refine ih (i + 1) (by omega) (by omega) ?_
        rw [g, frs_n (by unfold n1F; exact if_neg h)]
  exact lp 0 (by omega) rfl
set_option maxRecDepth 100000 in
theorem nameOfTwo_ok {d : Nat} {σ : jMem} {K : Option Value → jMem → Prop} {n : Nat} {nb : Nat → Nat} {yr wt : Nat → Int} {q : Nat → Bool} {share few : Int} (hU : UI n nb yr wt σ) (hs : σ 17 1 = share) (hf : σ 17 2 = few) (hsr : 0 ≤ share ∧ share ≤ 100) (hfr : 0 ≤ few ∧ few ≤ 9)
    (hK : K (some (.int (jI (((frs (fun b => frs (n2F n nb share few q b) 0 b) 0 20).getD 0 : Nat) : Int)))) σ) : jRun (d + 2) mX3_nameOfTwo [.ref 17, .long (jL (jk q))] σ K := by
  refine jenter (lv := [_, _, _, _, _]) rfl rfl (Nat.le_of_ble_eq_true rfl) ?_
  refine jr_iconst (pc' := 1) gM dX3_nameOfTwo_0 rfl ?_
  refine jr_istore_n (pc' := 2) (lv' := [_, _, _, _, _]) gM dX3_nameOfTwo_1 rfl rfl (Nat.le_of_ble_eq_true rfl) ?_
  have lp : ∀ i, i ≤ 20 → ∀ q4 : Option Value, 1 ≤ i → frs (fun b => frs (n2F n nb share few q b) 0 b) 0 20 = frs (fun b => frs (n2F n nb share few q b) 0 b) i (20 - i) → jV (jP mX3_nameOfTwo (d + 2) K) 2 [some (.ref 17), some (.long (jL (jk q))), none, some (.int (jI (i : Int))), q4] [] σ := by
    refine jdown 20 ?_
    intro i hi ih q4 hi1 g
    refine jr_iload_n (pc' := 3) gM dX3_nameOfTwo_2 rfl rfl ?_
    refine jr_bipush (pc' := 5) gM dX3_nameOfTwo_3 rfl rfl ?_
    refine jr_icmp_ge (tgt := 66) (pc' := 8) gM dX3_nameOfTwo_5 rfl rfl ⟨by omega, by omega⟩ ⟨by omega, by omega⟩ (fun c5 => ?_) (fun c5 => ?_)
    · refine jr_iconst (pc' := 67) gM dX3_nameOfTwo_66 rfl ?_
      refine jr_ireturn dX3_nameOfTwo_67 rfl ?_
      rw [g, show 20 - i = 0 by omega] at hK
      exact hK
    · rw [show 20 - i = (20 - (i + 1)) + 1 by omega] at g
      refine jr_iconst (pc' := 9) gM dX3_nameOfTwo_8 rfl ?_
      refine jr_istore (pc' := 11) (lv' := [_, _, _, _, _]) gM dX3_nameOfTwo_9 rfl rfl (Nat.le_of_ble_eq_true rfl) ?_
      have lp2 : ∀ j, j ≤ i → frs (n2F n nb share few q i) 0 i = frs (n2F n nb share few q i) j (i - j) → jV (jP mX3_nameOfTwo (d + 2) K) 11 [some (.ref 17), some (.long (jL (jk q))), none, some (.int (jI (i : Int))), some (.int (jI (j : Int)))] [] σ := by
        refine jdown i ?_
        intro j hj ihj gj
        refine jr_iload (pc' := 13) gM dX3_nameOfTwo_11 rfl rfl ?_
        refine jr_iload_n (pc' := 14) gM dX3_nameOfTwo_13 rfl rfl ?_
        refine jr_icmp_ge (tgt := 60) (pc' := 17) gM dX3_nameOfTwo_14 rfl rfl ⟨by omega, by omega⟩ ⟨by omega, by omega⟩ (fun c14 => ?_) (fun c14 => ?_)
        · refine jr_iinc (pc' := 63) (lv' := [_, _, _, _, _]) gM dX3_nameOfTwo_60 rfl rfl rfl ?_
          refine jr_goto (tgt := 2) gM dX3_nameOfTwo_63 rfl ?_
          refine ih (i + 1) (by omega) (by omega) _ (by omega) ?_
          rw [g, frs_n]
          rw [gj, show i - j = 0 by omega]
          rfl
        · rw [show i - j = (i - (j + 1)) + 1 by omega] at gj
          refine jr_aload_n (pc' := 18) gM dX3_nameOfTwo_17 rfl rfl ?_
          refine jr_aload_n (pc' := 19) gM dX3_nameOfTwo_18 rfl rfl ?_
          refine jr_gfr (pc' := 22) gM dX3_nameOfTwo_19 rfl fX3_9 rfl rfl ?_
          refine jr_gfr (pc' := 25) gM dX3_nameOfTwo_22 rfl fX3_28 rfl rfl ?_
          refine jr_iload_n (pc' := 26) gM dX3_nameOfTwo_25 rfl rfl ?_
          refine jr_lald (pc' := 27) _ gM dX3_nameOfTwo_26 rfl rfl rfl (by omega) (by decide) ?_
          refine jr_aload_n (pc' := 28) gM dX3_nameOfTwo_27 rfl rfl ?_
          refine jr_gfr (pc' := 31) gM dX3_nameOfTwo_28 rfl fX3_9 rfl rfl ?_
          refine jr_gfr (pc' := 34) gM dX3_nameOfTwo_31 rfl fX3_28 rfl rfl ?_
          refine jr_iload (pc' := 36) gM dX3_nameOfTwo_34 rfl rfl ?_
          refine jr_lald (pc' := 37) _ gM dX3_nameOfTwo_36 rfl rfl rfl (by omega) (by decide) ?_
          rw [hU.2.2.2.1 i (by omega), hU.2.2.2.1 j (by omega)]
          refine jr_land (pc' := 38) (jk (fun u => hvF n nb i u && hvF n nb j u)) gM dX3_nameOfTwo_37 rfl (jk_and _ _) ?_
          refine jr_lload_n (pc' := 39) gM dX3_nameOfTwo_38 rfl rfl ?_
          refine jr_inv (pc' := 42) (as := [_, _]) gM dX3_nameOfTwo_39 rfl kX3_43 rfl rfl rfl (Nat.le_of_ble_eq_true rfl) ?_
          refine marksOut_ok hs hf hsr hfr (fun h => ?_) (fun h => ?_)
          · dsimp only [Option.toList, List.cons_append, List.nil_append]
            refine jr_if_eq (tgt := 54) (pc' := 45) gM dX3_nameOfTwo_42 rfl rfl ⟨by omega, by omega⟩ (fun cc => absurd cc (by omega)) (fun _ => ?_)
            refine jr_iconst (pc' := 46) gM dX3_nameOfTwo_45 rfl ?_
            refine jr_iload_n (pc' := 47) gM dX3_nameOfTwo_46 rfl rfl ?_
            refine jr_ishl (pc' := 48) (((2 ^ i : Nat) : Int)) gM dX3_nameOfTwo_47 rfl (jx_shl (by omega)) ?_
            refine jr_iconst (pc' := 49) gM dX3_nameOfTwo_48 rfl ?_
            refine jr_iload (pc' := 51) gM dX3_nameOfTwo_49 rfl rfl ?_
            refine jr_ishl (pc' := 52) (((2 ^ j : Nat) : Int)) gM dX3_nameOfTwo_51 rfl (jx_shl (by omega)) ?_
            refine jr_ior (pc' := 53) (((2 ^ i ||| 2 ^ j : Nat) : Int)) gM dX3_nameOfTwo_52 rfl (jx_or _ _) ?_
            refine jr_ireturn dX3_nameOfTwo_53 rfl ?_
            rw [g, frs_s (x := 2 ^ i ||| 2 ^ j) (by rw [gj, frs_s (x := 2 ^ i ||| 2 ^ j) (by unfold n2F; exact if_pos h)])] at hK
            exact hK
          · dsimp only [Option.toList, List.cons_append, List.nil_append]
            refine jr_if_eq (tgt := 54) (pc' := 45) gM dX3_nameOfTwo_42 rfl rfl ⟨by omega, by omega⟩ (fun _ => ?_) (fun cc => absurd cc (by omega))
            refine jr_iinc (pc' := 57) (lv' := [_, _, _, _, _]) gM dX3_nameOfTwo_54 rfl rfl rfl ?_
            refine jr_goto (tgt := 11) gM dX3_nameOfTwo_57 rfl ?_
            refine ihj (j + 1) (by omega) (by omega) ?_
            rw [gj, frs_n (by unfold n2F; exact if_neg h)]
      exact lp2 0 (by omega) rfl
  exact lp 1 (by omega) _ (by omega) rfl
set_option maxRecDepth 100000 in
theorem nameOfThree_ok {d : Nat} {σ : jMem} {K : Option Value → jMem → Prop} {n : Nat} {nb : Nat → Nat} {yr wt : Nat → Int} {q : Nat → Bool} {share few : Int} (hU : UI n nb yr wt σ) (hs : σ 17 1 = share) (hf : σ 17 2 = few) (hsr : 0 ≤ share ∧ share ≤ 100) (hfr : 0 ≤ few ∧ few ≤ 9)
    (hK : K (some (.int (jI (((frs (fun c => frs (fun b => frs (n3F n nb share few q c b) 0 b) 0 c) 0 20).getD 0 : Nat) : Int)))) σ) : jRun (d + 2) mX3_nameOfThree [.ref 17, .long (jL (jk q))] σ K := by
  refine jenter (lv := [_, _, _, _, _, _, _, _]) rfl rfl (Nat.le_of_ble_eq_true rfl) ?_
  refine jr_iconst (pc' := 1) gM dX3_nameOfThree_0 rfl ?_
  refine jr_istore_n (pc' := 2) (lv' := [_, _, _, _, _, _, _, _]) gM dX3_nameOfThree_1 rfl rfl (Nat.le_of_ble_eq_true rfl) ?_
  have lp : ∀ i, i ≤ 20 → ∀ q4 q5 q7 : Option Value, 2 ≤ i → frs (fun c => frs (fun b => frs (n3F n nb share few q c b) 0 b) 0 c) 0 20 = frs (fun c => frs (fun b => frs (n3F n nb share few q c b) 0 b) 0 c) i (20 - i) → jV (jP mX3_nameOfThree (d + 2) K) 2 [some (.ref 17), some (.long (jL (jk q))), none, some (.int (jI (i : Int))), q4, q5, none, q7] [] σ := by
    refine jdown 20 ?_
    intro i hi ih q4 q5 q7 hi1 g
    refine jr_iload_n (pc' := 3) gM dX3_nameOfThree_2 rfl rfl ?_
    refine jr_bipush (pc' := 5) gM dX3_nameOfThree_3 rfl rfl ?_
    refine jr_icmp_ge (tgt := 102) (pc' := 8) gM dX3_nameOfThree_5 rfl rfl ⟨by omega, by omega⟩ ⟨by omega, by omega⟩ (fun c5 => ?_) (fun c5 => ?_)
    · refine jr_iconst (pc' := 103) gM dX3_nameOfThree_102 rfl ?_
      refine jr_ireturn dX3_nameOfThree_103 rfl ?_
      rw [g, show 20 - i = 0 by omega] at hK
      exact hK
    · rw [show 20 - i = (20 - (i + 1)) + 1 by omega] at g
      refine jr_iconst (pc' := 9) gM dX3_nameOfThree_8 rfl ?_
      refine jr_istore (pc' := 11) (lv' := [_, _, _, _, _, _, _, _]) gM dX3_nameOfThree_9 rfl rfl (Nat.le_of_ble_eq_true rfl) ?_
      have lp2 : ∀ j, j ≤ i → ∀ q5 q7 : Option Value, 1 ≤ j → frs (fun b => frs (n3F n nb share few q i b) 0 b) 0 i = frs (fun b => frs (n3F n nb share few q i b) 0 b) j (i - j) → jV (jP mX3_nameOfThree (d + 2) K) 11 [some (.ref 17), some (.long (jL (jk q))), none, some (.int (jI (i : Int))), some (.int (jI (j : Int))), q5, none, q7] [] σ := by
        refine jdown i ?_
        intro j hj ihj q5 q7 hj1 gj
        refine jr_iload (pc' := 13) gM dX3_nameOfThree_11 rfl rfl ?_
        refine jr_iload_n (pc' := 14) gM dX3_nameOfThree_13 rfl rfl ?_
        refine jr_icmp_ge (tgt := 96) (pc' := 17) gM dX3_nameOfThree_14 rfl rfl ⟨by omega, by omega⟩ ⟨by omega, by omega⟩ (fun c14 => ?_) (fun c14 => ?_)
        · refine jr_iinc (pc' := 99) (lv' := [_, _, _, _, _, _, _, _]) gM dX3_nameOfThree_96 rfl rfl rfl ?_
          refine jr_goto (tgt := 2) gM dX3_nameOfThree_99 rfl ?_
          refine ih (i + 1) (by omega) (by omega) _ _ _ (by omega) ?_
          rw [g, frs_n]
          rw [gj, show i - j = 0 by omega]
          rfl
        · rw [show i - j = (i - (j + 1)) + 1 by omega] at gj
          refine jr_aload_n (pc' := 18) gM dX3_nameOfThree_17 rfl rfl ?_
          refine jr_gfr (pc' := 21) gM dX3_nameOfThree_18 rfl fX3_9 rfl rfl ?_
          refine jr_gfr (pc' := 24) gM dX3_nameOfThree_21 rfl fX3_28 rfl rfl ?_
          refine jr_iload_n (pc' := 25) gM dX3_nameOfThree_24 rfl rfl ?_
          refine jr_lald (pc' := 26) _ gM dX3_nameOfThree_25 rfl rfl rfl (by omega) (by decide) ?_
          refine jr_aload_n (pc' := 27) gM dX3_nameOfThree_26 rfl rfl ?_
          refine jr_gfr (pc' := 30) gM dX3_nameOfThree_27 rfl fX3_9 rfl rfl ?_
          refine jr_gfr (pc' := 33) gM dX3_nameOfThree_30 rfl fX3_28 rfl rfl ?_
          refine jr_iload (pc' := 35) gM dX3_nameOfThree_33 rfl rfl ?_
          refine jr_lald (pc' := 36) _ gM dX3_nameOfThree_35 rfl rfl rfl (by omega) (by decide) ?_
          rw [hU.2.2.2.1 i (by omega), hU.2.2.2.1 j (by omega)]
          refine jr_land (pc' := 37) (jk (fun u => hvF n nb i u && hvF n nb j u)) gM dX3_nameOfThree_36 rfl (jk_and _ _) ?_
          refine jr_lstore (pc' := 39) (lv' := [_, _, _, _, _, _, _, _]) gM dX3_nameOfThree_37 rfl rfl (Nat.le_of_ble_eq_true rfl) ?_
          refine jr_iconst (pc' := 40) gM dX3_nameOfThree_39 rfl ?_
          refine jr_istore (pc' := 42) (lv' := [_, _, _, _, _, _, _, _]) gM dX3_nameOfThree_40 rfl rfl (Nat.le_of_ble_eq_true rfl) ?_
          have lp3 : ∀ k, k ≤ j → frs (n3F n nb share few q i j) 0 j = frs (n3F n nb share few q i j) k (j - k) → jV (jP mX3_nameOfThree (d + 2) K) 42 [some (.ref 17), some (.long (jL (jk q))), none, some (.int (jI (i : Int))), some (.int (jI (j : Int))), some (.long (jL (jk (fun u => hvF n nb i u && hvF n nb j u)))), none, some (.int (jI (k : Int)))] [] σ := by
            refine jdown j ?_
            intro k hk ihk gk
            refine jr_iload (pc' := 44) gM dX3_nameOfThree_42 rfl rfl ?_
            refine jr_iload (pc' := 46) gM dX3_nameOfThree_44 rfl rfl ?_
            refine jr_icmp_ge (tgt := 90) (pc' := 49) gM dX3_nameOfThree_46 rfl rfl ⟨by omega, by omega⟩ ⟨by omega, by omega⟩ (fun c46 => ?_) (fun c46 => ?_)
            · refine jr_iinc (pc' := 93) (lv' := [_, _, _, _, _, _, _, _]) gM dX3_nameOfThree_90 rfl rfl rfl ?_
              refine jr_goto (tgt := 11) gM dX3_nameOfThree_93 rfl ?_
              refine ihj (j + 1) (by omega) (by omega) _ _ (by omega) ?_
              rw [gj, frs_n]
              rw [gk, show j - k = 0 by omega]
              rfl
            · rw [show j - k = (j - (k + 1)) + 1 by omega] at gk
              refine jr_aload_n (pc' := 50) gM dX3_nameOfThree_49 rfl rfl ?_
              refine jr_lload (pc' := 52) gM dX3_nameOfThree_50 rfl rfl ?_
              refine jr_aload_n (pc' := 53) gM dX3_nameOfThree_52 rfl rfl ?_
              refine jr_gfr (pc' := 56) gM dX3_nameOfThree_53 rfl fX3_9 rfl rfl ?_
              refine jr_gfr (pc' := 59) gM dX3_nameOfThree_56 rfl fX3_28 rfl rfl ?_
              refine jr_iload (pc' := 61) gM dX3_nameOfThree_59 rfl rfl ?_
              refine jr_lald (pc' := 62) _ gM dX3_nameOfThree_61 rfl rfl rfl (by omega) (by decide) ?_
              rw [hU.2.2.2.1 k (by omega)]
              refine jr_land (pc' := 63) (jk (fun u => (hvF n nb i u && hvF n nb j u) && hvF n nb k u)) gM dX3_nameOfThree_62 rfl (jk_and _ _) ?_
              refine jr_lload_n (pc' := 64) gM dX3_nameOfThree_63 rfl rfl ?_
              refine jr_inv (pc' := 67) (as := [_, _]) gM dX3_nameOfThree_64 rfl kX3_43 rfl rfl rfl (Nat.le_of_ble_eq_true rfl) ?_
              refine marksOut_ok hs hf hsr hfr (fun h => ?_) (fun h => ?_)
              · dsimp only [Option.toList, List.cons_append, List.nil_append]
                refine jr_if_eq (tgt := 84) (pc' := 70) gM dX3_nameOfThree_67 rfl rfl ⟨by omega, by omega⟩ (fun cc => absurd cc (by omega)) (fun _ => ?_)
                refine jr_iconst (pc' := 71) gM dX3_nameOfThree_70 rfl ?_
                refine jr_iload_n (pc' := 72) gM dX3_nameOfThree_71 rfl rfl ?_
                refine jr_ishl (pc' := 73) (((2 ^ i : Nat) : Int)) gM dX3_nameOfThree_72 rfl (jx_shl (by omega)) ?_
                refine jr_iconst (pc' := 74) gM dX3_nameOfThree_73 rfl ?_
                refine jr_iload (pc' := 76) gM dX3_nameOfThree_74 rfl rfl ?_
                refine jr_ishl (pc' := 77) (((2 ^ j : Nat) : Int)) gM dX3_nameOfThree_76 rfl (jx_shl (by omega)) ?_
                refine jr_ior (pc' := 78) (((2 ^ i ||| 2 ^ j : Nat) : Int)) gM dX3_nameOfThree_77 rfl (jx_or _ _) ?_
                refine jr_iconst (pc' := 79) gM dX3_nameOfThree_78 rfl ?_
                refine jr_iload (pc' := 81) gM dX3_nameOfThree_79 rfl rfl ?_
                refine jr_ishl (pc' := 82) (((2 ^ k : Nat) : Int)) gM dX3_nameOfThree_81 rfl (jx_shl (by omega)) ?_
                refine jr_ior (pc' := 83) (((2 ^ i ||| 2 ^ j ||| 2 ^ k : Nat) : Int)) gM dX3_nameOfThree_82 rfl (jx_or _ _) ?_
                refine jr_ireturn dX3_nameOfThree_83 rfl ?_
                rw [g, frs_s (x := 2 ^ i ||| 2 ^ j ||| 2 ^ k) (by rw [gj, frs_s (x := 2 ^ i ||| 2 ^ j ||| 2 ^ k) (by rw [gk, frs_s (x := 2 ^ i ||| 2 ^ j ||| 2 ^ k) (by unfold n3F; exact if_pos h)])])] at hK
                exact hK
              · dsimp only [Option.toList, List.cons_append, List.nil_append]
                refine jr_if_eq (tgt := 84) (pc' := 70) gM dX3_nameOfThree_67 rfl rfl ⟨by omega, by omega⟩ (fun _ => ?_) (fun cc => absurd cc (by omega))
                refine jr_iinc (pc' := 87) (lv' := [_, _, _, _, _, _, _, _]) gM dX3_nameOfThree_84 rfl rfl rfl ?_
                refine jr_goto (tgt := 42) gM dX3_nameOfThree_87 rfl ?_
                refine ihk (k + 1) (by omega) (by omega) ?_
                rw [gk, frs_n (by unfold n3F; exact if_neg h)]
          exact lp3 0 (by omega) rfl
      exact lp2 1 (by omega) _ _ (by omega) (frs_first (by omega) rfl)
  exact lp 2 (by omega) _ _ _ (by omega) rfl
/-- the NAME of the uses q (0: there is none) -/
def nmF (n : Nat) (nb : Nat → Nat) (share few : Int) (q : Nat → Bool) : Nat :=
  if (frs (n1F n nb share few q) 0 20).getD 0 = 0 then (if (frs (fun b => frs (n2F n nb share few q b) 0 b) 0 20).getD 0 = 0 then (frs (fun c => frs (fun b => frs (n3F n nb share few q c b) 0 b) 0 c) 0 20).getD 0 else (frs (fun b => frs (n2F n nb share few q b) 0 b) 0 20).getD 0) else (frs (n1F n nb share few q) 0 20).getD 0
theorem frs_of {α : Type} {f : Nat → Option α} : ∀ {k i : Nat} {x : α}, frs f i k = some x → ∃ j, i ≤ j ∧ j < i + k ∧ f j = some x := by
  intro k
  induction k with
  | zero => intro i x h; cases h
  | succ k ih =>
    intro i x h
    cases e : f i with
    | some y =>
      rw [frs_s e] at h
      cases h
      exact ⟨i, by omega, by omega, e⟩
    | none =>
      rw [frs_n e] at h
      obtain ⟨j, h1, h2, h3⟩ := ih h
      exact ⟨j, by omega, by omega, h3⟩
theorem n1_lt {n : Nat} {nb : Nat → Nat} {share few : Int} {q : Nat → Bool} : (frs (n1F n nb share few q) 0 20).getD 0 < 2 ^ 20 := by
  cases e : frs (n1F n nb share few q) 0 20 with
  | none => decide
  | some x =>
    obtain ⟨j, h1, h2, h3⟩ := frs_of e
    unfold n1F at h3
    split at h3
    · cases h3
      exact wb_lt2 (by omega)
    · cases h3
theorem n2_lt {n : Nat} {nb : Nat → Nat} {share few : Int} {q : Nat → Bool} : (frs (fun b => frs (n2F n nb share few q b) 0 b) 0 20).getD 0 < 2 ^ 20 := by
  cases e : frs (fun b => frs (n2F n nb share few q b) 0 b) 0 20 with
  | none => decide
  | some x =>
    obtain ⟨j, h1, h2, h3⟩ := frs_of e
    obtain ⟨k, k1, k2, k3⟩ := frs_of h3
    unfold n2F at k3
    split at k3
    · cases k3
      exact Nat.or_lt_two_pow (wb_lt2 (by omega)) (wb_lt2 (by omega))
    · cases k3
set_option maxRecDepth 100000 in
theorem nameOf_ok {d : Nat} {σ : jMem} {K : Option Value → jMem → Prop} {n : Nat} {nb : Nat → Nat} {yr wt : Nat → Int} {q : Nat → Bool} {share few : Int} (hU : UI n nb yr wt σ) (hs : σ 17 1 = share) (hf : σ 17 2 = few) (hsr : 0 ≤ share ∧ share ≤ 100) (hfr : 0 ≤ few ∧ few ≤ 9)
    (hK : K (some (.int (jI ((nmF n nb share few q : Nat) : Int)))) σ) : jRun (d + 3) mX3_nameOf [.ref 17, .long (jL (jk q))] σ K := by
  have l1 := n1_lt (n := n) (nb := nb) (share := share) (few := few) (q := q)
  have l2 := n2_lt (n := n) (nb := nb) (share := share) (few := few) (q := q)
  unfold nmF at hK
  refine jenter (lv := [_, _, _, _]) rfl rfl (Nat.le_of_ble_eq_true rfl) ?_
  refine jr_aload_n (pc' := 1) gM dX3_nameOf_0 rfl rfl ?_
  refine jr_lload_n (pc' := 2) gM dX3_nameOf_1 rfl rfl ?_
  refine jr_inv (pc' := 5) (as := [_]) gM dX3_nameOf_2 rfl kX3_34 rfl rfl rfl (Nat.le_of_ble_eq_true rfl) ?_
  refine nameOfOne_ok hU hs hf hsr hfr ?_
  dsimp only [Option.toList, List.cons_append, List.nil_append]
  refine jr_istore_n (pc' := 6) (lv' := [_, _, _, _]) gM dX3_nameOf_5 rfl rfl (Nat.le_of_ble_eq_true rfl) ?_
  refine jr_iload_n (pc' := 7) gM dX3_nameOf_6 rfl rfl ?_
  refine jr_if_ne (tgt := 16) (pc' := 10) gM dX3_nameOf_7 rfl rfl ⟨by omega, by omega⟩ (fun c7 => ?_) (fun c7 => ?_)
  · refine jr_iload_n (pc' := 17) gM dX3_nameOf_16 rfl rfl ?_
    refine jr_if_ne (tgt := 26) (pc' := 20) gM dX3_nameOf_17 rfl rfl ⟨by omega, by omega⟩ (fun _ => ?_) (fun cc => absurd cc (by omega))
    refine jr_iload_n (pc' := 27) gM dX3_nameOf_26 rfl rfl ?_
    refine jr_ireturn dX3_nameOf_27 rfl ?_
    rw [if_neg (by omega)] at hK
    exact hK
  · rw [if_pos (by omega)] at hK
    refine jr_aload_n (pc' := 11) gM dX3_nameOf_10 rfl rfl ?_
    refine jr_lload_n (pc' := 12) gM dX3_nameOf_11 rfl rfl ?_
    refine jr_inv (pc' := 15) (as := [_]) gM dX3_nameOf_12 rfl kX3_37 rfl rfl rfl (Nat.le_of_ble_eq_true rfl) ?_
    refine nameOfTwo_ok hU hs hf hsr hfr ?_
    dsimp only [Option.toList, List.cons_append, List.nil_append]
    refine jr_istore_n (pc' := 16) (lv' := [_, _, _, _]) gM dX3_nameOf_15 rfl rfl (Nat.le_of_ble_eq_true rfl) ?_
    refine jr_iload_n (pc' := 17) gM dX3_nameOf_16 rfl rfl ?_
    refine jr_if_ne (tgt := 26) (pc' := 20) gM dX3_nameOf_17 rfl rfl ⟨by omega, by omega⟩ (fun c17 => ?_) (fun c17 => ?_)
    · refine jr_iload_n (pc' := 27) gM dX3_nameOf_26 rfl rfl ?_
      refine jr_ireturn dX3_nameOf_27 rfl ?_
      rw [if_neg (by omega)] at hK
      exact hK
    · rw [if_pos (by omega)] at hK
      refine jr_aload_n (pc' := 21) gM dX3_nameOf_20 rfl rfl ?_
      refine jr_lload_n (pc' := 22) gM dX3_nameOf_21 rfl rfl ?_
      refine jr_inv (pc' := 25) (as := [_]) gM dX3_nameOf_22 rfl kX3_40 rfl rfl rfl (Nat.le_of_ble_eq_true rfl) ?_
      refine nameOfThree_ok hU hs hf hsr hfr ?_
      dsimp only [Option.toList, List.cons_append, List.nil_append]
      refine jr_istore_n (pc' := 26) (lv' := [_, _, _, _]) gM dX3_nameOf_25 rfl rfl (Nat.le_of_ble_eq_true rfl) ?_
      refine jr_iload_n (pc' := 27) gM dX3_nameOf_26 rfl rfl ?_
      refine jr_ireturn dX3_nameOf_27 rfl ?_
      exact hK
