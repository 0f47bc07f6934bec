/-! ===== the smallest methods: within, bit, holds, has, between, all ===== -/
theorem jcmp_0 {x y : Int} : jcmp x y = 0 ↔ x = y := by
  unfold jcmp
  split
  · constructor <;> intro h <;> omega
  · split
    · simp_all
    · constructor <;> intro h <;> omega
theorem jcmp_r (x y : Int) : jR (jcmp x y) := by
  unfold jcmp
  split
  · exact ⟨by omega, by omega⟩
  · split <;> exact ⟨by omega, by omega⟩
section jCb
variable {Ψ : jX → Prop} {B : ByteArray} {own : String} {d pc pc' : Nat} {lv : List (Option Value)} {st : List Value} {σ : jMem}
theorem jr_cb_eq {x y : Int} {off : Int} {tgt : Nat} (G : jG Ψ B own d) (hd : decode B pc = .ok (.ifCond .eq off, 3)) (ht : (pc : Int) + off = (tgt : Int)) (hp : pc + 3 = pc') (kt : x = y → jV Ψ tgt lv st σ) (kf : ¬ x = y → jV Ψ pc' lv st σ) : jV Ψ pc lv (.int (jI (jcmp x y)) :: st) σ :=
  jr_if_eq G hd ht hp (jcmp_r x y) (fun h => kt (jcmp_0.mp h)) (fun h => kf (fun q => h (jcmp_0.mpr q)))
theorem jr_cb_ne {x y : Int} {off : Int} {tgt : Nat} (G : jG Ψ B own d) (hd : decode B pc = .ok (.ifCond .ne off, 3)) (ht : (pc : Int) + off = (tgt : Int)) (hp : pc + 3 = pc') (kt : ¬ x = y → jV Ψ tgt lv st σ) (kf : x = y → jV Ψ pc' lv st σ) : jV Ψ pc lv (.int (jI (jcmp x y)) :: st) σ :=
  jr_if_ne G hd ht hp (jcmp_r x y) (fun h => kt (fun q => h (jcmp_0.mpr q))) (fun h => kf (jcmp_0.mp h))
end jCb
set_option maxRecDepth 100000 in
theorem within_ok {d : Nat} {σ : jMem} {K : Option Value → jMem → Prop} {v lo hi : Int} (h1 : jR v) (h2 : jR lo) (h3 : jR hi) (hK : K (some (.int (jI (bI (lo ≤ v ∧ v ≤ hi))))) σ) : jRun d mX7_within [.int (jI v), .int (jI lo), .int (jI hi)] σ K := by
  refine jenter (lv := [_, _, _]) rfl rfl (Nat.le_of_ble_eq_true rfl) ?_
  refine jr_iload_n gM dX7_within_0 rfl rfl ?_
  refine jr_iload_n gM dX7_within_1 rfl rfl ?_
  refine jr_icmp_lt gM dX7_within_2 rfl rfl ⟨by omega, by omega⟩ ⟨by omega, by omega⟩ (fun c2 => ?_) (fun c2 => ?_)
  · refine jr_iconst gM dX7_within_14 rfl ?_
    refine jr_zreturn dX7_within_15 rfl (by first | omega | exact bI_01 _) ?_
    rw [bI_f (by omega)] at hK
    exact hK
  · refine jr_iload_n gM dX7_within_5 rfl rfl ?_
    refine jr_iload_n gM dX7_within_6 rfl rfl ?_
    refine jr_icmp_gt gM dX7_within_7 rfl rfl ⟨by omega, by omega⟩ ⟨by omega, by omega⟩ (fun c7 => ?_) (fun c7 => ?_)
    · refine jr_iconst gM dX7_within_14 rfl ?_
      refine jr_zreturn dX7_within_15 rfl (by first | omega | exact bI_01 _) ?_
      rw [bI_f (by omega)] at hK
      exact hK
    · refine jr_iconst gM dX7_within_10 rfl ?_
      refine jr_goto gM dX7_within_11 rfl ?_
      refine jr_zreturn dX7_within_15 rfl (by first | omega | exact bI_01 _) ?_
      rw [bI_t (by omega)] at hK
      exact hK
set_option maxRecDepth 100000 in
theorem bit_ok {d : Nat} {σ : jMem} {K : Option Value → jMem → Prop} {u : Nat} (h : u < 40) (hK : K (some (.long (jL (jk (fun i => decide (i = u)))))) σ) : jRun d mX7_bit [.int (jI (u : Int))] σ K := by
  refine jenter (lv := [_]) rfl rfl (Nat.le_of_ble_eq_true rfl) ?_
  refine jr_lconst (x := 1) gM dX7_bit_0 rfl rfl ?_
  refine jr_iload_n gM dX7_bit_1 rfl rfl ?_
  refine jr_lshl (jk (fun i => decide (i = u))) gM dX7_bit_2 rfl (jk_bit h) ?_
  refine jr_lreturn dX7_bit_3 rfl ?_
  exact hK
set_option maxRecDepth 100000 in
theorem holds_ok {d : Nat} {σ : jMem} {K : Option Value → jMem → Prop} {p : Nat → Bool} {u : Nat} (h : u < 40) (hK : K (some (.int (jI (bI (p u = true))))) σ) : jRun d mX7_holds [.long (jL (jk p)), .int (jI (u : Int))] σ K := by
  refine jenter (lv := [_, _, _]) rfl rfl (Nat.le_of_ble_eq_true rfl) ?_
  refine jr_lload_n gM dX7_holds_0 rfl rfl ?_
  refine jr_iload_n gM dX7_holds_1 rfl rfl ?_
  refine jr_lshr (((jm p 40 / 2 ^ u : Nat) : Int)) gM dX7_holds_2 rfl (jk_shr p h) ?_
  refine jr_lconst (x := 1) gM dX7_holds_3 rfl rfl ?_
  refine jr_land (bI (p u = true)) gM dX7_holds_4 rfl (jk_lo p h) ?_
  refine jr_lconst (x := 0) gM dX7_holds_5 rfl rfl ?_
  have e := bI_01 (p u = true)
  refine jr_lcmp gM dX7_holds_6 rfl (by omega) (by omega) ?_
  refine jr_cb_eq gM dX7_holds_7 rfl rfl (fun c7 => ?_) (fun c7 => ?_)
  · refine jr_iconst gM dX7_holds_14 rfl ?_
    refine jr_zreturn dX7_holds_15 rfl (by first | omega | exact bI_01 _) ?_
    rw [c7] at hK
    exact hK
  · refine jr_iconst gM dX7_holds_10 rfl ?_
    refine jr_goto gM dX7_holds_11 rfl ?_
    refine jr_zreturn dX7_holds_15 rfl (by first | omega | exact bI_01 _) ?_
    rw [show bI (p u = true) = 1 by omega] at hK
    exact hK
set_option maxRecDepth 100000 in
theorem has_ok {d : Nat} {σ : jMem} {K : Option Value → jMem → Prop} {v : Int} (h1 : jR v) (h2 : jR (σ 1 5)) (hK : K (some (.int (jI (bI (0 ≤ v ∧ v < σ 1 5))))) σ) : jRun d mX6_has [.ref 1, .int (jI v)] σ K := by
  refine jenter (lv := [_, _]) rfl rfl (Nat.le_of_ble_eq_true rfl) ?_
  refine jr_iload_n gM dX6_has_0 rfl rfl ?_
  refine jr_if_lt gM dX6_has_1 rfl rfl ⟨by omega, by omega⟩ (fun c1 => ?_) (fun c1 => ?_)
  · refine jr_iconst gM dX6_has_16 rfl ?_
    refine jr_zreturn dX6_has_17 rfl (by first | omega | exact bI_01 _) ?_
    rw [bI_f (by omega)] at hK
    exact hK
  · refine jr_iload_n gM dX6_has_4 rfl rfl ?_
    refine jr_aload_n gM dX6_has_5 rfl rfl ?_
    refine jr_gfi gM dX6_has_6 rfl fX6_34 rfl rfl ?_
    refine jr_icmp_ge gM dX6_has_9 rfl rfl ⟨by omega, by omega⟩ ⟨by omega, by omega⟩ (fun c9 => ?_) (fun c9 => ?_)
    · refine jr_iconst gM dX6_has_16 rfl ?_
      refine jr_zreturn dX6_has_17 rfl (by first | omega | exact bI_01 _) ?_
      rw [bI_f (by omega)] at hK
      exact hK
    · refine jr_iconst gM dX6_has_12 rfl ?_
      refine jr_goto gM dX6_has_13 rfl ?_
      refine jr_zreturn dX6_has_17 rfl (by first | omega | exact bI_01 _) ?_
      rw [bI_t (by omega)] at hK
      exact hK
set_option maxRecDepth 100000 in
theorem between_ok {d : Nat} {σ : jMem} {K : Option Value → jMem → Prop} {a b : Nat} (h1 : a < 40) (h2 : b < 40) (hK : K (some (.int (jI (σ 6 (a * 40 + b))))) σ) : jRun d mX6_between [.ref 1, .int (jI (a : Int)), .int (jI (b : Int))] σ K := by
  refine jenter (lv := [_, _, _]) rfl rfl (Nat.le_of_ble_eq_true rfl) ?_
  refine jr_aload_n gM dX6_between_0 rfl rfl ?_
  refine jr_gfr gM dX6_between_1 rfl fX6_25 rfl rfl ?_
  refine jr_iload_n gM dX6_between_4 rfl rfl ?_
  refine jr_bipush gM dX6_between_5 rfl rfl ?_
  refine jr_imul gM dX6_between_7 rfl ?_
  refine jr_iload_n gM dX6_between_8 rfl rfl ?_
  refine jr_iadd gM dX6_between_9 rfl ?_
  refine jr_iald (a * 40 + b) gM dX6_between_10 rfl rfl (by omega) (by omega) (by decide) ?_
  refine jr_ireturn dX6_between_11 rfl ?_
  exact hK
