/-! ===== Bonds ===== -/
/-- what Bonds holds: of each two uses 1 (must), 2 (mustn't) or neither; how many -/
def BI (bd : Nat → Nat → Int) (m : Nat) (σ : jMem) : Prop := (∀ u, u < 40 → σ 8 u = jk (fun v => decide (bd u v = 1))) ∧ (∀ u, u < 40 → σ 9 u = jk (fun v => decide (bd u v = 2))) ∧ σ 7 2 = (m : Int)
theorem BI.of {bd : Nat → Nat → Int} {m : Nat} {σ σ' : jMem} (h : BI bd m σ) (he : ∀ c, 7 ≤ c → c ≤ 9 → σ' c = σ c) : BI bd m σ' := by
  unfold BI
  rw [he 7 (by omega) (by omega), he 8 (by omega) (by omega), he 9 (by omega) (by omega)]
  exact h
def bdS (bd : Nat → Nat → Int) (a b : Nat) (v : Int) : Nat → Nat → Int := fun x y => if (x = a ∧ y = b) ∨ (x = b ∧ y = a) then v else bd x y
set_option maxRecDepth 100000 in
theorem untie_ok {d : Nat} {σ : jMem} {K : Option Value → jMem → Prop} {bd : Nat → Nat → Int} {m : Nat} {a b : Nat} (hB : BI bd m σ) (ha : a < 40) (hb : b < 40) (hab : a ≠ b) (hbd : ∀ u v, bd u v = 0 ∨ bd u v = 1 ∨ bd u v = 2)
    (hK0 : bd a b = 0 → K (some (.int (jI 0))) σ) (hK1 : bd a b ≠ 0 → ∀ σ' : jMem, BI (bdS bd a b 0) (m - 1) σ' → σ' 7 2 = (m : Int) - 1 → (∀ c, c ≠ 7 → c ≠ 8 → c ≠ 9 → σ' c = σ c) → K (some (.int (jI 1))) σ') (hm : bd a b ≠ 0 → 1 ≤ m) : jRun (d + 1) mX0_untie [.ref 7, .int (jI (a : Int)), .int (jI (b : Int))] σ K := by
  obtain ⟨b1, b2, b3⟩ := hB
  have hba : b ≠ a := fun q => hab q.symm
  refine jenter (lv := [_, _, _]) rfl rfl (Nat.le_of_ble_eq_true rfl) ?_
  refine jr_aload_n (pc' := 1) gM dX0_untie_0 rfl rfl ?_
  refine jr_gfr (pc' := 4) gM dX0_untie_1 rfl fX0_9 rfl rfl ?_
  refine jr_iload_n (pc' := 5) gM dX0_untie_4 rfl rfl ?_
  refine jr_lald (pc' := 6) _ gM dX0_untie_5 rfl rfl rfl (by omega) (by decide) ?_
  refine jr_aload_n (pc' := 7) gM dX0_untie_6 rfl rfl ?_
  refine jr_gfr (pc' := 10) gM dX0_untie_7 rfl fX0_15 rfl rfl ?_
  refine jr_iload_n (pc' := 11) gM dX0_untie_10 rfl rfl ?_
  refine jr_lald (pc' := 12) _ gM dX0_untie_11 rfl rfl rfl (by omega) (by decide) ?_
  rw [b1 a ha, b2 a ha]
  refine jr_lor (pc' := 13) (jk (fun v => decide (bd a v ≠ 0))) gM dX0_untie_12 rfl ((jk_or _ _).trans (congrArg jL (jk_congr (fun v _ => by rcases hbd a v with e | e | e <;> simp [e])))) ?_
  refine jr_iload_n (pc' := 14) gM dX0_untie_13 rfl rfl ?_
  refine jr_inn (pc' := 17) (as := [_, _]) gM dX0_untie_14 rfl kX0_30 rfl rfl (Nat.le_of_ble_eq_true rfl) ?_
  refine holds_ok hb ?_
  dsimp only [Option.toList, List.cons_append, List.nil_append]
  refine jr_pb_ne (tgt := 22) (pc' := 20) gM dX0_untie_17 rfl rfl (fun c17 => ?_) (fun c17 => ?_)
  · simp only [decide_eq_true_eq] at c17
    refine jr_aload_n (pc' := 23) gM dX0_untie_22 rfl rfl ?_
    refine jr_gfr (pc' := 26) gM dX0_untie_23 rfl fX0_9 rfl rfl ?_
    refine jr_iload_n (pc' := 27) gM dX0_untie_26 rfl rfl ?_
    refine jr_dup2 (pc' := 28) gM dX0_untie_27 rfl rfl rfl ?_
    refine jr_lald (pc' := 29) _ gM dX0_untie_28 rfl rfl rfl (by omega) (by decide) ?_
    refine jr_iload_n (pc' := 30) gM dX0_untie_29 rfl rfl ?_
    rw [b1 a ha]
    refine jr_inn (pc' := 33) (as := [_]) gM dX0_untie_30 rfl kX0_26 rfl rfl (Nat.le_of_ble_eq_true rfl) ?_
    refine bit_ok hb ?_
    dsimp only [Option.toList, List.cons_append, List.nil_append]
    refine jr_ldc2 (pc' := 36) gM dX0_untie_33 rfl qX0_34 ?_
    refine jr_lxor (pc' := 37) (-1 - jk (fun i => decide (i = b))) gM dX0_untie_36 rfl (jL_not _) ?_
    refine jr_land (pc' := 38) (jk (fun v => decide (bdS bd a b 0 a v = 1))) gM dX0_untie_37 rfl ((jk_andn _ _).trans (congrArg jL (jk_congr (fun v _ => by unfold bdS; by_cases e : v = b <;> simp [e, hab])))) ?_
    refine jr_last (pc' := 39) _ gM dX0_untie_38 rfl rfl rfl (by omega) (by decide) ?_
    refine jr_aload_n (pc' := 40) gM dX0_untie_39 rfl rfl ?_
    refine jr_gfr (pc' := 43) gM dX0_untie_40 rfl fX0_9 rfl rfl ?_
    refine jr_iload_n (pc' := 44) gM dX0_untie_43 rfl rfl ?_
    refine jr_dup2 (pc' := 45) gM dX0_untie_44 rfl rfl rfl ?_
    refine jr_lald (pc' := 46) _ gM dX0_untie_45 rfl rfl rfl (by omega) (by decide) ?_
    refine jr_iload_n (pc' := 47) gM dX0_untie_46 rfl rfl ?_
    rw [jup_ne (Or.inr hba), b1 b hb]
    refine jr_inn (pc' := 50) (as := [_]) gM dX0_untie_47 rfl kX0_26 rfl rfl (Nat.le_of_ble_eq_true rfl) ?_
    refine bit_ok ha ?_
    dsimp only [Option.toList, List.cons_append, List.nil_append]
    refine jr_ldc2 (pc' := 53) gM dX0_untie_50 rfl qX0_34 ?_
    refine jr_lxor (pc' := 54) (-1 - jk (fun i => decide (i = a))) gM dX0_untie_53 rfl (jL_not _) ?_
    refine jr_land (pc' := 55) (jk (fun v => decide (bdS bd a b 0 b v = 1))) gM dX0_untie_54 rfl ((jk_andn _ _).trans (congrArg jL (jk_congr (fun v _ => by unfold bdS; by_cases e : v = a <;> simp [e, hba])))) ?_
    refine jr_last (pc' := 56) _ gM dX0_untie_55 rfl rfl rfl (by omega) (by decide) ?_
    refine jr_aload_n (pc' := 57) gM dX0_untie_56 rfl rfl ?_
    refine jr_gfr (pc' := 60) gM dX0_untie_57 rfl fX0_15 rfl rfl ?_
    refine jr_iload_n (pc' := 61) gM dX0_untie_60 rfl rfl ?_
    refine jr_dup2 (pc' := 62) gM dX0_untie_61 rfl rfl rfl ?_
    refine jr_lald (pc' := 63) _ gM dX0_untie_62 rfl rfl rfl (by omega) (by decide) ?_
    refine jr_iload_n (pc' := 64) gM dX0_untie_63 rfl rfl ?_
    rw [jup_row (by omega), jup_row (by omega), b2 a ha]
    refine jr_inn (pc' := 67) (as := [_]) gM dX0_untie_64 rfl kX0_26 rfl rfl (Nat.le_of_ble_eq_true rfl) ?_
    refine bit_ok hb ?_
    dsimp only [Option.toList, List.cons_append, List.nil_append]
    refine jr_ldc2 (pc' := 70) gM dX0_untie_67 rfl qX0_34 ?_
    refine jr_lxor (pc' := 71) (-1 - jk (fun i => decide (i = b))) gM dX0_untie_70 rfl (jL_not _) ?_
    refine jr_land (pc' := 72) (jk (fun v => decide (bdS bd a b 0 a v = 2))) gM dX0_untie_71 rfl ((jk_andn _ _).trans (congrArg jL (jk_congr (fun v _ => by unfold bdS; by_cases e : v = b <;> simp [e, hab])))) ?_
    refine jr_last (pc' := 73) _ gM dX0_untie_72 rfl rfl rfl (by omega) (by decide) ?_
    refine jr_aload_n (pc' := 74) gM dX0_untie_73 rfl rfl ?_
    refine jr_gfr (pc' := 77) gM dX0_untie_74 rfl fX0_15 rfl rfl ?_
    refine jr_iload_n (pc' := 78) gM dX0_untie_77 rfl rfl ?_
    refine jr_dup2 (pc' := 79) gM dX0_untie_78 rfl rfl rfl ?_
    refine jr_lald (pc' := 80) _ gM dX0_untie_79 rfl rfl rfl (by omega) (by decide) ?_
    refine jr_iload_n (pc' := 81) gM dX0_untie_80 rfl rfl ?_
    rw [jup_ne (Or.inr hba), jup_row (by omega), jup_row (by omega), b2 b hb]
    refine jr_inn (pc' := 84) (as := [_]) gM dX0_untie_81 rfl kX0_26 rfl rfl (Nat.le_of_ble_eq_true rfl) ?_
    refine bit_ok ha ?_
    dsimp only [Option.toList, List.cons_append, List.nil_append]
    refine jr_ldc2 (pc' := 87) gM dX0_untie_84 rfl qX0_34 ?_
    refine jr_lxor (pc' := 88) (-1 - jk (fun i => decide (i = a))) gM dX0_untie_87 rfl (jL_not _) ?_
    refine jr_land (pc' := 89) (jk (fun v => decide (bdS bd a b 0 b v = 2))) gM dX0_untie_88 rfl ((jk_andn _ _).trans (congrArg jL (jk_congr (fun v _ => by unfold bdS; by_cases e : v = a <;> simp [e, hba])))) ?_
    refine jr_last (pc' := 90) _ gM dX0_untie_89 rfl rfl rfl (by omega) (by decide) ?_
    refine jr_aload_n (pc' := 91) gM dX0_untie_90 rfl rfl ?_
    refine jr_dup (pc' := 92) gM dX0_untie_91 rfl rfl ?_
    refine jr_gfi (pc' := 95) gM dX0_untie_92 rfl fX0_22 rfl rfl ?_
    refine jr_iconst (pc' := 96) gM dX0_untie_95 rfl ?_
    refine jr_isub (pc' := 97) gM dX0_untie_96 rfl ?_
    refine jr_pf (pc' := 100) gM dX0_untie_97 rfl fX0_22 rfl rfl ⟨rfl, by decide +kernel⟩ ?_
    refine jr_iconst (pc' := 101) gM dX0_untie_100 rfl ?_
    rw [jup_row (by omega), jup_row (by omega), jup_row (by omega), jup_row (by omega), b3]
    refine jr_zreturn dX0_untie_101 rfl (by first | omega | exact bI_01 _) ?_
    have hm1 := hm c17
    refine hK1 c17 _ ⟨fun u hu => ?_, fun u hu => ?_, ?_⟩ (by rw [jup_at]) (fun c q1 q2 q3 => ?_)
    · rw [jup_row (by omega), jup_row (by omega), jup_row (by omega)]
      by_cases e1 : u = b
      · subst e1
        rw [jup_at]
      · rw [jup_ne (Or.inr e1)]
        by_cases e2 : u = a
        · subst e2
          rw [jup_at]
        · rw [jup_ne (Or.inr e2), b1 u hu]
          apply jk_congr
          intro v _
          unfold bdS
          rw [if_neg (by omega)]
    · rw [jup_row (by omega)]
      by_cases e1 : u = b
      · subst e1
        rw [jup_at]
      · rw [jup_ne (Or.inr e1)]
        by_cases e2 : u = a
        · subst e2
          rw [jup_at]
        · rw [jup_ne (Or.inr e2), jup_row (by omega), jup_row (by omega), b2 u hu]
          apply jk_congr
          intro v _
          unfold bdS
          rw [if_neg (by omega)]
    · rw [jup_at]
      omega
    · rw [jup_row q1, jup_row q3, jup_row q3, jup_row q2, jup_row q2]
  · simp at c17
    refine jr_iconst (pc' := 21) gM dX0_untie_20 rfl ?_
    refine jr_zreturn dX0_untie_21 rfl (by first | omega | exact bI_01 _) ?_
    exact hK0 c17
set_option maxRecDepth 100000 in
theorem brokenBy_ok {d : Nat} {σ : jMem} {K : Option Value → jMem → Prop} {bd : Nat → Nat → Int} {m : Nat} {u : Nat} {p q : Nat → Bool} (hB : BI bd m σ) (hu : u < 40)
    (hK : K (some (.int (jI ((jn (fun v => decide (bd u v = 1) && q v && !p v) 40 + jn (fun v => decide (bd u v = 2) && p v) 40 : Nat) : Int)))) σ) : jRun (d + 1) mX0_brokenBy [.ref 7, .int (jI (u : Int)), .long (jL (jk p)), .long (jL (jk q))] σ K := by
  obtain ⟨b1, b2, b3⟩ := hB
  refine jenter (lv := [_, _, _, _, _, _]) rfl rfl (Nat.le_of_ble_eq_true rfl) ?_
  refine jr_aload_n (pc' := 1) gM dX0_brokenBy_0 rfl rfl ?_
  refine jr_gfr (pc' := 4) gM dX0_brokenBy_1 rfl fX0_9 rfl rfl ?_
  refine jr_iload_n (pc' := 5) gM dX0_brokenBy_4 rfl rfl ?_
  refine jr_lald (pc' := 6) _ gM dX0_brokenBy_5 rfl rfl rfl (by omega) (by decide) ?_
  refine jr_lload (pc' := 8) gM dX0_brokenBy_6 rfl rfl ?_
  rw [b1 u hu]
  refine jr_land (pc' := 9) (jk (fun v => decide (bd u v = 1) && q v)) gM dX0_brokenBy_8 rfl (jk_and _ _) ?_
  refine jr_lload_n (pc' := 10) gM dX0_brokenBy_9 rfl rfl ?_
  refine jr_ldc2 (pc' := 13) gM dX0_brokenBy_10 rfl qX0_34 ?_
  refine jr_lxor (pc' := 14) (-1 - jk p) gM dX0_brokenBy_13 rfl (jL_not _) ?_
  refine jr_land (pc' := 15) (jk (fun v => decide (bd u v = 1) && q v && !p v)) gM dX0_brokenBy_14 rfl (jk_andn _ _) ?_
  refine jr_ins (pc' := 18) (as := [_]) gM dX0_brokenBy_15 rfl kX0_36 rfl rfl (Nat.le_of_ble_eq_true rfl) ?_
  refine bitCount_ok ?_
  dsimp only [Option.toList, List.cons_append, List.nil_append]
  refine jr_aload_n (pc' := 19) gM dX0_brokenBy_18 rfl rfl ?_
  refine jr_gfr (pc' := 22) gM dX0_brokenBy_19 rfl fX0_15 rfl rfl ?_
  refine jr_iload_n (pc' := 23) gM dX0_brokenBy_22 rfl rfl ?_
  refine jr_lald (pc' := 24) _ gM dX0_brokenBy_23 rfl rfl rfl (by omega) (by decide) ?_
  refine jr_lload_n (pc' := 25) gM dX0_brokenBy_24 rfl rfl ?_
  rw [b2 u hu]
  refine jr_land (pc' := 26) (jk (fun v => decide (bd u v = 2) && p v)) gM dX0_brokenBy_25 rfl (jk_and _ _) ?_
  refine jr_ins (pc' := 29) (as := [_]) gM dX0_brokenBy_26 rfl kX0_36 rfl rfl (Nat.le_of_ble_eq_true rfl) ?_
  refine bitCount_ok ?_
  dsimp only [Option.toList, List.cons_append, List.nil_append]
  refine jr_iadd (pc' := 30) gM dX0_brokenBy_29 rfl ?_
  refine jr_ireturn dX0_brokenBy_30 rfl ?_
  rw [show ((jn (fun v => decide (bd u v = 1) && q v && !p v) 40 + jn (fun v => decide (bd u v = 2) && p v) 40 : Nat) : Int) = ((jn (fun v => decide (bd u v = 1) && q v && !p v) 40 : Nat) : Int) + ((jn (fun v => decide (bd u v = 2) && p v) 40 : Nat) : Int) by omega] at hK
  exact hK
set_option maxRecDepth 100000 in
theorem brokenByMelt_ok {d : Nat} {σ : jMem} {K : Option Value → jMem → Prop} {bd : Nat → Nat → Int} {m : Nat} {p q : Nat → Bool} (hB : BI bd m σ)
    (hK : K (some (.int (jI (js (fun u => if p u then ((jn (fun v => decide (bd u v = 2) && q v) 40 : Nat) : Int) - ((jn (fun v => decide (bd u v = 1) && q v) 40 : Nat) : Int) else 0) 40)))) σ) : jRun (d + 1) mX0_brokenByMelt [.ref 7, .long (jL (jk p)), .long (jL (jk q))] σ K := by
  obtain ⟨b1, b2, b3⟩ := hB
  refine jenter (lv := [_, _, _, _, _, _, _]) rfl rfl (Nat.le_of_ble_eq_true rfl) ?_
  refine jr_iconst (pc' := 1) gM dX0_brokenByMelt_0 rfl ?_
  refine jr_istore (pc' := 3) (lv' := [_, _, _, _, _, _, _]) gM dX0_brokenByMelt_1 rfl rfl (Nat.le_of_ble_eq_true rfl) ?_
  refine jr_iconst (pc' := 4) gM dX0_brokenByMelt_3 rfl ?_
  refine jr_istore (pc' := 6) (lv' := [_, _, _, _, _, _, _]) gM dX0_brokenByMelt_4 rfl rfl (Nat.le_of_ble_eq_true rfl) ?_
  have lp : ∀ i, i ≤ 40 → jV (jP mX0_brokenByMelt (d + 1) K) 6 [some (.ref 7), some (.long (jL (jk p))), none, some (.long (jL (jk q))), none, some (.int (jI (js (fun u => if p u then ((jn (fun v => decide (bd u v = 2) && q v) 40 : Nat) : Int) - ((jn (fun v => decide (bd u v = 1) && q v) 40 : Nat) : Int) else 0) i))), some (.int (jI (i : Int)))] [] σ := by
    refine jdown 40 ?_
    intro i hi ih
    refine jr_iload (pc' := 8) gM dX0_brokenByMelt_6 rfl rfl ?_
    refine jr_bipush (pc' := 10) gM dX0_brokenByMelt_8 rfl rfl ?_
    refine jr_icmp_ge (tgt := 58) (pc' := 13) gM dX0_brokenByMelt_10 rfl rfl ⟨by omega, by omega⟩ ⟨by omega, by omega⟩ (fun c10 => ?_) (fun c10 => ?_)
    · refine jr_iload (pc' := 60) gM dX0_brokenByMelt_58 rfl rfl ?_
      refine jr_ireturn dX0_brokenByMelt_60 rfl ?_
      have e : i = 40 := by omega
      subst e
      exact hK
    · have h := ih (i + 1) (by omega) (by omega)
      simp only [js] at h
      refine jr_lload_n (pc' := 14) gM dX0_brokenByMelt_13 rfl rfl ?_
      refine jr_iload (pc' := 16) gM dX0_brokenByMelt_14 rfl rfl ?_
      refine jr_inn (pc' := 19) (as := [_, _]) gM dX0_brokenByMelt_16 rfl kX0_30 rfl rfl (Nat.le_of_ble_eq_true rfl) ?_
      refine holds_ok (by omega) ?_
      dsimp only [Option.toList, List.cons_append, List.nil_append]
      refine jr_pb_eq (tgt := 52) (pc' := 22) gM dX0_brokenByMelt_19 rfl rfl (fun c19 => ?_) (fun c19 => ?_)
      · refine jr_iinc (pc' := 55) (lv' := [_, _, _, _, _, _, _]) gM dX0_brokenByMelt_52 rfl rfl rfl ?_
        refine jr_goto (tgt := 6) gM dX0_brokenByMelt_55 rfl ?_
        rw [if_neg c19, Int.add_zero] at h
        exact h
      · refine jr_iload (pc' := 24) gM dX0_brokenByMelt_22 rfl rfl ?_
        refine jr_aload_n (pc' := 25) gM dX0_brokenByMelt_24 rfl rfl ?_
        refine jr_gfr (pc' := 28) gM dX0_brokenByMelt_25 rfl fX0_15 rfl rfl ?_
        refine jr_iload (pc' := 30) gM dX0_brokenByMelt_28 rfl rfl ?_
        refine jr_lald (pc' := 31) _ gM dX0_brokenByMelt_30 rfl rfl rfl (by omega) (by decide) ?_
        refine jr_lload_n (pc' := 32) gM dX0_brokenByMelt_31 rfl rfl ?_
        rw [b2 i (by omega)]
        refine jr_land (pc' := 33) (jk (fun v => decide (bd i v = 2) && q v)) gM dX0_brokenByMelt_32 rfl (jk_and _ _) ?_
        refine jr_ins (pc' := 36) (as := [_]) gM dX0_brokenByMelt_33 rfl kX0_36 rfl rfl (Nat.le_of_ble_eq_true rfl) ?_
        refine bitCount_ok ?_
        dsimp only [Option.toList, List.cons_append, List.nil_append]
        refine jr_aload_n (pc' := 37) gM dX0_brokenByMelt_36 rfl rfl ?_
        refine jr_gfr (pc' := 40) gM dX0_brokenByMelt_37 rfl fX0_9 rfl rfl ?_
        refine jr_iload (pc' := 42) gM dX0_brokenByMelt_40 rfl rfl ?_
        refine jr_lald (pc' := 43) _ gM dX0_brokenByMelt_42 rfl rfl rfl (by omega) (by decide) ?_
        refine jr_lload_n (pc' := 44) gM dX0_brokenByMelt_43 rfl rfl ?_
        rw [b1 i (by omega)]
        refine jr_land (pc' := 45) (jk (fun v => decide (bd i v = 1) && q v)) gM dX0_brokenByMelt_44 rfl (jk_and _ _) ?_
        refine jr_ins (pc' := 48) (as := [_]) gM dX0_brokenByMelt_45 rfl kX0_36 rfl rfl (Nat.le_of_ble_eq_true rfl) ?_
        refine bitCount_ok ?_
        dsimp only [Option.toList, List.cons_append, List.nil_append]
        refine jr_isub (pc' := 49) gM dX0_brokenByMelt_48 rfl ?_
        refine jr_iadd (pc' := 50) gM dX0_brokenByMelt_49 rfl ?_
        refine jr_istore (pc' := 52) (lv' := [_, _, _, _, _, _, _]) gM dX0_brokenByMelt_50 rfl rfl (Nat.le_of_ble_eq_true rfl) ?_
        refine jr_iinc (pc' := 55) (lv' := [_, _, _, _, _, _, _]) gM dX0_brokenByMelt_52 rfl rfl rfl ?_
        refine jr_goto (tgt := 6) gM dX0_brokenByMelt_55 rfl ?_
        rw [if_pos c19] at h
        exact h
  exact lp 0 (by omega)
set_option maxRecDepth 100000 in
theorem brokenIn_ok {d : Nat} {σ : jMem} {K : Option Value → jMem → Prop} {n : Nat} {hp : Nat → Int} {bd : Nat → Nat → Int} {m : Nat} (hc : σ 1 5 = (n : Int)) (hn : n ≤ 40) (hV : HV n hp) (hI : HI hp σ) (hB : BI bd m σ)
    (hK : K (some (.int (jI (js (fun u => if hp u ≠ -1 then ((jn (fun v => decide (bd u v = 1) && decide (hp v ≠ -1) && !decide (hp u ≠ -1 ∧ hp v = hp u)) 40 + jn (fun v => decide (bd u v = 2) && decide (hp u ≠ -1 ∧ hp v = hp u)) 40 : Nat) : Int) else 0) 40 / 2)))) σ) : jRun (d + 2) mX0_brokenIn [.ref 7, .ref 10] σ K := by
  refine jenter (lv := [_, _, _, _, _, _]) rfl rfl (Nat.le_of_ble_eq_true rfl) ?_
  refine jr_aload_n (pc' := 1) gM dX0_brokenIn_0 rfl rfl ?_
  refine jr_inv (pc' := 4) (as := []) gM dX0_brokenIn_1 rfl kX0_42 rfl rfl rfl (Nat.le_of_ble_eq_true rfl) ?_
  refine allLaid_ok hc hn hV hI ?_
  dsimp only [Option.toList, List.cons_append, List.nil_append]
  refine jr_lstore_n (pc' := 5) (lv' := [_, _, _, _, _, _]) gM dX0_brokenIn_4 rfl rfl (Nat.le_of_ble_eq_true rfl) ?_
  refine jr_iconst (pc' := 6) gM dX0_brokenIn_5 rfl ?_
  refine jr_istore (pc' := 8) (lv' := [_, _, _, _, _, _]) gM dX0_brokenIn_6 rfl rfl (Nat.le_of_ble_eq_true rfl) ?_
  refine jr_iconst (pc' := 9) gM dX0_brokenIn_8 rfl ?_
  refine jr_istore (pc' := 11) (lv' := [_, _, _, _, _, _]) gM dX0_brokenIn_9 rfl rfl (Nat.le_of_ble_eq_true rfl) ?_
  have lp : ∀ i, i ≤ 40 → jV (jP mX0_brokenIn (d + 2) K) 11 [some (.ref 7), some (.ref 10), some (.long (jL (jk (fun v => decide (hp v ≠ -1))))), none, some (.int (jI (js (fun u => if hp u ≠ -1 then ((jn (fun v => decide (bd u v = 1) && decide (hp v ≠ -1) && !decide (hp u ≠ -1 ∧ hp v = hp u)) 40 + jn (fun v => decide (bd u v = 2) && decide (hp u ≠ -1 ∧ hp v = hp u)) 40 : Nat) : Int) else 0) i))), some (.int (jI (i : Int)))] [] σ := by
    refine jdown 40 ?_
    intro i hi ih
    refine jr_iload (pc' := 13) gM dX0_brokenIn_11 rfl rfl ?_
    refine jr_bipush (pc' := 15) gM dX0_brokenIn_13 rfl rfl ?_
    refine jr_icmp_ge (tgt := 51) (pc' := 18) gM dX0_brokenIn_15 rfl rfl ⟨by omega, by omega⟩ ⟨by omega, by omega⟩ (fun c15 => ?_) (fun c15 => ?_)
    · have e : i = 40 := by omega
      subst e
      have bnd := js_le (f := fun u => if hp u ≠ -1 then ((jn (fun v => decide (bd u v = 1) && decide (hp v ≠ -1) && !decide (hp u ≠ -1 ∧ hp v = hp u)) 40 + jn (fun v => decide (bd u v = 2) && decide (hp u ≠ -1 ∧ hp v = hp u)) 40 : Nat) : Int) else 0) (n := 40) (b := 80) (fun u _ => by
        have q1 := jn_le (fun v => decide (bd u v = 1) && decide (hp v ≠ -1) && !decide (hp u ≠ -1 ∧ hp v = hp u)) 40
        have q2 := jn_le (fun v => decide (bd u v = 2) && decide (hp u ≠ -1 ∧ hp v = hp u)) 40
        split <;> omega)
      refine jr_iload (pc' := 53) gM dX0_brokenIn_51 rfl rfl ?_
      refine jr_iconst (pc' := 54) gM dX0_brokenIn_53 rfl ?_
      refine jr_idiv (pc' := 55) gM dX0_brokenIn_54 rfl (by omega) (by omega) ?_
      refine jr_ireturn dX0_brokenIn_55 rfl ?_
      exact hK
    · have h := ih (i + 1) (by omega) (by omega)
      simp only [js] at h
      refine jr_lload_n (pc' := 19) gM dX0_brokenIn_18 rfl rfl ?_
      refine jr_iload (pc' := 21) gM dX0_brokenIn_19 rfl rfl ?_
      refine jr_inn (pc' := 24) (as := [_, _]) gM dX0_brokenIn_21 rfl kX0_30 rfl rfl (Nat.le_of_ble_eq_true rfl) ?_
      refine holds_ok (by omega) ?_
      dsimp only [Option.toList, List.cons_append, List.nil_append]
      refine jr_pb_eq (tgt := 45) (pc' := 27) gM dX0_brokenIn_24 rfl rfl (fun c24 => ?_) (fun c24 => ?_)
      · refine jr_iinc (pc' := 48) (lv' := [_, _, _, _, _, _]) gM dX0_brokenIn_45 rfl rfl rfl ?_
        refine jr_goto (tgt := 11) gM dX0_brokenIn_48 rfl ?_
        rw [if_neg (by simpa using c24), Int.add_zero] at h
        exact h
      · refine jr_iload (pc' := 29) gM dX0_brokenIn_27 rfl rfl ?_
        refine jr_aload_n (pc' := 30) gM dX0_brokenIn_29 rfl rfl ?_
        refine jr_iload (pc' := 32) gM dX0_brokenIn_30 rfl rfl ?_
        refine jr_aload_n (pc' := 33) gM dX0_brokenIn_32 rfl rfl ?_
        refine jr_iload (pc' := 35) gM dX0_brokenIn_33 rfl rfl ?_
        refine jr_inv (pc' := 38) (as := [_]) gM dX0_brokenIn_35 rfl kX0_48 rfl rfl rfl (Nat.le_of_ble_eq_true rfl) ?_
        refine around_ok hn hV hI (by omega) ?_
        dsimp only [Option.toList, List.cons_append, List.nil_append]
        refine jr_lload_n (pc' := 39) gM dX0_brokenIn_38 rfl rfl ?_
        refine jr_inv (pc' := 42) (as := [_, _, _]) gM dX0_brokenIn_39 rfl kX0_51 rfl rfl rfl (Nat.le_of_ble_eq_true rfl) ?_
        refine brokenBy_ok hB (by omega) ?_
        dsimp only [Option.toList, List.cons_append, List.nil_append]
        refine jr_iadd (pc' := 43) gM dX0_brokenIn_42 rfl ?_
        refine jr_istore (pc' := 45) (lv' := [_, _, _, _, _, _]) gM dX0_brokenIn_43 rfl rfl (Nat.le_of_ble_eq_true rfl) ?_
        refine jr_iinc (pc' := 48) (lv' := [_, _, _, _, _, _]) gM dX0_brokenIn_45 rfl rfl rfl ?_
        refine jr_goto (tgt := 11) gM dX0_brokenIn_48 rfl ?_
        rw [if_pos (by simpa using c24)] at h
        exact h
  exact lp 0 (by omega)
