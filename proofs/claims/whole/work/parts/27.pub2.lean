/-! ===== WordSenses: its public methods, on ===== -/
section jPub2
variable {n : Nat} {nb : Nat → Nat} {yr wt hp : Nat → Int} {pr ga sh fe : Int} {bd : Nat → Nat → Int} {m s : Nat} {se : Nat → Nat} {sp : Int} {σ : jMem} {K : Option Value → jMem → Prop} {d : Nat}
set_option maxRecDepth 100000 in
theorem isPair_ok {x y : Int} (hc : σ 1 5 = (n : Int)) (hn : n ≤ 40) (h1 : jR x) (h2 : jR y) (hK : K (some (.int (jI (bI (x ≠ y ∧ (0 ≤ x ∧ x < n) ∧ 0 ≤ y ∧ y < n))))) σ) : jRun (d + 1) mX7_isPair [.ref 0, .int (jI x), .int (jI y)] σ K := by
  refine jenter (lv := [_, _, _]) rfl rfl (Nat.le_of_ble_eq_true rfl) ?_
  refine jr_iload_n (pc' := 1) gM dX7_isPair_0 rfl rfl ?_
  refine jr_iload_n (pc' := 2) gM dX7_isPair_1 rfl rfl ?_
  refine jr_icmp_eq (tgt := 31) (pc' := 5) gM dX7_isPair_2 rfl rfl ⟨by omega, by omega⟩ ⟨by omega, by omega⟩ (fun c2 => ?_) (fun c2 => ?_)
  · refine jr_iconst (pc' := 32) gM dX7_isPair_31 rfl ?_
    refine jr_zreturn dX7_isPair_32 rfl (by first | omega | exact bI_01 _) ?_
    rw [bI_f (fun q => q.1 c2)] at hK
    exact hK
  · refine jr_aload_n (pc' := 6) gM dX7_isPair_5 rfl rfl ?_
    refine jr_gfr (pc' := 9) gM dX7_isPair_6 rfl fX7_10 rfl rfl ?_
    refine jr_iload_n (pc' := 10) gM dX7_isPair_9 rfl rfl ?_
    refine jr_inv (pc' := 13) (as := [_]) gM dX7_isPair_10 rfl kX7_99 rfl rfl rfl (Nat.le_of_ble_eq_true rfl) ?_
    refine has_ok h1 ⟨by omega, by omega⟩ ?_
    dsimp only [Option.toList, List.cons_append, List.nil_append]
    rw [hc]
    refine jr_pb_eq (tgt := 31) (pc' := 16) gM dX7_isPair_13 rfl rfl (fun c13 => ?_) (fun c13 => ?_)
    · refine jr_iconst (pc' := 32) gM dX7_isPair_31 rfl ?_
      refine jr_zreturn dX7_isPair_32 rfl (by first | omega | exact bI_01 _) ?_
      rw [bI_f (fun q => c13 q.2.1)] at hK
      exact hK
    · refine jr_aload_n (pc' := 17) gM dX7_isPair_16 rfl rfl ?_
      refine jr_gfr (pc' := 20) gM dX7_isPair_17 rfl fX7_10 rfl rfl ?_
      refine jr_iload_n (pc' := 21) gM dX7_isPair_20 rfl rfl ?_
      refine jr_inv (pc' := 24) (as := [_]) gM dX7_isPair_21 rfl kX7_99 rfl rfl rfl (Nat.le_of_ble_eq_true rfl) ?_
      refine has_ok h2 ⟨by omega, by omega⟩ ?_
      dsimp only [Option.toList, List.cons_append, List.nil_append]
      rw [hc]
      refine jr_pb_eq (tgt := 31) (pc' := 27) gM dX7_isPair_24 rfl rfl (fun c24 => ?_) (fun c24 => ?_)
      · refine jr_iconst (pc' := 32) gM dX7_isPair_31 rfl ?_
        refine jr_zreturn dX7_isPair_32 rfl (by first | omega | exact bI_01 _) ?_
        rw [bI_f (fun q => c24 q.2.2)] at hK
        exact hK
      · refine jr_iconst (pc' := 28) gM dX7_isPair_27 rfl ?_
        refine jr_goto (tgt := 32) gM dX7_isPair_28 rfl ?_
        refine jr_zreturn dX7_isPair_32 rfl (by first | omega | exact bI_01 _) ?_
        rw [bI_t ⟨c2, c13, c24⟩] at hK
        exact hK
theorem bdS_ok {a b : Nat} {v : Int} {m' : Nat} (h : bdOk n bd m) (ha : a < n) (hb : b < n) (hab : a ≠ b) (hv : v = 0 ∨ v = 1 ∨ v = 2) (hm : m' ≤ 60) (hm1 : (∃ x y, bdS bd a b v x y ≠ 0) → 1 ≤ m') : bdOk n (bdS bd a b v) m' := by
  obtain ⟨h1, h2, h3, h4, h5⟩ := h
  refine ⟨fun u w => ?_, fun u w => ?_, fun u => ?_, fun u w q => ?_, hm⟩
  · unfold bdS
    split
    · exact hv
    · exact h1 u w
  · unfold bdS
    rw [h2 u w]
    have : ((u = a ∧ w = b) ∨ (u = b ∧ w = a)) ↔ ((w = a ∧ u = b) ∨ (w = b ∧ u = a)) := by omega
    simp only [this]
  · unfold bdS
    rw [if_neg (by omega)]
    exact h3 u
  · refine ⟨?_, ?_, hm1 ⟨u, w, q⟩⟩
    · unfold bdS at q
      split at q
      · omega
      · exact (h4 u w q).1
    · unfold bdS at q
      split at q
      · omega
      · exact (h4 u w q).2.1
set_option maxRecDepth 100000 in
theorem x_bond {x y b : Int} (hC : CI n nb yr wt hp pr ga sh fe bd m s se sp σ) (h1 : jR x) (h2 : jR y) (hb : b = 0 ∨ b = 1)
    (hK0 : ¬ (x ≠ y ∧ (0 ≤ x ∧ x < n) ∧ 0 ≤ y ∧ y < n) ∨ (bd x.toNat y.toNat = 0 ∧ m = 60) → K (some (.int (jI 0))) σ)
    (hK1 : ∀ a c : Nat, x = (a : Int) → y = (c : Int) → a < n → c < n → a ≠ c → ¬ (bd a c = 0 ∧ m = 60) → ∀ σ' : jMem, CI n nb yr wt hp pr ga sh fe (bdS bd a c (2 - b)) (if bd a c = 0 then m + 1 else m) s se sp σ' → (∀ c, 24 ≤ c → σ' c = σ c) → K (some (.int (jI 1))) σ') : jRun (d + 9) mX7_bond [.ref 0, .int (jI x), .int (jI y), .int (jI b)] σ K := by
  have hn := hC.1.2.1
  have hO := hC.2.2.2.2.1
  refine jenter (lv := [_, _, _, _]) rfl rfl (Nat.le_of_ble_eq_true rfl) ?_
  refine jr_aload_n (pc' := 1) gM dX7_bond_0 rfl rfl ?_
  refine jr_iload_n (pc' := 2) gM dX7_bond_1 rfl rfl ?_
  refine jr_iload_n (pc' := 3) gM dX7_bond_2 rfl rfl ?_
  refine jr_inv (pc' := 6) (as := [_, _]) gM dX7_bond_3 rfl kX7_119 rfl rfl rfl (Nat.le_of_ble_eq_true rfl) ?_
  refine isPair_ok hC.1.1 hn h1 h2 ?_
  dsimp only [Option.toList, List.cons_append, List.nil_append]
  refine jr_pb_eq (tgt := 26) (pc' := 9) gM dX7_bond_6 rfl rfl (fun c6 => ?_) (fun c6 => ?_)
  · refine jr_iconst (pc' := 27) gM dX7_bond_26 rfl ?_
    refine jr_zreturn dX7_bond_27 rfl (by first | omega | exact bI_01 _) ?_
    exact hK0 (Or.inl c6)
  · obtain ⟨a, rfl⟩ := Int.eq_ofNat_of_zero_le c6.2.1.1
    obtain ⟨c, rfl⟩ := Int.eq_ofNat_of_zero_le c6.2.2.1
    have h60 := hO.2.2.2.2
    refine jr_aload_n (pc' := 10) gM dX7_bond_9 rfl rfl ?_
    refine jr_gfr (pc' := 13) gM dX7_bond_10 rfl fX7_19 rfl rfl ?_
    refine jr_iload_n (pc' := 14) gM dX7_bond_13 rfl rfl ?_
    refine jr_iload_n (pc' := 15) gM dX7_bond_14 rfl rfl ?_
    refine jr_iload_n (pc' := 16) gM dX7_bond_15 rfl rfl ?_
    refine jr_inv (pc' := 19) (as := [_, _, _]) gM dX7_bond_16 rfl kX7_123 rfl rfl rfl (Nat.le_of_ble_eq_true rfl) ?_
    refine tie_ok hC.2.2.2.1 (by omega) (by omega) (by omega) hO.1 (hO.2.1 c a) hb h60 (fun q => (hO.2.2.2.1 a c q).2.2) (fun z1 z2 => ?_) (fun z σ' k1 k2 => ?_)
    · dsimp only [Option.toList, List.cons_append, List.nil_append]
      refine jr_if_eq (tgt := 26) (pc' := 22) gM dX7_bond_19 rfl rfl ⟨by omega, by omega⟩ (fun _ => ?_) (fun cc => absurd cc (by omega))
      refine jr_iconst (pc' := 27) gM dX7_bond_26 rfl ?_
      refine jr_zreturn dX7_bond_27 rfl (by first | omega | exact bI_01 _) ?_
      exact hK0 (Or.inr ⟨z1, by omega⟩)
    · dsimp only [Option.toList, List.cons_append, List.nil_append]
      refine jr_if_eq (tgt := 26) (pc' := 22) gM dX7_bond_19 rfl rfl ⟨by omega, by omega⟩ (fun cc => absurd cc (by omega)) (fun _ => ?_)
      refine jr_iconst (pc' := 23) gM dX7_bond_22 rfl ?_
      refine jr_goto (tgt := 27) gM dX7_bond_23 rfl ?_
      refine jr_zreturn dX7_bond_27 rfl (by first | omega | exact bI_01 _) ?_
      refine hK1 a c rfl rfl (by omega) (by omega) (by omega) (by omega) σ' (hC.bonds k1 (bdS_ok hO (by omega) (by omega) (by omega) (by omega) ?_ ?_) k2) (fun c hc => k2 c (by omega) (by omega) (by omega))
      · split <;> omega
      · intro _
        split
        · omega
        · exact (hO.2.2.2.1 a c (by assumption)).2.2
set_option maxRecDepth 100000 in
theorem x_free {x y : Int} (hC : CI n nb yr wt hp pr ga sh fe bd m s se sp σ) (h1 : jR x) (h2 : jR y) (hcnt : ∀ a c : Nat, bd a c ≠ 0 → (∃ u v, bdS bd a c 0 u v ≠ 0) → 2 ≤ m)
    (hK0 : ¬ (x ≠ y ∧ (0 ≤ x ∧ x < n) ∧ 0 ≤ y ∧ y < n) ∨ bd x.toNat y.toNat = 0 → K (some (.int (jI 0))) σ)
    (hK1 : ∀ a c : Nat, x = (a : Int) → y = (c : Int) → a < n → c < n → a ≠ c → bd a c ≠ 0 → ∀ σ' : jMem, CI n nb yr wt hp pr ga sh fe (bdS bd a c 0) (m - 1) s se sp σ' → (∀ c, 24 ≤ c → σ' c = σ c) → K (some (.int (jI 1))) σ') : jRun (d + 9) mX7_free [.ref 0, .int (jI x), .int (jI y)] σ K := by
  have hn := hC.1.2.1
  have hO := hC.2.2.2.2.1
  refine jenter (lv := [_, _, _]) rfl rfl (Nat.le_of_ble_eq_true rfl) ?_
  refine jr_aload_n (pc' := 1) gM dX7_free_0 rfl rfl ?_
  refine jr_iload_n (pc' := 2) gM dX7_free_1 rfl rfl ?_
  refine jr_iload_n (pc' := 3) gM dX7_free_2 rfl rfl ?_
  refine jr_inv (pc' := 6) (as := [_, _]) gM dX7_free_3 rfl kX7_119 rfl rfl rfl (Nat.le_of_ble_eq_true rfl) ?_
  refine isPair_ok hC.1.1 hn h1 h2 ?_
  dsimp only [Option.toList, List.cons_append, List.nil_append]
  refine jr_pb_eq (tgt := 25) (pc' := 9) gM dX7_free_6 rfl rfl (fun c6 => ?_) (fun c6 => ?_)
  · refine jr_iconst (pc' := 26) gM dX7_free_25 rfl ?_
    refine jr_zreturn dX7_free_26 rfl (by first | omega | exact bI_01 _) ?_
    exact hK0 (Or.inl c6)
  · obtain ⟨a, rfl⟩ := Int.eq_ofNat_of_zero_le c6.2.1.1
    obtain ⟨c, rfl⟩ := Int.eq_ofNat_of_zero_le c6.2.2.1
    have h60 := hO.2.2.2.2
    refine jr_aload_n (pc' := 10) gM dX7_free_9 rfl rfl ?_
    refine jr_gfr (pc' := 13) gM dX7_free_10 rfl fX7_19 rfl rfl ?_
    refine jr_iload_n (pc' := 14) gM dX7_free_13 rfl rfl ?_
    refine jr_iload_n (pc' := 15) gM dX7_free_14 rfl rfl ?_
    refine jr_inv (pc' := 18) (as := [_, _]) gM dX7_free_15 rfl kX7_127 rfl rfl rfl (Nat.le_of_ble_eq_true rfl) ?_
    refine untie_ok hC.2.2.2.1 (by omega) (by omega) (by omega) hO.1 (fun z => ?_) (fun z σ' k1 k2 k3 => ?_) (fun q => (hO.2.2.2.1 a c q).2.2)
    · dsimp only [Option.toList, List.cons_append, List.nil_append]
      refine jr_if_eq (tgt := 25) (pc' := 21) gM dX7_free_18 rfl rfl ⟨by omega, by omega⟩ (fun _ => ?_) (fun cc => absurd cc (by omega))
      refine jr_iconst (pc' := 26) gM dX7_free_25 rfl ?_
      refine jr_zreturn dX7_free_26 rfl (by first | omega | exact bI_01 _) ?_
      exact hK0 (Or.inr z)
    · dsimp only [Option.toList, List.cons_append, List.nil_append]
      refine jr_if_eq (tgt := 25) (pc' := 21) gM dX7_free_18 rfl rfl ⟨by omega, by omega⟩ (fun cc => absurd cc (by omega)) (fun _ => ?_)
      refine jr_iconst (pc' := 22) gM dX7_free_21 rfl ?_
      refine jr_goto (tgt := 26) gM dX7_free_22 rfl ?_
      refine jr_zreturn dX7_free_26 rfl (by first | omega | exact bI_01 _) ?_
      refine hK1 a c rfl rfl (by omega) (by omega) (by omega) z σ' (hC.bonds k1 (bdS_ok hO (by omega) (by omega) (by omega) (by omega) (by omega) (fun q => ?_)) k3) (fun c hc => k3 c (by omega) (by omega) (by omega))
      have := hcnt a c z q
      omega
set_option maxRecDepth 100000 in
theorem x_settle {x : Int} (hC : CI n nb yr wt hp pr ga sh fe bd m s se sp σ) (h1 : jR x)
    (hK0 : ¬ (0 ≤ x ∧ x ≤ 100) → K (some (.int (jI (-1)))) σ)
    (hK1 : ∀ t : Nat, x = (t : Int) → t ≤ 100 → ∀ σ' : jMem, CI n nb yr wt (stN (stR n (fun a b => jfar wt (nb a) (nb b)) bd pr) t hp).2 pr ga sh fe bd m s se (sp + ((stN (stR n (fun a b => jfar wt (nb a) (nb b)) bd pr) t hp).1 : Int)) σ' → (∀ c, 24 ≤ c → σ' c = σ c) → K (some (.int (jI ((stN (stR n (fun a b => jfar wt (nb a) (nb b)) bd pr) t hp).1 : Int)))) σ') : jRun (d + 9) mX7_settle [.ref 0, .int (jI x)] σ K := by
  refine jenter (lv := [_, _]) rfl rfl (Nat.le_of_ble_eq_true rfl) ?_
  refine jr_iload_n (pc' := 1) gM dX7_settle_0 rfl rfl ?_
  refine jr_iconst (pc' := 2) gM dX7_settle_1 rfl ?_
  refine jr_bipush (pc' := 4) gM dX7_settle_2 rfl rfl ?_
  refine jr_ins (pc' := 7) (as := [_, _, _]) gM dX7_settle_4 rfl kX7_66 rfl rfl (Nat.le_of_ble_eq_true rfl) ?_
  refine within_ok h1 ⟨by omega, by omega⟩ ⟨by omega, by omega⟩ ?_
  dsimp only [Option.toList, List.cons_append, List.nil_append]
  refine jr_pb_ne (tgt := 12) (pc' := 10) gM dX7_settle_7 rfl rfl (fun c7 => ?_) (fun c7 => ?_)
  · obtain ⟨t, rfl⟩ := Int.eq_ofNat_of_zero_le c7.1
    refine jr_aload_n (pc' := 13) gM dX7_settle_12 rfl rfl ?_
    refine jr_gfr (pc' := 16) gM dX7_settle_13 rfl fX7_37 rfl rfl ?_
    refine jr_iload_n (pc' := 17) gM dX7_settle_16 rfl rfl ?_
    refine jr_inv (pc' := 20) (as := [_]) gM dX7_settle_17 rfl kX7_130 rfl rfl rfl (Nat.le_of_ble_eq_true rfl) ?_
    refine makeSteps_ok hC.SI hC.2.2.2.2.1.2.2.1 (by omega) (fun hV' σ' k1 k2 k3 => ?_)
    dsimp only [Option.toList, List.cons_append, List.nil_append]
    refine jr_ireturn dX7_settle_20 rfl ?_
    obtain ⟨q1, q2, q3, q4, q5, q6, q7, q8, q9, q10, q11⟩ := hC
    refine hK1 t rfl (by omega) σ' ⟨q1.of (fun c _ _ => k3 c (by omega) (by omega) (by omega) (by omega)), hV', k1, q4.of (fun c _ _ => k3 c (by omega) (by omega) (by omega) (by omega)), q5, ?_⟩ (fun c hc => k3 c (by omega) (by omega) (by omega) (by omega))
    rw [k3 10 (by omega) (by omega) (by omega) (by omega), k3 17 (by omega) (by omega) (by omega) (by omega), k3 18 (by omega) (by omega) (by omega) (by omega), k3 19 (by omega) (by omega) (by omega) (by omega)]
    exact ⟨q6, q7, q8, q9, q10, by rw [k2, q11]⟩
  · refine jr_iconst (pc' := 11) gM dX7_settle_10 rfl ?_
    refine jr_ireturn dX7_settle_11 rfl ?_
    exact hK0 c7
set_option maxRecDepth 100000 in
theorem x_heap {x : Int} (hC : CI n nb yr wt hp pr ga sh fe bd m s se sp σ) (h1 : jR x)
    (hK : K (some (.int (jI (if 0 ≤ x ∧ x < n then hp x.toNat else -1)))) σ) : jRun (d + 9) mX7_heap [.ref 0, .int (jI x)] σ K := by
  have hn := hC.1.2.1
  have hc1 := hC.1.1
  refine jenter (lv := [_, _]) rfl rfl (Nat.le_of_ble_eq_true rfl) ?_
  refine jr_aload_n (pc' := 1) gM dX7_heap_0 rfl rfl ?_
  refine jr_gfr (pc' := 4) gM dX7_heap_1 rfl fX7_10 rfl rfl ?_
  refine jr_iload_n (pc' := 5) gM dX7_heap_4 rfl rfl ?_
  refine jr_inv (pc' := 8) (as := [_]) gM dX7_heap_5 rfl kX7_99 rfl rfl rfl (Nat.le_of_ble_eq_true rfl) ?_
  refine has_ok h1 ⟨by omega, by omega⟩ ?_
  dsimp only [Option.toList, List.cons_append, List.nil_append]
  rw [hc1]
  refine jr_pb_eq (tgt := 23) (pc' := 11) gM dX7_heap_8 rfl rfl (fun c8 => ?_) (fun c8 => ?_)
  · refine jr_iconst (pc' := 24) gM dX7_heap_23 rfl ?_
    refine jr_ireturn dX7_heap_24 rfl ?_
    rw [if_neg c8] at hK
    exact hK
  · obtain ⟨u, rfl⟩ := Int.eq_ofNat_of_zero_le c8.1
    refine jr_aload_n (pc' := 12) gM dX7_heap_11 rfl rfl ?_
    refine jr_gfr (pc' := 15) gM dX7_heap_12 rfl fX7_28 rfl rfl ?_
    refine jr_gfr (pc' := 18) gM dX7_heap_15 rfl fX7_112 rfl rfl ?_
    refine jr_iload_n (pc' := 19) gM dX7_heap_18 rfl rfl ?_
    refine jr_iald (pc' := 20) _ gM dX7_heap_19 rfl rfl rfl (by omega) (by decide) ?_
    rw [hC.2.2.1.1 u (by omega)]
    refine jr_goto (tgt := 24) gM dX7_heap_20 rfl ?_
    refine jr_ireturn dX7_heap_24 rfl ?_
    rw [if_pos c8] at hK
    exact hK
set_option maxRecDepth 100000 in
theorem membersOf_ok {x : Int} (hc1 : σ 1 5 = (n : Int)) (hn : n ≤ 40) (hV : HV n hp) (hI : HI hp σ) (h1 : jR x)
    (hK : K (some (.long (jL (jk (fun v => decide (0 ≤ x ∧ hp v = x)))))) σ) : jRun (d + 1) mX7_membersOf [.ref 0, .int (jI x)] σ K := by
  refine jenter (lv := [_, _]) rfl rfl (Nat.le_of_ble_eq_true rfl) ?_
  refine jr_aload_n (pc' := 1) gM dX7_membersOf_0 rfl rfl ?_
  refine jr_gfr (pc' := 4) gM dX7_membersOf_1 rfl fX7_10 rfl rfl ?_
  refine jr_iload_n (pc' := 5) gM dX7_membersOf_4 rfl rfl ?_
  refine jr_inv (pc' := 8) (as := [_]) gM dX7_membersOf_5 rfl kX7_99 rfl rfl rfl (Nat.le_of_ble_eq_true rfl) ?_
  refine has_ok h1 ⟨by omega, by omega⟩ ?_
  dsimp only [Option.toList, List.cons_append, List.nil_append]
  rw [hc1]
  refine jr_pb_eq (tgt := 23) (pc' := 11) gM dX7_membersOf_8 rfl rfl (fun c8 => ?_) (fun c8 => ?_)
  · refine jr_lconst (pc' := 24) (x := jk (fun v => decide (0 ≤ x ∧ hp v = x))) gM dX7_membersOf_23 rfl ?_ ?_
    · rw [jk_zero.mpr (fun v _ => by
        have := hV.r hn v
        simp only [decide_eq_false_iff_not]
        omega)]
      rfl
    · refine jr_lreturn dX7_membersOf_24 rfl ?_
      exact hK
  · obtain ⟨u, rfl⟩ := Int.eq_ofNat_of_zero_le c8.1
    refine jr_aload_n (pc' := 12) gM dX7_membersOf_11 rfl rfl ?_
    refine jr_gfr (pc' := 15) gM dX7_membersOf_12 rfl fX7_28 rfl rfl ?_
    refine jr_gfr (pc' := 18) gM dX7_membersOf_15 rfl fX7_193 rfl rfl ?_
    refine jr_iload_n (pc' := 19) gM dX7_membersOf_18 rfl rfl ?_
    refine jr_lald (pc' := 20) _ gM dX7_membersOf_19 rfl rfl rfl (by omega) (by decide) ?_
    rw [hI.2 u (by omega)]
    refine jr_goto (tgt := 24) gM dX7_membersOf_20 rfl ?_
    refine jr_lreturn dX7_membersOf_24 rfl ?_
    rw [jk_congr (q := fun v => decide (hp v = (u : Int))) (fun v _ => by simp)] at hK
    exact hK
/-- x is a heap's least use -/
def isH (n : Nat) (hp : Nat → Int) (x : Int) : Prop := 0 ≤ x ∧ x < n ∧ hp x.toNat = x
theorem mem0 {x : Int} (hV : HV n hp) (hn : n ≤ 40) : jk (fun v => decide (0 ≤ x ∧ hp v = x)) = 0 ↔ ¬ isH n hp x := by
  rw [jk_zero]
  constructor
  · intro h q
    obtain ⟨k, rfl⟩ := Int.eq_ofNat_of_zero_le q.1
    have := h k (by have := q.2.1; omega)
    have q3 : hp k = (k : Int) := q.2.2
    simp [q3] at this
  · intro h v hv
    simp only [decide_eq_false_iff_not]
    intro q
    obtain ⟨k, rfl⟩ := Int.eq_ofNat_of_zero_le q.1
    have := hV.lead q.2
    exact h ⟨by omega, by omega, this.1⟩
set_option maxRecDepth 100000 in
theorem x_size {x : Int} (hC : CI n nb yr wt hp pr ga sh fe bd m s se sp σ) (h1 : jR x)
    (hK : K (some (.int (jI ((jn (fun v => decide (0 ≤ x ∧ hp v = x)) 40 : Nat) : Int)))) σ) : jRun (d + 9) mX7_size [.ref 0, .int (jI x)] σ K := by
  refine jenter (lv := [_, _]) rfl rfl (Nat.le_of_ble_eq_true rfl) ?_
  refine jr_aload_n (pc' := 1) gM dX7_size_0 rfl rfl ?_
  refine jr_iload_n (pc' := 2) gM dX7_size_1 rfl rfl ?_
  refine jr_inv (pc' := 5) (as := [_]) gM dX7_size_2 rfl kX7_134 rfl rfl rfl (Nat.le_of_ble_eq_true rfl) ?_
  refine membersOf_ok hC.1.1 hC.1.2.1 hC.2.1 hC.2.2.1 h1 ?_
  dsimp only [Option.toList, List.cons_append, List.nil_append]
  refine jr_ins (pc' := 8) (as := [_]) gM dX7_size_5 rfl kX7_138 rfl rfl (Nat.le_of_ble_eq_true rfl) ?_
  refine bitCount_ok ?_
  dsimp only [Option.toList, List.cons_append, List.nil_append]
  refine jr_ireturn dX7_size_8 rfl ?_
  exact hK
set_option maxRecDepth 100000 in
theorem x_far {x y : Int} (hC : CI n nb yr wt hp pr ga sh fe bd m s se sp σ) (h1 : jR x) (h2 : jR y)
    (hK : K (some (.int (jI (if (0 ≤ x ∧ x < n) ∧ 0 ≤ y ∧ y < n then jfar wt (nb x.toNat) (nb y.toNat) else -1)))) σ) : jRun (d + 9) mX7_far [.ref 0, .int (jI x), .int (jI y)] σ K := by
  have hn := hC.1.2.1
  have hc1 := hC.1.1
  refine jenter (lv := [_, _, _]) rfl rfl (Nat.le_of_ble_eq_true rfl) ?_
  refine jr_aload_n (pc' := 1) gM dX7_far_0 rfl rfl ?_
  refine jr_gfr (pc' := 4) gM dX7_far_1 rfl fX7_10 rfl rfl ?_
  refine jr_iload_n (pc' := 5) gM dX7_far_4 rfl rfl ?_
  refine jr_inv (pc' := 8) (as := [_]) gM dX7_far_5 rfl kX7_99 rfl rfl rfl (Nat.le_of_ble_eq_true rfl) ?_
  refine has_ok h1 ⟨by omega, by omega⟩ ?_
  dsimp only [Option.toList, List.cons_append, List.nil_append]
  rw [hc1]
  refine jr_pb_eq (tgt := 34) (pc' := 11) gM dX7_far_8 rfl rfl (fun c8 => ?_) (fun c8 => ?_)
  · refine jr_iconst (pc' := 35) gM dX7_far_34 rfl ?_
    refine jr_ireturn dX7_far_35 rfl ?_
    rw [if_neg (fun q => c8 q.1)] at hK
    exact hK
  · refine jr_aload_n (pc' := 12) gM dX7_far_11 rfl rfl ?_
    refine jr_gfr (pc' := 15) gM dX7_far_12 rfl fX7_10 rfl rfl ?_
    refine jr_iload_n (pc' := 16) gM dX7_far_15 rfl rfl ?_
    refine jr_inv (pc' := 19) (as := [_]) gM dX7_far_16 rfl kX7_99 rfl rfl rfl (Nat.le_of_ble_eq_true rfl) ?_
    refine has_ok h2 ⟨by omega, by omega⟩ ?_
    dsimp only [Option.toList, List.cons_append, List.nil_append]
    rw [hc1]
    refine jr_pb_eq (tgt := 34) (pc' := 22) gM dX7_far_19 rfl rfl (fun c19 => ?_) (fun c19 => ?_)
    · refine jr_iconst (pc' := 35) gM dX7_far_34 rfl ?_
      refine jr_ireturn dX7_far_35 rfl ?_
      rw [if_neg (fun q => c19 q.2)] at hK
      exact hK
    · obtain ⟨a, rfl⟩ := Int.eq_ofNat_of_zero_le c8.1
      obtain ⟨b, rfl⟩ := Int.eq_ofNat_of_zero_le c19.1
      refine jr_aload_n (pc' := 23) gM dX7_far_22 rfl rfl ?_
      refine jr_gfr (pc' := 26) gM dX7_far_23 rfl fX7_10 rfl rfl ?_
      refine jr_iload_n (pc' := 27) gM dX7_far_26 rfl rfl ?_
      refine jr_iload_n (pc' := 28) gM dX7_far_27 rfl rfl ?_
      refine jr_inv (pc' := 31) (as := [_, _]) gM dX7_far_28 rfl kX7_144 rfl rfl rfl (Nat.le_of_ble_eq_true rfl) ?_
      refine between_ok (by omega) (by omega) ?_
      dsimp only [Option.toList, List.cons_append, List.nil_append]
      rw [hC.1.2.2.2.2.2.1 a b (by omega) (by omega)]
      refine jr_goto (tgt := 35) gM dX7_far_31 rfl ?_
      refine jr_ireturn dX7_far_35 rfl ?_
      rw [if_pos ⟨c8, c19⟩] at hK
      exact hK
set_option maxRecDepth 100000 in
theorem x_cost (hC : CI n nb yr wt hp pr ga sh fe bd m s se sp σ)
    (hK : K (some (.int (jI (js (fun h => bI (hp h = (h : Int))) n * pr + js (fun u => js (fun o => if decide (hp u ≠ -1 ∧ hp o = hp u) then jfar wt (nb u) (nb o) else 0) n) n / 2)))) σ) : jRun (d + 9) mX7_cost [.ref 0] σ K := by
  have hS := hC.SI
  have hf : ∀ a b, a < n → b < n → σ 6 (a * 40 + b) = jfar wt (nb a) (nb b) := hS.2.2.2.2.2.1
  refine jenter (lv := [_]) rfl rfl (Nat.le_of_ble_eq_true rfl) ?_
  refine jr_aload_n (pc' := 1) gM dX7_cost_0 rfl rfl ?_
  refine jr_gfr (pc' := 4) gM dX7_cost_1 rfl fX7_28 rfl rfl ?_
  refine jr_inv (pc' := 7) (as := []) gM dX7_cost_4 rfl kX7_147 rfl rfl rfl (Nat.le_of_ble_eq_true rfl) ?_
  refine costOfAll_ok hC.1.1 hC.1.2.1 hC.2.1 hC.2.2.1 (fun a b ha hb => by rw [hf a b ha hb]; exact hS.2.2.2.2.2.2.1 a b ha hb) ?_
  dsimp only [Option.toList, List.cons_append, List.nil_append]
  refine jr_ireturn dX7_cost_7 rfl ?_
  rw [hC.2.2.2.2.2.1.1]
  have e : js (fun u => js (fun o => if decide (hp u ≠ -1 ∧ hp o = hp u) then σ 6 (u * 40 + o) else 0) n) n = js (fun u => js (fun o => if decide (hp u ≠ -1 ∧ hp o = hp u) then jfar wt (nb u) (nb o) else 0) n) n := by
    apply js_congr
    intro u hu
    apply js_congr
    intro o ho
    rw [hf u o hu ho]
  rw [e]
  exact hK
set_option maxRecDepth 100000 in
theorem x_broken (hC : CI n nb yr wt hp pr ga sh fe bd m s se sp σ)
    (hK : K (some (.int (jI (js (fun u => if hp u ≠ -1 then ((jn (fun v => decide (bd u v = 1) && decide (hp v ≠ -1) && !decide (hp u ≠ -1 ∧ hp v = hp u)) 40 + jn (fun v => decide (bd u v = 2) && decide (hp u ≠ -1 ∧ hp v = hp u)) 40 : Nat) : Int) else 0) 40 / 2)))) σ) : jRun (d + 9) mX7_broken [.ref 0] σ K := by
  refine jenter (lv := [_]) rfl rfl (Nat.le_of_ble_eq_true rfl) ?_
  refine jr_aload_n (pc' := 1) gM dX7_broken_0 rfl rfl ?_
  refine jr_gfr (pc' := 4) gM dX7_broken_1 rfl fX7_19 rfl rfl ?_
  refine jr_aload_n (pc' := 5) gM dX7_broken_4 rfl rfl ?_
  refine jr_gfr (pc' := 8) gM dX7_broken_5 rfl fX7_28 rfl rfl ?_
  refine jr_inv (pc' := 11) (as := [_]) gM dX7_broken_8 rfl kX7_151 rfl rfl rfl (Nat.le_of_ble_eq_true rfl) ?_
  refine brokenIn_ok hC.1.1 hC.1.2.1 hC.2.1 hC.2.2.1 hC.2.2.2.1 ?_
  dsimp only [Option.toList, List.cons_append, List.nil_append]
  refine jr_ireturn dX7_broken_11 rfl ?_
  exact hK
set_option maxRecDepth 100000 in
theorem x_best (hC : CI n nb yr wt hp pr ga sh fe bd m s se sp σ)
    (hK0 : ¬ (1 ≤ n ∧ n ≤ 7) → K (some (.int (jI (-1)))) σ)
    (hK1 : 1 ≤ n ∧ n ≤ 7 → ∀ σ' : jMem, CI n nb yr wt hp pr ga sh fe bd m s se sp σ' → (∀ c, 24 ≤ c → σ' c = σ c) → K (some (.int (jI (if mcF (fun a b => jfar wt (nb a) (nb b)) bd pr n 0 0 (fun _ => 0) 0 = 1000000000 then -1 else mcF (fun a b => jfar wt (nb a) (nb b)) bd pr n 0 0 (fun _ => 0) 0)))) σ') : jRun (d + 11) mX7_best [.ref 0] σ K := by
  have hS := hC.SI
  have hn := hC.1.2.1
  refine jenter (lv := [_]) rfl rfl (Nat.le_of_ble_eq_true rfl) ?_
  refine jr_aload_n (pc' := 1) gM dX7_best_0 rfl rfl ?_
  refine jr_gfr (pc' := 4) gM dX7_best_1 rfl fX7_10 rfl rfl ?_
  refine jr_gfi (pc' := 7) gM dX7_best_4 rfl fX7_88 rfl rfl ?_
  refine jr_iconst (pc' := 8) gM dX7_best_7 rfl ?_
  refine jr_bipush (pc' := 10) gM dX7_best_8 rfl rfl ?_
  rw [hC.1.1]
  refine jr_ins (pc' := 13) (as := [_, _, _]) gM dX7_best_10 rfl kX7_66 rfl rfl (Nat.le_of_ble_eq_true rfl) ?_
  refine within_ok ⟨by omega, by omega⟩ ⟨by omega, by omega⟩ ⟨by omega, by omega⟩ ?_
  dsimp only [Option.toList, List.cons_append, List.nil_append]
  refine jr_pb_ne (tgt := 18) (pc' := 16) gM dX7_best_13 rfl rfl (fun c13 => ?_) (fun c13 => ?_)
  · refine jr_aload_n (pc' := 19) gM dX7_best_18 rfl rfl ?_
    refine jr_gfr (pc' := 22) gM dX7_best_19 rfl fX7_46 rfl rfl ?_
    refine jr_aload_n (pc' := 23) gM dX7_best_22 rfl rfl ?_
    refine jr_gfr (pc' := 26) gM dX7_best_23 rfl fX7_28 rfl rfl ?_
    refine jr_gfi (pc' := 29) gM dX7_best_26 rfl fX7_74 rfl rfl ?_
    rw [hC.2.2.2.2.2.1.1]
    refine jr_inv (pc' := 32) (as := [_]) gM dX7_best_29 rfl kX7_155 rfl rfl rfl (Nat.le_of_ble_eq_true rfl) ?_
    refine leastCost_ok (n := n) (by omega) hS.2.2.2.2.2.2.1 hC.2.2.2.2.2.1.2 hC.2.2.2.2.1.1 hC.1.1 hC.2.2.2.1 hS.2.2.2.2.2.1 (fun σ' k => ?_)
    dsimp only [Option.toList, List.cons_append, List.nil_append]
    refine jr_ireturn dX7_best_32 rfl ?_
    exact hK1 (by omega) σ' (hC.of (fun c _ _ q1 q2 _ => k c q1 q2) (by rw [k 18 (by omega) (by omega)])) (fun c hc => k c (by omega) (by omega))
  · refine jr_iconst (pc' := 17) gM dX7_best_16 rfl ?_
    refine jr_ireturn dX7_best_17 rfl ?_
    exact hK0 (by omega)
set_option maxRecDepth 100000 in
theorem x_name {x : Int} (hC : CI n nb yr wt hp pr ga sh fe bd m s se sp σ) (h1 : jR x)
    (hK0 : ¬ isH n hp x → K (some (.int (jI 0))) σ) (hK1 : isH n hp x → K (some (.int (jI ((nmF n nb sh fe (fun v => decide (0 ≤ x ∧ hp v = x)) : Nat) : Int)))) σ) : jRun (d + 9) mX7_name [.ref 0, .int (jI x)] σ K := by
  have hz := mem0 (x := x) hC.2.1 hC.1.2.1
  have hr := jk_r (fun v => decide (0 ≤ x ∧ hp v = x))
  refine jenter (lv := [_, _, _, _]) rfl rfl (Nat.le_of_ble_eq_true rfl) ?_
  refine jr_aload_n (pc' := 1) gM dX7_name_0 rfl rfl ?_
  refine jr_iload_n (pc' := 2) gM dX7_name_1 rfl rfl ?_
  refine jr_inv (pc' := 5) (as := [_]) gM dX7_name_2 rfl kX7_134 rfl rfl rfl (Nat.le_of_ble_eq_true rfl) ?_
  refine membersOf_ok hC.1.1 hC.1.2.1 hC.2.1 hC.2.2.1 h1 ?_
  dsimp only [Option.toList, List.cons_append, List.nil_append]
  refine jr_lstore_n (pc' := 6) (lv' := [_, _, _, _]) gM dX7_name_5 rfl rfl (Nat.le_of_ble_eq_true rfl) ?_
  refine jr_lload_n (pc' := 7) gM dX7_name_6 rfl rfl ?_
  refine jr_lconst (pc' := 8) (x := 0) gM dX7_name_7 rfl rfl ?_
  refine jr_lcmp (pc' := 9) gM dX7_name_8 rfl (by omega) (by omega) ?_
  refine jr_cb_ne (tgt := 16) (pc' := 12) gM dX7_name_9 rfl rfl (fun c9 => ?_) (fun c9 => ?_)
  · refine jr_aload_n (pc' := 17) gM dX7_name_16 rfl rfl ?_
    refine jr_gfr (pc' := 20) gM dX7_name_17 rfl fX7_53 rfl rfl ?_
    refine jr_lload_n (pc' := 21) gM dX7_name_20 rfl rfl ?_
    refine jr_inv (pc' := 24) (as := [_]) gM dX7_name_21 rfl kX7_158 rfl rfl rfl (Nat.le_of_ble_eq_true rfl) ?_
    refine nameOf_ok hC.1 hC.2.2.2.2.2.2.2.1.1 hC.2.2.2.2.2.2.2.2.1.1 hC.2.2.2.2.2.2.2.1.2 hC.2.2.2.2.2.2.2.2.1.2 ?_
    dsimp only [Option.toList, List.cons_append, List.nil_append]
    refine jr_ireturn dX7_name_24 rfl ?_
    exact hK1 (Classical.byContradiction (fun q => c9 (hz.mpr q)))
  · refine jr_iconst (pc' := 13) gM dX7_name_12 rfl ?_
    refine jr_goto (tgt := 24) gM dX7_name_13 rfl ?_
    refine jr_ireturn dX7_name_24 rfl ?_
    exact hK0 (hz.mp c9)
set_option maxRecDepth 100000 in
theorem x_core {x : Int} (hC : CI n nb yr wt hp pr ga sh fe bd m s se sp σ) (h1 : jR x)
    (hK0 : ¬ isH n hp x → K (some (.int (jI 0))) σ) (hK1 : isH n hp x → K (some (.int (jI ((jm (coF n nb (fun v => decide (0 ≤ x ∧ hp v = x))) 20 : Nat) : Int)))) σ) : jRun (d + 9) mX7_core [.ref 0, .int (jI x)] σ K := by
  have hz := mem0 (x := x) hC.2.1 hC.1.2.1
  have hr := jk_r (fun v => decide (0 ≤ x ∧ hp v = x))
  refine jenter (lv := [_, _, _, _]) rfl rfl (Nat.le_of_ble_eq_true rfl) ?_
  refine jr_aload_n (pc' := 1) gM dX7_core_0 rfl rfl ?_
  refine jr_iload_n (pc' := 2) gM dX7_core_1 rfl rfl ?_
  refine jr_inv (pc' := 5) (as := [_]) gM dX7_core_2 rfl kX7_134 rfl rfl rfl (Nat.le_of_ble_eq_true rfl) ?_
  refine membersOf_ok hC.1.1 hC.1.2.1 hC.2.1 hC.2.2.1 h1 ?_
  dsimp only [Option.toList, List.cons_append, List.nil_append]
  refine jr_lstore_n (pc' := 6) (lv' := [_, _, _, _]) gM dX7_core_5 rfl rfl (Nat.le_of_ble_eq_true rfl) ?_
  refine jr_lload_n (pc' := 7) gM dX7_core_6 rfl rfl ?_
  refine jr_lconst (pc' := 8) (x := 0) gM dX7_core_7 rfl rfl ?_
  refine jr_lcmp (pc' := 9) gM dX7_core_8 rfl (by omega) (by omega) ?_
  refine jr_cb_ne (tgt := 16) (pc' := 12) gM dX7_core_9 rfl rfl (fun c9 => ?_) (fun c9 => ?_)
  · refine jr_aload_n (pc' := 17) gM dX7_core_16 rfl rfl ?_
    refine jr_gfr (pc' := 20) gM dX7_core_17 rfl fX7_53 rfl rfl ?_
    refine jr_lload_n (pc' := 21) gM dX7_core_20 rfl rfl ?_
    refine jr_inv (pc' := 24) (as := [_]) gM dX7_core_21 rfl kX7_161 rfl rfl rfl (Nat.le_of_ble_eq_true rfl) ?_
    refine coreOf_ok hC.1 ?_
    dsimp only [Option.toList, List.cons_append, List.nil_append]
    refine jr_ireturn dX7_core_24 rfl ?_
    exact hK1 (Classical.byContradiction (fun q => c9 (hz.mpr q)))
  · refine jr_iconst (pc' := 13) gM dX7_core_12 rfl ?_
    refine jr_goto (tgt := 24) gM dX7_core_13 rfl ?_
    refine jr_ireturn dX7_core_24 rfl ?_
    exact hK0 (hz.mp c9)
set_option maxRecDepth 100000 in
theorem x_sense {x : Int} (hC : CI n nb yr wt hp pr ga sh fe bd m s se sp σ) (h1 : jR x)
    (hK0 : ¬ ((0 ≤ x ∧ x ≤ 1048575) ∧ s < 5) → K (some (.int (jI (-1)))) σ)
    (hK1 : ∀ a : Nat, x = (a : Int) → a < 2 ^ 20 → s < 5 → ∀ σ' : jMem, CI n nb yr wt hp pr ga sh fe bd m (s + 1) (jset se s a) sp σ' → (∀ c, 24 ≤ c → σ' c = σ c) → K (some (.int (jI (s : Int)))) σ') : jRun (d + 9) mX7_sense [.ref 0, .int (jI x)] σ K := by
  refine jenter (lv := [_, _]) rfl rfl (Nat.le_of_ble_eq_true rfl) ?_
  refine jr_iload_n (pc' := 1) gM dX7_sense_0 rfl rfl ?_
  refine jr_iconst (pc' := 2) gM dX7_sense_1 rfl ?_
  refine jr_ldc (pc' := 4) gM dX7_sense_2 rfl qX7_87 ?_
  refine jr_ins (pc' := 7) (as := [_, _, _]) gM dX7_sense_4 rfl kX7_66 rfl rfl (Nat.le_of_ble_eq_true rfl) ?_
  refine within_ok h1 ⟨by omega, by omega⟩ ⟨by omega, by omega⟩ ?_
  dsimp only [Option.toList, List.cons_append, List.nil_append]
  refine jr_pb_eq (tgt := 21) (pc' := 10) gM dX7_sense_7 rfl rfl (fun c7 => ?_) (fun c7 => ?_)
  · refine jr_iconst (pc' := 22) gM dX7_sense_21 rfl ?_
    refine jr_ireturn dX7_sense_22 rfl ?_
    exact hK0 (fun q => c7 q.1)
  · obtain ⟨a, rfl⟩ := Int.eq_ofNat_of_zero_le c7.1
    obtain ⟨q1, q2, q3, q4, q5, q6, q7, q8, q9, q10, q11⟩ := hC
    refine jr_aload_n (pc' := 11) gM dX7_sense_10 rfl rfl ?_
    refine jr_gfr (pc' := 14) gM dX7_sense_11 rfl fX7_62 rfl rfl ?_
    refine jr_iload_n (pc' := 15) gM dX7_sense_14 rfl rfl ?_
    refine jr_inv (pc' := 18) (as := [_]) gM dX7_sense_15 rfl kX7_164 rfl rfl rfl (Nat.le_of_ble_eq_true rfl) ?_
    refine dtake_ok q10.1 q10.2.1 (fun z => ?_) (fun z => ?_)
    · dsimp only [Option.toList, List.cons_append, List.nil_append]
      refine jr_goto (tgt := 22) gM dX7_sense_18 rfl ?_
      refine jr_ireturn dX7_sense_22 rfl ?_
      exact hK0 (by omega)
    · dsimp only [Option.toList, List.cons_append, List.nil_append]
      refine jr_goto (tgt := 22) gM dX7_sense_18 rfl ?_
      refine jr_ireturn dX7_sense_22 rfl ?_
      refine hK1 a rfl (by omega) z _ ⟨q1.of (fun c _ _ => by rw [jup_row (by omega), jup_row (by omega)]), q2, q3.of (by rw [jup_row (by omega), jup_row (by omega)]) (by rw [jup_row (by omega), jup_row (by omega)]), q4.of (fun c _ _ => by rw [jup_row (by omega), jup_row (by omega)]), q5, ?_, ?_, ?_, ?_, ⟨?_, by omega, fun t ht => ?_⟩, ?_⟩ (fun c hc => by rw [jup_row (by omega), jup_row (by omega)])
      · rw [jup_row (show (10 : Nat) ≠ 18 by omega), jup_row (show (10 : Nat) ≠ 19 by omega)]
        exact q6
      · rw [jup_row (show (10 : Nat) ≠ 18 by omega), jup_row (show (10 : Nat) ≠ 19 by omega)]
        exact q7
      · rw [jup_row (show (17 : Nat) ≠ 18 by omega), jup_row (show (17 : Nat) ≠ 19 by omega)]
        exact q8
      · rw [jup_row (show (17 : Nat) ≠ 18 by omega), jup_row (show (17 : Nat) ≠ 19 by omega)]
        exact q9
      · rw [jup_at]
        rfl
      · rw [jup_row (show (19 : Nat) ≠ 18 by omega)]
        by_cases e : t = s
        · subst e
          rw [jup_at, jset_at]
          exact ⟨rfl, by omega⟩
        · rw [jup_ne (Or.inr e), jset_ne e]
          exact q10.2.2 t (by omega)
      · rw [jup_row (show (14 : Nat) ≠ 18 by omega), jup_row (show (14 : Nat) ≠ 19 by omega)]
        exact q11
set_option maxRecDepth 100000 in
theorem x_matched {x : Int} (hC : CI n nb yr wt hp pr ga sh fe bd m s se sp σ) (h1 : jR x)
    (hK0 : ¬ isH n hp x → K (some (.int (jI (-1)))) σ) (hK1 : isH n hp x → ∀ σ' : jMem, CI n nb yr wt hp pr ga sh fe bd m s se sp σ' → (∀ c, 24 ≤ c → σ' c = σ c) → K (some (.int (jI (if grT n hp x.toNat then (maF n nb wt hp s se (σ 23)).2 (jn (grT n hp) x.toNat) else -1)))) σ') : jRun (d + 10) mX7_matched [.ref 0, .int (jI x)] σ K := by
  have hz := mem0 (x := x) hC.2.1 hC.1.2.1
  have hr := jk_r (fun v => decide (0 ≤ x ∧ hp v = x))
  refine jenter (lv := [_, _]) rfl rfl (Nat.le_of_ble_eq_true rfl) ?_
  refine jr_aload_n (pc' := 1) gM dX7_matched_0 rfl rfl ?_
  refine jr_iload_n (pc' := 2) gM dX7_matched_1 rfl rfl ?_
  refine jr_inv (pc' := 5) (as := [_]) gM dX7_matched_2 rfl kX7_134 rfl rfl rfl (Nat.le_of_ble_eq_true rfl) ?_
  refine membersOf_ok hC.1.1 hC.1.2.1 hC.2.1 hC.2.2.1 h1 ?_
  dsimp only [Option.toList, List.cons_append, List.nil_append]
  refine jr_lconst (pc' := 6) (x := 0) gM dX7_matched_5 rfl rfl ?_
  refine jr_lcmp (pc' := 7) gM dX7_matched_6 rfl (by omega) (by omega) ?_
  refine jr_cb_ne (tgt := 14) (pc' := 10) gM dX7_matched_7 rfl rfl (fun c7 => ?_) (fun c7 => ?_)
  · have hH : isH n hp x := Classical.byContradiction (fun q => c7 (hz.mpr q))
    obtain ⟨k, rfl⟩ := Int.eq_ofNat_of_zero_le hH.1
    refine jr_aload_n (pc' := 15) gM dX7_matched_14 rfl rfl ?_
    refine jr_gfr (pc' := 18) gM dX7_matched_15 rfl fX7_62 rfl rfl ?_
    refine jr_iload_n (pc' := 19) gM dX7_matched_18 rfl rfl ?_
    refine jr_inv (pc' := 22) (as := [_]) gM dX7_matched_19 rfl kX7_166 rfl rfl rfl (Nat.le_of_ble_eq_true rfl) ?_
    refine senseFor_ok hC.1 hC.2.1 hC.2.2.1 hC.2.2.2.2.2.2.2.2.2.1.1 hC.2.2.2.2.2.2.2.2.2.1.2.1 hC.2.2.2.2.2.2.2.2.2.1.2.2 (by have := hH.2.1; omega) (fun σ' k1 k2 => ?_)
    dsimp only [Option.toList, List.cons_append, List.nil_append]
    refine jr_ireturn dX7_matched_22 rfl ?_
    exact hK1 hH σ' (hC.of (fun c q1 _ _ _ q2 => k2 c q2 (by omega) (by omega) (by omega) (by omega)) (k1 4 (by omega) (by omega))) (fun c hc => k2 c (by omega) (by omega) (by omega) (by omega) (by omega))
  · refine jr_iconst (pc' := 11) gM dX7_matched_10 rfl ?_
    refine jr_goto (tgt := 22) gM dX7_matched_11 rfl ?_
    refine jr_ireturn dX7_matched_22 rfl ?_
    exact hK0 (hz.mp c7)
set_option maxRecDepth 100000 in
theorem x_sum (hC : CI n nb yr wt hp pr ga sh fe bd m s se sp σ)
    (hK : ∀ σ' : jMem, CI n nb yr wt hp pr ga sh fe bd m s se sp σ' → (∀ c, 24 ≤ c → σ' c = σ c) → K (some (.int (jI (maF n nb wt hp s se (σ 23)).1))) σ') : jRun (d + 10) mX7_sum [.ref 0] σ K := by
  refine jenter (lv := [_]) rfl rfl (Nat.le_of_ble_eq_true rfl) ?_
  refine jr_aload_n (pc' := 1) gM dX7_sum_0 rfl rfl ?_
  refine jr_gfr (pc' := 4) gM dX7_sum_1 rfl fX7_62 rfl rfl ?_
  refine jr_inv (pc' := 7) (as := []) gM dX7_sum_4 rfl kX7_169 rfl rfl rfl (Nat.le_of_ble_eq_true rfl) ?_
  refine leastSum_ok hC.1 hC.2.1 hC.2.2.1 hC.2.2.2.2.2.2.2.2.2.1.1 hC.2.2.2.2.2.2.2.2.2.1.2.1 hC.2.2.2.2.2.2.2.2.2.1.2.2 (fun σ' k1 k2 => ?_)
  dsimp only [Option.toList, List.cons_append, List.nil_append]
  refine jr_ireturn dX7_sum_7 rfl ?_
  exact hK σ' (hC.of (fun c q1 _ _ _ q2 => k2 c q2 (by omega) (by omega) (by omega) (by omega)) (k1 4 (by omega) (by omega))) (fun c hc => k2 c (by omega) (by omega) (by omega) (by omega) (by omega))
set_option maxRecDepth 100000 in
theorem x_share {x f t w : Int} (hC : CI n nb yr wt hp pr ga sh fe bd m s se sp σ) (h1 : jR x) (h2 : jR f) (h3 : jR t) (h4 : jR w)
    (hK0 : ¬ (isH n hp x ∧ 0 ≤ w ∧ w ≤ 1) → K (some (.int (jI (-1)))) σ) (hK1 : isH n hp x ∧ 0 ≤ w ∧ w ≤ 1 → K (some (.int (jI (js (fun u => bI (f ≤ yr u ∧ yr u ≤ t ∧ (hp u = x ∨ (w = 1 ∧ hp u = -1)))) n)))) σ) : jRun (d + 9) mX7_share [.ref 0, .int (jI x), .int (jI f), .int (jI t), .int (jI w)] σ K := by
  have hz := mem0 (x := x) hC.2.1 hC.1.2.1
  have hr := jk_r (fun v => decide (0 ≤ x ∧ hp v = x))
  have hy : ∀ u, u < n → σ 3 u = yr u ∧ 1800 ≤ yr u ∧ yr u ≤ 1999 := fun u hu => (hC.1.2.2.1 u hu).2.2
  refine jenter (lv := [_, _, _, _, _, _, _, _, _]) rfl rfl (Nat.le_of_ble_eq_true rfl) ?_
  refine jr_aload_n (pc' := 1) gM dX7_share_0 rfl rfl ?_
  refine jr_iload_n (pc' := 2) gM dX7_share_1 rfl rfl ?_
  refine jr_inv (pc' := 5) (as := [_]) gM dX7_share_2 rfl kX7_134 rfl rfl rfl (Nat.le_of_ble_eq_true rfl) ?_
  refine membersOf_ok hC.1.1 hC.1.2.1 hC.2.1 hC.2.2.1 h1 ?_
  dsimp only [Option.toList, List.cons_append, List.nil_append]
  refine jr_lstore (pc' := 7) (lv' := [_, _, _, _, _, _, _, _, _]) gM dX7_share_5 rfl rfl (Nat.le_of_ble_eq_true rfl) ?_
  refine jr_lload (pc' := 9) gM dX7_share_7 rfl rfl ?_
  refine jr_lconst (pc' := 10) (x := 0) gM dX7_share_9 rfl rfl ?_
  refine jr_lcmp (pc' := 11) gM dX7_share_10 rfl (by omega) (by omega) ?_
  refine jr_cb_eq (tgt := 24) (pc' := 14) gM dX7_share_11 rfl rfl (fun c11 => ?_) (fun c11 => ?_)
  · refine jr_iconst (pc' := 25) gM dX7_share_24 rfl ?_
    refine jr_ireturn dX7_share_25 rfl ?_
    exact hK0 (fun q => hz.mp c11 q.1)
  · have hH : isH n hp x := Classical.byContradiction (fun q => c11 (hz.mpr q))
    refine jr_iload (pc' := 16) gM dX7_share_14 rfl rfl ?_
    refine jr_iconst (pc' := 17) gM dX7_share_16 rfl ?_
    refine jr_iconst (pc' := 18) gM dX7_share_17 rfl ?_
    refine jr_ins (pc' := 21) (as := [_, _, _]) gM dX7_share_18 rfl kX7_66 rfl rfl (Nat.le_of_ble_eq_true rfl) ?_
    refine within_ok h4 ⟨by omega, by omega⟩ ⟨by omega, by omega⟩ ?_
    dsimp only [Option.toList, List.cons_append, List.nil_append]
    refine jr_pb_ne (tgt := 26) (pc' := 24) gM dX7_share_21 rfl rfl (fun c21 => ?_) (fun c21 => ?_)
    · have fin : ∀ p : Nat → Bool, (∀ u, u < n → (p u = true ↔ (hp u = x ∨ (w = 1 ∧ hp u = -1)))) → jV (jP mX7_share (d + 9) K) 46 [some (.ref 0), some (.int (jI x)), some (.int (jI f)), some (.int (jI t)), some (.int (jI w)), some (.long (jL (jk (fun v => decide (0 ≤ x ∧ hp v = x))))), none, none, none] [.long (jL (jk p))] σ := by
        intro p hp1
        refine jr_lstore (pc' := 48) (lv' := [_, _, _, _, _, _, _, _, _]) gM dX7_share_46 rfl rfl (Nat.le_of_ble_eq_true rfl) ?_
        refine jr_aload_n (pc' := 49) gM dX7_share_48 rfl rfl ?_
        refine jr_gfr (pc' := 52) gM dX7_share_49 rfl fX7_10 rfl rfl ?_
        refine jr_lload (pc' := 54) gM dX7_share_52 rfl rfl ?_
        refine jr_iload_n (pc' := 55) gM dX7_share_54 rfl rfl ?_
        refine jr_iload_n (pc' := 56) gM dX7_share_55 rfl rfl ?_
        refine jr_inv (pc' := 59) (as := [_, _, _]) gM dX7_share_56 rfl kX7_176 rfl rfl rfl (Nat.le_of_ble_eq_true rfl) ?_
        refine ofYears_ok hC.1.1 hC.1.2.1 h2 h3 (fun u hu => by have := hy u hu; exact ⟨by omega, by omega⟩) ?_
        dsimp only [Option.toList, List.cons_append, List.nil_append]
        refine jr_ireturn dX7_share_59 rfl ?_
        have := hK1 ⟨hH, c21⟩
        rw [js_congr (g := fun u => bI (p u = true ∧ f ≤ σ 3 u ∧ σ 3 u ≤ t)) (fun u hu => bI_iff (by
          rw [hp1 u hu, (hy u hu).1]
          constructor
          · rintro ⟨a, b, c⟩
            exact ⟨c, a, b⟩
          · rintro ⟨a, b, c⟩
            exact ⟨b, c, a⟩))] at this
        exact this
      refine jr_iload (pc' := 28) gM dX7_share_26 rfl rfl ?_
      refine jr_if_ne (tgt := 36) (pc' := 31) gM dX7_share_28 rfl rfl ⟨by omega, by omega⟩ (fun c28 => ?_) (fun c28 => ?_)
      · refine jr_lload (pc' := 38) gM dX7_share_36 rfl rfl ?_
        refine jr_aload_n (pc' := 39) gM dX7_share_38 rfl rfl ?_
        refine jr_gfr (pc' := 42) gM dX7_share_39 rfl fX7_28 rfl rfl ?_
        refine jr_inv (pc' := 45) (as := []) gM dX7_share_42 rfl kX7_172 rfl rfl rfl (Nat.le_of_ble_eq_true rfl) ?_
        refine allOpen_ok hC.1.1 hC.1.2.1 hC.2.1 hC.2.2.1 ?_
        dsimp only [Option.toList, List.cons_append, List.nil_append]
        refine jr_lor (pc' := 46) (jk (fun v => decide (0 ≤ x ∧ hp v = x) || decide (v < n ∧ hp v = -1))) gM dX7_share_45 rfl (jk_or _ _) ?_
        refine fin _ (fun u hu => ?_)
        have := hH.1
        simp only [Bool.or_eq_true, decide_eq_true_eq]
        omega
      · refine jr_lload (pc' := 33) gM dX7_share_31 rfl rfl ?_
        refine jr_goto (tgt := 46) gM dX7_share_33 rfl ?_
        refine fin _ (fun u hu => ?_)
        have := hH.1
        simp only [decide_eq_true_eq]
        omega
    · refine jr_iconst (pc' := 25) gM dX7_share_24 rfl ?_
      refine jr_ireturn dX7_share_25 rfl ?_
      exact hK0 (fun q => c21 q.2)
set_option maxRecDepth 100000 in
theorem x_first {x : Int} (hC : CI n nb yr wt hp pr ga sh fe bd m s se sp σ) (h1 : jR x)
    (hK0 : ¬ isH n hp x → K (some (.int (jI (-1)))) σ) (hK1 : isH n hp x → K (some (.int (jI (jey (fun v => decide (hp v = x)) yr n)))) σ) : jRun (d + 9) mX7_first [.ref 0, .int (jI x)] σ K := by
  have hz := mem0 (x := x) hC.2.1 hC.1.2.1
  have hr := jk_r (fun v => decide (0 ≤ x ∧ hp v = x))
  have hy : ∀ u, u < n → σ 3 u = yr u ∧ 1800 ≤ yr u ∧ yr u ≤ 1999 := fun u hu => (hC.1.2.2.1 u hu).2.2
  refine jenter (lv := [_, _, _, _]) rfl rfl (Nat.le_of_ble_eq_true rfl) ?_
  refine jr_aload_n (pc' := 1) gM dX7_first_0 rfl rfl ?_
  refine jr_iload_n (pc' := 2) gM dX7_first_1 rfl rfl ?_
  refine jr_inv (pc' := 5) (as := [_]) gM dX7_first_2 rfl kX7_134 rfl rfl rfl (Nat.le_of_ble_eq_true rfl) ?_
  refine membersOf_ok hC.1.1 hC.1.2.1 hC.2.1 hC.2.2.1 h1 ?_
  dsimp only [Option.toList, List.cons_append, List.nil_append]
  refine jr_lstore_n (pc' := 6) (lv' := [_, _, _, _]) gM dX7_first_5 rfl rfl (Nat.le_of_ble_eq_true rfl) ?_
  refine jr_lload_n (pc' := 7) gM dX7_first_6 rfl rfl ?_
  refine jr_lconst (pc' := 8) (x := 0) gM dX7_first_7 rfl rfl ?_
  refine jr_lcmp (pc' := 9) gM dX7_first_8 rfl (by omega) (by omega) ?_
  refine jr_cb_ne (tgt := 16) (pc' := 12) gM dX7_first_9 rfl rfl (fun c9 => ?_) (fun c9 => ?_)
  · have hH : isH n hp x := Classical.byContradiction (fun q => c9 (hz.mpr q))
    refine jr_aload_n (pc' := 17) gM dX7_first_16 rfl rfl ?_
    refine jr_gfr (pc' := 20) gM dX7_first_17 rfl fX7_10 rfl rfl ?_
    refine jr_lload_n (pc' := 21) gM dX7_first_20 rfl rfl ?_
    refine jr_inv (pc' := 24) (as := [_]) gM dX7_first_21 rfl kX7_180 rfl rfl rfl (Nat.le_of_ble_eq_true rfl) ?_
    refine earliestYear_ok hC.1.1 hC.1.2.1 (fun u hu => by have := hy u hu; omega) ?_
    dsimp only [Option.toList, List.cons_append, List.nil_append]
    refine jr_ireturn dX7_first_24 rfl ?_
    have := hK1 hH
    have e : ∀ k, k ≤ n → jey (fun v => decide (0 ≤ x ∧ hp v = x)) (σ 3) k = jey (fun v => decide (hp v = x)) yr k := by
      intro k
      induction k with
      | zero => intro _; rfl
      | succ k ih =>
        intro hk
        have h0 := hH.1
        simp only [jey]
        rw [ih (by omega), (hy k (by omega)).1]
        have : (0 ≤ x ∧ hp k = x) ↔ hp k = x := by omega
        simp only [this]
    rw [e n (Nat.le_refl _)]
    exact this
  · refine jr_iconst (pc' := 13) gM dX7_first_12 rfl ?_
    refine jr_goto (tgt := 24) gM dX7_first_13 rfl ?_
    refine jr_ireturn dX7_first_24 rfl ?_
    exact hK0 (hz.mp c9)
/-- what count tells -/
def ctF (n : Nat) (hp : Nat → Int) (m s : Nat) (sp : Int) (x : Int) : Int := if x = 0 then n else if x = 1 then js (fun h => bI (hp h = (h : Int))) n else if x = 2 then ((jn (fun v => decide (v < n ∧ hp v = -1)) 40 : Nat) : Int) else if x = 3 then m else if x = 4 then s else if x = 5 then sp else -1
set_option maxRecDepth 100000 in
theorem x_count {x : Int} (hC : CI n nb yr wt hp pr ga sh fe bd m s se sp σ) (h1 : jR x)
    (hK : K (some (.int (jI (ctF n hp m s sp x)))) σ) : jRun (d + 9) mX7_count [.ref 0, .int (jI x)] σ K := by
  unfold ctF at hK
  refine jenter (lv := [_, _]) rfl rfl (Nat.le_of_ble_eq_true rfl) ?_
  refine jr_iload_n (pc' := 1) gM dX7_count_0 rfl rfl ?_
  by_cases hx : x < 0 ∨ 5 < x
  · refine jr_tabOut (tgt := 91) gM dX7_count_1 h1 hx rfl ?_
    refine jr_iconst (pc' := 92) gM dX7_count_91 rfl ?_
    refine jr_ireturn dX7_count_92 rfl ?_
    rw [if_neg (by omega), if_neg (by omega), if_neg (by omega), if_neg (by omega), if_neg (by omega), if_neg (by omega)] at hK
    exact hK
  · have hc : x = 0 ∨ x = 1 ∨ x = 2 ∨ x = 3 ∨ x = 4 ∨ x = 5 := by omega
    rcases hc with rfl | rfl | rfl | rfl | rfl | rfl
    · refine jr_tabIn (tgt := 40) gM dX7_count_1 h1 (by omega) (by omega) rfl rfl ?_
      refine jr_aload_n (pc' := 41) gM dX7_count_40 rfl rfl ?_
      refine jr_gfr (pc' := 44) gM dX7_count_41 rfl fX7_10 rfl rfl ?_
      refine jr_gfi (pc' := 47) gM dX7_count_44 rfl fX7_88 rfl rfl ?_
      rw [hC.1.1]
      refine jr_ireturn dX7_count_47 rfl ?_
      exact hK
    · refine jr_tabIn (tgt := 48) gM dX7_count_1 h1 (by omega) (by omega) rfl rfl ?_
      refine jr_aload_n (pc' := 49) gM dX7_count_48 rfl rfl ?_
      refine jr_gfr (pc' := 52) gM dX7_count_49 rfl fX7_28 rfl rfl ?_
      refine jr_inv (pc' := 55) (as := []) gM dX7_count_52 rfl kX7_183 rfl rfl rfl (Nat.le_of_ble_eq_true rfl) ?_
      refine howMany_ok hC.1.1 hC.1.2.1 hC.2.1 hC.2.2.1 ?_
      dsimp only [Option.toList, List.cons_append, List.nil_append]
      refine jr_ireturn dX7_count_55 rfl ?_
      exact hK
    · refine jr_tabIn (tgt := 56) gM dX7_count_1 h1 (by omega) (by omega) rfl rfl ?_
      refine jr_aload_n (pc' := 57) gM dX7_count_56 rfl rfl ?_
      refine jr_gfr (pc' := 60) gM dX7_count_57 rfl fX7_28 rfl rfl ?_
      refine jr_inv (pc' := 63) (as := []) gM dX7_count_60 rfl kX7_172 rfl rfl rfl (Nat.le_of_ble_eq_true rfl) ?_
      refine allOpen_ok hC.1.1 hC.1.2.1 hC.2.1 hC.2.2.1 ?_
      dsimp only [Option.toList, List.cons_append, List.nil_append]
      refine jr_ins (pc' := 66) (as := [_]) gM dX7_count_63 rfl kX7_138 rfl rfl (Nat.le_of_ble_eq_true rfl) ?_
      refine bitCount_ok ?_
      dsimp only [Option.toList, List.cons_append, List.nil_append]
      refine jr_ireturn dX7_count_66 rfl ?_
      exact hK
    · refine jr_tabIn (tgt := 67) gM dX7_count_1 h1 (by omega) (by omega) rfl rfl ?_
      refine jr_aload_n (pc' := 68) gM dX7_count_67 rfl rfl ?_
      refine jr_gfr (pc' := 71) gM dX7_count_68 rfl fX7_19 rfl rfl ?_
      refine jr_gfi (pc' := 74) gM dX7_count_71 rfl fX7_186 rfl rfl ?_
      rw [hC.2.2.2.1.2.2]
      refine jr_ireturn dX7_count_74 rfl ?_
      exact hK
    · refine jr_tabIn (tgt := 75) gM dX7_count_1 h1 (by omega) (by omega) rfl rfl ?_
      refine jr_aload_n (pc' := 76) gM dX7_count_75 rfl rfl ?_
      refine jr_gfr (pc' := 79) gM dX7_count_76 rfl fX7_62 rfl rfl ?_
      refine jr_gfi (pc' := 82) gM dX7_count_79 rfl fX7_189 rfl rfl ?_
      rw [hC.2.2.2.2.2.2.2.2.2.1.1]
      refine jr_ireturn dX7_count_82 rfl ?_
      exact hK
    · refine jr_tabIn (tgt := 83) gM dX7_count_1 h1 (by omega) (by omega) rfl rfl ?_
      refine jr_aload_n (pc' := 84) gM dX7_count_83 rfl rfl ?_
      refine jr_gfr (pc' := 87) gM dX7_count_84 rfl fX7_37 rfl rfl ?_
      refine jr_gfi (pc' := 90) gM dX7_count_87 rfl fX7_190 rfl rfl ?_
      rw [hC.2.2.2.2.2.2.2.2.2.2]
      refine jr_ireturn dX7_count_90 rfl ?_
      exact hK
end jPub2
