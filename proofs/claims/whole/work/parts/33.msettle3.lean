/-! ===== the reference: goesOn, settle ===== -/
section jMu
variable {n m : Nat} {ba bb : Nat → Nat} {bm hp : Nat → Int} {fr : Nat → Nat → Int} {pr : Int} {σ : jMem} {K : Option Value → jMem → Prop} {d : Nat}
set_option maxRecDepth 100000 in
theorem goesOn_ok (hS : SM n hp fr m ba bb bm pr σ)
    (hK0 : stR n fr (bdL ba bb bm m) pr hp = none → K (some (.int (jI 0))) σ)
    (hK1 : ∀ hp', stR n fr (bdL ba bb bm m) pr hp = some hp' → HV n hp' → ∀ σ' : jMem, (∀ v, v < n → σ' 28 v = hp' v) → (∀ c, c ≠ 28 → σ' c = σ c) → K (some (.int (jI 1))) σ') : jRun (d + 5) mX8_goesOn [.ref 24] σ K := by
  have hSS := hS
  obtain ⟨s1, s2, s3, s4, s5, s6, s7, s8, s9, s10, s11⟩ := hS
  -- melts
  have three : lfR n fr (bdL ba bb bm m) pr hp = none → mfR n fr (bdL ba bb bm m) pr hp = none → ∀ q1 q2 : Option Value, jV (jP mX8_goesOn (d + 5) K) 72 [some (.ref 24), q1, q2] [] σ := by
    intro z1 z2 q1 q2
    refine jr_iconst (pc' := 73) gM dX8_goesOn_72 rfl ?_
    refine jr_istore_n (pc' := 74) (lv' := [_, _, _]) gM dX8_goesOn_73 rfl rfl (Nat.le_of_ble_eq_true rfl) ?_
    have lp : ∀ i, i ≤ n → ∀ q2 : Option Value, mlR n fr (bdL ba bb bm m) pr hp = frs (fun a => if hp a = (a : Int) then meR n fr (bdL ba bb bm m) pr hp a else none) i (n - i) → jV (jP mX8_goesOn (d + 5) K) 74 [some (.ref 24), some (.int (jI (i : Int))), q2] [] σ := by
      refine jdown n ?_
      intro i hi ih q2 g
      have hri := s3.r s2 i
      refine jr_iload_n (pc' := 75) gM dX8_goesOn_74 rfl rfl ?_
      refine jr_aload_n (pc' := 76) gM dX8_goesOn_75 rfl rfl ?_
      refine jr_gfi (pc' := 79) gM dX8_goesOn_76 rfl fX8_60 rfl rfl ?_
      rw [s1]
      refine jr_icmp_ge (tgt := 137) (pc' := 82) gM dX8_goesOn_79 rfl rfl ⟨by omega, by omega⟩ ⟨by omega, by omega⟩ (fun c79 => ?_) (fun c79 => ?_)
      · refine jr_iconst (pc' := 138) gM dX8_goesOn_137 rfl ?_
        refine jr_zreturn dX8_goesOn_138 rfl (by first | omega | exact bI_01 _) ?_
        refine hK0 ?_
        unfold stR
        rw [z1, z2, g, show n - i = 0 by omega]
        rfl
      · rw [show n - i = (n - (i + 1)) + 1 by omega] at g
        refine jr_iload_n (pc' := 83) gM dX8_goesOn_82 rfl rfl ?_
        refine jr_iconst (pc' := 84) gM dX8_goesOn_83 rfl ?_
        refine jr_iadd (pc' := 85) gM dX8_goesOn_84 rfl ?_
        refine jr_istore_n (pc' := 86) (lv' := [_, _, _]) gM dX8_goesOn_85 rfl rfl (Nat.le_of_ble_eq_true rfl) ?_
        have next : (if hp i = (i : Int) then meR n fr (bdL ba bb bm m) pr hp i else none) = none → ∀ q2 : Option Value, jV (jP mX8_goesOn (d + 5) K) 131 [some (.ref 24), some (.int (jI (i : Int))), q2] [] σ := by
          intro hz q2
          refine jr_iinc (pc' := 134) (lv' := [_, _, _]) gM dX8_goesOn_131 rfl rfl rfl ?_
          refine jr_goto (tgt := 74) gM dX8_goesOn_134 rfl ?_
          refine ih (i + 1) (by omega) (by omega) _ ?_
          rw [g, frs_n hz]
        have lp2 : ∀ j, j ≤ n → i < j → meR n fr (bdL ba bb bm m) pr hp i = frs (meT n fr (bdL ba bb bm m) pr hp i) j (n - j) → jV (jP mX8_goesOn (d + 5) K) 86 [some (.ref 24), some (.int (jI (i : Int))), some (.int (jI (j : Int)))] [] σ := by
          refine jdown n ?_
          intro j hj ihj hij gj
          have hrj := s3.r s2 j
          refine jr_iload_n (pc' := 87) gM dX8_goesOn_86 rfl rfl ?_
          refine jr_aload_n (pc' := 88) gM dX8_goesOn_87 rfl rfl ?_
          refine jr_gfi (pc' := 91) gM dX8_goesOn_88 rfl fX8_60 rfl rfl ?_
          rw [s1]
          refine jr_icmp_ge (tgt := 131) (pc' := 94) gM dX8_goesOn_91 rfl rfl ⟨by omega, by omega⟩ ⟨by omega, by omega⟩ (fun c91 => ?_) (fun c91 => ?_)
          · refine next ?_ _
            rw [gj, show n - j = 0 by omega]
            split <;> rfl
          · rw [show n - j = (n - (j + 1)) + 1 by omega] at gj
            refine jr_aload_n (pc' := 95) gM dX8_goesOn_94 rfl rfl ?_
            refine jr_gfr (pc' := 98) gM dX8_goesOn_95 rfl fX8_32 rfl rfl ?_
            refine jr_iload_n (pc' := 99) gM dX8_goesOn_98 rfl rfl ?_
            refine jr_iald (pc' := 100) (i) gM dX8_goesOn_99 rfl rfl (rfl) (by omega) (by decide) ?_
            rw [s4 i (by omega)]
            refine jr_iload_n (pc' := 101) gM dX8_goesOn_100 rfl rfl ?_
            refine jr_icmp_ne (tgt := 131) (pc' := 104) gM dX8_goesOn_101 rfl rfl ⟨by omega, by omega⟩ ⟨by omega, by omega⟩ (fun c101 => ?_) (fun c101 => ?_)
            · exact next (by rw [if_neg c101]) _
            · refine jr_aload_n (pc' := 105) gM dX8_goesOn_104 rfl rfl ?_
              refine jr_gfr (pc' := 108) gM dX8_goesOn_105 rfl fX8_32 rfl rfl ?_
              refine jr_iload_n (pc' := 109) gM dX8_goesOn_108 rfl rfl ?_
              refine jr_iald (pc' := 110) (j) gM dX8_goesOn_109 rfl rfl (rfl) (by omega) (by decide) ?_
              rw [s4 j (by omega)]
              refine jr_iload_n (pc' := 111) gM dX8_goesOn_110 rfl rfl ?_
              refine jr_icmp_ne (tgt := 125) (pc' := 114) gM dX8_goesOn_111 rfl rfl ⟨by omega, by omega⟩ ⟨by omega, by omega⟩ (fun c111 => ?_) (fun c111 => ?_)
              · refine jr_iinc (pc' := 128) (lv' := [_, _, _]) gM dX8_goesOn_125 rfl rfl rfl ?_
                refine jr_goto (tgt := 86) gM dX8_goesOn_128 rfl ?_
                refine ihj (j + 1) (by omega) (by omega) (by omega) ?_
                rw [gj, frs_n (by unfold meT; rw [if_neg (fun q => c111 q.1)])]
              · refine jr_aload_n (pc' := 115) gM dX8_goesOn_114 rfl rfl ?_
                refine jr_iload_n (pc' := 116) gM dX8_goesOn_115 rfl rfl ?_
                refine jr_iload_n (pc' := 117) gM dX8_goesOn_116 rfl rfl ?_
                refine jr_inv (pc' := 120) (as := [_, _]) gM dX8_goesOn_117 rfl kX8_112 rfl rfl rfl (Nat.le_of_ble_eq_true rfl) ?_
                refine melts_ok hSS c101 c111 hij (by omega) (fun h0 => ?_) (fun hp' h1 hV' σ' k1 k2 => ?_)
                · dsimp only [Option.toList, List.cons_append, List.nil_append]
                  refine jr_if_eq (tgt := 125) (pc' := 123) gM dX8_goesOn_120 rfl rfl ⟨by omega, by omega⟩ (fun _ => ?_) (fun cc => absurd cc (by omega))
                  refine jr_iinc (pc' := 128) (lv' := [_, _, _]) gM dX8_goesOn_125 rfl rfl rfl ?_
                  refine jr_goto (tgt := 86) gM dX8_goesOn_128 rfl ?_
                  refine ihj (j + 1) (by omega) (by omega) (by omega) ?_
                  rw [gj, frs_n h0]
                · dsimp only [Option.toList, List.cons_append, List.nil_append]
                  refine jr_if_eq (tgt := 125) (pc' := 123) gM dX8_goesOn_120 rfl rfl ⟨by omega, by omega⟩ (fun cc => absurd cc (by omega)) (fun _ => ?_)
                  refine jr_iconst (pc' := 124) gM dX8_goesOn_123 rfl ?_
                  refine jr_zreturn dX8_goesOn_124 rfl (by first | omega | exact bI_01 _) ?_
                  refine hK1 hp' ?_ hV' σ' k1 k2
                  unfold stR
                  rw [z1, z2, g, frs_s (x := hp') (by rw [if_pos c101, gj, frs_s h1])]
                  rfl
        exact lp2 (i + 1) (by omega) (by omega) rfl
    exact lp 0 (by omega) _ rfl
  -- moves
  have two : lfR n fr (bdL ba bb bm m) pr hp = none → ∀ q1 : Option Value, jV (jP mX8_goesOn (d + 5) K) 36 [some (.ref 24), q1, none] [] σ := by
    intro z1 q1
    refine jr_iconst (pc' := 37) gM dX8_goesOn_36 rfl ?_
    refine jr_istore_n (pc' := 38) (lv' := [_, _, _]) gM dX8_goesOn_37 rfl rfl (Nat.le_of_ble_eq_true rfl) ?_
    have lp : ∀ i, i ≤ n → mfR n fr (bdL ba bb bm m) pr hp = frs (fun u => if hp u = -1 then none else mvR n fr (bdL ba bb bm m) pr hp u) i (n - i) → jV (jP mX8_goesOn (d + 5) K) 38 [some (.ref 24), some (.int (jI (i : Int))), none] [] σ := by
      refine jdown n ?_
      intro i hi ih g
      have hri := s3.r s2 i
      refine jr_iload_n (pc' := 39) gM dX8_goesOn_38 rfl rfl ?_
      refine jr_aload_n (pc' := 40) gM dX8_goesOn_39 rfl rfl ?_
      refine jr_gfi (pc' := 43) gM dX8_goesOn_40 rfl fX8_60 rfl rfl ?_
      rw [s1]
      refine jr_icmp_ge (tgt := 72) (pc' := 46) gM dX8_goesOn_43 rfl rfl ⟨by omega, by omega⟩ ⟨by omega, by omega⟩ (fun c43 => ?_) (fun c43 => ?_)
      · refine three z1 ?_ _ _
        rw [g, show n - i = 0 by omega]
        rfl
      · rw [show n - i = (n - (i + 1)) + 1 by omega] at g
        refine jr_aload_n (pc' := 47) gM dX8_goesOn_46 rfl rfl ?_
        refine jr_gfr (pc' := 50) gM dX8_goesOn_47 rfl fX8_32 rfl rfl ?_
        refine jr_iload_n (pc' := 51) gM dX8_goesOn_50 rfl rfl ?_
        refine jr_iald (pc' := 52) _ gM dX8_goesOn_51 rfl rfl rfl (by omega) (by decide) ?_
        rw [s4 i (by omega)]
        refine jr_iconst (pc' := 53) gM dX8_goesOn_52 rfl ?_
        refine jr_icmp_eq (tgt := 66) (pc' := 56) gM dX8_goesOn_53 rfl rfl ⟨by omega, by omega⟩ ⟨by omega, by omega⟩ (fun c53 => ?_) (fun c53 => ?_)
        · refine jr_iinc (pc' := 69) (lv' := [_, _, _]) gM dX8_goesOn_66 rfl rfl rfl ?_
          refine jr_goto (tgt := 38) gM dX8_goesOn_69 rfl ?_
          refine ih (i + 1) (by omega) (by omega) ?_
          rw [g, frs_n (by rw [if_pos c53])]
        · refine jr_aload_n (pc' := 57) gM dX8_goesOn_56 rfl rfl ?_
          refine jr_iload_n (pc' := 58) gM dX8_goesOn_57 rfl rfl ?_
          refine jr_inv (pc' := 61) (as := [_]) gM dX8_goesOn_58 rfl kX8_109 rfl rfl rfl (Nat.le_of_ble_eq_true rfl) ?_
          refine moves_ok hSS (by omega) c53 (fun h0 => ?_) (fun hp' h1 hV' σ' k1 k2 => ?_)
          · dsimp only [Option.toList, List.cons_append, List.nil_append]
            refine jr_if_eq (tgt := 66) (pc' := 64) gM dX8_goesOn_61 rfl rfl ⟨by omega, by omega⟩ (fun _ => ?_) (fun cc => absurd cc (by omega))
            refine jr_iinc (pc' := 69) (lv' := [_, _, _]) gM dX8_goesOn_66 rfl rfl rfl ?_
            refine jr_goto (tgt := 38) gM dX8_goesOn_69 rfl ?_
            refine ih (i + 1) (by omega) (by omega) ?_
            rw [g, frs_n (by rw [if_neg c53]; exact h0)]
          · dsimp only [Option.toList, List.cons_append, List.nil_append]
            refine jr_if_eq (tgt := 66) (pc' := 64) gM dX8_goesOn_61 rfl rfl ⟨by omega, by omega⟩ (fun cc => absurd cc (by omega)) (fun _ => ?_)
            refine jr_iconst (pc' := 65) gM dX8_goesOn_64 rfl ?_
            refine jr_zreturn dX8_goesOn_65 rfl (by first | omega | exact bI_01 _) ?_
            refine hK1 hp' ?_ hV' σ' k1 k2
            unfold stR
            rw [z1, g, frs_s (x := hp') (by rw [if_neg c53]; exact h1)]
            rfl
    exact lp 0 (by omega) rfl
  refine jenter (lv := [_, _, _]) rfl rfl (Nat.le_of_ble_eq_true rfl) ?_
  refine jr_iconst (pc' := 1) gM dX8_goesOn_0 rfl ?_
  refine jr_istore_n (pc' := 2) (lv' := [_, _, _]) gM dX8_goesOn_1 rfl rfl (Nat.le_of_ble_eq_true rfl) ?_
  have lp : ∀ i, i ≤ n → lfR n fr (bdL ba bb bm m) pr hp = frs (fun u => if hp u = -1 then loR n fr (bdL ba bb bm m) pr hp u else none) i (n - i) → jV (jP mX8_goesOn (d + 5) K) 2 [some (.ref 24), some (.int (jI (i : Int))), none] [] σ := by
    refine jdown n ?_
    intro i hi ih g
    have hri := s3.r s2 i
    refine jr_iload_n (pc' := 3) gM dX8_goesOn_2 rfl rfl ?_
    refine jr_aload_n (pc' := 4) gM dX8_goesOn_3 rfl rfl ?_
    refine jr_gfi (pc' := 7) gM dX8_goesOn_4 rfl fX8_60 rfl rfl ?_
    rw [s1]
    refine jr_icmp_ge (tgt := 36) (pc' := 10) gM dX8_goesOn_7 rfl rfl ⟨by omega, by omega⟩ ⟨by omega, by omega⟩ (fun c7 => ?_) (fun c7 => ?_)
    · refine two ?_ _
      rw [g, show n - i = 0 by omega]
      rfl
    · rw [show n - i = (n - (i + 1)) + 1 by omega] at g
      refine jr_aload_n (pc' := 11) gM dX8_goesOn_10 rfl rfl ?_
      refine jr_gfr (pc' := 14) gM dX8_goesOn_11 rfl fX8_32 rfl rfl ?_
      refine jr_iload_n (pc' := 15) gM dX8_goesOn_14 rfl rfl ?_
      refine jr_iald (pc' := 16) _ gM dX8_goesOn_15 rfl rfl rfl (by omega) (by decide) ?_
      rw [s4 i (by omega)]
      refine jr_iconst (pc' := 17) gM dX8_goesOn_16 rfl ?_
      refine jr_icmp_ne (tgt := 30) (pc' := 20) gM dX8_goesOn_17 rfl rfl ⟨by omega, by omega⟩ ⟨by omega, by omega⟩ (fun c17 => ?_) (fun c17 => ?_)
      · refine jr_iinc (pc' := 33) (lv' := [_, _, _]) gM dX8_goesOn_30 rfl rfl rfl ?_
        refine jr_goto (tgt := 2) gM dX8_goesOn_33 rfl ?_
        refine ih (i + 1) (by omega) (by omega) ?_
        rw [g, frs_n (by rw [if_neg c17])]
      · refine jr_aload_n (pc' := 21) gM dX8_goesOn_20 rfl rfl ?_
        refine jr_iload_n (pc' := 22) gM dX8_goesOn_21 rfl rfl ?_
        refine jr_inv (pc' := 25) (as := [_]) gM dX8_goesOn_22 rfl kX8_106 rfl rfl rfl (Nat.le_of_ble_eq_true rfl) ?_
        refine lays_ok hSS (by omega) c17 (fun h0 => ?_) (fun hp' h1 hV' σ' k1 k2 => ?_)
        · dsimp only [Option.toList, List.cons_append, List.nil_append]
          refine jr_if_eq (tgt := 30) (pc' := 28) gM dX8_goesOn_25 rfl rfl ⟨by omega, by omega⟩ (fun _ => ?_) (fun cc => absurd cc (by omega))
          refine jr_iinc (pc' := 33) (lv' := [_, _, _]) gM dX8_goesOn_30 rfl rfl rfl ?_
          refine jr_goto (tgt := 2) gM dX8_goesOn_33 rfl ?_
          refine ih (i + 1) (by omega) (by omega) ?_
          rw [g, frs_n (by rw [if_pos c17]; exact h0)]
        · dsimp only [Option.toList, List.cons_append, List.nil_append]
          refine jr_if_eq (tgt := 30) (pc' := 28) gM dX8_goesOn_25 rfl rfl ⟨by omega, by omega⟩ (fun cc => absurd cc (by omega)) (fun _ => ?_)
          refine jr_iconst (pc' := 29) gM dX8_goesOn_28 rfl ?_
          refine jr_zreturn dX8_goesOn_29 rfl (by first | omega | exact bI_01 _) ?_
          refine hK1 hp' ?_ hV' σ' k1 k2
          unfold stR
          rw [g, frs_s (x := hp') (by rw [if_pos c17]; exact h1)]
          rfl
  exact lp 0 (by omega) rfl
set_option maxRecDepth 100000 in
theorem msettle_ok {x : Int} (hS : SM n hp fr m ba bb bm pr σ) (h1 : jR x)
    (hK0 : ¬ (0 ≤ x ∧ x ≤ 100) → K (some (.int (jI (-1)))) σ)
    (hK1 : ∀ t : Nat, x = (t : Int) → t ≤ 100 → HV n (stN (stR n fr (bdL ba bb bm m) pr) t hp).2 → ∀ σ' : jMem, (∀ v, v < n → σ' 28 v = (stN (stR n fr (bdL ba bb bm m) pr) t hp).2 v) → σ' 24 16 = σ 24 16 + ((stN (stR n fr (bdL ba bb bm m) pr) t hp).1 : Int) → (∀ j, j ≠ 16 → σ' 24 j = σ 24 j) → (∀ c, c ≠ 24 → c ≠ 28 → σ' c = σ c) → K (some (.int (jI ((stN (stR n fr (bdL ba bb bm m) pr) t hp).1 : Int)))) σ') : jRun (d + 6) mX8_settle [.ref 24, .int (jI x)] σ K := by
  refine jenter (lv := [_, _, _]) rfl rfl (Nat.le_of_ble_eq_true rfl) ?_
  refine jr_iload_n (pc' := 1) gM dX8_settle_0 rfl rfl ?_
  refine jr_iconst (pc' := 2) gM dX8_settle_1 rfl ?_
  refine jr_bipush (pc' := 4) gM dX8_settle_2 rfl rfl ?_
  refine jr_ins (pc' := 7) (as := [_, _, _]) gM dX8_settle_4 rfl kX8_63 rfl rfl (Nat.le_of_ble_eq_true rfl) ?_
  refine in_ok h1 ⟨by omega, by omega⟩ ⟨by omega, by omega⟩ ?_
  dsimp only [Option.toList, List.cons_append, List.nil_append]
  refine jr_pb_ne (tgt := 12) (pc' := 10) gM dX8_settle_7 rfl rfl (fun c7 => ?_) (fun c7 => ?_)
  · obtain ⟨t, rfl⟩ := Int.eq_ofNat_of_zero_le c7.1
    have hk := hK1 t rfl (by omega)
    refine jr_iconst (pc' := 13) gM dX8_settle_12 rfl ?_
    refine jr_istore_n (pc' := 14) (lv' := [_, _, _]) gM dX8_settle_13 rfl rfl (Nat.le_of_ble_eq_true rfl) ?_
    have lp : ∀ i, i ≤ t → ∀ (hp1 : Nat → Int) (σ1 : jMem), SM n hp1 fr m ba bb bm pr σ1 → (∀ c, c ≠ 28 → σ1 c = σ c) → (stN (stR n fr (bdL ba bb bm m) pr) t hp) = (i + (stN (stR n fr (bdL ba bb bm m) pr) (t - i) hp1).1, (stN (stR n fr (bdL ba bb bm m) pr) (t - i) hp1).2) → jV (jP mX8_settle (d + 6) K) 14 [some (.ref 24), some (.int (jI (t : Int))), some (.int (jI (i : Int)))] [] σ1 := by
      refine jdown t ?_
      intro i hi ih hp1 σ1 hS1 g1 g2
      have fin : stN (stR n fr (bdL ba bb bm m) pr) t hp = (i, hp1) → jV (jP mX8_settle (d + 6) K) 32 [some (.ref 24), some (.int (jI (t : Int))), some (.int (jI (i : Int)))] [] σ1 := by
        intro e
        rw [e] at hk
        refine jr_aload_n (pc' := 33) gM dX8_settle_32 rfl rfl ?_
        refine jr_dup (pc' := 34) gM dX8_settle_33 rfl rfl ?_
        refine jr_gfi (pc' := 37) gM dX8_settle_34 rfl fX8_120 rfl rfl ?_
        refine jr_iload_n (pc' := 38) gM dX8_settle_37 rfl rfl ?_
        refine jr_iadd (pc' := 39) gM dX8_settle_38 rfl ?_
        refine jr_pf (pc' := 42) gM dX8_settle_39 rfl fX8_120 rfl rfl ⟨rfl, by decide +kernel⟩ ?_
        refine jr_iload_n (pc' := 43) gM dX8_settle_42 rfl rfl ?_
        refine jr_ireturn dX8_settle_43 rfl ?_
        refine hk hS1.2.2.1 _ (fun v hv => ?_) ?_ (fun j hj => ?_) (fun c q1 q2 => ?_)
        · rw [jup_row (by omega)]
          exact hS1.2.2.2.1 v hv
        · rw [jup_at, g1 24 (by omega)]
        · rw [jup_ne (Or.inr hj), g1 24 (by omega)]
        · rw [jup_row q1]
          exact g1 c q2
      refine jr_iload_n (pc' := 15) gM dX8_settle_14 rfl rfl ?_
      refine jr_iload_n (pc' := 16) gM dX8_settle_15 rfl rfl ?_
      refine jr_icmp_ge (tgt := 32) (pc' := 19) gM dX8_settle_16 rfl rfl ⟨by omega, by omega⟩ ⟨by omega, by omega⟩ (fun c16 => ?_) (fun c16 => ?_)
      · refine fin ?_
        rw [g2, show t - i = 0 by omega]
        rfl
      · rw [show t - i = (t - (i + 1)) + 1 by omega] at g2
        refine jr_aload_n (pc' := 20) gM dX8_settle_19 rfl rfl ?_
        refine jr_inv (pc' := 23) (as := []) gM dX8_settle_20 rfl kX8_116 rfl rfl rfl (Nat.le_of_ble_eq_true rfl) ?_
        refine goesOn_ok hS1 (fun h0 => ?_) (fun hp' h1 hV' σ' k1 k2 => ?_)
        · dsimp only [Option.toList, List.cons_append, List.nil_append]
          refine jr_if_eq (tgt := 32) (pc' := 26) gM dX8_settle_23 rfl rfl ⟨by omega, by omega⟩ (fun _ => ?_) (fun cc => absurd cc (by omega))
          refine fin ?_
          rw [g2, stN_n h0]
          rfl
        · dsimp only [Option.toList, List.cons_append, List.nil_append]
          refine jr_if_eq (tgt := 32) (pc' := 26) gM dX8_settle_23 rfl rfl ⟨by omega, by omega⟩ (fun cc => absurd cc (by omega)) (fun _ => ?_)
          refine jr_iinc (pc' := 29) (lv' := [_, _, _]) gM dX8_settle_26 rfl rfl rfl ?_
          refine jr_goto (tgt := 14) gM dX8_settle_29 rfl ?_
          refine ih (i + 1) (by omega) (by omega) hp' σ' (hS1.of hV' k1 k2) (fun c hc => by rw [k2 c hc]; exact g1 c hc) ?_
          rw [g2, stN_s h1]
          simp only [Prod.mk.injEq, and_true]
          omega
    refine lp 0 (by omega) hp σ hS (fun c _ => rfl) ?_
    rw [Nat.sub_zero, Nat.zero_add]
  · refine jr_iconst (pc' := 11) gM dX8_settle_10 rfl ?_
    refine jr_ireturn dX8_settle_11 rfl ?_
    exact hK0 c7
end jMu
