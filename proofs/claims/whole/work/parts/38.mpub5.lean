/-! ===== the reference: share, first, count, core, name ===== -/
section jMv
variable {n : Nat} {nb : Nat → Nat} {yr wt hp : Nat → Int} {pr ga sh fe : Int} {m : Nat} {ba bb : Nat → Nat} {bm : Nat → Int} {s : Nat} {se : Nat → Nat} {sp : Int} {σ : jMem} {K : Option Value → jMem → Prop} {d : Nat}
set_option maxRecDepth 100000 in
theorem m_share {x f t w : Int} (hC : MI n nb yr wt hp pr ga sh fe m ba bb bm s se sp σ) (h1 : jR x) (h2 : jR f) (h3 : jR t) (h4 : jR w)
    (hK0 : ¬ (isH n hp x ∧ 0 ≤ w ∧ w ≤ 1) → K (some (.int (jI (-1)))) σ) (hK1 : isH n hp x ∧ 0 ≤ w ∧ w ≤ 1 → K (some (.int (jI (js (fun u => bI (f ≤ yr u ∧ yr u ≤ t ∧ (hp u = x ∨ (w = 1 ∧ hp u = -1)))) n)))) σ) : jRun (d + 9) mX8_share [.ref 24, .int (jI x), .int (jI f), .int (jI t), .int (jI w)] σ K := by
  obtain ⟨a1, a2, a3, a4, a5, a6, -⟩ := hC
  have hn := a1.2
  refine jenter (lv := [_, _, _, _, _, _, _]) rfl rfl (Nat.le_of_ble_eq_true rfl) ?_
  refine jr_aload_n (pc' := 1) gM dX8_share_0 rfl rfl ?_
  refine jr_iload_n (pc' := 2) gM dX8_share_1 rfl rfl ?_
  refine jr_inv (pc' := 5) (as := [_]) gM dX8_share_2 rfl kX8_123 rfl rfl rfl (Nat.le_of_ble_eq_true rfl) ?_
  refine misHeap_ok a1.1 a1.2 a5 a6 h1 ?_
  dsimp only [Option.toList, List.cons_append, List.nil_append]
  refine jr_pb_eq (tgt := 18) (pc' := 8) gM dX8_share_5 rfl rfl (fun c5 => ?_) (fun c5 => ?_)
  · refine jr_iconst (pc' := 19) gM dX8_share_18 rfl ?_
    refine jr_ireturn dX8_share_19 rfl ?_
    exact hK0 (fun q => c5 q.1)
  · refine jr_iload (pc' := 10) gM dX8_share_8 rfl rfl ?_
    refine jr_iconst (pc' := 11) gM dX8_share_10 rfl ?_
    refine jr_iconst (pc' := 12) gM dX8_share_11 rfl ?_
    refine jr_ins (pc' := 15) (as := [_, _, _]) gM dX8_share_12 rfl kX8_63 rfl rfl (Nat.le_of_ble_eq_true rfl) ?_
    refine in_ok h4 ⟨by omega, by omega⟩ ⟨by omega, by omega⟩ ?_
    dsimp only [Option.toList, List.cons_append, List.nil_append]
    refine jr_pb_ne (tgt := 20) (pc' := 18) gM dX8_share_15 rfl rfl (fun c15 => ?_) (fun c15 => ?_)
    · have hk := hK1 ⟨c5, c15⟩
      refine jr_iconst (pc' := 21) gM dX8_share_20 rfl ?_
      refine jr_istore (pc' := 23) (lv' := [_, _, _, _, _, _, _]) gM dX8_share_21 rfl rfl (Nat.le_of_ble_eq_true rfl) ?_
      refine jr_iconst (pc' := 24) gM dX8_share_23 rfl ?_
      refine jr_istore (pc' := 26) (lv' := [_, _, _, _, _, _, _]) gM dX8_share_24 rfl rfl (Nat.le_of_ble_eq_true rfl) ?_
      have lp : ∀ i, i ≤ n → jV (jP mX8_share (d + 9) K) 26 [some (.ref 24), some (.int (jI x)), some (.int (jI f)), some (.int (jI t)), some (.int (jI w)), some (.int (jI (js (fun u => bI (f ≤ yr u ∧ yr u ≤ t ∧ (hp u = x ∨ (w = 1 ∧ hp u = -1)))) i))), some (.int (jI (i : Int)))] [] σ := by
        refine jdown n ?_
        intro i hi ih
        refine jr_iload (pc' := 28) gM dX8_share_26 rfl rfl ?_
        refine jr_aload_n (pc' := 29) gM dX8_share_28 rfl rfl ?_
        refine jr_gfi (pc' := 32) gM dX8_share_29 rfl fX8_60 rfl rfl ?_
        rw [a1.1]
        refine jr_icmp_ge (tgt := 94) (pc' := 35) gM dX8_share_32 rfl rfl ⟨by omega, by omega⟩ ⟨by omega, by omega⟩ (fun c32 => ?_) (fun c32 => ?_)
        · refine jr_iload (pc' := 96) gM dX8_share_94 rfl rfl ?_
          refine jr_ireturn dX8_share_96 rfl ?_
          have e : i = n := by omega
          subst e
          exact hk
        · have hri := a5.r hn i
          have hyi := a3 i (by omega)
          have nxt := ih (i + 1) (by omega) (by omega)
          simp only [js] at nxt
          have yes : f ≤ yr i ∧ yr i ≤ t ∧ (hp i = x ∨ (w = 1 ∧ hp i = -1)) → jV (jP mX8_share (d + 9) K) 80 [some (.ref 24), some (.int (jI x)), some (.int (jI f)), some (.int (jI t)), some (.int (jI w)), some (.int (jI (js (fun u => bI (f ≤ yr u ∧ yr u ≤ t ∧ (hp u = x ∨ (w = 1 ∧ hp u = -1)))) i))), some (.int (jI (i : Int)))] [.int (jI (js (fun u => bI (f ≤ yr u ∧ yr u ≤ t ∧ (hp u = x ∨ (w = 1 ∧ hp u = -1)))) i))] σ := by
            intro q
            rw [bI_t q] at nxt
            refine jr_iconst (pc' := 81) gM dX8_share_80 rfl ?_
            refine jr_goto (tgt := 85) gM dX8_share_81 rfl ?_
            refine jr_iadd (pc' := 86) gM dX8_share_85 rfl ?_
            refine jr_istore (pc' := 88) (lv' := [_, _, _, _, _, _, _]) gM dX8_share_86 rfl rfl (Nat.le_of_ble_eq_true rfl) ?_
            refine jr_iinc (pc' := 91) (lv' := [_, _, _, _, _, _, _]) gM dX8_share_88 rfl rfl rfl ?_
            refine jr_goto (tgt := 26) gM dX8_share_91 rfl ?_
            exact nxt
          have no : ¬ (f ≤ yr i ∧ yr i ≤ t ∧ (hp i = x ∨ (w = 1 ∧ hp i = -1))) → jV (jP mX8_share (d + 9) K) 84 [some (.ref 24), some (.int (jI x)), some (.int (jI f)), some (.int (jI t)), some (.int (jI w)), some (.int (jI (js (fun u => bI (f ≤ yr u ∧ yr u ≤ t ∧ (hp u = x ∨ (w = 1 ∧ hp u = -1)))) i))), some (.int (jI (i : Int)))] [.int (jI (js (fun u => bI (f ≤ yr u ∧ yr u ≤ t ∧ (hp u = x ∨ (w = 1 ∧ hp u = -1)))) i))] σ := by
            intro q
            rw [bI_f q] at nxt
            refine jr_iconst (pc' := 85) gM dX8_share_84 rfl ?_
            refine jr_iadd (pc' := 86) gM dX8_share_85 rfl ?_
            refine jr_istore (pc' := 88) (lv' := [_, _, _, _, _, _, _]) gM dX8_share_86 rfl rfl (Nat.le_of_ble_eq_true rfl) ?_
            refine jr_iinc (pc' := 91) (lv' := [_, _, _, _, _, _, _]) gM dX8_share_88 rfl rfl rfl ?_
            refine jr_goto (tgt := 26) gM dX8_share_91 rfl ?_
            exact nxt
          refine jr_iload (pc' := 37) gM dX8_share_35 rfl rfl ?_
          refine jr_aload_n (pc' := 38) gM dX8_share_37 rfl rfl ?_
          refine jr_gfr (pc' := 41) gM dX8_share_38 rfl fX8_29 rfl rfl ?_
          refine jr_iload (pc' := 43) gM dX8_share_41 rfl rfl ?_
          refine jr_iald (pc' := 44) (i) gM dX8_share_43 rfl rfl (rfl) (by omega) (by decide) ?_
          rw [hyi.1]
          refine jr_iload_n (pc' := 45) gM dX8_share_44 rfl rfl ?_
          refine jr_iload_n (pc' := 46) gM dX8_share_45 rfl rfl ?_
          refine jr_ins (pc' := 49) (as := [_, _, _]) gM dX8_share_46 rfl kX8_63 rfl rfl (Nat.le_of_ble_eq_true rfl) ?_
          refine in_ok ⟨by omega, by omega⟩ h2 h3 ?_
          dsimp only [Option.toList, List.cons_append, List.nil_append]
          refine jr_pb_eq (tgt := 84) (pc' := 52) gM dX8_share_49 rfl rfl (fun c49 => ?_) (fun c49 => ?_)
          · exact no (fun q => c49 ⟨q.1, q.2.1⟩)
          · refine jr_aload_n (pc' := 53) gM dX8_share_52 rfl rfl ?_
            refine jr_gfr (pc' := 56) gM dX8_share_53 rfl fX8_32 rfl rfl ?_
            refine jr_iload (pc' := 58) gM dX8_share_56 rfl rfl ?_
            refine jr_iald (pc' := 59) (i) gM dX8_share_58 rfl rfl (rfl) (by omega) (by decide) ?_
            rw [a6 i (by omega)]
            refine jr_iload_n (pc' := 60) gM dX8_share_59 rfl rfl ?_
            refine jr_icmp_eq (tgt := 80) (pc' := 63) gM dX8_share_60 rfl rfl ⟨by omega, by omega⟩ ⟨by omega, by omega⟩ (fun c60 => ?_) (fun c60 => ?_)
            · exact yes ⟨c49.1, c49.2, Or.inl (by omega)⟩
            · refine jr_iload (pc' := 65) gM dX8_share_63 rfl rfl ?_
              refine jr_iconst (pc' := 66) gM dX8_share_65 rfl ?_
              refine jr_icmp_ne (tgt := 84) (pc' := 69) gM dX8_share_66 rfl rfl ⟨by omega, by omega⟩ ⟨by omega, by omega⟩ (fun c66 => ?_) (fun c66 => ?_)
              · exact no (by omega)
              · refine jr_aload_n (pc' := 70) gM dX8_share_69 rfl rfl ?_
                refine jr_gfr (pc' := 73) gM dX8_share_70 rfl fX8_32 rfl rfl ?_
                refine jr_iload (pc' := 75) gM dX8_share_73 rfl rfl ?_
                refine jr_iald (pc' := 76) (i) gM dX8_share_75 rfl rfl (rfl) (by omega) (by decide) ?_
                rw [a6 i (by omega)]
                refine jr_iconst (pc' := 77) gM dX8_share_76 rfl ?_
                refine jr_icmp_ne (tgt := 84) (pc' := 80) gM dX8_share_77 rfl rfl ⟨by omega, by omega⟩ ⟨by omega, by omega⟩ (fun c77 => ?_) (fun c77 => ?_)
                · exact no (by omega)
                · exact yes (by omega)
      exact lp 0 (by omega)
    · refine jr_iconst (pc' := 19) gM dX8_share_18 rfl ?_
      refine jr_ireturn dX8_share_19 rfl ?_
      exact hK0 (fun q => c15 q.2)
set_option maxRecDepth 100000 in
theorem m_first {x : Int} (hC : MI n nb yr wt hp pr ga sh fe m ba bb bm s se sp σ) (h1 : jR x)
    (hK0 : ¬ isH n hp x → K (some (.int (jI (-1)))) σ) (hK1 : isH n hp x → K (some (.int (jI (jey (fun v => decide (hp v = x)) yr n)))) σ) : jRun (d + 9) mX8_first [.ref 24, .int (jI x)] σ K := by
  obtain ⟨a1, a2, a3, a4, a5, a6, -⟩ := hC
  have hn := a1.2
  refine jenter (lv := [_, _, _, _]) rfl rfl (Nat.le_of_ble_eq_true rfl) ?_
  refine jr_iconst (pc' := 1) gM dX8_first_0 rfl ?_
  refine jr_istore_n (pc' := 2) (lv' := [_, _, _, _]) gM dX8_first_1 rfl rfl (Nat.le_of_ble_eq_true rfl) ?_
  refine jr_iconst (pc' := 3) gM dX8_first_2 rfl ?_
  refine jr_istore_n (pc' := 4) (lv' := [_, _, _, _]) gM dX8_first_3 rfl rfl (Nat.le_of_ble_eq_true rfl) ?_
  have lp : ∀ i, i ≤ n → ∀ b : Int, (¬ isH n hp x → b = -1) → (isH n hp x → (b = -1 ∧ jey (fun v => decide (hp v = x)) yr i = 1999 ∧ ∀ u, u < i → hp u ≠ x) ∨ (b = jey (fun v => decide (hp v = x)) yr i ∧ 1800 ≤ b ∧ b ≤ 1999)) → -1 ≤ b → b ≤ 1999 → jV (jP mX8_first (d + 9) K) 4 [some (.ref 24), some (.int (jI x)), some (.int (jI b)), some (.int (jI (i : Int)))] [] σ := by
    refine jdown n ?_
    intro i hi ih b g0 g1 g2 g3
    refine jr_iload_n (pc' := 5) gM dX8_first_4 rfl rfl ?_
    refine jr_aload_n (pc' := 6) gM dX8_first_5 rfl rfl ?_
    refine jr_gfi (pc' := 9) gM dX8_first_6 rfl fX8_60 rfl rfl ?_
    rw [a1.1]
    refine jr_icmp_ge (tgt := 58) (pc' := 12) gM dX8_first_9 rfl rfl ⟨by omega, by omega⟩ ⟨by omega, by omega⟩ (fun c9 => ?_) (fun c9 => ?_)
    · refine jr_iload_n (pc' := 59) gM dX8_first_58 rfl rfl ?_
      refine jr_ireturn dX8_first_59 rfl ?_
      have e : i = n := by omega
      subst e
      by_cases q : isH i hp x
      · rcases g1 q with ⟨-, -, z⟩ | ⟨z, -⟩
        · obtain ⟨k, rfl⟩ := Int.eq_ofNat_of_zero_le q.1
          exact absurd q.2.2 (z k (by have := q.2.1; omega))
        · rw [z]
          exact hK1 q
      · rw [g0 q]
        exact hK0 q
    · have hri := a5.r hn i
      have hyi := a3 i (by omega)
      refine jr_aload_n (pc' := 13) gM dX8_first_12 rfl rfl ?_
      refine jr_iload_n (pc' := 14) gM dX8_first_13 rfl rfl ?_
      refine jr_inv (pc' := 17) (as := [_]) gM dX8_first_14 rfl kX8_123 rfl rfl rfl (Nat.le_of_ble_eq_true rfl) ?_
      refine misHeap_ok a1.1 a1.2 a5 a6 h1 ?_
      dsimp only [Option.toList, List.cons_append, List.nil_append]
      refine jr_pb_eq (tgt := 52) (pc' := 20) gM dX8_first_17 rfl rfl (fun c17 => ?_) (fun c17 => ?_)
      · refine jr_iinc (pc' := 55) (lv' := [_, _, _, _]) gM dX8_first_52 rfl rfl rfl ?_
        refine jr_goto (tgt := 4) gM dX8_first_55 rfl ?_
        exact ih (i + 1) (by omega) (by omega) b g0 (fun q => absurd q c17) g2 g3
      · have hq : isH n hp x := c17
        refine jr_aload_n (pc' := 21) gM dX8_first_20 rfl rfl ?_
        refine jr_gfr (pc' := 24) gM dX8_first_21 rfl fX8_32 rfl rfl ?_
        refine jr_iload_n (pc' := 25) gM dX8_first_24 rfl rfl ?_
        refine jr_iald (pc' := 26) (i) gM dX8_first_25 rfl rfl (rfl) (by omega) (by decide) ?_
        rw [a6 i (by omega)]
        refine jr_iload_n (pc' := 27) gM dX8_first_26 rfl rfl ?_
        refine jr_icmp_ne (tgt := 52) (pc' := 30) gM dX8_first_27 rfl rfl ⟨by omega, by omega⟩ ⟨by omega, by omega⟩ (fun c27 => ?_) (fun c27 => ?_)
        · refine jr_iinc (pc' := 55) (lv' := [_, _, _, _]) gM dX8_first_52 rfl rfl rfl ?_
          refine jr_goto (tgt := 4) gM dX8_first_55 rfl ?_
          refine ih (i + 1) (by omega) (by omega) b g0 (fun _ => ?_) g2 g3
          simp only [jey]
          rw [if_neg (by rw [decide_eq_true_eq]; exact c27)]
          rcases g1 hq with ⟨z1, z2, z3⟩ | z
          · refine Or.inl ⟨z1, z2, fun u hu => ?_⟩
            by_cases e : u = i
            · subst e
              exact c27
            · exact z3 u (by omega)
          · exact Or.inr z
        · have take : (b = -1 ∨ yr i < b) → jV (jP mX8_first (d + 9) K) 45 [some (.ref 24), some (.int (jI x)), some (.int (jI b)), some (.int (jI (i : Int)))] [] σ := by
            intro hb
            refine jr_aload_n (pc' := 46) gM dX8_first_45 rfl rfl ?_
            refine jr_gfr (pc' := 49) gM dX8_first_46 rfl fX8_29 rfl rfl ?_
            refine jr_iload_n (pc' := 50) gM dX8_first_49 rfl rfl ?_
            refine jr_iald (pc' := 51) (i) gM dX8_first_50 rfl rfl (rfl) (by omega) (by decide) ?_
            rw [hyi.1]
            refine jr_istore_n (pc' := 52) (lv' := [_, _, _, _]) gM dX8_first_51 rfl rfl (Nat.le_of_ble_eq_true rfl) ?_
            refine jr_iinc (pc' := 55) (lv' := [_, _, _, _]) gM dX8_first_52 rfl rfl rfl ?_
            refine jr_goto (tgt := 4) gM dX8_first_55 rfl ?_
            refine ih (i + 1) (by omega) (by omega) (yr i) (fun q => absurd hq q) (fun _ => Or.inr ⟨?_, hyi.2⟩) (by omega) (by omega)
            simp only [jey]
            rw [if_pos (by rw [decide_eq_true_eq]; omega)]
            rcases g1 hq with ⟨z1, z2, z3⟩ | ⟨z, z1⟩ <;> omega
          refine jr_iload_n (pc' := 31) gM dX8_first_30 rfl rfl ?_
          refine jr_iconst (pc' := 32) gM dX8_first_31 rfl ?_
          refine jr_icmp_eq (tgt := 45) (pc' := 35) gM dX8_first_32 rfl rfl ⟨by omega, by omega⟩ ⟨by omega, by omega⟩ (fun c32 => ?_) (fun c32 => ?_)
          · exact take (Or.inl c32)
          · refine jr_aload_n (pc' := 36) gM dX8_first_35 rfl rfl ?_
            refine jr_gfr (pc' := 39) gM dX8_first_36 rfl fX8_29 rfl rfl ?_
            refine jr_iload_n (pc' := 40) gM dX8_first_39 rfl rfl ?_
            refine jr_iald (pc' := 41) (i) gM dX8_first_40 rfl rfl (rfl) (by omega) (by decide) ?_
            rw [hyi.1]
            refine jr_iload_n (pc' := 42) gM dX8_first_41 rfl rfl ?_
            refine jr_icmp_ge (tgt := 52) (pc' := 45) gM dX8_first_42 rfl rfl ⟨by omega, by omega⟩ ⟨by omega, by omega⟩ (fun c42 => ?_) (fun c42 => ?_)
            · refine jr_iinc (pc' := 55) (lv' := [_, _, _, _]) gM dX8_first_52 rfl rfl rfl ?_
              refine jr_goto (tgt := 4) gM dX8_first_55 rfl ?_
              refine ih (i + 1) (by omega) (by omega) b g0 (fun _ => Or.inr ?_) g2 g3
              simp only [jey]
              rw [if_pos (by rw [decide_eq_true_eq]; omega)]
              rcases g1 hq with ⟨z1, z2, z3⟩ | ⟨z, z1⟩ <;> omega
            · exact take (Or.inr (by omega))
  exact lp 0 (by omega) (-1) (fun _ => rfl) (fun _ => Or.inl ⟨rfl, rfl, fun u hu => absurd hu (by omega)⟩) (by omega) (by omega)
set_option maxRecDepth 100000 in
theorem m_count {x : Int} (hC : MI n nb yr wt hp pr ga sh fe m ba bb bm s se sp σ) (h1 : jR x)
    (hK : K (some (.int (jI (ctF n hp m s sp x)))) σ) : jRun (d + 9) mX8_count [.ref 24, .int (jI x)] σ K := by
  obtain ⟨a1, a2, a3, a4, a5, a6, a7, ⟨a8, a8'⟩, a9, a10, a11, a12, a13, a14⟩ := hC
  have hn := a1.2
  unfold ctF at hK
  refine jenter (lv := [_, _, _, _]) rfl rfl (Nat.le_of_ble_eq_true rfl) ?_
  refine jr_iconst (pc' := 1) gM dX8_count_0 rfl ?_
  refine jr_istore_n (pc' := 2) (lv' := [_, _, _, _]) gM dX8_count_1 rfl rfl (Nat.le_of_ble_eq_true rfl) ?_
  refine jr_iload_n (pc' := 3) gM dX8_count_2 rfl rfl ?_
  by_cases hx : x < 0 ∨ 5 < x
  · refine jr_tabOut (tgt := 132) gM dX8_count_3 h1 hx rfl ?_
    refine jr_iconst (pc' := 133) gM dX8_count_132 rfl ?_
    refine jr_ireturn dX8_count_133 rfl ?_
    rw [if_neg (by omega), if_neg (by omega), if_neg (by omega), if_neg (by omega), if_neg (by omega), if_neg (by omega)] at hK
    exact hK
  · have hc : x = 0 ∨ x = 1 ∨ x = 2 ∨ x = 3 ∨ x = 4 ∨ x = 5 := by omega
    rcases hc with rfl | rfl | rfl | rfl | rfl | rfl
    · refine jr_tabIn (tgt := 40) gM dX8_count_3 h1 (by omega) (by omega) rfl rfl ?_
      refine jr_aload_n (pc' := 41) gM dX8_count_40 rfl rfl ?_
      refine jr_gfi (pc' := 44) gM dX8_count_41 rfl fX8_60 rfl rfl ?_
      rw [a1.1]
      refine jr_ireturn dX8_count_44 rfl ?_
      exact hK
    · refine jr_tabIn (tgt := 45) gM dX8_count_3 h1 (by omega) (by omega) rfl rfl ?_
      refine jr_iconst (pc' := 46) gM dX8_count_45 rfl ?_
      refine jr_istore_n (pc' := 47) (lv' := [_, _, _, _]) gM dX8_count_46 rfl rfl (Nat.le_of_ble_eq_true rfl) ?_
      have lp : ∀ i, i ≤ n → jV (jP mX8_count (d + 9) K) 47 [some (.ref 24), some (.int (jI 1)), some (.int (jI (js (fun h => bI (hp h = (h : Int))) i))), some (.int (jI (i : Int)))] [] σ := by
        refine jdown n ?_
        intro i hi ih
        refine jr_iload_n (pc' := 48) gM dX8_count_47 rfl rfl ?_
        refine jr_aload_n (pc' := 49) gM dX8_count_48 rfl rfl ?_
        refine jr_gfi (pc' := 52) gM dX8_count_49 rfl fX8_60 rfl rfl ?_
        rw [a1.1]
        refine jr_icmp_ge (tgt := 79) (pc' := 55) gM dX8_count_52 rfl rfl ⟨by omega, by omega⟩ ⟨by omega, by omega⟩ (fun c52 => ?_) (fun c52 => ?_)
        · refine jr_iload_n (pc' := 80) gM dX8_count_79 rfl rfl ?_
          refine jr_ireturn dX8_count_80 rfl ?_
          have e : i = n := by omega
          subst e
          exact hK
        · have hri := a5.r hn i
          have nxt := ih (i + 1) (by omega) (by omega)
          simp only [js] at nxt
          refine jr_iload_n (pc' := 56) gM dX8_count_55 rfl rfl ?_
          refine jr_aload_n (pc' := 57) gM dX8_count_56 rfl rfl ?_
          refine jr_gfr (pc' := 60) gM dX8_count_57 rfl fX8_32 rfl rfl ?_
          refine jr_iload_n (pc' := 61) gM dX8_count_60 rfl rfl ?_
          refine jr_iald (pc' := 62) (i) gM dX8_count_61 rfl rfl (rfl) (by omega) (by decide) ?_
          rw [a6 i (by omega)]
          refine jr_iload_n (pc' := 63) gM dX8_count_62 rfl rfl ?_
          refine jr_icmp_ne (tgt := 70) (pc' := 66) gM dX8_count_63 rfl rfl ⟨by omega, by omega⟩ ⟨by omega, by omega⟩ (fun c63 => ?_) (fun c63 => ?_)
          · rw [bI_f c63] at nxt
            refine jr_iconst (pc' := 71) gM dX8_count_70 rfl ?_
            refine jr_iadd (pc' := 72) gM dX8_count_71 rfl ?_
            refine jr_istore_n (pc' := 73) (lv' := [_, _, _, _]) gM dX8_count_72 rfl rfl (Nat.le_of_ble_eq_true rfl) ?_
            refine jr_iinc (pc' := 76) (lv' := [_, _, _, _]) gM dX8_count_73 rfl rfl rfl ?_
            refine jr_goto (tgt := 47) gM dX8_count_76 rfl ?_
            exact nxt
          · rw [bI_t (by omega)] at nxt
            refine jr_iconst (pc' := 67) gM dX8_count_66 rfl ?_
            refine jr_goto (tgt := 71) gM dX8_count_67 rfl ?_
            refine jr_iadd (pc' := 72) gM dX8_count_71 rfl ?_
            refine jr_istore_n (pc' := 73) (lv' := [_, _, _, _]) gM dX8_count_72 rfl rfl (Nat.le_of_ble_eq_true rfl) ?_
            refine jr_iinc (pc' := 76) (lv' := [_, _, _, _]) gM dX8_count_73 rfl rfl rfl ?_
            refine jr_goto (tgt := 47) gM dX8_count_76 rfl ?_
            exact nxt
      exact lp 0 (by omega)
    · refine jr_tabIn (tgt := 81) gM dX8_count_3 h1 (by omega) (by omega) rfl rfl ?_
      rw [if_neg (by omega), if_neg (by omega), if_pos rfl, jn_cut (k := n) hn (fun i h1 _ => by rw [decide_eq_false_iff_not]; omega), ← js_jn] at hK
      refine jr_iconst (pc' := 82) gM dX8_count_81 rfl ?_
      refine jr_istore_n (pc' := 83) (lv' := [_, _, _, _]) gM dX8_count_82 rfl rfl (Nat.le_of_ble_eq_true rfl) ?_
      have lp : ∀ i, i ≤ n → jV (jP mX8_count (d + 9) K) 83 [some (.ref 24), some (.int (jI 2)), some (.int (jI (js (fun v => bI (decide (v < n ∧ hp v = -1) = true)) i))), some (.int (jI (i : Int)))] [] σ := by
        refine jdown n ?_
        intro i hi ih
        refine jr_iload_n (pc' := 84) gM dX8_count_83 rfl rfl ?_
        refine jr_aload_n (pc' := 85) gM dX8_count_84 rfl rfl ?_
        refine jr_gfi (pc' := 88) gM dX8_count_85 rfl fX8_60 rfl rfl ?_
        rw [a1.1]
        refine jr_icmp_ge (tgt := 115) (pc' := 91) gM dX8_count_88 rfl rfl ⟨by omega, by omega⟩ ⟨by omega, by omega⟩ (fun c88 => ?_) (fun c88 => ?_)
        · refine jr_iload_n (pc' := 116) gM dX8_count_115 rfl rfl ?_
          refine jr_ireturn dX8_count_116 rfl ?_
          have e : i = n := by omega
          subst e
          exact hK
        · have hri := a5.r hn i
          have nxt := ih (i + 1) (by omega) (by omega)
          simp only [js] at nxt
          refine jr_iload_n (pc' := 92) gM dX8_count_91 rfl rfl ?_
          refine jr_aload_n (pc' := 93) gM dX8_count_92 rfl rfl ?_
          refine jr_gfr (pc' := 96) gM dX8_count_93 rfl fX8_32 rfl rfl ?_
          refine jr_iload_n (pc' := 97) gM dX8_count_96 rfl rfl ?_
          refine jr_iald (pc' := 98) (i) gM dX8_count_97 rfl rfl (rfl) (by omega) (by decide) ?_
          rw [a6 i (by omega)]
          refine jr_iconst (pc' := 99) gM dX8_count_98 rfl ?_
          refine jr_icmp_ne (tgt := 106) (pc' := 102) gM dX8_count_99 rfl rfl ⟨by omega, by omega⟩ ⟨by omega, by omega⟩ (fun c99 => ?_) (fun c99 => ?_)
          · rw [bI_f (by rw [decide_eq_true_eq]; omega)] at nxt
            refine jr_iconst (pc' := 107) gM dX8_count_106 rfl ?_
            refine jr_iadd (pc' := 108) gM dX8_count_107 rfl ?_
            refine jr_istore_n (pc' := 109) (lv' := [_, _, _, _]) gM dX8_count_108 rfl rfl (Nat.le_of_ble_eq_true rfl) ?_
            refine jr_iinc (pc' := 112) (lv' := [_, _, _, _]) gM dX8_count_109 rfl rfl rfl ?_
            refine jr_goto (tgt := 83) gM dX8_count_112 rfl ?_
            exact nxt
          · rw [bI_t (by rw [decide_eq_true_eq]; omega)] at nxt
            refine jr_iconst (pc' := 103) gM dX8_count_102 rfl ?_
            refine jr_goto (tgt := 107) gM dX8_count_103 rfl ?_
            refine jr_iadd (pc' := 108) gM dX8_count_107 rfl ?_
            refine jr_istore_n (pc' := 109) (lv' := [_, _, _, _]) gM dX8_count_108 rfl rfl (Nat.le_of_ble_eq_true rfl) ?_
            refine jr_iinc (pc' := 112) (lv' := [_, _, _, _]) gM dX8_count_109 rfl rfl rfl ?_
            refine jr_goto (tgt := 83) gM dX8_count_112 rfl ?_
            exact nxt
      exact lp 0 (by omega)
    · refine jr_tabIn (tgt := 117) gM dX8_count_3 h1 (by omega) (by omega) rfl rfl ?_
      refine jr_aload_n (pc' := 118) gM dX8_count_117 rfl rfl ?_
      refine jr_gfi (pc' := 121) gM dX8_count_118 rfl fX8_90 rfl rfl ?_
      rw [a8.1]
      refine jr_ireturn dX8_count_121 rfl ?_
      exact hK
    · refine jr_tabIn (tgt := 122) gM dX8_count_3 h1 (by omega) (by omega) rfl rfl ?_
      refine jr_aload_n (pc' := 123) gM dX8_count_122 rfl rfl ?_
      refine jr_gfi (pc' := 126) gM dX8_count_123 rfl fX8_136 rfl rfl ?_
      rw [a13.1]
      refine jr_ireturn dX8_count_126 rfl ?_
      exact hK
    · refine jr_tabIn (tgt := 127) gM dX8_count_3 h1 (by omega) (by omega) rfl rfl ?_
      refine jr_aload_n (pc' := 128) gM dX8_count_127 rfl rfl ?_
      refine jr_gfi (pc' := 131) gM dX8_count_128 rfl fX8_120 rfl rfl ?_
      rw [a14]
      refine jr_ireturn dX8_count_131 rfl ?_
      exact hK
set_option maxRecDepth 100000 in
theorem mcore_ok {x : Int} (hc1 : σ 24 5 = (n : Int)) (hn : n ≤ 40) (hV : HV n hp) (hh : ∀ u, u < n → σ 28 u = hp u) (hnb : ∀ u, u < n → σ 26 u = (nb u : Int) ∧ nb u < 2 ^ 20) (h1 : jR x)
    (hK0 : ¬ isH n hp x → K (some (.int (jI 0))) σ) (hK1 : isH n hp x → K (some (.int (jI ((jm (coF n nb (fun v => decide (0 ≤ x ∧ hp v = x))) 20 : Nat) : Int)))) σ) : jRun (d + 4) mX8_core [.ref 24, .int (jI x)] σ K := by
  generalize hq : (fun v => decide (0 ≤ x ∧ hp v = x)) = q at *
  have hqv : ∀ v, q v = true ↔ (0 ≤ x ∧ hp v = x) := fun v => by rw [← hq]; exact decide_eq_true_iff
  have hq4 := jn_le q 40
  have hpos : isH n hp x ↔ 0 < jn q 40 := by
    constructor
    · intro h
      obtain ⟨k, rfl⟩ := Int.eq_ofNat_of_zero_le h.1
      have h2 := h.2.1
      exact jn_pos (k := k) (by omega) ((hqv k).mpr ⟨h.1, h.2.2⟩)
    · intro h
      refine Classical.byContradiction (fun z => ?_)
      have : jn q 40 = 0 := jn_zero.mpr (fun v _ => by
        cases e : q v with
        | false => rfl
        | true =>
          exfalso
          obtain ⟨w1, w2⟩ := (hqv v).mp e
          obtain ⟨k, rfl⟩ := Int.eq_ofNat_of_zero_le w1
          have := hV.lead w2
          exact z ⟨w1, by omega, this.1⟩)
      omega
  refine jenter (lv := [_, _, _, _, _, _, _]) rfl rfl (Nat.le_of_ble_eq_true rfl) ?_
  refine jr_aload_n (pc' := 1) gM dX8_core_0 rfl rfl ?_
  refine jr_iload_n (pc' := 2) gM dX8_core_1 rfl rfl ?_
  refine jr_inv (pc' := 5) (as := [_]) gM dX8_core_2 rfl kX8_102 rfl rfl rfl (Nat.le_of_ble_eq_true rfl) ?_
  refine msize_ok hc1 hn hV hh h1 ?_
  rw [hq]
  dsimp only [Option.toList, List.cons_append, List.nil_append]
  refine jr_istore_n (pc' := 6) (lv' := [_, _, _, _, _, _, _]) gM dX8_core_5 rfl rfl (Nat.le_of_ble_eq_true rfl) ?_
  refine jr_iconst (pc' := 7) gM dX8_core_6 rfl ?_
  refine jr_istore_n (pc' := 8) (lv' := [_, _, _, _, _, _, _]) gM dX8_core_7 rfl rfl (Nat.le_of_ble_eq_true rfl) ?_
  refine jr_iconst (pc' := 9) gM dX8_core_8 rfl ?_
  refine jr_istore (pc' := 11) (lv' := [_, _, _, _, _, _, _]) gM dX8_core_9 rfl rfl (Nat.le_of_ble_eq_true rfl) ?_
  by_cases hH : isH n hp x
  · have h0 := hpos.mp hH
    have hx0 := hH.1
    have hk := hK1 hH
    have lp : ∀ i, i ≤ 20 → ∀ q5 q6 : Option Value, jV (jP mX8_core (d + 4) K) 11 [some (.ref 24), some (.int (jI x)), some (.int (jI ((jn q 40 : Nat) : Int))), some (.int (jI ((jm (coF n nb q) i : Nat) : Int))), some (.int (jI (i : Int))), q5, q6] [] σ := by
      refine jdown 20 ?_
      intro i hi ih q5 q6
      refine jr_iload (pc' := 13) gM dX8_core_11 rfl rfl ?_
      refine jr_bipush (pc' := 15) gM dX8_core_13 rfl rfl ?_
      refine jr_icmp_ge (tgt := 100) (pc' := 18) gM dX8_core_15 rfl rfl ⟨by omega, by omega⟩ ⟨by omega, by omega⟩ (fun c15 => ?_) (fun c15 => ?_)
      · refine jr_iload_n (pc' := 101) gM dX8_core_100 rfl rfl ?_
        refine jr_ireturn dX8_core_101 rfl ?_
        have e : i = 20 := by omega
        subst e
        exact hk
      · have h := fun q5 q6 => ih (i + 1) (by omega) (by omega) q5 q6
        refine jr_iload_n (pc' := 19) gM dX8_core_18 rfl rfl ?_
        refine jr_if_le (tgt := 100) (pc' := 22) gM dX8_core_19 rfl rfl ⟨by omega, by omega⟩ (fun cc => absurd cc (by omega)) (fun _ => ?_)
        refine jr_iconst (pc' := 23) gM dX8_core_22 rfl ?_
        refine jr_istore (pc' := 25) (lv' := [_, _, _, _, _, _, _]) gM dX8_core_23 rfl rfl (Nat.le_of_ble_eq_true rfl) ?_
        refine jr_iconst (pc' := 26) gM dX8_core_25 rfl ?_
        refine jr_istore (pc' := 28) (lv' := [_, _, _, _, _, _, _]) gM dX8_core_26 rfl rfl (Nat.le_of_ble_eq_true rfl) ?_
        have lp2 : ∀ j, j ≤ n → jV (jP mX8_core (d + 4) K) 28 [some (.ref 24), some (.int (jI x)), some (.int (jI ((jn q 40 : Nat) : Int))), some (.int (jI ((jm (coF n nb q) i : Nat) : Int))), some (.int (jI (i : Int))), some (.int (jI ((jn (fun u => hvF n nb i u && q u) j : Nat) : Int))), some (.int (jI (j : Int)))] [] σ := by
          refine jdown n ?_
          intro j hj ihj
          refine jr_iload (pc' := 30) gM dX8_core_28 rfl rfl ?_
          refine jr_aload_n (pc' := 31) gM dX8_core_30 rfl rfl ?_
          refine jr_gfi (pc' := 34) gM dX8_core_31 rfl fX8_60 rfl rfl ?_
          rw [hc1]
          refine jr_icmp_ge (tgt := 75) (pc' := 37) gM dX8_core_34 rfl rfl ⟨by omega, by omega⟩ ⟨by omega, by omega⟩ (fun c34 => ?_) (fun c34 => ?_)
          · have e : j = n := by omega
            subst e
            have ec : jn (fun u => hvF j nb i u && q u) 40 = jn (fun u => hvF j nb i u && q u) j := jn_cut hn (fun v h1 _ => by
              unfold hvF
              rw [decide_eq_false (by omega)]
              rfl)
            have hb := jn_le (fun u => hvF j nb i u && q u) j
            refine jr_iload_n (pc' := 76) gM dX8_core_75 rfl rfl ?_
            refine jr_iconst (pc' := 77) gM dX8_core_76 rfl ?_
            refine jr_iload (pc' := 79) gM dX8_core_77 rfl rfl ?_
            refine jr_imul (pc' := 80) gM dX8_core_79 rfl ?_
            refine jr_iload_n (pc' := 81) gM dX8_core_80 rfl rfl ?_
            refine jr_icmp_lt (tgt := 91) (pc' := 84) gM dX8_core_81 rfl rfl ⟨by omega, by omega⟩ ⟨by omega, by omega⟩ (fun c81 => ?_) (fun c81 => ?_)
            · refine jr_iconst (pc' := 92) gM dX8_core_91 rfl ?_
              refine jr_ior (pc' := 93) (((jm (coF j nb q) i : Nat) : Int)) gM dX8_core_92 rfl (by rw [show (0 : Int) = ((0 : Nat) : Int) from rfl, jx_or, Nat.or_zero]) ?_
              refine jr_istore_n (pc' := 94) (lv' := [_, _, _, _, _, _, _]) gM dX8_core_93 rfl rfl (Nat.le_of_ble_eq_true rfl) ?_
              refine jr_iinc (pc' := 97) (lv' := [_, _, _, _, _, _, _]) gM dX8_core_94 rfl rfl rfl ?_
              refine jr_goto (tgt := 11) gM dX8_core_97 rfl ?_
              have := h (some (.int (jI ((jn (fun u => hvF j nb i u && q u) j : Nat) : Int)))) (some (.int (jI (j : Int))))
              rw [jm_skip (by unfold coF; simp only [decide_eq_true_eq]; omega)] at this
              exact this
            · refine jr_iconst (pc' := 85) gM dX8_core_84 rfl ?_
              refine jr_iload (pc' := 87) gM dX8_core_85 rfl rfl ?_
              refine jr_ishl (pc' := 88) (((2 ^ i : Nat) : Int)) gM dX8_core_87 rfl (jx_shl (by omega)) ?_
              refine jr_goto (tgt := 92) gM dX8_core_88 rfl ?_
              refine jr_ior (pc' := 93) (((jm (coF j nb q) (i + 1) : Nat) : Int)) gM dX8_core_92 rfl (by rw [jx_or, jm_push (by unfold coF; simp only [decide_eq_true_eq]; omega)]) ?_
              refine jr_istore_n (pc' := 94) (lv' := [_, _, _, _, _, _, _]) gM dX8_core_93 rfl rfl (Nat.le_of_ble_eq_true rfl) ?_
              refine jr_iinc (pc' := 97) (lv' := [_, _, _, _, _, _, _]) gM dX8_core_94 rfl rfl rfl ?_
              refine jr_goto (tgt := 11) gM dX8_core_97 rfl ?_
              exact h _ _
          · have hrj := hV.r hn j
            obtain ⟨n1, n2⟩ := hnb j (by omega)
            have hb := jn_le (fun u => hvF n nb i u && q u) j
            have nxt := ihj (j + 1) (by omega) (by omega)
            rw [show jn (fun u => hvF n nb i u && q u) (j + 1) = jn (fun u => hvF n nb i u && q u) j + (if (hvF n nb i j && q j) = true then 1 else 0) from rfl] at nxt
            have hvj : hvF n nb i j = (nb j).testBit i := by
              unfold hvF
              rw [decide_eq_true (show j < n by omega)]
              rfl
            refine jr_iload (pc' := 39) gM dX8_core_37 rfl rfl ?_
            refine jr_aload_n (pc' := 40) gM dX8_core_39 rfl rfl ?_
            refine jr_gfr (pc' := 43) gM dX8_core_40 rfl fX8_32 rfl rfl ?_
            refine jr_iload (pc' := 45) gM dX8_core_43 rfl rfl ?_
            refine jr_iald (pc' := 46) (j) gM dX8_core_45 rfl rfl (rfl) (by omega) (by decide) ?_
            rw [hh j (by omega)]
            refine jr_iload_n (pc' := 47) gM dX8_core_46 rfl rfl ?_
            refine jr_icmp_ne (tgt := 65) (pc' := 50) gM dX8_core_47 rfl rfl ⟨by omega, by omega⟩ ⟨by omega, by omega⟩ (fun c47 => ?_) (fun c47 => ?_)
            · rw [if_neg (by
                rw [Bool.and_eq_true, hqv]
                exact fun z => c47 z.2.2), Nat.add_zero] at nxt
              refine jr_iconst (pc' := 66) gM dX8_core_65 rfl ?_
              refine jr_iadd (pc' := 67) gM dX8_core_66 rfl ?_
              refine jr_istore (pc' := 69) (lv' := [_, _, _, _, _, _, _]) gM dX8_core_67 rfl rfl (Nat.le_of_ble_eq_true rfl) ?_
              refine jr_iinc (pc' := 72) (lv' := [_, _, _, _, _, _, _]) gM dX8_core_69 rfl rfl rfl ?_
              refine jr_goto (tgt := 28) gM dX8_core_72 rfl ?_
              rw [Int.add_zero]
              exact nxt
            · refine jr_aload_n (pc' := 51) gM dX8_core_50 rfl rfl ?_
              refine jr_gfr (pc' := 54) gM dX8_core_51 rfl fX8_26 rfl rfl ?_
              refine jr_iload (pc' := 56) gM dX8_core_54 rfl rfl ?_
              refine jr_iald (pc' := 57) (j) gM dX8_core_56 rfl rfl (rfl) (by omega) (by decide) ?_
              rw [n1]
              refine jr_iload (pc' := 59) gM dX8_core_57 rfl rfl ?_
              refine jr_ishr (pc' := 60) (((nb j / 2 ^ i : Nat) : Int)) gM dX8_core_59 rfl (jx_shr (by omega) (by omega)) ?_
              refine jr_iconst (pc' := 61) gM dX8_core_60 rfl ?_
              refine jr_iand (pc' := 62) (bI ((nb j).testBit i = true)) gM dX8_core_61 rfl (jx_lo (by omega)) ?_
              refine jr_goto (tgt := 66) gM dX8_core_62 rfl ?_
              refine jr_iadd (pc' := 67) gM dX8_core_66 rfl ?_
              refine jr_istore (pc' := 69) (lv' := [_, _, _, _, _, _, _]) gM dX8_core_67 rfl rfl (Nat.le_of_ble_eq_true rfl) ?_
              refine jr_iinc (pc' := 72) (lv' := [_, _, _, _, _, _, _]) gM dX8_core_69 rfl rfl rfl ?_
              refine jr_goto (tgt := 28) gM dX8_core_72 rfl ?_
              have : (((jn (fun u => hvF n nb i u && q u) j + if (hvF n nb i j && q j) = true then 1 else 0 : Nat)) : Int) = (jn (fun u => hvF n nb i u && q u) j : Int) + bI ((nb j).testBit i = true) := by
                rw [hvj, (hqv j).mpr ⟨hx0, by omega⟩, Bool.and_true]
                unfold bI
                split <;> omega
              rw [this] at nxt
              exact nxt
        exact lp2 0 (by omega)
    exact lp 0 (by omega) _ _
  · have h0 : jn q 40 = 0 := Nat.eq_zero_of_not_pos (fun z => hH (hpos.mpr z))
    rw [h0]
    refine jr_iload (pc' := 13) gM dX8_core_11 rfl rfl ?_
    refine jr_bipush (pc' := 15) gM dX8_core_13 rfl rfl ?_
    refine jr_icmp_ge (tgt := 100) (pc' := 18) gM dX8_core_15 rfl rfl ⟨by omega, by omega⟩ ⟨by omega, by omega⟩ (fun cc => absurd cc (by omega)) (fun _ => ?_)
    refine jr_iload_n (pc' := 19) gM dX8_core_18 rfl rfl ?_
    refine jr_if_le (tgt := 100) (pc' := 22) gM dX8_core_19 rfl rfl ⟨by omega, by omega⟩ (fun _ => ?_) (fun cc => absurd cc (by omega))
    refine jr_iload_n (pc' := 101) gM dX8_core_100 rfl rfl ?_
    refine jr_ireturn dX8_core_101 rfl ?_
    exact hK0 hH
theorem m_core {x : Int} (hC : MI n nb yr wt hp pr ga sh fe m ba bb bm s se sp σ) (h1 : jR x)
    (hK0 : ¬ isH n hp x → K (some (.int (jI 0))) σ) (hK1 : isH n hp x → K (some (.int (jI ((jm (coF n nb (fun v => decide (0 ≤ x ∧ hp v = x))) 20 : Nat) : Int)))) σ) : jRun (d + 9) mX8_core [.ref 24, .int (jI x)] σ K := by
  obtain ⟨a1, a2, a3, a4, a5, a6, -⟩ := hC
  exact mcore_ok a1.1 a1.2 a5 a6 a2 h1 hK0 hK1
end jMv
