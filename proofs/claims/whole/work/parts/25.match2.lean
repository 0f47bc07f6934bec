/-! ===== Dictionary: match, senseFor, leastSum ===== -/
/-- how far the core of the heap at a place and a sense are -/
def diF (n : Nat) (nb : Nat → Nat) (wt hp : Nat → Int) (se : Nat → Nat) (p t : Nat) : Int := jfar wt (jm (coF n nb (fun v => decide (hp v = ((glF (grT n hp) n p : Nat) : Int)))) 20) (se t)
/-- the matching: its sum and the sense at each place; f0 stands where nothing is matched at all -/
def maF (n : Nat) (nb : Nat → Nat) (wt hp : Nat → Int) (s : Nat) (se : Nat → Nat) (f0 : Nat → Int) : vAcc := vtF s (diF n nb wt hp se) (jn (grT n hp) n) 0 (jn (grT n hp) n - s) (fun _ => false) 0 (fun _ => 0) (1000000000, f0)
set_option maxRecDepth 100000 in
theorem match_ok {d : Nat} {σ : jMem} {K : Option Value → jMem → Prop} {n : Nat} {nb : Nat → Nat} {yr wt hp : Nat → Int} {s : Nat} {se : Nat → Nat} (hU : UI n nb yr wt σ) (hV : HV n hp) (hI : HI hp σ) (hs : σ 18 4 = (s : Int)) (hs5 : s ≤ 5) (hse : ∀ t, t < s → σ 19 t = (se t : Int) ∧ se t < 2 ^ 20)
    (hK : ∀ σ' : jMem, σ' 18 10 = (maF n nb wt hp s se (σ 23)).1 → (∀ i, i < jn (grT n hp) n → σ' 23 i = (maF n nb wt hp s se (σ 23)).2 i) → σ' 18 6 = (jn (grT n hp) n : Int) → (∀ i, i < jn (grT n hp) n → σ' 20 i = (glF (grT n hp) n i : Int)) → (∀ j, j ≠ 6 → j ≠ 10 → σ' 18 j = σ 18 j) → (∀ c, c ≠ 18 → c ≠ 20 → c ≠ 21 → c ≠ 22 → c ≠ 23 → σ' c = σ c) → K none σ') : jRun (d + 8) mX1_match [.ref 18] σ K := by
  have hg5 := grT_le hV hU.2.1
  have hn := hU.2.1
  have hwt : ∀ k, k < 20 → 1 ≤ wt k ∧ wt k ≤ 9 := fun k hk => (hU.2.2.2.2.1 k hk).2
  have hdr : ∀ p t, 0 ≤ diF n nb wt hp se p t ∧ diF n nb wt hp se p t ≤ 180 := fun p t => jfar_le hwt
  generalize hG : jn (grT n hp) n = g at *
  refine jenter (lv := [_, _, _, _]) rfl rfl (Nat.le_of_ble_eq_true rfl) ?_
  refine jr_aload_n (pc' := 1) gM dX1_match_0 rfl rfl ?_
  refine jr_inv (pc' := 4) (as := []) gM dX1_match_1 rfl kX1_52 rfl rfl rfl (Nat.le_of_ble_eq_true rfl) ?_
  refine choose_ok hU.1 hn hV hI (fun σ1 c6 c20 c18 cc => ?_)
  dsimp only [Option.toList, List.cons_append, List.nil_append]
  rw [hG] at c6 c20
  refine jr_iconst (pc' := 5) gM dX1_match_4 rfl ?_
  refine jr_istore_n (pc' := 6) (lv' := [_, _, _, _]) gM dX1_match_5 rfl rfl (Nat.le_of_ble_eq_true rfl) ?_
  have oth : ∀ {σ2 : jMem}, (∀ c, c ≠ 21 → σ2 c = σ1 c) → UI n nb yr wt σ2 ∧ HI hp σ2 ∧ σ2 18 4 = (s : Int) ∧ σ2 18 6 = (g : Int) ∧ σ2 19 = σ 19 := by
    intro σ2 h
    refine ⟨hU.of (fun c q1 q2 => by rw [h c (by omega), cc c (by omega) (by omega)]), hI.of (by rw [h 11 (by omega), cc 11 (by omega) (by omega)]) (by rw [h 12 (by omega), cc 12 (by omega) (by omega)]), ?_, ?_, ?_⟩
    · rw [h 18 (by omega), c18 4 (by omega)]
      exact hs
    · rw [h 18 (by omega)]
      exact c6
    · rw [h 19 (by omega), cc 19 (by omega) (by omega)]
  have lp : ∀ i, i ≤ g → ∀ (q2 q3 : Option Value) (σ2 : jMem), (∀ c, c ≠ 21 → σ2 c = σ1 c) → (∀ p t, p < i → t < s → σ2 21 (p * 5 + t) = diF n nb wt hp se p t) → jV (jP mX1_match (d + 8) K) 6 [some (.ref 18), some (.int (jI (i : Int))), q2, q3] [] σ2 := by
    refine jdown g ?_
    intro i hi ih q2 q3 σ2 g1 g21
    obtain ⟨o1, o2, o3, o4, o5⟩ := oth g1
    refine jr_iload_n (pc' := 7) gM dX1_match_6 rfl rfl ?_
    refine jr_aload_n (pc' := 8) gM dX1_match_7 rfl rfl ?_
    refine jr_gfi (pc' := 11) gM dX1_match_8 rfl fX1_46 rfl rfl ?_
    rw [o4]
    refine jr_icmp_ge (tgt := 82) (pc' := 14) gM dX1_match_11 rfl rfl ⟨by omega, by omega⟩ ⟨by omega, by omega⟩ (fun c11 => ?_) (fun c11 => ?_)
    · have e : i = g := by omega
      subst e
      refine jr_aload_n (pc' := 83) gM dX1_match_82 rfl rfl ?_
      refine jr_ldc (pc' := 85) gM dX1_match_83 rfl qX1_73 ?_
      refine jr_pf (pc' := 88) gM dX1_match_85 rfl fX1_49 rfl rfl ⟨rfl, by decide +kernel⟩ ?_
      refine jr_aload_n (pc' := 89) gM dX1_match_88 rfl rfl ?_
      refine jr_iconst (pc' := 90) gM dX1_match_89 rfl ?_
      refine jr_iconst (pc' := 91) gM dX1_match_90 rfl ?_
      refine jr_aload_n (pc' := 92) gM dX1_match_91 rfl rfl ?_
      refine jr_gfi (pc' := 95) gM dX1_match_92 rfl fX1_46 rfl rfl ?_
      refine jr_aload_n (pc' := 96) gM dX1_match_95 rfl rfl ?_
      refine jr_gfi (pc' := 99) gM dX1_match_96 rfl fX1_39 rfl rfl ?_
      refine jr_isub (pc' := 100) gM dX1_match_99 rfl ?_
      rw [jup_ne (Or.inr (by omega)), jup_ne (Or.inr (by omega)), o4, o3]
      refine jr_max (pc' := 103) gM dX1_match_100 rfl kX1_74 ⟨by omega, by omega⟩ ⟨by omega, by omega⟩ (Nat.le_of_ble_eq_true rfl) ?_
      rw [show max (0 : Int) ((i : Int) - (s : Int)) = ((i - s : Nat) : Int) by omega]
      refine jr_iconst (pc' := 104) gM dX1_match_103 rfl ?_
      refine jr_iconst (pc' := 105) gM dX1_match_104 rfl ?_
      rw [show (0 : Int) = ((jm (fun _ => false) 5 : Nat) : Int) by rw [jm_zero.mpr (fun _ _ => rfl)]; rfl]
      have fin := matchRest_ok (g := i) (s := s) (dist := diF n nb wt hp se) hg5 hs5 hdr i (d + 5 - i) (jup σ2 18 10 1000000000) (fun r σ' => jV (jP mX1_match (d + 8) K) 108 [some (.ref 18), some (.int (jI (i : Int))), q2, q3] (r.toList ++ []) σ') 0 (i - s) (fun _ => false) 0 (fun _ => 0) (1000000000, σ 23) (by omega) (by omega) (by omega) (show (0 : Int) ≤ 1000000000 ∧ (1000000000 : Int) ≤ 1000000000 by omega) (by rw [jup_ne (Or.inr (by omega))]; exact o4) (by rw [jup_ne (Or.inr (by omega))]; exact o3) (by rw [jup_at]) (fun p t hp ht => by rw [jup_row (by omega)]; exact g21 p t hp ht) (fun j hj => absurd hj (by omega)) (fun j _ => by rw [jup_row (by omega), g1 23 (by omega), cc 23 (by omega) (by omega)]) (fun σ3 k10 k23 k22 k18 kc => by
        dsimp only [Option.toList, List.cons_append, List.nil_append]
        refine jr_vreturn dX1_match_108 rfl ?_
        refine hK σ3 ?_ ?_ ?_ ?_ ?_ ?_
        · rw [k10]
          unfold maF
          rw [hG]
        · intro j hj
          rw [k23 j hj]
          unfold maF
          rw [hG]
        · rw [k18 6 (by omega), jup_ne (Or.inr (by omega))]
          exact o4
        · intro j hj
          rw [kc 20 (by omega) (by omega) (by omega), jup_row (by omega), g1 20 (by omega)]
          exact c20 j hj
        · intro j h1 h2
          rw [k18 j h2, jup_ne (Or.inr h2), g1 18 (by omega)]
          exact c18 j h1
        · intro c q1 q2 q3 q4 q5
          rw [kc c q1 q4 q5, jup_row q1, g1 c q3]
          exact cc c q1 q2)
      rw [show i + ((d + 5 - i) + 2) = d + 7 by omega] at fin
      refine jr_inv (pc' := 108) (as := [_, _, _, _]) gM dX1_match_105 rfl kX1_79 rfl rfl rfl (Nat.le_of_ble_eq_true rfl) ?_
      rw [show ((jm (fun _ => false) 5 : Nat) : Int) = 0 by rw [jm_zero.mpr (fun _ _ => rfl)]; rfl] at fin ⊢
      exact fin
    · have hgl := glF_spec (T := grT n hp) (n := n) (i := i) (by omega)
      refine jr_aload_n (pc' := 15) gM dX1_match_14 rfl rfl ?_
      refine jr_gfr (pc' := 18) gM dX1_match_15 rfl fX1_19 rfl rfl ?_
      refine jr_aload_n (pc' := 19) gM dX1_match_18 rfl rfl ?_
      refine jr_gfr (pc' := 22) gM dX1_match_19 rfl fX1_15 rfl rfl ?_
      refine jr_gfr (pc' := 25) gM dX1_match_22 rfl fX1_55 rfl rfl ?_
      refine jr_aload_n (pc' := 26) gM dX1_match_25 rfl rfl ?_
      refine jr_gfr (pc' := 29) gM dX1_match_26 rfl fX1_27 rfl rfl ?_
      refine jr_iload_n (pc' := 30) gM dX1_match_29 rfl rfl ?_
      refine jr_iald (pc' := 31) (i) gM dX1_match_30 rfl rfl (rfl) (by omega) (by decide) ?_
      rw [g1 20 (by omega), c20 i (by omega)]
      refine jr_lald (pc' := 32) (glF (grT n hp) n i) gM dX1_match_31 rfl rfl (rfl) (by omega) (by decide) ?_
      rw [o2.2 _ (by omega)]
      refine jr_inv (pc' := 35) (as := [_]) gM dX1_match_32 rfl kX1_61 rfl rfl rfl (Nat.le_of_ble_eq_true rfl) ?_
      refine coreOf_ok o1 ?_
      dsimp only [Option.toList, List.cons_append, List.nil_append]
      have hcl := jm_lt (coF n nb (fun v => decide (hp v = ((glF (grT n hp) n i : Nat) : Int)))) 20
      refine jr_istore_n (pc' := 36) (lv' := [_, _, _, _]) gM dX1_match_35 rfl rfl (Nat.le_of_ble_eq_true rfl) ?_
      refine jr_iconst (pc' := 37) gM dX1_match_36 rfl ?_
      refine jr_istore_n (pc' := 38) (lv' := [_, _, _, _]) gM dX1_match_37 rfl rfl (Nat.le_of_ble_eq_true rfl) ?_
      have lp2 : ∀ t, t ≤ s → ∀ σ3 : jMem, (∀ c, c ≠ 21 → σ3 c = σ1 c) → (∀ p t2, (p < i ∧ t2 < s) ∨ (p = i ∧ t2 < t) → σ3 21 (p * 5 + t2) = diF n nb wt hp se p t2) → jV (jP mX1_match (d + 8) K) 38 [some (.ref 18), some (.int (jI (i : Int))), some (.int (jI ((jm (coF n nb (fun v => decide (hp v = ((glF (grT n hp) n i : Nat) : Int)))) 20 : Nat) : Int))), some (.int (jI (t : Int)))] [] σ3 := by
        refine jdown s ?_
        intro t ht iht σ3 k1 k21
        obtain ⟨p1, p2, p3, p4, p5⟩ := oth k1
        refine jr_iload_n (pc' := 39) gM dX1_match_38 rfl rfl ?_
        refine jr_aload_n (pc' := 40) gM dX1_match_39 rfl rfl ?_
        refine jr_gfi (pc' := 43) gM dX1_match_40 rfl fX1_39 rfl rfl ?_
        rw [p3]
        refine jr_icmp_ge (tgt := 76) (pc' := 46) gM dX1_match_43 rfl rfl ⟨by omega, by omega⟩ ⟨by omega, by omega⟩ (fun c43 => ?_) (fun c43 => ?_)
        · refine jr_iinc (pc' := 79) (lv' := [_, _, _, _]) gM dX1_match_76 rfl rfl rfl ?_
          refine jr_goto (tgt := 6) gM dX1_match_79 rfl ?_
          refine ih (i + 1) (by omega) (by omega) _ _ σ3 k1 (fun p t2 h1 h2 => ?_)
          exact k21 p t2 (by omega)
        · refine jr_aload_n (pc' := 47) gM dX1_match_46 rfl rfl ?_
          refine jr_gfr (pc' := 50) gM dX1_match_47 rfl fX1_30 rfl rfl ?_
          refine jr_iload_n (pc' := 51) gM dX1_match_50 rfl rfl ?_
          refine jr_iconst (pc' := 52) gM dX1_match_51 rfl ?_
          refine jr_imul (pc' := 53) gM dX1_match_52 rfl ?_
          refine jr_iload_n (pc' := 54) gM dX1_match_53 rfl rfl ?_
          refine jr_iadd (pc' := 55) gM dX1_match_54 rfl ?_
          refine jr_aload_n (pc' := 56) gM dX1_match_55 rfl rfl ?_
          refine jr_gfr (pc' := 59) gM dX1_match_56 rfl fX1_9 rfl rfl ?_
          refine jr_iload_n (pc' := 60) gM dX1_match_59 rfl rfl ?_
          refine jr_aload_n (pc' := 61) gM dX1_match_60 rfl rfl ?_
          refine jr_gfr (pc' := 64) gM dX1_match_61 rfl fX1_23 rfl rfl ?_
          refine jr_iload_n (pc' := 65) gM dX1_match_64 rfl rfl ?_
          refine jr_iald (pc' := 66) _ gM dX1_match_65 rfl rfl rfl (by omega) (by decide) ?_
          rw [p5, (hse t (by omega)).1]
          refine jr_inv (pc' := 69) (as := [_, _]) gM dX1_match_66 rfl kX1_67 rfl rfl rfl (Nat.le_of_ble_eq_true rfl) ?_
          refine apart_ok hcl (hse t (by omega)).2 ?_
          dsimp only [Option.toList, List.cons_append, List.nil_append]
          refine jr_iast (pc' := 70) (i * 5 + t) gM dX1_match_69 rfl rfl (by omega) (by omega) (by decide) ?_
          refine jr_iinc (pc' := 73) (lv' := [_, _, _, _]) gM dX1_match_70 rfl rfl rfl ?_
          refine jr_goto (tgt := 38) gM dX1_match_73 rfl ?_
          refine iht (t + 1) (by omega) (by omega) _ (fun c hc => by rw [jup_row hc]; exact k1 c hc) (fun p t2 hh => ?_)
          by_cases e : p = i ∧ t2 = t
          · obtain ⟨rfl, rfl⟩ := e
            rw [jup_at]
            unfold diF
            exact jfar_congr (fun k hk => (p1.2.2.2.2.1 k hk).1)
          · rw [jup_ne (Or.inr (by omega))]
            exact k21 p t2 (by omega)
      exact lp2 0 (by omega) σ2 g1 (fun p t2 hh => g21 p t2 (by omega) (by omega))
  exact lp 0 (by omega) _ _ σ1 (fun c _ => rfl) (fun p t hp _ => absurd hp (by omega))
set_option maxRecDepth 100000 in
theorem leastSum_ok {d : Nat} {σ : jMem} {K : Option Value → jMem → Prop} {n : Nat} {nb : Nat → Nat} {yr wt hp : Nat → Int} {s : Nat} {se : Nat → Nat} (hU : UI n nb yr wt σ) (hV : HV n hp) (hI : HI hp σ) (hs : σ 18 4 = (s : Int)) (hs5 : s ≤ 5) (hse : ∀ t, t < s → σ 19 t = (se t : Int) ∧ se t < 2 ^ 20)
    (hK : ∀ σ' : jMem, (∀ j, j ≠ 6 → j ≠ 10 → σ' 18 j = σ 18 j) → (∀ c, c ≠ 18 → c ≠ 20 → c ≠ 21 → c ≠ 22 → c ≠ 23 → σ' c = σ c) → K (some (.int (jI (maF n nb wt hp s se (σ 23)).1))) σ') : jRun (d + 9) mX1_leastSum [.ref 18] σ K := by
  refine jenter (lv := [_]) rfl rfl (Nat.le_of_ble_eq_true rfl) ?_
  refine jr_aload_n (pc' := 1) gM dX1_leastSum_0 rfl rfl ?_
  refine jr_inv (pc' := 4) (as := []) gM dX1_leastSum_1 rfl kX1_43 rfl rfl rfl (Nat.le_of_ble_eq_true rfl) ?_
  refine match_ok hU hV hI hs hs5 hse (fun σ' k10 k23 k6 k20 k18 kc => ?_)
  dsimp only [Option.toList, List.cons_append, List.nil_append]
  refine jr_aload_n (pc' := 5) gM dX1_leastSum_4 rfl rfl ?_
  refine jr_gfi (pc' := 8) gM dX1_leastSum_5 rfl fX1_49 rfl rfl ?_
  rw [k10]
  refine jr_ireturn dX1_leastSum_8 rfl ?_
  exact hK σ' k18 kc
set_option maxRecDepth 100000 in
theorem senseFor_ok {d : Nat} {σ : jMem} {K : Option Value → jMem → Prop} {n : Nat} {nb : Nat → Nat} {yr wt hp : Nat → Int} {s : Nat} {se : Nat → Nat} {h : Nat} (hU : UI n nb yr wt σ) (hV : HV n hp) (hI : HI hp σ) (hs : σ 18 4 = (s : Int)) (hs5 : s ≤ 5) (hse : ∀ t, t < s → σ 19 t = (se t : Int) ∧ se t < 2 ^ 20) (hh : h < n)
    (hK : ∀ σ' : jMem, (∀ j, j ≠ 6 → j ≠ 10 → σ' 18 j = σ 18 j) → (∀ c, c ≠ 18 → c ≠ 20 → c ≠ 21 → c ≠ 22 → c ≠ 23 → σ' c = σ c) → K (some (.int (jI (if grT n hp h then (maF n nb wt hp s se (σ 23)).2 (jn (grT n hp) h) else -1)))) σ') : jRun (d + 9) mX1_senseFor [.ref 18, .int (jI (h : Int))] σ K := by
  have hg5 := grT_le hV hU.2.1
  have hn := hU.2.1
  refine jenter (lv := [_, _, _]) rfl rfl (Nat.le_of_ble_eq_true rfl) ?_
  refine jr_aload_n (pc' := 1) gM dX1_senseFor_0 rfl rfl ?_
  refine jr_inv (pc' := 4) (as := []) gM dX1_senseFor_1 rfl kX1_43 rfl rfl rfl (Nat.le_of_ble_eq_true rfl) ?_
  refine match_ok hU hV hI hs hs5 hse (fun σ' k10 k23 k6 k20 k18 kc => ?_)
  dsimp only [Option.toList, List.cons_append, List.nil_append]
  refine jr_iconst (pc' := 5) gM dX1_senseFor_4 rfl ?_
  refine jr_istore_n (pc' := 6) (lv' := [_, _, _]) gM dX1_senseFor_5 rfl rfl (Nat.le_of_ble_eq_true rfl) ?_
  have lp : ∀ i, i ≤ jn (grT n hp) n → (∀ j, j < i → glF (grT n hp) n j ≠ h) → jV (jP mX1_senseFor (d + 9) K) 6 [some (.ref 18), some (.int (jI (h : Int))), some (.int (jI (i : Int)))] [] σ' := by
    refine jdown _ ?_
    intro i hi ih hne
    refine jr_iload_n (pc' := 7) gM dX1_senseFor_6 rfl rfl ?_
    refine jr_aload_n (pc' := 8) gM dX1_senseFor_7 rfl rfl ?_
    refine jr_gfi (pc' := 11) gM dX1_senseFor_8 rfl fX1_46 rfl rfl ?_
    rw [k6]
    refine jr_icmp_ge (tgt := 37) (pc' := 14) gM dX1_senseFor_11 rfl rfl ⟨by omega, by omega⟩ ⟨by omega, by omega⟩ (fun c11 => ?_) (fun c11 => ?_)
    · refine jr_iconst (pc' := 38) gM dX1_senseFor_37 rfl ?_
      refine jr_ireturn dX1_senseFor_38 rfl ?_
      have := hK σ' k18 kc
      rw [if_neg (fun q => ?_)] at this
      · exact this
      · have h1 : jn (grT n hp) (h + 1) ≤ jn (grT n hp) n := jn_le_of (by omega)
        simp only [jn, if_pos q] at h1
        exact hne _ (by omega) (glF_at hh q)
    · have hgl := glF_spec (T := grT n hp) (n := n) (i := i) (by omega)
      refine jr_aload_n (pc' := 15) gM dX1_senseFor_14 rfl rfl ?_
      refine jr_gfr (pc' := 18) gM dX1_senseFor_15 rfl fX1_27 rfl rfl ?_
      refine jr_iload_n (pc' := 19) gM dX1_senseFor_18 rfl rfl ?_
      refine jr_iald (pc' := 20) _ gM dX1_senseFor_19 rfl rfl rfl (by omega) (by decide) ?_
      rw [k20 i (by omega)]
      refine jr_iload_n (pc' := 21) gM dX1_senseFor_20 rfl rfl ?_
      refine jr_icmp_ne (tgt := 31) (pc' := 24) gM dX1_senseFor_21 rfl rfl ⟨by omega, by omega⟩ ⟨by omega, by omega⟩ (fun c21 => ?_) (fun c21 => ?_)
      · refine jr_iinc (pc' := 34) (lv' := [_, _, _]) gM dX1_senseFor_31 rfl rfl rfl ?_
        refine jr_goto (tgt := 6) gM dX1_senseFor_34 rfl ?_
        refine ih (i + 1) (by omega) (by omega) (fun j hj => ?_)
        by_cases e : j = i
        · subst e
          omega
        · exact hne j (by omega)
      · have e : glF (grT n hp) n i = h := by omega
        refine jr_aload_n (pc' := 25) gM dX1_senseFor_24 rfl rfl ?_
        refine jr_gfr (pc' := 28) gM dX1_senseFor_25 rfl fX1_36 rfl rfl ?_
        refine jr_iload_n (pc' := 29) gM dX1_senseFor_28 rfl rfl ?_
        refine jr_iald (pc' := 30) _ gM dX1_senseFor_29 rfl rfl rfl (by omega) (by decide) ?_
        rw [k23 i (by omega)]
        refine jr_ireturn dX1_senseFor_30 rfl ?_
        have := hK σ' k18 kc
        rw [e] at hgl
        rw [if_pos hgl.2.1, hgl.2.2] at this
        exact this
  exact lp 0 (by omega) (fun j hj => absurd hj (by omega))
