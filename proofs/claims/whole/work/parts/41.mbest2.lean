/-! ===== the reference: best, the loop ===== -/
section jMy
variable {n : Nat} {nb : Nat → Nat} {yr wt hp : Nat → Int} {pr ga sh fe : Int} {m : Nat} {ba bb : Nat → Nat} {bm : Nat → Int} {s : Nat} {se : Nat → Nat} {sp : Int} {σ : jMem} {K : Option Value → jMem → Prop} {d : Nat}
def beF (b : Int) : Int := if b = 1000000000 then -1 else b
theorem vlF_nn {fr bd : Nat → Nat → Int} {price : Int} {k u : Nat} {P : Nat → Nat} (hf : ∀ a b, a < n → b < n → 0 ≤ fr a b ∧ fr a b ≤ 180) (hp : 0 ≤ price ∧ price ≤ 200) (hn : n ≤ 7) (hu : u + k = n) : 0 ≤ vlF fr bd price k u P := by
  unfold vlF
  split
  · have h1 := pcS_r (P := P) hf hp hn u (by omega)
    have h2 := mcF_ge (bd := bd) hf hp hn k u (hps P u) P (pcS fr price P u) hu h1.2
    omega
  · omega
theorem SM.part {fr : Nat → Nat → Int} {σ' : jMem} (h : SM n hp fr m ba bb bm pr σ) (he : ∀ c, c ≠ 34 → σ' c = σ c) : SM n hp fr m ba bb bm pr σ' := by
  obtain ⟨a1, a2, a3, a4, a5, a6, a7, a8, a9⟩ := h
  unfold SM
  rw [he 24 (by omega), he 28 (by omega), he 29 (by omega)]
  exact ⟨a1, a2, a3, a4, a5, a6, a7, a8.of (by rw [he 24 (by omega)]) (fun c q1 q2 => he c (by omega)), a9⟩
set_option maxRecDepth 100000 in
theorem bestLoop {fr : Nat → Nat → Int} (hS : SM n hp fr m ba bb bm pr σ) (hn7 : n ≤ 7) (hn1 : 1 ≤ n) : ∀ (k u : Nat) (P : Nat → Nat) (b : Int) (σ1 : jMem), u + k = n → grP P u → (∀ v, v < u → σ1 34 v = (P v : Int)) → (∀ v, u ≤ v → v < n → σ1 34 v = 0) → (∀ c, c ≠ 34 → σ1 c = σ c) → 0 ≤ b ∧ b ≤ 1000000000 →
    (∀ (P' : Nat → Nat) (σ2 : jMem), (∀ v, v < u → P' v = P v) → (∀ v, v < n → σ2 34 v = (P' v : Int)) → grP P' n → (∀ v, u ≤ v → v < n → P' v = hps P' v) → (∀ c, c ≠ 34 → σ2 c = σ c) → ∀ q3 : Option Value, jV (jP mX8_best (d + 9) K) 68 [some (.ref 24), some (.int (jI (beF (min b (vlF fr (bdL ba bb bm m) pr k u P))))), some (.int (jI 1)), q3] [] σ2) →
    ∀ q3 : Option Value, jV (jP mX8_best (d + 9) K) 42 [some (.ref 24), some (.int (jI (beF b))), some (.int (jI 1)), q3] [] σ1 := by
  have hfr := hS.2.2.2.2.2.1
  have hpr := hS.2.2.2.2.2.2.2.2.2.2
  intro k
  induction k with
  | zero =>
    intro u P b σ1 hu hg g1 g2 g3 hb hc q3
    have hun : u = n := by omega
    subst hun
    have hps := pcS_r (P := P) hfr hpr hn7 u (Nat.le_refl _)
    have hbe : beF b = if b = 1000000000 then -1 else b := rfl
    have hbr : -1 ≤ beF b ∧ beF b ≤ 1000000000 := by
      rw [hbe]
      split <;> omega
    have hc2 := hc P σ1 (fun v _ => rfl) g1 hg (fun v q1 q2 => absurd q1 (by omega)) g3
    refine jr_iload_n (pc' := 43) gM dX8_best_42 rfl rfl ?_
    refine jr_if_eq (tgt := 76) (pc' := 46) gM dX8_best_43 rfl rfl ⟨by omega, by omega⟩ (fun cc => absurd cc (by omega)) (fun _ => ?_)
    refine jr_aload_n (pc' := 47) gM dX8_best_46 rfl rfl ?_
    refine jr_inv (pc' := 50) (as := []) gM dX8_best_47 rfl kX8_126 rfl rfl rfl (Nat.le_of_ble_eq_true rfl) ?_
    refine parted_ok (P := P) (hS.part g3) hn7 g1 hg (fun hno => ?_) (fun hok => ?_)
    · dsimp only [Option.toList, List.cons_append, List.nil_append]
      refine jr_istore_n (pc' := 51) (lv' := [_, _, _, _]) gM dX8_best_50 rfl rfl (Nat.le_of_ble_eq_true rfl) ?_
      refine jr_iload_n (pc' := 52) gM dX8_best_51 rfl rfl ?_
      refine jr_iconst (pc' := 53) gM dX8_best_52 rfl ?_
      refine jr_icmp_eq (tgt := 68) (pc' := 56) gM dX8_best_53 rfl rfl ⟨by omega, by omega⟩ ⟨by omega, by omega⟩ (fun _ => ?_) (fun cc => absurd cc (by omega))
      have e : vlF fr (bdL ba bb bm m) pr 0 u P = 1000000000 := if_neg hno
      rw [e, show min b 1000000000 = b by omega] at hc2
      exact hc2 _
    · have e : vlF fr (bdL ba bb bm m) pr 0 u P = pcS fr pr P u := if_pos hok
      rw [e] at hc2
      generalize pcS fr pr P u = c at *
      have take : (b = 1000000000 ∨ c < b) → ∀ q3 : Int, jV (jP mX8_best (d + 9) K) 66 [some (.ref 24), some (.int (jI (beF b))), some (.int (jI 1)), some (.int (jI c))] [] σ1 := by
        intro hlt q3
        refine jr_iload_n (pc' := 67) gM dX8_best_66 rfl rfl ?_
        refine jr_istore_n (pc' := 68) (lv' := [_, _, _, _]) gM dX8_best_67 rfl rfl (Nat.le_of_ble_eq_true rfl) ?_
        rw [show min b c = c by omega, show beF c = c by unfold beF; rw [if_neg (by omega)]] at hc2
        exact hc2 _
      dsimp only [Option.toList, List.cons_append, List.nil_append]
      refine jr_istore_n (pc' := 51) (lv' := [_, _, _, _]) gM dX8_best_50 rfl rfl (Nat.le_of_ble_eq_true rfl) ?_
      refine jr_iload_n (pc' := 52) gM dX8_best_51 rfl rfl ?_
      refine jr_iconst (pc' := 53) gM dX8_best_52 rfl ?_
      refine jr_icmp_eq (tgt := 68) (pc' := 56) gM dX8_best_53 rfl rfl ⟨by omega, by omega⟩ ⟨by omega, by omega⟩ (fun cc => absurd cc (by omega)) (fun _ => ?_)
      refine jr_iload_n (pc' := 57) gM dX8_best_56 rfl rfl ?_
      refine jr_iconst (pc' := 58) gM dX8_best_57 rfl ?_
      refine jr_icmp_eq (tgt := 66) (pc' := 61) gM dX8_best_58 rfl rfl ⟨by omega, by omega⟩ ⟨by omega, by omega⟩ (fun c58 => ?_) (fun c58 => ?_)
      · refine take (Or.inl ?_) 0
        rw [hbe] at c58
        split at c58 <;> omega
      · have hb2 : beF b = b := by
          rw [hbe] at c58 ⊢
          split at c58
          · omega
          · rw [if_neg (by assumption)]
        refine jr_iload_n (pc' := 62) gM dX8_best_61 rfl rfl ?_
        refine jr_iload_n (pc' := 63) gM dX8_best_62 rfl rfl ?_
        refine jr_icmp_ge (tgt := 68) (pc' := 66) gM dX8_best_63 rfl rfl ⟨by omega, by omega⟩ ⟨by omega, by omega⟩ (fun c63 => ?_) (fun c63 => ?_)
        · rw [show min b c = b by omega] at hc2
          exact hc2 _
        · exact take (Or.inr (by omega)) 0
  | succ k ih =>
    intro u P b σ1 hu hg g1 g2 g3 hb hc q3
    have hpl := hps_le hg
    have hfn : ∀ j, 0 ≤ vlF fr (bdL ba bb bm m) pr k (u + 1) (jset P u j) := fun j => vlF_nn hfr hpr hn7 (by omega)
    rw [vlF_succ] at hc
    generalize hf : (fun j => vlF fr (bdL ba bb bm m) pr k (u + 1) (jset P u j)) = f at *
    have hfe : ∀ j, vlF fr (bdL ba bb bm m) pr k (u + 1) (jset P u j) = f j := fun j => by rw [← hf]
    have lp : ∀ j, j ≤ hps P u → ∀ (σ1 : jMem) (q3 : Option Value), (∀ v, v < u → σ1 34 v = (P v : Int)) → σ1 34 u = (j : Int) → (∀ v, u < v → v < n → σ1 34 v = 0) → (∀ c, c ≠ 34 → σ1 c = σ c) → jV (jP mX8_best (d + 9) K) 42 [some (.ref 24), some (.int (jI (beF (min b (jmn f j))))), some (.int (jI 1)), q3] [] σ1 := by
      refine jdown (hps P u) ?_
      intro j hj ihj σ1 q3 g1 gu g2 g3
      have hmn := jmn_le f j
      have hm0 := jmn_ge (f := f) (m := j) (b := 0) (by omega) (fun i _ => by rw [← hfe]; exact hfn i)
      have egr : ∀ v, v < u → hps (jset P u j) v = hps P v := fun v hv => hps_congr (fun w hw => jset_ne (by omega))
      refine ih (u + 1) (jset P u j) (min b (jmn f j)) σ1 (by omega) (fun v hv => ?_) (fun v hv => ?_) (fun v h1 h2 => g2 v (by omega) h2) g3 (by omega) (fun P' σ2 k1 k2 k3 k4 k5 q3 => ?_) q3
      · by_cases e : v = u
        · subst e
          rw [jset_at, hps_congr (Q := P) (fun w hw => jset_ne (by omega))]
          exact hj
        · rw [jset_ne e, egr v (by omega)]
          exact hg v (by omega)
      · by_cases e : v = u
        · subst e
          rw [jset_at]
          exact gu
        · rw [jset_ne e]
          exact g1 v (by omega)
      · rw [hfe, show min (min b (jmn f j)) (f j) = min b (jmn f (j + 1)) by simp only [jmn]; omega]
        have hPu : P' u = j := by rw [k1 u (by omega), jset_at]
        have hPv : ∀ v, v < u → P' v = P v := fun v hv => by rw [k1 v (by omega), jset_ne (by omega)]
        have hhu : hps P' u = hps P u := hps_congr hPv
        by_cases e : j = hps P u
        · subst e
          refine hc P' σ2 hPv k2 k3 (fun v h1 h2 => ?_) k5 q3
          by_cases e : v = u
          · subst e
            rw [hPu, hhu]
          · exact k4 v (by omega) h2
        · have hu1 : 1 ≤ u := by omega
          refine jr_aload_n (pc' := 69) gM dX8_best_68 rfl rfl ?_
          refine jr_inv (pc' := 72) (as := []) gM dX8_best_69 rfl kX8_130 rfl rfl rfl (Nat.le_of_ble_eq_true rfl) ?_
          refine nexts_ok (P := P') (by rw [k5 24 (by omega)]; exact hS.1) hn7 hn1 k2 k3 (fun hz => ?_) (fun w h1 h2 h3 h4 σ3 w1 w2 w3 w4 => ?_)
          · have := hz u hu1 (by omega)
            omega
          · have ew : w = u := by
              rcases Nat.lt_trichotomy w u with z | z | z
              · have := h4 u z (by omega)
                omega
              · exact z
              · have := k4 w (by omega) h2
                omega
            subst ew
            dsimp only [Option.toList, List.cons_append, List.nil_append]
            refine jr_istore_n (pc' := 73) (lv' := [_, _, _, _]) gM dX8_best_72 rfl rfl (Nat.le_of_ble_eq_true rfl) ?_
            refine jr_goto (tgt := 42) gM dX8_best_73 rfl ?_
            refine ihj (j + 1) (by omega) (by omega) σ3 _ (fun v hv => by rw [w1 v hv, hPv v hv]) (by rw [w2, hPu]) w3 (fun c hc => by rw [w4 c hc]; exact k5 c hc)
    have := lp 0 (by omega) σ1 q3 g1 (g2 u (by omega) (by omega)) (fun v h1 h2 => g2 v (by omega) h2) g3
    rw [show min b (jmn f 0) = b by simp only [jmn]; omega] at this
    exact this
set_option maxRecDepth 100000 in
theorem m_best (hC : MI n nb yr wt hp pr ga sh fe m ba bb bm s se sp σ)
    (hK0 : ¬ (1 ≤ n ∧ n ≤ 7) → K (some (.int (jI (-1)))) σ)
    (hK1 : 1 ≤ n ∧ n ≤ 7 → ∀ σ' : jMem, MI n nb yr wt hp pr ga sh fe m ba bb bm s se sp σ' → (∀ c, c < 24 → σ' c = σ c) → K (some (.int (jI (if mcF (fun a b => jfar wt (nb a) (nb b)) (bdL ba bb bm m) pr n 0 0 (fun _ => 0) 0 = 1000000000 then -1 else mcF (fun a b => jfar wt (nb a) (nb b)) (bdL ba bb bm m) pr n 0 0 (fun _ => 0) 0)))) σ') : jRun (d + 9) mX8_best [.ref 24] σ K := by
  have hS := hC.SM
  have hn := hC.1.2
  refine jenter (lv := [_, _, _, _]) rfl rfl (Nat.le_of_ble_eq_true rfl) ?_
  refine jr_aload_n (pc' := 1) gM dX8_best_0 rfl rfl ?_
  refine jr_gfi (pc' := 4) gM dX8_best_1 rfl fX8_60 rfl rfl ?_
  rw [hC.1.1]
  refine jr_iconst (pc' := 5) gM dX8_best_4 rfl ?_
  refine jr_bipush (pc' := 7) gM dX8_best_5 rfl rfl ?_
  refine jr_ins (pc' := 10) (as := [_, _, _]) gM dX8_best_7 rfl kX8_63 rfl rfl (Nat.le_of_ble_eq_true rfl) ?_
  refine in_ok ⟨by omega, by omega⟩ ⟨by omega, by omega⟩ ⟨by omega, by omega⟩ ?_
  dsimp only [Option.toList, List.cons_append, List.nil_append]
  refine jr_pb_ne (tgt := 15) (pc' := 13) gM dX8_best_10 rfl rfl (fun c10 => ?_) (fun c10 => ?_)
  · have hk := hK1 (by omega)
    generalize hfe : (fun a b => jfar wt (nb a) (nb b)) = fr at *
    refine jr_iconst (pc' := 16) gM dX8_best_15 rfl ?_
    refine jr_istore_n (pc' := 17) (lv' := [_, _, _, _]) gM dX8_best_16 rfl rfl (Nat.le_of_ble_eq_true rfl) ?_
    have lp : ∀ i, i ≤ n → ∀ σ1 : jMem, (∀ v, v < i → σ1 34 v = 0) → (∀ c, c ≠ 34 → σ1 c = σ c) → jV (jP mX8_best (d + 9) K) 17 [some (.ref 24), some (.int (jI (i : Int))), none, none] [] σ1 := by
      refine jdown n ?_
      intro i hi ih σ1 g1 g2
      refine jr_iload_n (pc' := 18) gM dX8_best_17 rfl rfl ?_
      refine jr_aload_n (pc' := 19) gM dX8_best_18 rfl rfl ?_
      refine jr_gfi (pc' := 22) gM dX8_best_19 rfl fX8_60 rfl rfl ?_
      rw [g2 24 (by omega), hC.1.1]
      refine jr_icmp_ge (tgt := 38) (pc' := 25) gM dX8_best_22 rfl rfl ⟨by omega, by omega⟩ ⟨by omega, by omega⟩ (fun c22 => ?_) (fun c22 => ?_)
      · have e : i = n := by omega
        subst e
        refine jr_iconst (pc' := 39) gM dX8_best_38 rfl ?_
        refine jr_istore_n (pc' := 40) (lv' := [_, _, _, _]) gM dX8_best_39 rfl rfl (Nat.le_of_ble_eq_true rfl) ?_
        refine jr_iconst (pc' := 41) gM dX8_best_40 rfl ?_
        refine jr_istore_n (pc' := 42) (lv' := [_, _, _, _]) gM dX8_best_41 rfl rfl (Nat.le_of_ble_eq_true rfl) ?_
        refine bestLoop hS (by omega) (by omega) i 0 (fun _ => 0) 1000000000 σ1 (by omega) (fun v hv => absurd hv (by omega)) (fun v hv => absurd hv (by omega)) (fun v _ hv => g1 v hv) g2 (by omega) (fun P' σ2 k1 k2 k3 k4 k5 q3 => ?_) none
        refine jr_aload_n (pc' := 69) gM dX8_best_68 rfl rfl ?_
        refine jr_inv (pc' := 72) (as := []) gM dX8_best_69 rfl kX8_130 rfl rfl rfl (Nat.le_of_ble_eq_true rfl) ?_
        refine nexts_ok (P := P') (by rw [k5 24 (by omega)]; exact hC.1.1) (by omega) (by omega) k2 k3 (fun hz => ?_) (fun w h1 h2 h3 h4 σ3 w1 w2 w3 w4 => ?_)
        · dsimp only [Option.toList, List.cons_append, List.nil_append]
          refine jr_istore_n (pc' := 73) (lv' := [_, _, _, _]) gM dX8_best_72 rfl rfl (Nat.le_of_ble_eq_true rfl) ?_
          refine jr_goto (tgt := 42) gM dX8_best_73 rfl ?_
          refine jr_iload_n (pc' := 43) gM dX8_best_42 rfl rfl ?_
          refine jr_if_eq (tgt := 76) (pc' := 46) gM dX8_best_43 rfl rfl ⟨by omega, by omega⟩ (fun _ => ?_) (fun cc => absurd cc (by omega))
          refine jr_iload_n (pc' := 77) gM dX8_best_76 rfl rfl ?_
          refine jr_ireturn dX8_best_77 rfl ?_
          have ev : vlF fr (bdL ba bb bm m) pr i 0 (fun _ => 0) = mcF fr (bdL ba bb bm m) pr i 0 0 (fun _ => 0) 0 := if_pos (fun w hw => absurd hw (by omega))
          have hle : mcF fr (bdL ba bb bm m) pr i 0 0 (fun _ => 0) 0 ≤ 1000000000 := by
            obtain ⟨i', rfl⟩ : ∃ i', i = i' + 1 := ⟨i - 1, by omega⟩
            exact jmn_le _ _
          rw [ev, show min 1000000000 (mcF fr (bdL ba bb bm m) pr i 0 0 (fun _ => 0) 0) = mcF fr (bdL ba bb bm m) pr i 0 0 (fun _ => 0) 0 by omega]
          exact hk σ2 (hC.of (fun j _ => by rw [k5 24 (by omega)]) (fun c q1 q2 => k5 c (by omega))) (fun c hc => k5 c (by omega))
        · have := k4 w (by omega) h2
          omega
      · refine jr_aload_n (pc' := 26) gM dX8_best_25 rfl rfl ?_
        refine jr_gfr (pc' := 29) gM dX8_best_26 rfl fX8_51 rfl rfl ?_
        refine jr_iload_n (pc' := 30) gM dX8_best_29 rfl rfl ?_
        refine jr_iconst (pc' := 31) gM dX8_best_30 rfl ?_
        refine jr_iast (pc' := 32) (i) gM dX8_best_31 rfl rfl (rfl) (by omega) (by decide) ?_
        refine jr_iinc (pc' := 35) (lv' := [_, _, _, _]) gM dX8_best_32 rfl rfl rfl ?_
        refine jr_goto (tgt := 17) gM dX8_best_35 rfl ?_
        refine ih (i + 1) (by omega) (by omega) _ (fun v hv => ?_) (fun c hc => by rw [jup_row hc]; exact g2 c hc)
        by_cases e : v = i
        · subst e
          rw [jup_at]
        · rw [jup_ne (Or.inr e)]
          exact g1 v (by omega)
    exact lp 0 (by omega) σ (fun v hv => absurd hv (by omega)) (fun _ _ => rfl)
  · refine jr_iconst (pc' := 14) gM dX8_best_13 rfl ?_
    refine jr_ireturn dX8_best_14 rfl ?_
    exact hK0 (by omega)
end jMy
