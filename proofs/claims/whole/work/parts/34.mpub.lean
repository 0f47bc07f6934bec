/-! ===== the reference: what it holds, and its public methods ===== -/
def MI (n : Nat) (nb : Nat → Nat) (yr wt hp : Nat → Int) (pr ga sh fe : Int) (m : Nat) (ba bb : Nat → Nat) (bm : Nat → Int) (s : Nat) (se : Nat → Nat) (sp : Int) (σ : jMem) : Prop :=
  (σ 24 5 = (n : Int) ∧ n ≤ 40) ∧ (∀ u, u < n → σ 26 u = (nb u : Int) ∧ nb u < 2 ^ 20) ∧ (∀ u, u < n → σ 27 u = yr u ∧ 1800 ≤ yr u ∧ yr u ≤ 1999) ∧ (∀ k, k < 20 → σ 25 k = wt k ∧ 1 ≤ wt k ∧ wt k ≤ 9) ∧ HV n hp ∧ (∀ u, u < n → σ 28 u = hp u) ∧ (∀ a b, a < n → b < n → σ 29 (40 * a + b) = jfar wt (nb a) (nb b)) ∧ (ML m ba bb bm σ ∧ BL n m ba bb bm) ∧ (σ 24 1 = pr ∧ 0 ≤ pr ∧ pr ≤ 200) ∧ (σ 24 2 = ga ∧ 0 ≤ ga ∧ ga ≤ 50) ∧ (σ 24 3 = sh ∧ 0 ≤ sh ∧ sh ≤ 100) ∧ (σ 24 4 = fe ∧ 0 ≤ fe ∧ fe ≤ 9) ∧ (σ 24 14 = (s : Int) ∧ s ≤ 5 ∧ ∀ t, t < s → σ 33 t = (se t : Int) ∧ se t < 2 ^ 20) ∧ σ 24 16 = sp
section jMp
variable {n : Nat} {nb : Nat → Nat} {yr wt hp : Nat → Int} {pr ga sh fe : Int} {m : Nat} {ba bb : Nat → Nat} {bm : Nat → Int} {s : Nat} {se : Nat → Nat} {sp : Int} {σ : jMem} {K : Option Value → jMem → Prop} {d : Nat}
theorem MI.of {σ' : jMem} (h : MI n nb yr wt hp pr ga sh fe m ba bb bm s se sp σ) (h1 : ∀ j, j ≠ 20 → σ' 24 j = σ 24 j) (h2 : ∀ c, 25 ≤ c → c ≤ 33 → σ' c = σ c) : MI n nb yr wt hp pr ga sh fe m ba bb bm s se sp σ' := by
  obtain ⟨a1, a2, a3, a4, a5, a6, a7, ⟨a8, a8'⟩, a9⟩ := h
  unfold MI
  rw [h1 5 (by omega), h1 1 (by omega), h1 2 (by omega), h1 3 (by omega), h1 4 (by omega), h1 14 (by omega), h1 16 (by omega), h2 25 (by omega) (by omega), h2 26 (by omega) (by omega), h2 27 (by omega) (by omega), h2 28 (by omega) (by omega), h2 29 (by omega) (by omega), h2 33 (by omega) (by omega)]
  exact ⟨a1, a2, a3, a4, a5, a6, a7, ⟨a8.of (h1 10 (by omega)) (fun c q1 q2 => h2 c (by omega) (by omega)), a8'⟩, a9⟩
theorem MI.heaps {hp' : Nat → Int} {σ' : jMem} (h : MI n nb yr wt hp pr ga sh fe m ba bb bm s se sp σ) (hV : HV n hp') (hh : ∀ v, v < n → σ' 28 v = hp' v) (he : ∀ c, c ≠ 28 → σ' c = σ c) : MI n nb yr wt hp' pr ga sh fe m ba bb bm s se sp σ' := by
  obtain ⟨a1, a2, a3, a4, a5, a6, a7, ⟨a8, a8'⟩, a9⟩ := h
  unfold MI
  rw [he 24 (by omega), he 25 (by omega), he 26 (by omega), he 27 (by omega), he 29 (by omega), he 33 (by omega)]
  exact ⟨a1, a2, a3, a4, hV, hh, a7, ⟨a8.of (by rw [he 24 (by omega)]) (fun c q1 q2 => he c (by omega)), a8'⟩, a9⟩
theorem MI.SM (h : MI n nb yr wt hp pr ga sh fe m ba bb bm s se sp σ) : SM n hp (fun a b => jfar wt (nb a) (nb b)) m ba bb bm pr σ := by
  obtain ⟨a1, a2, a3, a4, a5, a6, a7, ⟨a8, a8'⟩, a9, a10⟩ := h
  exact ⟨a1.1, a1.2, a5, a6, a7, fun a b _ _ => jfar_le (fun k hk => (a4 k hk).2), fun u => jfar_self _ _, a8, a8', a9⟩
set_option maxRecDepth 100000 in
theorem m_weight {a w : Int} (hC : MI n nb yr wt hp pr ga sh fe m ba bb bm s se sp σ) (ha : jR a) (hw : jR w)
    (hK0 : ¬ ((0 ≤ a ∧ a ≤ 19) ∧ 1 ≤ w ∧ w ≤ 9) → K (some (.int (jI 0))) σ) (hK1 : ∀ k : Nat, a = (k : Int) → k < 20 → 1 ≤ w ∧ w ≤ 9 → ∀ σ' : jMem, MI n nb yr (jset wt k w) hp pr ga sh fe m ba bb bm s se sp σ' → (∀ c, c < 24 → σ' c = σ c) → K (some (.int (jI 1))) σ') : jRun (d + 9) mX8_weight [.ref 24, .int (jI a), .int (jI w)] σ K := by
  refine jenter (lv := [_, _, _]) rfl rfl (Nat.le_of_ble_eq_true rfl) ?_
  refine jr_iload_n (pc' := 1) gM dX8_weight_0 rfl rfl ?_
  refine jr_iconst (pc' := 2) gM dX8_weight_1 rfl ?_
  refine jr_bipush (pc' := 4) gM dX8_weight_2 rfl rfl ?_
  refine jr_ins (pc' := 7) (as := [_, _, _]) gM dX8_weight_4 rfl kX8_63 rfl rfl (Nat.le_of_ble_eq_true rfl) ?_
  refine in_ok ha ⟨by omega, by omega⟩ ⟨by omega, by omega⟩ ?_
  dsimp only [Option.toList, List.cons_append, List.nil_append]
  refine jr_pb_eq (tgt := 20) (pc' := 10) gM dX8_weight_7 rfl rfl (fun c7 => ?_) (fun c7 => ?_)
  · refine jr_iconst (pc' := 21) gM dX8_weight_20 rfl ?_
    refine jr_zreturn dX8_weight_21 rfl (by first | omega | exact bI_01 _) ?_
    exact hK0 (fun q => c7 q.1)
  · refine jr_iload_n (pc' := 11) gM dX8_weight_10 rfl rfl ?_
    refine jr_iconst (pc' := 12) gM dX8_weight_11 rfl ?_
    refine jr_bipush (pc' := 14) gM dX8_weight_12 rfl rfl ?_
    refine jr_ins (pc' := 17) (as := [_, _, _]) gM dX8_weight_14 rfl kX8_63 rfl rfl (Nat.le_of_ble_eq_true rfl) ?_
    refine in_ok hw ⟨by omega, by omega⟩ ⟨by omega, by omega⟩ ?_
    dsimp only [Option.toList, List.cons_append, List.nil_append]
    refine jr_pb_ne (tgt := 22) (pc' := 20) gM dX8_weight_17 rfl rfl (fun c17 => ?_) (fun c17 => ?_)
    · obtain ⟨k, rfl⟩ := Int.eq_ofNat_of_zero_le c7.1
      obtain ⟨a1, a2, a3, a4, a5, a6, a7, ⟨a8, a8'⟩, a9⟩ := hC
      refine jr_aload_n (pc' := 23) gM dX8_weight_22 rfl rfl ?_
      refine jr_gfr (pc' := 26) gM dX8_weight_23 rfl fX8_9 rfl rfl ?_
      refine jr_iload_n (pc' := 27) gM dX8_weight_26 rfl rfl ?_
      refine jr_iload_n (pc' := 28) gM dX8_weight_27 rfl rfl ?_
      refine jr_iast (pc' := 29) (k) gM dX8_weight_28 rfl rfl (rfl) (by omega) (by decide) ?_
      refine jr_aload_n (pc' := 30) gM dX8_weight_29 rfl rfl ?_
      refine jr_inv (pc' := 33) (as := []) gM dX8_weight_30 rfl kX8_71 rfl rfl rfl (Nat.le_of_ble_eq_true rfl) ?_
      refine reckons_ok (n := n) (nb := nb) (by rw [jup_row (by omega)]; exact a1.1) a1.2 (fun u hu => by rw [jup_row (by omega)]; exact a2 u hu) (fun σ' k1 k2 => ?_)
      dsimp only [Option.toList, List.cons_append, List.nil_append]
      refine jr_iconst (pc' := 34) gM dX8_weight_33 rfl ?_
      refine jr_zreturn dX8_weight_34 rfl (by first | omega | exact bI_01 _) ?_
      have hw25 : ∀ j, j < 20 → σ' 25 j = jset wt k w j ∧ 1 ≤ jset wt k w j ∧ jset wt k w j ≤ 9 := by
        intro j hj
        rw [k1 25 (by omega)]
        by_cases e : j = k
        · subst e
          rw [jup_at, jset_at]
          exact ⟨rfl, c17⟩
        · rw [jup_ne (Or.inr e), jset_ne e]
          exact a4 j hj
      have o24 : σ' 24 = σ 24 := by rw [k1 24 (by omega), jup_row (by omega)]
      refine hK1 k rfl (by omega) c17 σ' ⟨by rw [o24]; exact a1, fun u hu => by rw [k1 26 (by omega), jup_row (by omega)]; exact a2 u hu, fun u hu => by rw [k1 27 (by omega), jup_row (by omega)]; exact a3 u hu, hw25, a5, fun u hu => by rw [k1 28 (by omega), jup_row (by omega)]; exact a6 u hu, fun x z hx hz => ?_, ⟨a8.of (by rw [o24]) (fun c q1 q2 => by rw [k1 c (by omega), jup_row (by omega)]), a8'⟩, ?_⟩ (fun c hc => by rw [k1 c (by omega), jup_row (by omega)])
      · rw [k2 x z hx hz]
        refine jfar_congr (fun j hj => ?_)
        rw [← k1 25 (by omega)]
        exact (hw25 j hj).1
      · rw [o24, k1 33 (by omega), jup_row (show (33 : Nat) ≠ 25 by omega)]
        exact a9
    · refine jr_iconst (pc' := 21) gM dX8_weight_20 rfl ?_
      refine jr_zreturn dX8_weight_21 rfl (by first | omega | exact bI_01 _) ?_
      exact hK0 (fun q => c17 q.2)
set_option maxRecDepth 100000 in
theorem m_prices {p g : Int} (hC : MI n nb yr wt hp pr ga sh fe m ba bb bm s se sp σ) (h1 : jR p) (h2 : jR g)
    (hK0 : ¬ ((0 ≤ p ∧ p ≤ 200) ∧ 0 ≤ g ∧ g ≤ 50) → K (some (.int (jI 0))) σ) (hK1 : (0 ≤ p ∧ p ≤ 200) ∧ 0 ≤ g ∧ g ≤ 50 → ∀ σ' : jMem, MI n nb yr wt hp p g sh fe m ba bb bm s se sp σ' → (∀ c, c < 24 → σ' c = σ c) → K (some (.int (jI 1))) σ') : jRun (d + 9) mX8_prices [.ref 24, .int (jI p), .int (jI g)] σ K := by
  refine jenter (lv := [_, _, _]) rfl rfl (Nat.le_of_ble_eq_true rfl) ?_
  refine jr_iload_n (pc' := 1) gM dX8_prices_0 rfl rfl ?_
  refine jr_iconst (pc' := 2) gM dX8_prices_1 rfl ?_
  refine jr_sipush (pc' := 5) gM dX8_prices_2 rfl rfl ?_
  refine jr_ins (pc' := 8) (as := [_, _, _]) gM dX8_prices_5 rfl kX8_63 rfl rfl (Nat.le_of_ble_eq_true rfl) ?_
  refine in_ok h1 ⟨by omega, by omega⟩ ⟨by omega, by omega⟩ ?_
  dsimp only [Option.toList, List.cons_append, List.nil_append]
  refine jr_pb_eq (tgt := 21) (pc' := 11) gM dX8_prices_8 rfl rfl (fun c8 => ?_) (fun c8 => ?_)
  · refine jr_iconst (pc' := 22) gM dX8_prices_21 rfl ?_
    refine jr_zreturn dX8_prices_22 rfl (by first | omega | exact bI_01 _) ?_
    exact hK0 (fun q => c8 q.1)
  · refine jr_iload_n (pc' := 12) gM dX8_prices_11 rfl rfl ?_
    refine jr_iconst (pc' := 13) gM dX8_prices_12 rfl ?_
    refine jr_bipush (pc' := 15) gM dX8_prices_13 rfl rfl ?_
    refine jr_ins (pc' := 18) (as := [_, _, _]) gM dX8_prices_15 rfl kX8_63 rfl rfl (Nat.le_of_ble_eq_true rfl) ?_
    refine in_ok h2 ⟨by omega, by omega⟩ ⟨by omega, by omega⟩ ?_
    dsimp only [Option.toList, List.cons_append, List.nil_append]
    refine jr_pb_ne (tgt := 23) (pc' := 21) gM dX8_prices_18 rfl rfl (fun c18 => ?_) (fun c18 => ?_)
    · refine jr_aload_n (pc' := 24) gM dX8_prices_23 rfl rfl ?_
      refine jr_iload_n (pc' := 25) gM dX8_prices_24 rfl rfl ?_
      refine jr_pf (pc' := 28) gM dX8_prices_25 rfl fX8_13 rfl rfl ⟨rfl, by decide +kernel⟩ ?_
      refine jr_aload_n (pc' := 29) gM dX8_prices_28 rfl rfl ?_
      refine jr_iload_n (pc' := 30) gM dX8_prices_29 rfl rfl ?_
      refine jr_pf (pc' := 33) gM dX8_prices_30 rfl fX8_17 rfl rfl ⟨rfl, by decide +kernel⟩ ?_
      refine jr_iconst (pc' := 34) gM dX8_prices_33 rfl ?_
      refine jr_zreturn dX8_prices_34 rfl (by first | omega | exact bI_01 _) ?_
      obtain ⟨a1, a2, a3, a4, a5, a6, a7, ⟨a8, a8'⟩, a9, a10, a11, a12, a13, a14⟩ := hC
      have r : ∀ c, c ≠ 24 → jup (jup σ 24 1 p) 24 2 g c = σ c := fun c hc => by rw [jup_row hc, jup_row hc]
      have f : ∀ j, j ≠ 1 → j ≠ 2 → jup (jup σ 24 1 p) 24 2 g 24 j = σ 24 j := fun j q1 q2 => by rw [jup_ne (Or.inr q2), jup_ne (Or.inr q1)]
      refine hK1 ⟨c8, c18⟩ _ ?_ (fun c hc => r c (by omega))
      unfold MI
      rw [f 5 (by omega) (by omega), f 3 (by omega) (by omega), f 4 (by omega) (by omega), f 14 (by omega) (by omega), f 16 (by omega) (by omega), r 25 (by omega), r 26 (by omega), r 27 (by omega), r 28 (by omega), r 29 (by omega), r 33 (by omega)]
      exact ⟨a1, a2, a3, a4, a5, a6, a7, ⟨a8.of (f 10 (by omega) (by omega)) (fun c q1 q2 => r c (by omega)), a8'⟩, ⟨by rw [jup_ne (Or.inr (by omega)), jup_at], c8⟩, ⟨by rw [jup_at], c18⟩, a11, a12, a13, a14⟩
    · refine jr_iconst (pc' := 22) gM dX8_prices_21 rfl ?_
      refine jr_zreturn dX8_prices_22 rfl (by first | omega | exact bI_01 _) ?_
      exact hK0 (fun q => c18 q.2)
set_option maxRecDepth 100000 in
theorem m_marks {p g : Int} (hC : MI n nb yr wt hp pr ga sh fe m ba bb bm s se sp σ) (h1 : jR p) (h2 : jR g)
    (hK0 : ¬ ((0 ≤ p ∧ p ≤ 100) ∧ 0 ≤ g ∧ g ≤ 9) → K (some (.int (jI 0))) σ) (hK1 : (0 ≤ p ∧ p ≤ 100) ∧ 0 ≤ g ∧ g ≤ 9 → ∀ σ' : jMem, MI n nb yr wt hp pr ga p g m ba bb bm s se sp σ' → (∀ c, c < 24 → σ' c = σ c) → K (some (.int (jI 1))) σ') : jRun (d + 9) mX8_marks [.ref 24, .int (jI p), .int (jI g)] σ K := by
  refine jenter (lv := [_, _, _]) rfl rfl (Nat.le_of_ble_eq_true rfl) ?_
  refine jr_iload_n (pc' := 1) gM dX8_marks_0 rfl rfl ?_
  refine jr_iconst (pc' := 2) gM dX8_marks_1 rfl ?_
  refine jr_bipush (pc' := 4) gM dX8_marks_2 rfl rfl ?_
  refine jr_ins (pc' := 7) (as := [_, _, _]) gM dX8_marks_4 rfl kX8_63 rfl rfl (Nat.le_of_ble_eq_true rfl) ?_
  refine in_ok h1 ⟨by omega, by omega⟩ ⟨by omega, by omega⟩ ?_
  dsimp only [Option.toList, List.cons_append, List.nil_append]
  refine jr_pb_eq (tgt := 20) (pc' := 10) gM dX8_marks_7 rfl rfl (fun c7 => ?_) (fun c7 => ?_)
  · refine jr_iconst (pc' := 21) gM dX8_marks_20 rfl ?_
    refine jr_zreturn dX8_marks_21 rfl (by first | omega | exact bI_01 _) ?_
    exact hK0 (fun q => c7 q.1)
  · refine jr_iload_n (pc' := 11) gM dX8_marks_10 rfl rfl ?_
    refine jr_iconst (pc' := 12) gM dX8_marks_11 rfl ?_
    refine jr_bipush (pc' := 14) gM dX8_marks_12 rfl rfl ?_
    refine jr_ins (pc' := 17) (as := [_, _, _]) gM dX8_marks_14 rfl kX8_63 rfl rfl (Nat.le_of_ble_eq_true rfl) ?_
    refine in_ok h2 ⟨by omega, by omega⟩ ⟨by omega, by omega⟩ ?_
    dsimp only [Option.toList, List.cons_append, List.nil_append]
    refine jr_pb_ne (tgt := 22) (pc' := 20) gM dX8_marks_17 rfl rfl (fun c17 => ?_) (fun c17 => ?_)
    · refine jr_aload_n (pc' := 23) gM dX8_marks_22 rfl rfl ?_
      refine jr_iload_n (pc' := 24) gM dX8_marks_23 rfl rfl ?_
      refine jr_pf (pc' := 27) gM dX8_marks_24 rfl fX8_20 rfl rfl ⟨rfl, by decide +kernel⟩ ?_
      refine jr_aload_n (pc' := 28) gM dX8_marks_27 rfl rfl ?_
      refine jr_iload_n (pc' := 29) gM dX8_marks_28 rfl rfl ?_
      refine jr_pf (pc' := 32) gM dX8_marks_29 rfl fX8_23 rfl rfl ⟨rfl, by decide +kernel⟩ ?_
      refine jr_iconst (pc' := 33) gM dX8_marks_32 rfl ?_
      refine jr_zreturn dX8_marks_33 rfl (by first | omega | exact bI_01 _) ?_
      obtain ⟨a1, a2, a3, a4, a5, a6, a7, ⟨a8, a8'⟩, a9, a10, a11, a12, a13, a14⟩ := hC
      have r : ∀ c, c ≠ 24 → jup (jup σ 24 3 p) 24 4 g c = σ c := fun c hc => by rw [jup_row hc, jup_row hc]
      have f : ∀ j, j ≠ 3 → j ≠ 4 → jup (jup σ 24 3 p) 24 4 g 24 j = σ 24 j := fun j q1 q2 => by rw [jup_ne (Or.inr q2), jup_ne (Or.inr q1)]
      refine hK1 ⟨c7, c17⟩ _ ?_ (fun c hc => r c (by omega))
      unfold MI
      rw [f 5 (by omega) (by omega), f 1 (by omega) (by omega), f 2 (by omega) (by omega), f 14 (by omega) (by omega), f 16 (by omega) (by omega), r 25 (by omega), r 26 (by omega), r 27 (by omega), r 28 (by omega), r 29 (by omega), r 33 (by omega)]
      exact ⟨a1, a2, a3, a4, a5, a6, a7, ⟨a8.of (f 10 (by omega) (by omega)) (fun c q1 q2 => r c (by omega)), a8'⟩, a9, a10, ⟨by rw [jup_ne (Or.inr (by omega)), jup_at], c7⟩, ⟨by rw [jup_at], c17⟩, a13, a14⟩
    · refine jr_iconst (pc' := 21) gM dX8_marks_20 rfl ?_
      refine jr_zreturn dX8_marks_21 rfl (by first | omega | exact bI_01 _) ?_
      exact hK0 (fun q => c17 q.2)
set_option maxRecDepth 100000 in
theorem m_fix {x y : Int} (hC : MI n nb yr wt hp pr ga sh fe m ba bb bm s se sp σ) (h1 : jR x) (h2 : jR y)
    (hK0 : ¬ (0 ≤ x ∧ x < n) ∨ (y ≠ -1 ∧ y ≠ x ∧ (¬ (0 ≤ y ∧ y < n) ∨ hp y.toNat = -1)) → K (some (.int (jI 0))) σ)
    (hK1 : ∀ (u : Nat) (hp' : Nat → Int), x = (u : Int) → u < n → ((y = -1 ∧ hp' = opF n hp u) ∨ (y = (u : Int) ∧ hp' = alF n hp u) ∨ (∃ o k : Nat, y = (o : Int) ∧ o ≠ u ∧ o < n ∧ hp o = (k : Int) ∧ hp' = inF n hp u k)) → ∀ σ' : jMem, MI n nb yr wt hp' pr ga sh fe m ba bb bm s se sp σ' → (∀ c, c < 24 → σ' c = σ c) → K (some (.int (jI 1))) σ') : jRun (d + 9) mX8_fix [.ref 24, .int (jI x), .int (jI y)] σ K := by
  have hn := hC.1.2
  have hc1 := hC.1.1
  have hV := hC.2.2.2.2.1
  have hh := hC.2.2.2.2.2.1
  have no : ¬ (0 ≤ x ∧ x < n) ∨ (y ≠ -1 ∧ y ≠ x ∧ (¬ (0 ≤ y ∧ y < n) ∨ hp y.toNat = -1)) → jV (jP mX8_fix (d + 9) K) 41 [some (.ref 24), some (.int (jI x)), some (.int (jI y))] [] σ := by
    intro q
    refine jr_iconst (pc' := 42) gM dX8_fix_41 rfl ?_
    refine jr_zreturn dX8_fix_42 rfl (by first | omega | exact bI_01 _) ?_
    exact hK0 q
  refine jenter (lv := [_, _, _]) rfl rfl (Nat.le_of_ble_eq_true rfl) ?_
  refine jr_aload_n (pc' := 1) gM dX8_fix_0 rfl rfl ?_
  refine jr_iload_n (pc' := 2) gM dX8_fix_1 rfl rfl ?_
  refine jr_inv (pc' := 5) (as := [_]) gM dX8_fix_2 rfl kX8_74 rfl rfl rfl (Nat.le_of_ble_eq_true rfl) ?_
  refine isUse_ok hc1 hn h1 ?_
  dsimp only [Option.toList, List.cons_append, List.nil_append]
  refine jr_pb_eq (tgt := 41) (pc' := 8) gM dX8_fix_5 rfl rfl (fun c5 => ?_) (fun c5 => ?_)
  · exact no (Or.inl c5)
  · obtain ⟨u, rfl⟩ := Int.eq_ofNat_of_zero_le c5.1
    have hru := hV.r hn u
    by_cases hy : y = -1
    · subst hy
      refine jr_iload_n (pc' := 9) gM dX8_fix_8 rfl rfl ?_
      refine jr_iconst (pc' := 10) gM dX8_fix_9 rfl ?_
      refine jr_icmp_eq (tgt := 21) (pc' := 13) gM dX8_fix_10 rfl rfl ⟨by omega, by omega⟩ ⟨by omega, by omega⟩ (fun _ => ?_) (fun cc => absurd cc (by omega))
      refine jr_iload_n (pc' := 22) gM dX8_fix_21 rfl rfl ?_
      refine jr_iconst (pc' := 23) gM dX8_fix_22 rfl ?_
      refine jr_icmp_eq (tgt := 43) (pc' := 26) gM dX8_fix_23 rfl rfl ⟨by omega, by omega⟩ ⟨by omega, by omega⟩ (fun _ => ?_) (fun cc => absurd cc (by omega))
      refine jr_iload_n (pc' := 44) gM dX8_fix_43 rfl rfl ?_
      refine jr_iconst (pc' := 45) gM dX8_fix_44 rfl ?_
      refine jr_icmp_ne (tgt := 56) (pc' := 48) gM dX8_fix_45 rfl rfl ⟨by omega, by omega⟩ ⟨by omega, by omega⟩ (fun cc => absurd cc (by omega)) (fun _ => ?_)
      refine jr_aload_n (pc' := 49) gM dX8_fix_48 rfl rfl ?_
      refine jr_iload_n (pc' := 50) gM dX8_fix_49 rfl rfl ?_
      refine jr_inv (pc' := 53) (as := [_]) gM dX8_fix_50 rfl kX8_82 rfl rfl rfl (Nat.le_of_ble_eq_true rfl) ?_
      refine leaves_ok hc1 hn hV hh (by omega) (fun σ' k1 k2 => ?_)
      dsimp only [Option.toList, List.cons_append, List.nil_append]
      refine jr_goto (tgt := 96) gM dX8_fix_53 rfl ?_
      refine jr_iconst (pc' := 97) gM dX8_fix_96 rfl ?_
      refine jr_zreturn dX8_fix_97 rfl (by first | omega | exact bI_01 _) ?_
      exact hK1 u _ rfl (by omega) (Or.inl ⟨rfl, rfl⟩) σ' (hC.heaps (opF_HV hV) k1 k2) (fun c hc => k2 c (by omega))
    · refine jr_iload_n (pc' := 9) gM dX8_fix_8 rfl rfl ?_
      refine jr_iconst (pc' := 10) gM dX8_fix_9 rfl ?_
      refine jr_icmp_eq (tgt := 21) (pc' := 13) gM dX8_fix_10 rfl rfl ⟨by omega, by omega⟩ ⟨by omega, by omega⟩ (fun cc => absurd cc (by omega)) (fun _ => ?_)
      refine jr_aload_n (pc' := 14) gM dX8_fix_13 rfl rfl ?_
      refine jr_iload_n (pc' := 15) gM dX8_fix_14 rfl rfl ?_
      refine jr_inv (pc' := 18) (as := [_]) gM dX8_fix_15 rfl kX8_74 rfl rfl rfl (Nat.le_of_ble_eq_true rfl) ?_
      refine isUse_ok hc1 hn h2 ?_
      dsimp only [Option.toList, List.cons_append, List.nil_append]
      refine jr_pb_eq (tgt := 41) (pc' := 21) gM dX8_fix_18 rfl rfl (fun c18 => ?_) (fun c18 => ?_)
      · refine no (Or.inr ⟨hy, by omega, Or.inl c18⟩)
      · obtain ⟨o, rfl⟩ := Int.eq_ofNat_of_zero_le c18.1
        have hro := hV.r hn o
        refine jr_iload_n (pc' := 22) gM dX8_fix_21 rfl rfl ?_
        refine jr_iconst (pc' := 23) gM dX8_fix_22 rfl ?_
        refine jr_icmp_eq (tgt := 43) (pc' := 26) gM dX8_fix_23 rfl rfl ⟨by omega, by omega⟩ ⟨by omega, by omega⟩ (fun cc => absurd cc (by omega)) (fun _ => ?_)
        refine jr_iload_n (pc' := 27) gM dX8_fix_26 rfl rfl ?_
        refine jr_iload_n (pc' := 28) gM dX8_fix_27 rfl rfl ?_
        refine jr_icmp_eq (tgt := 43) (pc' := 31) gM dX8_fix_28 rfl rfl ⟨by omega, by omega⟩ ⟨by omega, by omega⟩ (fun c28 => ?_) (fun c28 => ?_)
        · have eo : o = u := by omega
          subst eo
          refine jr_iload_n (pc' := 44) gM dX8_fix_43 rfl rfl ?_
          refine jr_iconst (pc' := 45) gM dX8_fix_44 rfl ?_
          refine jr_icmp_ne (tgt := 56) (pc' := 48) gM dX8_fix_45 rfl rfl ⟨by omega, by omega⟩ ⟨by omega, by omega⟩ (fun _ => ?_) (fun cc => absurd cc (by omega))
          refine jr_iload_n (pc' := 57) gM dX8_fix_56 rfl rfl ?_
          refine jr_iload_n (pc' := 58) gM dX8_fix_57 rfl rfl ?_
          refine jr_icmp_ne (tgt := 70) (pc' := 61) gM dX8_fix_58 rfl rfl ⟨by omega, by omega⟩ ⟨by omega, by omega⟩ (fun cc => absurd cc (by omega)) (fun _ => ?_)
          refine jr_aload_n (pc' := 62) gM dX8_fix_61 rfl rfl ?_
          refine jr_iload_n (pc' := 63) gM dX8_fix_62 rfl rfl ?_
          refine jr_iload_n (pc' := 64) gM dX8_fix_63 rfl rfl ?_
          refine jr_inv (pc' := 67) (as := [_, _]) gM dX8_fix_64 rfl kX8_86 rfl rfl rfl (Nat.le_of_ble_eq_true rfl) ?_
          refine goes_ok hc1 hn hV hh (by omega) (Or.inl rfl) (fun σ' k1 k2 => ?_)
          dsimp only [Option.toList, List.cons_append, List.nil_append]
          refine jr_goto (tgt := 96) gM dX8_fix_67 rfl ?_
          refine jr_iconst (pc' := 97) gM dX8_fix_96 rfl ?_
          refine jr_zreturn dX8_fix_97 rfl (by first | omega | exact bI_01 _) ?_
          exact hK1 o (alF n hp o) rfl (by omega) (Or.inr (Or.inl ⟨rfl, rfl⟩)) σ' (hC.heaps (alF_HV hV (by omega)) (fun v hv => by rw [k1 v hv, if_pos rfl]) k2) (fun c hc => k2 c (by omega))
        · refine jr_aload_n (pc' := 32) gM dX8_fix_31 rfl rfl ?_
          refine jr_gfr (pc' := 35) gM dX8_fix_32 rfl fX8_32 rfl rfl ?_
          refine jr_iload_n (pc' := 36) gM dX8_fix_35 rfl rfl ?_
          refine jr_iald (pc' := 37) (o) gM dX8_fix_36 rfl rfl (rfl) (by omega) (by decide) ?_
          rw [hh o (by omega)]
          refine jr_iconst (pc' := 38) gM dX8_fix_37 rfl ?_
          refine jr_icmp_ne (tgt := 43) (pc' := 41) gM dX8_fix_38 rfl rfl ⟨by omega, by omega⟩ ⟨by omega, by omega⟩ (fun c38 => ?_) (fun c38 => ?_)
          · rcases hV.cases o with e | ⟨k, e⟩
            · exact absurd e c38
            · have hl := hV.lead e
              refine jr_iload_n (pc' := 44) gM dX8_fix_43 rfl rfl ?_
              refine jr_iconst (pc' := 45) gM dX8_fix_44 rfl ?_
              refine jr_icmp_ne (tgt := 56) (pc' := 48) gM dX8_fix_45 rfl rfl ⟨by omega, by omega⟩ ⟨by omega, by omega⟩ (fun _ => ?_) (fun cc => absurd cc (by omega))
              refine jr_iload_n (pc' := 57) gM dX8_fix_56 rfl rfl ?_
              refine jr_iload_n (pc' := 58) gM dX8_fix_57 rfl rfl ?_
              refine jr_icmp_ne (tgt := 70) (pc' := 61) gM dX8_fix_58 rfl rfl ⟨by omega, by omega⟩ ⟨by omega, by omega⟩ (fun _ => ?_) (fun cc => absurd cc (by omega))
              refine jr_aload_n (pc' := 71) gM dX8_fix_70 rfl rfl ?_
              refine jr_gfr (pc' := 74) gM dX8_fix_71 rfl fX8_32 rfl rfl ?_
              refine jr_iload_n (pc' := 75) gM dX8_fix_74 rfl rfl ?_
              refine jr_iald (pc' := 76) (u) gM dX8_fix_75 rfl rfl (rfl) (by omega) (by decide) ?_
              rw [hh u (by omega)]
              refine jr_aload_n (pc' := 77) gM dX8_fix_76 rfl rfl ?_
              refine jr_gfr (pc' := 80) gM dX8_fix_77 rfl fX8_32 rfl rfl ?_
              refine jr_iload_n (pc' := 81) gM dX8_fix_80 rfl rfl ?_
              refine jr_iald (pc' := 82) (o) gM dX8_fix_81 rfl rfl (rfl) (by omega) (by decide) ?_
              rw [hh o (by omega), e]
              refine jr_icmp_eq (tgt := 96) (pc' := 85) gM dX8_fix_82 rfl rfl ⟨by omega, by omega⟩ ⟨by omega, by omega⟩ (fun c82 => ?_) (fun c82 => ?_)
              · refine jr_iconst (pc' := 97) gM dX8_fix_96 rfl ?_
                refine jr_zreturn dX8_fix_97 rfl (by first | omega | exact bI_01 _) ?_
                refine hK1 u (inF n hp u k) rfl (by omega) (Or.inr (Or.inr ⟨o, k, rfl, by omega, by omega, e, rfl⟩)) σ (hC.heaps (inF_HV hV (by omega)) (fun v hv => ?_) (fun _ _ => rfl)) (fun _ _ => rfl)
                unfold inF
                rw [if_pos c82]
                exact hh v hv
              · refine jr_aload_n (pc' := 86) gM dX8_fix_85 rfl rfl ?_
                refine jr_iload_n (pc' := 87) gM dX8_fix_86 rfl rfl ?_
                refine jr_aload_n (pc' := 88) gM dX8_fix_87 rfl rfl ?_
                refine jr_gfr (pc' := 91) gM dX8_fix_88 rfl fX8_32 rfl rfl ?_
                refine jr_iload_n (pc' := 92) gM dX8_fix_91 rfl rfl ?_
                refine jr_iald (pc' := 93) (o) gM dX8_fix_92 rfl rfl (rfl) (by omega) (by decide) ?_
                rw [hh o (by omega), e]
                refine jr_inv (pc' := 96) (as := [_, _]) gM dX8_fix_93 rfl kX8_86 rfl rfl rfl (Nat.le_of_ble_eq_true rfl) ?_
                refine goes_ok hc1 hn hV hh (by omega) (Or.inr ⟨hl.1, hl.2.2.2, c82⟩) (fun σ' k1 k2 => ?_)
                dsimp only [Option.toList, List.cons_append, List.nil_append]
                refine jr_iconst (pc' := 97) gM dX8_fix_96 rfl ?_
                refine jr_zreturn dX8_fix_97 rfl (by first | omega | exact bI_01 _) ?_
                refine hK1 u (inF n hp u k) rfl (by omega) (Or.inr (Or.inr ⟨o, k, rfl, by omega, by omega, e, rfl⟩)) σ' (hC.heaps (inF_HV hV (by omega)) (fun v hv => ?_) k2) (fun c hc => k2 c (by omega))
                rw [k1 v hv, if_neg (fun q => by subst q; exact c82 hl.1)]
          · exact no (Or.inr ⟨hy, by omega, Or.inr c38⟩)
end jMp
