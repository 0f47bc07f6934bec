/-! ===== WordSenses: what it holds, and its public methods ===== -/
def bdOk (n : Nat) (bd : Nat → Nat → Int) (m : Nat) : Prop := (∀ u v, bd u v = 0 ∨ bd u v = 1 ∨ bd u v = 2) ∧ (∀ u v, bd u v = bd v u) ∧ (∀ u, bd u u = 0) ∧ (∀ u v, bd u v ≠ 0 → u < n ∧ v < n ∧ 1 ≤ m) ∧ m ≤ 60
def CI (n : Nat) (nb : Nat → Nat) (yr wt hp : Nat → Int) (pr ga sh fe : Int) (bd : Nat → Nat → Int) (m s : Nat) (se : Nat → Nat) (sp : Int) (σ : jMem) : Prop :=
  UI n nb yr wt σ ∧ HV n hp ∧ HI hp σ ∧ BI bd m σ ∧ bdOk n bd m ∧ (σ 10 4 = pr ∧ 0 ≤ pr ∧ pr ≤ 200) ∧ (σ 10 5 = ga ∧ 0 ≤ ga ∧ ga ≤ 50) ∧ (σ 17 1 = sh ∧ 0 ≤ sh ∧ sh ≤ 100) ∧ (σ 17 2 = fe ∧ 0 ≤ fe ∧ fe ≤ 9) ∧ (σ 18 4 = (s : Int) ∧ s ≤ 5 ∧ ∀ t, t < s → σ 19 t = (se t : Int) ∧ se t < 2 ^ 20) ∧ σ 14 3 = sp
section jPub
variable {n : Nat} {nb : Nat → Nat} {yr wt hp : Nat → Int} {pr ga sh fe : Int} {bd : Nat → Nat → Int} {m s : Nat} {se : Nat → Nat} {sp : Int} {σ : jMem} {K : Option Value → jMem → Prop} {d : Nat}
theorem CI.of {σ' : jMem} (h : CI n nb yr wt hp pr ga sh fe bd m s se sp σ) (he : ∀ c, c ≤ 19 → c ≠ 13 → c ≠ 15 → c ≠ 16 → c ≠ 18 → σ' c = σ c) (h18 : σ' 18 4 = σ 18 4) : CI n nb yr wt hp pr ga sh fe bd m s se sp σ' := by
  obtain ⟨h1, h2, h3, h4, h5, h6, h7, h8, h9, h10, h11⟩ := h
  refine ⟨h1.of (fun c _ _ => he c (by omega) (by omega) (by omega) (by omega) (by omega)), h2, h3.of (he 11 (by omega) (by omega) (by omega) (by omega) (by omega)) (he 12 (by omega) (by omega) (by omega) (by omega) (by omega)), h4.of (fun c _ _ => he c (by omega) (by omega) (by omega) (by omega) (by omega)), h5, ?_⟩
  rw [he 10 (by omega) (by omega) (by omega) (by omega) (by omega), he 17 (by omega) (by omega) (by omega) (by omega) (by omega), h18, he 19 (by omega) (by omega) (by omega) (by omega) (by omega), he 14 (by omega) (by omega) (by omega) (by omega) (by omega)]
  exact ⟨h6, h7, h8, h9, h10, h11⟩
/-- the heaps change, and what lies beside them doesn't -/
theorem CI.heaps {hp' : Nat → Int} {σ' : jMem} (h : CI n nb yr wt hp pr ga sh fe bd m s se sp σ) (hV : HV n hp') (hI : HI hp' σ') (he : ∀ c, c ≠ 11 → c ≠ 12 → c ≠ 13 → σ' c = σ c) : CI n nb yr wt hp' pr ga sh fe bd m s se sp σ' := by
  obtain ⟨h1, h2, h3, h4, h5, h6, h7, h8, h9, h10, h11⟩ := h
  refine ⟨h1.of (fun c _ _ => he c (by omega) (by omega) (by omega)), hV, hI, h4.of (fun c _ _ => he c (by omega) (by omega) (by omega)), h5, ?_⟩
  rw [he 10 (by omega) (by omega) (by omega), he 17 (by omega) (by omega) (by omega), he 18 (by omega) (by omega) (by omega), he 19 (by omega) (by omega) (by omega), he 14 (by omega) (by omega) (by omega)]
  exact ⟨h6, h7, h8, h9, h10, h11⟩
theorem CI.bonds {bd' : Nat → Nat → Int} {m' : Nat} {σ' : jMem} (h : CI n nb yr wt hp pr ga sh fe bd m s se sp σ) (hB : BI bd' m' σ') (hO : bdOk n bd' m') (he : ∀ c, c ≠ 7 → c ≠ 8 → c ≠ 9 → σ' c = σ c) : CI n nb yr wt hp pr ga sh fe bd' m' s se sp σ' := by
  obtain ⟨h1, h2, h3, h4, h5, h6, h7, h8, h9, h10, h11⟩ := h
  refine ⟨h1.of (fun c _ _ => he c (by omega) (by omega) (by omega)), h2, h3.of (he 11 (by omega) (by omega) (by omega)) (he 12 (by omega) (by omega) (by omega)), hB, hO, ?_⟩
  rw [he 10 (by omega) (by omega) (by omega), he 17 (by omega) (by omega) (by omega), he 18 (by omega) (by omega) (by omega), he 19 (by omega) (by omega) (by omega), he 14 (by omega) (by omega) (by omega)]
  exact ⟨h6, h7, h8, h9, h10, h11⟩
theorem CI.SI (h : CI n nb yr wt hp pr ga sh fe bd m s se sp σ) : SI n hp (fun a b => jfar wt (nb a) (nb b)) bd m pr σ := by
  obtain ⟨h1, h2, h3, h4, h5, h6, h7, h8, h9, h10, h11⟩ := h
  exact ⟨h1.1, h1.2.1, h2, h3, h4, h1.2.2.2.2.2.1, fun a b _ _ => jfar_le (fun k hk => (h1.2.2.2.2.1 k hk).2), h6⟩
set_option maxRecDepth 100000 in
theorem x_weight {a w : Int} (hC : CI n nb yr wt hp pr ga sh fe bd m s se sp σ) (ha : jR a) (hw : jR w)
    (hK0 : ¬ ((0 ≤ a ∧ a ≤ 19) ∧ 1 ≤ w ∧ w ≤ 9) → K (some (.int (jI 0))) σ) (hK1 : ∀ k : Nat, a = (k : Int) → k < 20 → 1 ≤ w ∧ w ≤ 9 → ∀ σ' : jMem, CI n nb yr (jset wt k w) hp pr ga sh fe bd m s se sp σ' → (∀ c, 24 ≤ c → σ' c = σ c) → K (some (.int (jI 1))) σ') : jRun (d + 9) mX7_weight [.ref 0, .int (jI a), .int (jI w)] σ K := by
  refine jenter (lv := [_, _, _]) rfl rfl (Nat.le_of_ble_eq_true rfl) ?_
  refine jr_iload_n (pc' := 1) gM dX7_weight_0 rfl rfl ?_
  refine jr_iconst (pc' := 2) gM dX7_weight_1 rfl ?_
  refine jr_bipush (pc' := 4) gM dX7_weight_2 rfl rfl ?_
  refine jr_ins (pc' := 7) (as := [_, _, _]) gM dX7_weight_4 rfl kX7_66 rfl rfl (Nat.le_of_ble_eq_true rfl) ?_
  refine within_ok ha ⟨by omega, by omega⟩ ⟨by omega, by omega⟩ ?_
  dsimp only [Option.toList, List.cons_append, List.nil_append]
  refine jr_pb_eq (tgt := 20) (pc' := 10) gM dX7_weight_7 rfl rfl (fun c7 => ?_) (fun c7 => ?_)
  · refine jr_iconst (pc' := 21) gM dX7_weight_20 rfl ?_
    refine jr_zreturn dX7_weight_21 rfl (by first | omega | exact bI_01 _) ?_
    exact hK0 (fun q => c7 q.1)
  · refine jr_iload_n (pc' := 11) gM dX7_weight_10 rfl rfl ?_
    refine jr_iconst (pc' := 12) gM dX7_weight_11 rfl ?_
    refine jr_bipush (pc' := 14) gM dX7_weight_12 rfl rfl ?_
    refine jr_ins (pc' := 17) (as := [_, _, _]) gM dX7_weight_14 rfl kX7_66 rfl rfl (Nat.le_of_ble_eq_true rfl) ?_
    refine within_ok hw ⟨by omega, by omega⟩ ⟨by omega, by omega⟩ ?_
    dsimp only [Option.toList, List.cons_append, List.nil_append]
    refine jr_pb_ne (tgt := 22) (pc' := 20) gM dX7_weight_17 rfl rfl (fun c17 => ?_) (fun c17 => ?_)
    · obtain ⟨k, rfl⟩ := Int.eq_ofNat_of_zero_le c7.1
      refine jr_aload_n (pc' := 23) gM dX7_weight_22 rfl rfl ?_
      refine jr_gfr (pc' := 26) gM dX7_weight_23 rfl fX7_10 rfl rfl ?_
      refine jr_iload_n (pc' := 27) gM dX7_weight_26 rfl rfl ?_
      refine jr_iload_n (pc' := 28) gM dX7_weight_27 rfl rfl ?_
      refine jr_inv (pc' := 31) (as := [_, _]) gM dX7_weight_28 rfl kX7_70 rfl rfl rfl (Nat.le_of_ble_eq_true rfl) ?_
      obtain ⟨h1, h2, h3, h4, h5, h6⟩ := hC
      refine weigh_ok h1 (by omega) c17 (fun σ' k1 k2 => ?_)
      dsimp only [Option.toList, List.cons_append, List.nil_append]
      refine jr_iconst (pc' := 32) gM dX7_weight_31 rfl ?_
      refine jr_zreturn dX7_weight_32 rfl (by first | omega | exact bI_01 _) ?_
      refine hK1 k rfl (by omega) c17 σ' ⟨k1, h2, h3.of (k2 11 (by omega)) (k2 12 (by omega)), h4.of (fun c _ _ => k2 c (by omega)), h5, ?_⟩ (fun c hc => k2 c (by omega))
      rw [k2 10 (by omega), k2 17 (by omega), k2 18 (by omega), k2 19 (by omega), k2 14 (by omega)]
      exact h6
    · refine jr_iconst (pc' := 21) gM dX7_weight_20 rfl ?_
      refine jr_zreturn dX7_weight_21 rfl (by first | omega | exact bI_01 _) ?_
      exact hK0 (fun q => c17 q.2)
set_option maxRecDepth 100000 in
theorem x_prices {p g : Int} (hC : CI n nb yr wt hp pr ga sh fe bd m s se sp σ) (h1 : jR p) (h2 : jR g)
    (hK0 : ¬ ((0 ≤ p ∧ p ≤ 200) ∧ 0 ≤ g ∧ g ≤ 50) → K (some (.int (jI 0))) σ) (hK1 : (0 ≤ p ∧ p ≤ 200) ∧ 0 ≤ g ∧ g ≤ 50 → ∀ σ' : jMem, CI n nb yr wt hp p g sh fe bd m s se sp σ' → (∀ c, 24 ≤ c → σ' c = σ c) → K (some (.int (jI 1))) σ') : jRun (d + 9) mX7_prices [.ref 0, .int (jI p), .int (jI g)] σ K := by
  refine jenter (lv := [_, _, _]) rfl rfl (Nat.le_of_ble_eq_true rfl) ?_
  refine jr_iload_n (pc' := 1) gM dX7_prices_0 rfl rfl ?_
  refine jr_iconst (pc' := 2) gM dX7_prices_1 rfl ?_
  refine jr_sipush (pc' := 5) gM dX7_prices_2 rfl rfl ?_
  refine jr_ins (pc' := 8) (as := [_, _, _]) gM dX7_prices_5 rfl kX7_66 rfl rfl (Nat.le_of_ble_eq_true rfl) ?_
  refine within_ok h1 ⟨by omega, by omega⟩ ⟨by omega, by omega⟩ ?_
  dsimp only [Option.toList, List.cons_append, List.nil_append]
  refine jr_pb_eq (tgt := 21) (pc' := 11) gM dX7_prices_8 rfl rfl (fun c8 => ?_) (fun c8 => ?_)
  · refine jr_iconst (pc' := 22) gM dX7_prices_21 rfl ?_
    refine jr_zreturn dX7_prices_22 rfl (by first | omega | exact bI_01 _) ?_
    exact hK0 (fun q => c8 q.1)
  · refine jr_iload_n (pc' := 12) gM dX7_prices_11 rfl rfl ?_
    refine jr_iconst (pc' := 13) gM dX7_prices_12 rfl ?_
    refine jr_bipush (pc' := 15) gM dX7_prices_13 rfl rfl ?_
    refine jr_ins (pc' := 18) (as := [_, _, _]) gM dX7_prices_15 rfl kX7_66 rfl rfl (Nat.le_of_ble_eq_true rfl) ?_
    refine within_ok h2 ⟨by omega, by omega⟩ ⟨by omega, by omega⟩ ?_
    dsimp only [Option.toList, List.cons_append, List.nil_append]
    refine jr_pb_ne (tgt := 23) (pc' := 21) gM dX7_prices_18 rfl rfl (fun c18 => ?_) (fun c18 => ?_)
    · refine jr_aload_n (pc' := 24) gM dX7_prices_23 rfl rfl ?_
      refine jr_gfr (pc' := 27) gM dX7_prices_24 rfl fX7_28 rfl rfl ?_
      refine jr_iload_n (pc' := 28) gM dX7_prices_27 rfl rfl ?_
      refine jr_pf (pc' := 31) gM dX7_prices_28 rfl fX7_74 rfl rfl ⟨rfl, by decide +kernel⟩ ?_
      refine jr_aload_n (pc' := 32) gM dX7_prices_31 rfl rfl ?_
      refine jr_gfr (pc' := 35) gM dX7_prices_32 rfl fX7_28 rfl rfl ?_
      refine jr_iload_n (pc' := 36) gM dX7_prices_35 rfl rfl ?_
      refine jr_pf (pc' := 39) gM dX7_prices_36 rfl fX7_78 rfl rfl ⟨rfl, by decide +kernel⟩ ?_
      refine jr_iconst (pc' := 40) gM dX7_prices_39 rfl ?_
      refine jr_zreturn dX7_prices_40 rfl (by first | omega | exact bI_01 _) ?_
      obtain ⟨k1, k2, k3, k4, k5, k6, k7, k8, k9, k10, k11⟩ := hC
      refine hK1 ⟨c8, c18⟩ _ ⟨k1.of (fun c _ _ => by rw [jup_row (by omega), jup_row (by omega)]), k2, k3.of (by rw [jup_row (by omega), jup_row (by omega)]) (by rw [jup_row (by omega), jup_row (by omega)]), k4.of (fun c _ _ => by rw [jup_row (by omega), jup_row (by omega)]), k5, ⟨by rw [jup_ne (Or.inr (by omega)), jup_at], c8⟩, ⟨by rw [jup_at], c18⟩, ?_⟩ (fun c hc => by rw [jup_row (by omega), jup_row (by omega)])
      rw [jup_row (show (17 : Nat) ≠ 10 by omega), jup_row (show (17 : Nat) ≠ 10 by omega), jup_row (show (18 : Nat) ≠ 10 by omega), jup_row (show (18 : Nat) ≠ 10 by omega), jup_row (show (19 : Nat) ≠ 10 by omega), jup_row (show (19 : Nat) ≠ 10 by omega), jup_row (show (14 : Nat) ≠ 10 by omega), jup_row (show (14 : Nat) ≠ 10 by omega)]
      exact ⟨k8, k9, k10, k11⟩
    · refine jr_iconst (pc' := 22) gM dX7_prices_21 rfl ?_
      refine jr_zreturn dX7_prices_22 rfl (by first | omega | exact bI_01 _) ?_
      exact hK0 (fun q => c18 q.2)
set_option maxRecDepth 100000 in
theorem x_marks {p g : Int} (hC : CI n nb yr wt hp pr ga sh fe bd m s se sp σ) (h1 : jR p) (h2 : jR g)
    (hK0 : ¬ ((0 ≤ p ∧ p ≤ 100) ∧ 0 ≤ g ∧ g ≤ 9) → K (some (.int (jI 0))) σ) (hK1 : (0 ≤ p ∧ p ≤ 100) ∧ 0 ≤ g ∧ g ≤ 9 → ∀ σ' : jMem, CI n nb yr wt hp pr ga p g bd m s se sp σ' → (∀ c, 24 ≤ c → σ' c = σ c) → K (some (.int (jI 1))) σ') : jRun (d + 9) mX7_marks [.ref 0, .int (jI p), .int (jI g)] σ K := by
  refine jenter (lv := [_, _, _]) rfl rfl (Nat.le_of_ble_eq_true rfl) ?_
  refine jr_iload_n (pc' := 1) gM dX7_marks_0 rfl rfl ?_
  refine jr_iconst (pc' := 2) gM dX7_marks_1 rfl ?_
  refine jr_bipush (pc' := 4) gM dX7_marks_2 rfl rfl ?_
  refine jr_ins (pc' := 7) (as := [_, _, _]) gM dX7_marks_4 rfl kX7_66 rfl rfl (Nat.le_of_ble_eq_true rfl) ?_
  refine within_ok h1 ⟨by omega, by omega⟩ ⟨by omega, by omega⟩ ?_
  dsimp only [Option.toList, List.cons_append, List.nil_append]
  refine jr_pb_eq (tgt := 20) (pc' := 10) gM dX7_marks_7 rfl rfl (fun c7 => ?_) (fun c7 => ?_)
  · refine jr_iconst (pc' := 21) gM dX7_marks_20 rfl ?_
    refine jr_zreturn dX7_marks_21 rfl (by first | omega | exact bI_01 _) ?_
    exact hK0 (fun q => c7 q.1)
  · refine jr_iload_n (pc' := 11) gM dX7_marks_10 rfl rfl ?_
    refine jr_iconst (pc' := 12) gM dX7_marks_11 rfl ?_
    refine jr_bipush (pc' := 14) gM dX7_marks_12 rfl rfl ?_
    refine jr_ins (pc' := 17) (as := [_, _, _]) gM dX7_marks_14 rfl kX7_66 rfl rfl (Nat.le_of_ble_eq_true rfl) ?_
    refine within_ok h2 ⟨by omega, by omega⟩ ⟨by omega, by omega⟩ ?_
    dsimp only [Option.toList, List.cons_append, List.nil_append]
    refine jr_pb_ne (tgt := 22) (pc' := 20) gM dX7_marks_17 rfl rfl (fun c17 => ?_) (fun c17 => ?_)
    · refine jr_aload_n (pc' := 23) gM dX7_marks_22 rfl rfl ?_
      refine jr_gfr (pc' := 26) gM dX7_marks_23 rfl fX7_53 rfl rfl ?_
      refine jr_iload_n (pc' := 27) gM dX7_marks_26 rfl rfl ?_
      refine jr_pf (pc' := 30) gM dX7_marks_27 rfl fX7_81 rfl rfl ⟨rfl, by decide +kernel⟩ ?_
      refine jr_aload_n (pc' := 31) gM dX7_marks_30 rfl rfl ?_
      refine jr_gfr (pc' := 34) gM dX7_marks_31 rfl fX7_53 rfl rfl ?_
      refine jr_iload_n (pc' := 35) gM dX7_marks_34 rfl rfl ?_
      refine jr_pf (pc' := 38) gM dX7_marks_35 rfl fX7_84 rfl rfl ⟨rfl, by decide +kernel⟩ ?_
      refine jr_iconst (pc' := 39) gM dX7_marks_38 rfl ?_
      refine jr_zreturn dX7_marks_39 rfl (by first | omega | exact bI_01 _) ?_
      obtain ⟨k1, k2, k3, k4, k5, k6, k7, k8, k9, k10, k11⟩ := hC
      refine hK1 ⟨c7, c17⟩ _ ⟨k1.of (fun c _ _ => by rw [jup_row (by omega), jup_row (by omega)]), k2, k3.of (by rw [jup_row (by omega), jup_row (by omega)]) (by rw [jup_row (by omega), jup_row (by omega)]), k4.of (fun c _ _ => by rw [jup_row (by omega), jup_row (by omega)]), k5, ?_, ?_, ⟨by rw [jup_ne (Or.inr (by omega)), jup_at], c7⟩, ⟨by rw [jup_at], c17⟩, ?_⟩ (fun c hc => by rw [jup_row (by omega), jup_row (by omega)])
      · rw [jup_row (show (10 : Nat) ≠ 17 by omega), jup_row (show (10 : Nat) ≠ 17 by omega)]
        exact k6
      · rw [jup_row (show (10 : Nat) ≠ 17 by omega), jup_row (show (10 : Nat) ≠ 17 by omega)]
        exact k7
      · rw [jup_row (show (18 : Nat) ≠ 17 by omega), jup_row (show (18 : Nat) ≠ 17 by omega), jup_row (show (19 : Nat) ≠ 17 by omega), jup_row (show (19 : Nat) ≠ 17 by omega), jup_row (show (14 : Nat) ≠ 17 by omega), jup_row (show (14 : Nat) ≠ 17 by omega)]
        exact ⟨k10, k11⟩
    · refine jr_iconst (pc' := 21) gM dX7_marks_20 rfl ?_
      refine jr_zreturn dX7_marks_21 rfl (by first | omega | exact bI_01 _) ?_
      exact hK0 (fun q => c17 q.2)
theorem HV.grow (h : HV n hp) : HV (n + 1) hp := by
  refine ⟨fun u hu => h.1 u (by omega), fun u hu => ?_⟩
  rcases Nat.lt_or_ge u n with q | q
  · exact h.2 u q
  · exact Or.inl (h.1 u q)
theorem lnR_HV {c : Nat → Int} {u : Nat} (hV : HV n hp) (hu : u < n) : HV n (lnR n c hp pr ga u) := by
  unfold lnR
  split
  · split
    · exact hV
    · exact alF_HV hV hu
  · split
    · exact hV
    · exact inF_HV hV hu
theorem bdOk.grow (h : bdOk n bd m) : bdOk (n + 1) bd m := ⟨h.1, h.2.1, h.2.2.1, fun u v q => by have := h.2.2.2.1 u v q; omega, h.2.2.2.2⟩
set_option maxRecDepth 100000 in
theorem x_use {x y : Int} (hC : CI n nb yr wt hp pr ga sh fe bd m s se sp σ) (h1 : jR x) (h2 : jR y)
    (hK0 : ¬ ((0 ≤ x ∧ x ≤ 1048575) ∧ (1800 ≤ y ∧ y ≤ 1999) ∧ n < 40) → K (some (.int (jI (-1)))) σ)
    (hK1 : ∀ a : Nat, x = (a : Int) → a < 2 ^ 20 → 1800 ≤ y ∧ y ≤ 1999 → n < 40 → ∀ σ' : jMem, CI (n + 1) (jset nb n a) (jset yr n y) wt (lnR (n + 1) (fun h => jbs (fun o => jfar wt (jset nb n a n) (jset nb n a o)) hp (n + 1) h) hp pr ga n) pr ga sh fe bd m s se sp σ' → (∀ c, 24 ≤ c → σ' c = σ c) → K (some (.int (jI (n : Int)))) σ') : jRun (d + 9) mX7_use [.ref 0, .int (jI x), .int (jI y)] σ K := by
  refine jenter (lv := [_, _, _, _]) rfl rfl (Nat.le_of_ble_eq_true rfl) ?_
  refine jr_iload_n (pc' := 1) gM dX7_use_0 rfl rfl ?_
  refine jr_iconst (pc' := 2) gM dX7_use_1 rfl ?_
  refine jr_ldc (pc' := 4) gM dX7_use_2 rfl qX7_87 ?_
  refine jr_ins (pc' := 7) (as := [_, _, _]) gM dX7_use_4 rfl kX7_66 rfl rfl (Nat.le_of_ble_eq_true rfl) ?_
  refine within_ok h1 ⟨by omega, by omega⟩ ⟨by omega, by omega⟩ ?_
  dsimp only [Option.toList, List.cons_append, List.nil_append]
  refine jr_pb_eq (tgt := 23) (pc' := 10) gM dX7_use_7 rfl rfl (fun c7 => ?_) (fun c7 => ?_)
  · refine jr_iconst (pc' := 24) gM dX7_use_23 rfl ?_
    refine jr_ireturn dX7_use_24 rfl ?_
    exact hK0 (fun q => c7 q.1)
  · refine jr_iload_n (pc' := 11) gM dX7_use_10 rfl rfl ?_
    refine jr_sipush (pc' := 14) gM dX7_use_11 rfl rfl ?_
    refine jr_sipush (pc' := 17) gM dX7_use_14 rfl rfl ?_
    refine jr_ins (pc' := 20) (as := [_, _, _]) gM dX7_use_17 rfl kX7_66 rfl rfl (Nat.le_of_ble_eq_true rfl) ?_
    refine within_ok h2 ⟨by omega, by omega⟩ ⟨by omega, by omega⟩ ?_
    dsimp only [Option.toList, List.cons_append, List.nil_append]
    refine jr_pb_ne (tgt := 25) (pc' := 23) gM dX7_use_20 rfl rfl (fun c20 => ?_) (fun c20 => ?_)
    · have hn := hC.1.2.1
      refine jr_aload_n (pc' := 26) gM dX7_use_25 rfl rfl ?_
      refine jr_gfr (pc' := 29) gM dX7_use_26 rfl fX7_10 rfl rfl ?_
      refine jr_gfi (pc' := 32) gM dX7_use_29 rfl fX7_88 rfl rfl ?_
      refine jr_bipush (pc' := 34) gM dX7_use_32 rfl rfl ?_
      rw [hC.1.1]
      refine jr_icmp_lt (tgt := 39) (pc' := 37) gM dX7_use_34 rfl rfl ⟨by omega, by omega⟩ ⟨by omega, by omega⟩ (fun c34 => ?_) (fun c34 => ?_)
      · obtain ⟨a, rfl⟩ := Int.eq_ofNat_of_zero_le c7.1
        obtain ⟨k1, k2, k3, k4, k5, k6, k7, k8, k9, k10, k11⟩ := hC
        refine jr_aload_n (pc' := 40) gM dX7_use_39 rfl rfl ?_
        refine jr_gfr (pc' := 43) gM dX7_use_40 rfl fX7_10 rfl rfl ?_
        refine jr_iload_n (pc' := 44) gM dX7_use_43 rfl rfl ?_
        refine jr_iload_n (pc' := 45) gM dX7_use_44 rfl rfl ?_
        refine jr_inv (pc' := 48) (as := [_, _]) gM dX7_use_45 rfl kX7_91 rfl rfl rfl (Nat.le_of_ble_eq_true rfl) ?_
        refine take_ok k1 (by omega) (by omega) c20 (fun σ1 t1 t2 => ?_)
        dsimp only [Option.toList, List.cons_append, List.nil_append]
        refine jr_istore_n (pc' := 49) (lv' := [_, _, _, _]) gM dX7_use_48 rfl rfl (Nat.le_of_ble_eq_true rfl) ?_
        refine jr_aload_n (pc' := 50) gM dX7_use_49 rfl rfl ?_
        refine jr_gfr (pc' := 53) gM dX7_use_50 rfl fX7_28 rfl rfl ?_
        refine jr_iload_n (pc' := 54) gM dX7_use_53 rfl rfl ?_
        have hfr : ∀ a b, a < n + 1 → b < n + 1 → 0 ≤ σ1 6 (a * 40 + b) ∧ σ1 6 (a * 40 + b) ≤ 180 := fun a b ha hb => by
          rw [t1.2.2.2.2.2.1 a b ha hb]
          exact jfar_le (fun k hk => (t1.2.2.2.2.1 k hk).2)
        have hI1 : HI hp σ1 := k3.of (t2 11 (by omega)) (t2 12 (by omega))
        refine jr_inv (pc' := 57) (as := [_]) gM dX7_use_54 rfl kX7_95 rfl rfl rfl (Nat.le_of_ble_eq_true rfl) ?_
        refine layNew_ok (n := n + 1) (hp := hp) t1.1 t1.2.1 k2.grow hI1 rfl (fun o ho => hfr n o (by omega) ho) (by rw [t2 10 (by omega), k6.1]; exact k6.2) (by rw [t2 10 (by omega), k7.1]; exact k7.2) (fun σ2 l1 l2 => ?_)
        dsimp only [Option.toList, List.cons_append, List.nil_append]
        refine jr_iload_n (pc' := 58) gM dX7_use_57 rfl rfl ?_
        refine jr_ireturn dX7_use_58 rfl ?_
        have ec : (fun h : Nat => jbs (fun o => σ1 6 (n * 40 + o)) hp (n + 1) h) = (fun h : Nat => jbs (fun o => jfar wt (jset nb n a n) (jset nb n a o)) hp (n + 1) h) := by
          funext h
          unfold jbs
          apply js_congr
          intro i hi
          show (if hp i = (h : Int) then σ1 6 (n * 40 + i) else 0) = _
          rw [t1.2.2.2.2.2.1 n i (by omega) hi]
        rw [ec, t2 10 (by omega), k6.1, k7.1] at l1
        refine hK1 a rfl (by omega) c20 (by omega) σ2 ⟨t1.of (fun c _ _ => l2 c (by omega) (by omega) (by omega)), lnR_HV k2.grow (by omega), l1, ?_⟩ (fun c hc => by rw [l2 c (by omega) (by omega) (by omega), t2 c (by omega)])
        refine ⟨k4.of (fun c _ _ => by rw [l2 c (by omega) (by omega) (by omega), t2 c (by omega)]), k5.grow, ?_⟩
        rw [l2 10 (by omega) (by omega) (by omega), t2 10 (by omega), l2 17 (by omega) (by omega) (by omega), t2 17 (by omega), l2 18 (by omega) (by omega) (by omega), t2 18 (by omega), l2 19 (by omega) (by omega) (by omega), t2 19 (by omega), l2 14 (by omega) (by omega) (by omega), t2 14 (by omega)]
        exact ⟨k6, k7, k8, k9, k10, k11⟩
      · refine jr_iconst (pc' := 38) gM dX7_use_37 rfl ?_
        refine jr_ireturn dX7_use_38 rfl ?_
        exact hK0 (fun q => by omega)
    · refine jr_iconst (pc' := 24) gM dX7_use_23 rfl ?_
      refine jr_ireturn dX7_use_24 rfl ?_
      exact hK0 (fun q => c20 q.2.1)
set_option maxRecDepth 100000 in
theorem x_fix {x y : Int} (hC : CI n nb yr wt hp pr ga sh fe bd m s se sp σ) (h1 : jR x) (h2 : jR y)
    (hK0 : ¬ (0 ≤ x ∧ x < n) ∨ (y ≠ -1 ∧ y ≠ x ∧ (¬ (0 ≤ y ∧ y < n) ∨ hp y.toNat = -1)) → K (some (.int (jI 0))) σ)
    (hK1 : ∀ (u : Nat) (hp' : Nat → Int), x = (u : Int) → u < n → ((y = -1 ∧ hp' = opF n hp u) ∨ (y = (u : Int) ∧ hp' = alF n hp u) ∨ (∃ o k : Nat, y = (o : Int) ∧ o ≠ u ∧ o < n ∧ hp o = (k : Int) ∧ hp' = inF n hp u k)) → ∀ σ' : jMem, CI n nb yr wt hp' pr ga sh fe bd m s se sp σ' → (∀ c, 24 ≤ c → σ' c = σ c) → K (some (.int (jI 1))) σ') : jRun (d + 9) mX7_fix [.ref 0, .int (jI x), .int (jI y)] σ K := by
  have hn := hC.1.2.1
  have hc1 := hC.1.1
  have hV := hC.2.1
  have hI := hC.2.2.1
  refine jenter (lv := [_, _, _]) rfl rfl (Nat.le_of_ble_eq_true rfl) ?_
  refine jr_aload_n (pc' := 1) gM dX7_fix_0 rfl rfl ?_
  refine jr_gfr (pc' := 4) gM dX7_fix_1 rfl fX7_10 rfl rfl ?_
  refine jr_iload_n (pc' := 5) gM dX7_fix_4 rfl rfl ?_
  refine jr_inv (pc' := 8) (as := [_]) gM dX7_fix_5 rfl kX7_99 rfl rfl rfl (Nat.le_of_ble_eq_true rfl) ?_
  refine has_ok h1 ⟨by omega, by omega⟩ ?_
  dsimp only [Option.toList, List.cons_append, List.nil_append]
  rw [hc1]
  refine jr_pb_ne (tgt := 13) (pc' := 11) gM dX7_fix_8 rfl rfl (fun c8 => ?_) (fun c8 => ?_)
  · obtain ⟨u, rfl⟩ := Int.eq_ofNat_of_zero_le c8.1
    refine jr_iload_n (pc' := 14) gM dX7_fix_13 rfl rfl ?_
    refine jr_iconst (pc' := 15) gM dX7_fix_14 rfl ?_
    refine jr_icmp_ne (tgt := 28) (pc' := 18) gM dX7_fix_15 rfl rfl ⟨by omega, by omega⟩ ⟨by omega, by omega⟩ (fun c15 => ?_) (fun c15 => ?_)
    · refine jr_iload_n (pc' := 29) gM dX7_fix_28 rfl rfl ?_
      refine jr_iload_n (pc' := 30) gM dX7_fix_29 rfl rfl ?_
      refine jr_icmp_ne (tgt := 43) (pc' := 33) gM dX7_fix_30 rfl rfl ⟨by omega, by omega⟩ ⟨by omega, by omega⟩ (fun c30 => ?_) (fun c30 => ?_)
      · refine jr_aload_n (pc' := 44) gM dX7_fix_43 rfl rfl ?_
        refine jr_gfr (pc' := 47) gM dX7_fix_44 rfl fX7_10 rfl rfl ?_
        refine jr_iload_n (pc' := 48) gM dX7_fix_47 rfl rfl ?_
        refine jr_inv (pc' := 51) (as := [_]) gM dX7_fix_48 rfl kX7_99 rfl rfl rfl (Nat.le_of_ble_eq_true rfl) ?_
        refine has_ok h2 ⟨by omega, by omega⟩ ?_
        dsimp only [Option.toList, List.cons_append, List.nil_append]
        rw [hc1]
        refine jr_pb_eq (tgt := 65) (pc' := 54) gM dX7_fix_51 rfl rfl (fun c51 => ?_) (fun c51 => ?_)
        · refine jr_iconst (pc' := 66) gM dX7_fix_65 rfl ?_
          refine jr_zreturn dX7_fix_66 rfl (by first | omega | exact bI_01 _) ?_
          exact hK0 (Or.inr ⟨c15, c30, Or.inl c51⟩)
        · obtain ⟨o, rfl⟩ := Int.eq_ofNat_of_zero_le c51.1
          refine jr_aload_n (pc' := 55) gM dX7_fix_54 rfl rfl ?_
          refine jr_gfr (pc' := 58) gM dX7_fix_55 rfl fX7_28 rfl rfl ?_
          refine jr_iload_n (pc' := 59) gM dX7_fix_58 rfl rfl ?_
          refine jr_inv (pc' := 62) (as := [_]) gM dX7_fix_59 rfl kX7_109 rfl rfl rfl (Nat.le_of_ble_eq_true rfl) ?_
          refine isOpen_ok hn hV hI (by omega) ?_
          dsimp only [Option.toList, List.cons_append, List.nil_append]
          refine jr_pb_eq (tgt := 67) (pc' := 65) gM dX7_fix_62 rfl rfl (fun c62 => ?_) (fun c62 => ?_)
          · rcases hV.cases o with e | ⟨k, e⟩
            · exact absurd e c62
            · refine jr_aload_n (pc' := 68) gM dX7_fix_67 rfl rfl ?_
              refine jr_gfr (pc' := 71) gM dX7_fix_68 rfl fX7_28 rfl rfl ?_
              refine jr_iload_n (pc' := 72) gM dX7_fix_71 rfl rfl ?_
              refine jr_aload_n (pc' := 73) gM dX7_fix_72 rfl rfl ?_
              refine jr_gfr (pc' := 76) gM dX7_fix_73 rfl fX7_28 rfl rfl ?_
              refine jr_gfr (pc' := 79) gM dX7_fix_76 rfl fX7_112 rfl rfl ?_
              refine jr_iload_n (pc' := 80) gM dX7_fix_79 rfl rfl ?_
              refine jr_iald (pc' := 81) _ gM dX7_fix_80 rfl rfl rfl (by omega) (by decide) ?_
              rw [hI.1 o (by omega), e]
              refine jr_inv (pc' := 84) (as := [_, _]) gM dX7_fix_81 rfl kX7_116 rfl rfl rfl (Nat.le_of_ble_eq_true rfl) ?_
              have hl := hV.lead e
              refine putInto_ok hc1 hn hV hI (by omega) hl.1 hl.2.2.2 (fun σ' k1 k2 => ?_)
              dsimp only [Option.toList, List.cons_append, List.nil_append]
              refine jr_iconst (pc' := 85) gM dX7_fix_84 rfl ?_
              refine jr_zreturn dX7_fix_85 rfl (by first | omega | exact bI_01 _) ?_
              exact hK1 u _ rfl (by omega) (Or.inr (Or.inr ⟨o, k, rfl, by omega, by omega, e, rfl⟩)) σ' (hC.heaps (inF_HV hV (by omega)) k1 (fun c a b _ => k2 c a b)) (fun c hc => k2 c (by omega) (by omega))
          · refine jr_iconst (pc' := 66) gM dX7_fix_65 rfl ?_
            refine jr_zreturn dX7_fix_66 rfl (by first | omega | exact bI_01 _) ?_
            exact hK0 (Or.inr ⟨c15, c30, Or.inr c62⟩)
      · refine jr_aload_n (pc' := 34) gM dX7_fix_33 rfl rfl ?_
        refine jr_gfr (pc' := 37) gM dX7_fix_34 rfl fX7_28 rfl rfl ?_
        refine jr_iload_n (pc' := 38) gM dX7_fix_37 rfl rfl ?_
        refine jr_inv (pc' := 41) (as := [_]) gM dX7_fix_38 rfl kX7_106 rfl rfl rfl (Nat.le_of_ble_eq_true rfl) ?_
        refine putAlone_ok hc1 hn hV hI (by omega) (fun σ' k1 k2 => ?_)
        dsimp only [Option.toList, List.cons_append, List.nil_append]
        refine jr_iconst (pc' := 42) gM dX7_fix_41 rfl ?_
        refine jr_zreturn dX7_fix_42 rfl (by first | omega | exact bI_01 _) ?_
        exact hK1 u _ rfl (by omega) (Or.inr (Or.inl ⟨c30, rfl⟩)) σ' (hC.heaps (alF_HV hV (by omega)) k1 (fun c a b _ => k2 c a b)) (fun c hc => k2 c (by omega) (by omega))
    · refine jr_aload_n (pc' := 19) gM dX7_fix_18 rfl rfl ?_
      refine jr_gfr (pc' := 22) gM dX7_fix_19 rfl fX7_28 rfl rfl ?_
      refine jr_iload_n (pc' := 23) gM dX7_fix_22 rfl rfl ?_
      refine jr_inv (pc' := 26) (as := [_]) gM dX7_fix_23 rfl kX7_103 rfl rfl rfl (Nat.le_of_ble_eq_true rfl) ?_
      refine open_ok hc1 hn hV hI (by omega) (fun σ' k1 k2 => ?_)
      dsimp only [Option.toList, List.cons_append, List.nil_append]
      refine jr_iconst (pc' := 27) gM dX7_fix_26 rfl ?_
      refine jr_zreturn dX7_fix_27 rfl (by first | omega | exact bI_01 _) ?_
      exact hK1 u _ rfl (by omega) (Or.inl ⟨c15, rfl⟩) σ' (hC.heaps (opF_HV hV) k1 (fun c a b _ => k2 c a b)) (fun c hc => k2 c (by omega) (by omega))
  · refine jr_iconst (pc' := 12) gM dX7_fix_11 rfl ?_
    refine jr_zreturn dX7_fix_12 rfl (by first | omega | exact bI_01 _) ?_
    exact hK0 (Or.inl c8)
end jPub
