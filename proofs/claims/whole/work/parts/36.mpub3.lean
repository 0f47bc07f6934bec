/-! ===== the reference: bond, free, settle, heap, size, far ===== -/
section jMr
variable {n : Nat} {nb : Nat → Nat} {yr wt hp : Nat → Int} {pr ga sh fe : Int} {m : Nat} {ba bb : Nat → Nat} {bm : Nat → Int} {s : Nat} {se : Nat → Nat} {sp : Int} {σ : jMem} {K : Option Value → jMem → Prop} {d : Nat}
theorem MI.bonds {m' : Nat} {ba' bb' : Nat → Nat} {bm' : Nat → Int} {σ' : jMem} (h : MI n nb yr wt hp pr ga sh fe m ba bb bm s se sp σ) (hL : ML m' ba' bb' bm' σ') (hB : BL n m' ba' bb' bm') (h1 : ∀ j, j ≠ 10 → σ' 24 j = σ 24 j) (he : ∀ c, c ≠ 24 → c ≠ 30 → c ≠ 31 → c ≠ 32 → σ' c = σ c) : MI n nb yr wt hp pr ga sh fe m' ba' bb' bm' s se sp σ' := by
  obtain ⟨a1, a2, a3, a4, a5, a6, a7, ⟨a8, a8'⟩, a9⟩ := h
  unfold MI
  rw [h1 5 (by omega), h1 1 (by omega), h1 2 (by omega), h1 3 (by omega), h1 4 (by omega), h1 14 (by omega), h1 16 (by omega), he 25 (by omega) (by omega) (by omega) (by omega), he 26 (by omega) (by omega) (by omega) (by omega), he 27 (by omega) (by omega) (by omega) (by omega), he 28 (by omega) (by omega) (by omega) (by omega), he 29 (by omega) (by omega) (by omega) (by omega), he 33 (by omega) (by omega) (by omega) (by omega)]
  exact ⟨a1, a2, a3, a4, a5, a6, a7, ⟨hL, hB⟩, a9⟩
theorem bdL_zero_iff (h : BL n m ba bb bm) (u v : Nat) : bdL ba bb bm m u v = 0 ↔ ∀ k, k < m → ¬ smP ba bb k u v := by
  rcases bdL_cases h u v with ⟨e, q⟩ | ⟨k, hk, hs, e⟩
  · exact ⟨fun _ => q, fun _ => e⟩
  · constructor
    · intro z
      have := (h.2.1 k hk).2.2.2
      omega
    · intro q
      exact absurd hs (q k hk)
set_option maxRecDepth 100000 in
theorem m_bond {x y b : Int} (hC : MI n nb yr wt hp pr ga sh fe m ba bb bm s se sp σ) (h1 : jR x) (h2 : jR y) (hb : b = 0 ∨ b = 1)
    (hK0 : ¬ (x ≠ y ∧ (0 ≤ x ∧ x < n) ∧ 0 ≤ y ∧ y < n) ∨ (bdL ba bb bm m x.toNat y.toNat = 0 ∧ m = 60) → K (some (.int (jI 0))) σ)
    (hK1 : ∀ a c : Nat, x = (a : Int) → y = (c : Int) → a < n → c < n → a ≠ c → ¬ (bdL ba bb bm m a c = 0 ∧ m = 60) → ∀ (m' : Nat) (ba' bb' : Nat → Nat) (bm' : Nat → Int) (σ' : jMem), MI n nb yr wt hp pr ga sh fe m' ba' bb' bm' s se sp σ' → bdL ba' bb' bm' m' = bdS (bdL ba bb bm m) a c (2 - b) → m' = (if bdL ba bb bm m a c = 0 then m + 1 else m) → (∀ c, c < 24 → σ' c = σ c) → K (some (.int (jI 1))) σ') : jRun (d + 9) mX8_bond [.ref 24, .int (jI x), .int (jI y), .int (jI b)] σ K := by
  have hn := hC.1.2
  have hc1 := hC.1.1
  have hL := hC.2.2.2.2.2.2.2.1.1
  have hB := hC.2.2.2.2.2.2.2.1.2
  have hm := hB.1
  have no : ¬ (x ≠ y ∧ (0 ≤ x ∧ x < n) ∧ 0 ≤ y ∧ y < n) → jV (jP mX8_bond (d + 9) K) 21 [some (.ref 24), some (.int (jI x)), some (.int (jI y)), some (.int (jI b)), none] [] σ := by
    intro q
    refine jr_iconst (pc' := 22) gM dX8_bond_21 rfl ?_
    refine jr_zreturn dX8_bond_22 rfl (by first | omega | exact bI_01 _) ?_
    exact hK0 (Or.inl q)
  refine jenter (lv := [_, _, _, _, _]) rfl rfl (Nat.le_of_ble_eq_true rfl) ?_
  refine jr_aload_n (pc' := 1) gM dX8_bond_0 rfl rfl ?_
  refine jr_iload_n (pc' := 2) gM dX8_bond_1 rfl rfl ?_
  refine jr_inv (pc' := 5) (as := [_]) gM dX8_bond_2 rfl kX8_74 rfl rfl rfl (Nat.le_of_ble_eq_true rfl) ?_
  refine isUse_ok hc1 hn h1 ?_
  dsimp only [Option.toList, List.cons_append, List.nil_append]
  refine jr_pb_eq (tgt := 21) (pc' := 8) gM dX8_bond_5 rfl rfl (fun c5 => ?_) (fun c5 => ?_)
  · exact no (fun q => c5 q.2.1)
  · refine jr_aload_n (pc' := 9) gM dX8_bond_8 rfl rfl ?_
    refine jr_iload_n (pc' := 10) gM dX8_bond_9 rfl rfl ?_
    refine jr_inv (pc' := 13) (as := [_]) gM dX8_bond_10 rfl kX8_74 rfl rfl rfl (Nat.le_of_ble_eq_true rfl) ?_
    refine isUse_ok hc1 hn h2 ?_
    dsimp only [Option.toList, List.cons_append, List.nil_append]
    refine jr_pb_eq (tgt := 21) (pc' := 16) gM dX8_bond_13 rfl rfl (fun c13 => ?_) (fun c13 => ?_)
    · exact no (fun q => c13 q.2.2)
    · refine jr_iload_n (pc' := 17) gM dX8_bond_16 rfl rfl ?_
      refine jr_iload_n (pc' := 18) gM dX8_bond_17 rfl rfl ?_
      refine jr_icmp_ne (tgt := 23) (pc' := 21) gM dX8_bond_18 rfl rfl ⟨by omega, by omega⟩ ⟨by omega, by omega⟩ (fun c18 => ?_) (fun c18 => ?_)
      · obtain ⟨a, rfl⟩ := Int.eq_ofNat_of_zero_le c5.1
        obtain ⟨c, rfl⟩ := Int.eq_ofNat_of_zero_le c13.1
        -- the end
        have fin : ∀ (k m' : Nat) (σ1 : jMem), k < 60 → (∀ j, j ≠ 10 → σ1 24 j = σ 24 j) → (∀ c, c ≠ 24 → σ1 c = σ c) → σ1 24 10 = (m' : Int) → (∀ j, j < m' → j ≠ k → j < m) → (¬ (bdL ba bb bm m a c = 0 ∧ m = 60)) → BL n m' (jset ba k a) (jset bb k c) (jset bm k b) → bdL (jset ba k a) (jset bb k c) (jset bm k b) m' = bdS (bdL ba bb bm m) a c (2 - b) → m' = (if bdL ba bb bm m a c = 0 then m + 1 else m) → jV (jP mX8_bond (d + 9) K) 70 [some (.ref 24), some (.int (jI (a : Int))), some (.int (jI (c : Int))), some (.int (jI b)), some (.int (jI (k : Int)))] [] σ1 := by
          intro k m' σ1 hk o1 o2 o3 o4 hnn hB' he hm'
          refine jr_aload_n (pc' := 71) gM dX8_bond_70 rfl rfl ?_
          refine jr_gfr (pc' := 74) gM dX8_bond_71 rfl fX8_38 rfl rfl ?_
          refine jr_iload (pc' := 76) gM dX8_bond_74 rfl rfl ?_
          refine jr_iload_n (pc' := 77) gM dX8_bond_76 rfl rfl ?_
          refine jr_iast (pc' := 78) (k) gM dX8_bond_77 rfl rfl (rfl) (by omega) (by decide) ?_
          refine jr_aload_n (pc' := 79) gM dX8_bond_78 rfl rfl ?_
          refine jr_gfr (pc' := 82) gM dX8_bond_79 rfl fX8_41 rfl rfl ?_
          refine jr_iload (pc' := 84) gM dX8_bond_82 rfl rfl ?_
          refine jr_iload_n (pc' := 85) gM dX8_bond_84 rfl rfl ?_
          refine jr_iast (pc' := 86) (k) gM dX8_bond_85 rfl rfl (rfl) (by omega) (by decide) ?_
          refine jr_aload_n (pc' := 87) gM dX8_bond_86 rfl rfl ?_
          refine jr_gfr (pc' := 90) gM dX8_bond_87 rfl fX8_44 rfl rfl ?_
          refine jr_iload (pc' := 92) gM dX8_bond_90 rfl rfl ?_
          refine jr_iload_n (pc' := 93) gM dX8_bond_92 rfl rfl ?_
          refine jr_zast (pc' := 94) (k) gM dX8_bond_93 rfl rfl (rfl) (by omega) (by decide) (by omega) ?_
          refine jr_iconst (pc' := 95) gM dX8_bond_94 rfl ?_
          refine jr_zreturn dX8_bond_95 rfl (by first | omega | exact bI_01 _) ?_
          have r : ∀ e, e ≠ 30 → e ≠ 31 → e ≠ 32 → jup (jup (jup σ1 30 k a) 31 k c) 32 k b e = σ1 e := fun e q1 q2 q3 => by rw [jup_row q3, jup_row q2, jup_row q1]
          have hL' : ML m' (jset ba k a) (jset bb k c) (jset bm k b) (jup (jup (jup σ1 30 k a) 31 k c) 32 k b) := by
            refine ⟨by rw [r 24 (by omega) (by omega) (by omega)]; exact o3, fun j hj => ?_⟩
            by_cases e : j = k
            · subst e
              rw [jset_at, jset_at, jset_at]
              exact ⟨by rw [jup_row (by omega), jup_row (by omega), jup_at], by rw [jup_row (by omega), jup_at], by rw [jup_at]⟩
            · rw [jset_ne e, jset_ne e, jset_ne e]
              obtain ⟨l1, l2, l3⟩ := hL.2 j (o4 j hj e)
              exact ⟨by rw [jup_row (by omega), jup_row (by omega), jup_ne (Or.inr e), o2 30 (by omega)]; exact l1, by rw [jup_row (by omega), jup_ne (Or.inr e), jup_row (by omega), o2 31 (by omega)]; exact l2, by rw [jup_ne (Or.inr e), jup_row (by omega), jup_row (by omega), o2 32 (by omega)]; exact l3⟩
          exact hK1 a c rfl rfl (by omega) (by omega) (by omega) hnn m' _ _ _ _ (hC.bonds hL' hB' (fun j hj => by rw [r 24 (by omega) (by omega) (by omega)]; exact o1 j hj) (fun e q1 q2 q3 q4 => by rw [r e q2 q3 q4]; exact o2 e q1)) he hm' (fun e q => by rw [r e (by omega) (by omega) (by omega)]; exact o2 e (by omega))
        refine jr_aload_n (pc' := 24) gM dX8_bond_23 rfl rfl ?_
        refine jr_iload_n (pc' := 25) gM dX8_bond_24 rfl rfl ?_
        refine jr_iload_n (pc' := 26) gM dX8_bond_25 rfl rfl ?_
        refine jr_inv (pc' := 29) (as := [_, _]) gM dX8_bond_26 rfl kX8_93 rfl rfl rfl (Nat.le_of_ble_eq_true rfl) ?_
        refine bondOf_ok hL hB hn h1 h2 (fun hno => ?_) (fun k hk hs => ?_)
        · have h0 : bdL ba bb bm m a c = 0 := bdL_none (fun k hk q => hno k hk (by rcases q with ⟨q1, q2⟩ | ⟨q1, q2⟩ <;> omega))
          dsimp only [Option.toList, List.cons_append, List.nil_append]
          refine jr_istore (pc' := 31) (lv' := [_, _, _, _, _]) gM dX8_bond_29 rfl rfl (Nat.le_of_ble_eq_true rfl) ?_
          refine jr_iload (pc' := 33) gM dX8_bond_31 rfl rfl ?_
          refine jr_iconst (pc' := 34) gM dX8_bond_33 rfl ?_
          refine jr_icmp_ne (tgt := 48) (pc' := 37) gM dX8_bond_34 rfl rfl ⟨by omega, by omega⟩ ⟨by omega, by omega⟩ (fun cc => absurd cc (by omega)) (fun _ => ?_)
          refine jr_aload_n (pc' := 38) gM dX8_bond_37 rfl rfl ?_
          refine jr_gfi (pc' := 41) gM dX8_bond_38 rfl fX8_90 rfl rfl ?_
          refine jr_bipush (pc' := 43) gM dX8_bond_41 rfl rfl ?_
          rw [hL.1]
          refine jr_icmp_ne (tgt := 48) (pc' := 46) gM dX8_bond_43 rfl rfl ⟨by omega, by omega⟩ ⟨by omega, by omega⟩ (fun c43 => ?_) (fun c43 => ?_)
          · refine jr_iload (pc' := 50) gM dX8_bond_48 rfl rfl ?_
            refine jr_iconst (pc' := 51) gM dX8_bond_50 rfl ?_
            refine jr_icmp_ne (tgt := 70) (pc' := 54) gM dX8_bond_51 rfl rfl ⟨by omega, by omega⟩ ⟨by omega, by omega⟩ (fun cc => absurd cc (by omega)) (fun _ => ?_)
            refine jr_aload_n (pc' := 55) gM dX8_bond_54 rfl rfl ?_
            refine jr_gfi (pc' := 58) gM dX8_bond_55 rfl fX8_90 rfl rfl ?_
            rw [hL.1]
            refine jr_istore (pc' := 60) (lv' := [_, _, _, _, _]) gM dX8_bond_58 rfl rfl (Nat.le_of_ble_eq_true rfl) ?_
            refine jr_aload_n (pc' := 61) gM dX8_bond_60 rfl rfl ?_
            refine jr_dup (pc' := 62) gM dX8_bond_61 rfl rfl ?_
            refine jr_gfi (pc' := 65) gM dX8_bond_62 rfl fX8_90 rfl rfl ?_
            refine jr_iconst (pc' := 66) gM dX8_bond_65 rfl ?_
            rw [hL.1]
            refine jr_iadd (pc' := 67) gM dX8_bond_66 rfl ?_
            refine jr_pf (pc' := 70) gM dX8_bond_67 rfl fX8_90 rfl rfl ⟨rfl, by decide +kernel⟩ ?_
            obtain ⟨w1, w2⟩ := BL_new hB (a := a) (b := c) (x := b) (by omega) (by omega) (by omega) hb (by omega) h0
            exact fin m (m + 1) _ (by omega) (fun j hj => jup_ne (Or.inr hj)) (fun e he => jup_row he) (by rw [jup_at]; rfl) (fun j q1 q2 => by omega) (by omega) w1 w2 (by rw [if_pos h0])
          · refine jr_iconst (pc' := 47) gM dX8_bond_46 rfl ?_
            refine jr_zreturn dX8_bond_47 rfl (by first | omega | exact bI_01 _) ?_
            exact hK0 (Or.inr ⟨h0, by omega⟩)
        · have hs2 : smP ba bb k a c := by
            rcases hs with ⟨q1, q2⟩ | ⟨q1, q2⟩
            · exact Or.inl ⟨by omega, by omega⟩
            · exact Or.inr ⟨by omega, by omega⟩
          have h0 : ¬ bdL ba bb bm m a c = 0 := fun q => (bdL_zero_iff hB a c).mp q k hk hs2
          dsimp only [Option.toList, List.cons_append, List.nil_append]
          refine jr_istore (pc' := 31) (lv' := [_, _, _, _, _]) gM dX8_bond_29 rfl rfl (Nat.le_of_ble_eq_true rfl) ?_
          refine jr_iload (pc' := 33) gM dX8_bond_31 rfl rfl ?_
          refine jr_iconst (pc' := 34) gM dX8_bond_33 rfl ?_
          refine jr_icmp_ne (tgt := 48) (pc' := 37) gM dX8_bond_34 rfl rfl ⟨by omega, by omega⟩ ⟨by omega, by omega⟩ (fun _ => ?_) (fun cc => absurd cc (by omega))
          refine jr_iload (pc' := 50) gM dX8_bond_48 rfl rfl ?_
          refine jr_iconst (pc' := 51) gM dX8_bond_50 rfl ?_
          refine jr_icmp_ne (tgt := 70) (pc' := 54) gM dX8_bond_51 rfl rfl ⟨by omega, by omega⟩ ⟨by omega, by omega⟩ (fun _ => ?_) (fun cc => absurd cc (by omega))
          obtain ⟨w1, w2⟩ := BL_put hB (x := b) hk hs2 hb
          exact fin k m σ (by omega) (fun j hj => rfl) (fun e he => rfl) hL.1 (fun j q1 q2 => q1) (fun q => h0 q.1) w1 w2 (by rw [if_neg h0])
      · exact no (by omega)
set_option maxRecDepth 100000 in
theorem m_free {x y : Int} (hC : MI n nb yr wt hp pr ga sh fe m ba bb bm s se sp σ) (h1 : jR x) (h2 : jR y)
    (hK0 : ¬ (x ≠ y ∧ (0 ≤ x ∧ x < n) ∧ 0 ≤ y ∧ y < n) ∨ bdL ba bb bm m x.toNat y.toNat = 0 → K (some (.int (jI 0))) σ)
    (hK1 : ∀ a c : Nat, x = (a : Int) → y = (c : Int) → a < n → c < n → a ≠ c → bdL ba bb bm m a c ≠ 0 → ∀ (m' : Nat) (ba' bb' : Nat → Nat) (bm' : Nat → Int) (σ' : jMem), MI n nb yr wt hp pr ga sh fe m' ba' bb' bm' s se sp σ' → bdL ba' bb' bm' m' = bdS (bdL ba bb bm m) a c 0 → m' = m - 1 → (∀ c, c < 24 → σ' c = σ c) → K (some (.int (jI 1))) σ') : jRun (d + 9) mX8_free [.ref 24, .int (jI x), .int (jI y)] σ K := by
  have hn := hC.1.2
  have hL := hC.2.2.2.2.2.2.2.1.1
  have hB := hC.2.2.2.2.2.2.2.1.2
  have hm := hB.1
  refine jenter (lv := [_, _, _, _]) rfl rfl (Nat.le_of_ble_eq_true rfl) ?_
  refine jr_aload_n (pc' := 1) gM dX8_free_0 rfl rfl ?_
  refine jr_iload_n (pc' := 2) gM dX8_free_1 rfl rfl ?_
  refine jr_iload_n (pc' := 3) gM dX8_free_2 rfl rfl ?_
  refine jr_inv (pc' := 6) (as := [_, _]) gM dX8_free_3 rfl kX8_93 rfl rfl rfl (Nat.le_of_ble_eq_true rfl) ?_
  refine bondOf_ok hL hB hn h1 h2 (fun hno => ?_) (fun k hk hs => ?_)
  · dsimp only [Option.toList, List.cons_append, List.nil_append]
    refine jr_istore_n (pc' := 7) (lv' := [_, _, _, _]) gM dX8_free_6 rfl rfl (Nat.le_of_ble_eq_true rfl) ?_
    refine jr_iload_n (pc' := 8) gM dX8_free_7 rfl rfl ?_
    refine jr_iconst (pc' := 9) gM dX8_free_8 rfl ?_
    refine jr_icmp_ne (tgt := 14) (pc' := 12) gM dX8_free_9 rfl rfl ⟨by omega, by omega⟩ ⟨by omega, by omega⟩ (fun cc => absurd cc (by omega)) (fun _ => ?_)
    refine jr_iconst (pc' := 13) gM dX8_free_12 rfl ?_
    refine jr_zreturn dX8_free_13 rfl (by first | omega | exact bI_01 _) ?_
    refine hK0 ?_
    by_cases q : x ≠ y ∧ (0 ≤ x ∧ x < n) ∧ 0 ≤ y ∧ y < n
    · refine Or.inr (bdL_none (fun k hk q2 => hno k hk ?_))
      rcases q2 with ⟨q1, q2⟩ | ⟨q1, q2⟩ <;> omega
    · exact Or.inl q
  · have hk3 := hB.2.1 k hk
    obtain ⟨a, rfl⟩ : ∃ a : Nat, x = (a : Int) := ⟨x.toNat, by omega⟩
    obtain ⟨c, rfl⟩ : ∃ a : Nat, y = (a : Int) := ⟨y.toNat, by omega⟩
    have hs2 : smP ba bb k a c := by
      rcases hs with ⟨q1, q2⟩ | ⟨q1, q2⟩
      · exact Or.inl ⟨by omega, by omega⟩
      · exact Or.inr ⟨by omega, by omega⟩
    have h0 : ¬ bdL ba bb bm m a c = 0 := fun q => (bdL_zero_iff hB a c).mp q k hk hs2
    obtain ⟨w1, w2⟩ := BL_free hB hk hs2
    obtain ⟨l1, l2, l3⟩ := hL.2 (m - 1) (by omega)
    have em : (m : Int) - 1 = ((m - 1 : Nat) : Int) := by omega
    have l3r := (hB.2.1 (m - 1) (by omega)).2.2.2
    dsimp only [Option.toList, List.cons_append, List.nil_append]
    refine jr_istore_n (pc' := 7) (lv' := [_, _, _, _]) gM dX8_free_6 rfl rfl (Nat.le_of_ble_eq_true rfl) ?_
    refine jr_iload_n (pc' := 8) gM dX8_free_7 rfl rfl ?_
    refine jr_iconst (pc' := 9) gM dX8_free_8 rfl ?_
    refine jr_icmp_ne (tgt := 14) (pc' := 12) gM dX8_free_9 rfl rfl ⟨by omega, by omega⟩ ⟨by omega, by omega⟩ (fun _ => ?_) (fun cc => absurd cc (by omega))
    refine jr_aload_n (pc' := 15) gM dX8_free_14 rfl rfl ?_
    refine jr_dup (pc' := 16) gM dX8_free_15 rfl rfl ?_
    refine jr_gfi (pc' := 19) gM dX8_free_16 rfl fX8_90 rfl rfl ?_
    rw [hL.1]
    refine jr_iconst (pc' := 20) gM dX8_free_19 rfl ?_
    refine jr_isub (pc' := 21) gM dX8_free_20 rfl ?_
    refine jr_pf (pc' := 24) gM dX8_free_21 rfl fX8_90 rfl rfl ⟨rfl, by decide +kernel⟩ ?_
    refine jr_aload_n (pc' := 25) gM dX8_free_24 rfl rfl ?_
    refine jr_gfr (pc' := 28) gM dX8_free_25 rfl fX8_38 rfl rfl ?_
    refine jr_iload_n (pc' := 29) gM dX8_free_28 rfl rfl ?_
    refine jr_aload_n (pc' := 30) gM dX8_free_29 rfl rfl ?_
    refine jr_gfr (pc' := 33) gM dX8_free_30 rfl fX8_38 rfl rfl ?_
    refine jr_aload_n (pc' := 34) gM dX8_free_33 rfl rfl ?_
    refine jr_gfi (pc' := 37) gM dX8_free_34 rfl fX8_90 rfl rfl ?_
    rw [jup_at, em]
    refine jr_iald (pc' := 38) ((m - 1)) gM dX8_free_37 rfl rfl (rfl) (by omega) (by decide) ?_
    rw [jup_row (show (30 : Nat) ≠ 24 by omega), l1]
    refine jr_iast (pc' := 39) (k) gM dX8_free_38 rfl rfl (rfl) (by omega) (by decide) ?_
    refine jr_aload_n (pc' := 40) gM dX8_free_39 rfl rfl ?_
    refine jr_gfr (pc' := 43) gM dX8_free_40 rfl fX8_41 rfl rfl ?_
    refine jr_iload_n (pc' := 44) gM dX8_free_43 rfl rfl ?_
    refine jr_aload_n (pc' := 45) gM dX8_free_44 rfl rfl ?_
    refine jr_gfr (pc' := 48) gM dX8_free_45 rfl fX8_41 rfl rfl ?_
    refine jr_aload_n (pc' := 49) gM dX8_free_48 rfl rfl ?_
    refine jr_gfi (pc' := 52) gM dX8_free_49 rfl fX8_90 rfl rfl ?_
    rw [jup_row (show (24 : Nat) ≠ 30 by omega), jup_at]
    refine jr_iald (pc' := 53) ((m - 1)) gM dX8_free_52 rfl rfl (rfl) (by omega) (by decide) ?_
    rw [jup_row (show (31 : Nat) ≠ 30 by omega), jup_row (show (31 : Nat) ≠ 24 by omega), l2]
    refine jr_iast (pc' := 54) (k) gM dX8_free_53 rfl rfl (rfl) (by omega) (by decide) ?_
    refine jr_aload_n (pc' := 55) gM dX8_free_54 rfl rfl ?_
    refine jr_gfr (pc' := 58) gM dX8_free_55 rfl fX8_44 rfl rfl ?_
    refine jr_iload_n (pc' := 59) gM dX8_free_58 rfl rfl ?_
    refine jr_aload_n (pc' := 60) gM dX8_free_59 rfl rfl ?_
    refine jr_gfr (pc' := 63) gM dX8_free_60 rfl fX8_44 rfl rfl ?_
    refine jr_aload_n (pc' := 64) gM dX8_free_63 rfl rfl ?_
    refine jr_gfi (pc' := 67) gM dX8_free_64 rfl fX8_90 rfl rfl ?_
    rw [jup_row (show (24 : Nat) ≠ 31 by omega), jup_row (show (24 : Nat) ≠ 30 by omega), jup_at]
    refine jr_zald (pc' := 68) ((m - 1)) gM dX8_free_67 rfl rfl (rfl) (by omega) (by decide) ?_
    rw [jup_row (show (32 : Nat) ≠ 31 by omega), jup_row (show (32 : Nat) ≠ 30 by omega), jup_row (show (32 : Nat) ≠ 24 by omega), l3]
    refine jr_zast (pc' := 69) (k) gM dX8_free_68 rfl rfl (rfl) (by omega) (by decide) (by omega) ?_
    refine jr_iconst (pc' := 70) gM dX8_free_69 rfl ?_
    refine jr_zreturn dX8_free_70 rfl (by first | omega | exact bI_01 _) ?_
    generalize hs4 : jup (jup (jup (jup σ 24 10 ((m - 1 : Nat) : Int)) 30 k (ba (m - 1))) 31 k (bb (m - 1))) 32 k (bm (m - 1)) = σ4
    have r : ∀ e, e ≠ 24 → e ≠ 30 → e ≠ 31 → e ≠ 32 → σ4 e = σ e := fun e q0 q1 q2 q3 => by rw [← hs4, jup_row q3, jup_row q2, jup_row q1, jup_row q0]
    have f : ∀ j, j ≠ 10 → σ4 24 j = σ 24 j := fun j hj => by rw [← hs4, jup_row (by omega), jup_row (by omega), jup_row (by omega), jup_ne (Or.inr hj)]
    have hL' : ML (m - 1) (jset ba k (ba (m - 1))) (jset bb k (bb (m - 1))) (jset bm k (bm (m - 1))) σ4 := by
      refine ⟨by rw [← hs4, jup_row (by omega), jup_row (by omega), jup_row (by omega), jup_at], fun j hj => ?_⟩
      by_cases e : j = k
      · subst e
        rw [jset_at, jset_at, jset_at, ← hs4]
        exact ⟨by rw [jup_row (by omega), jup_row (by omega), jup_at], by rw [jup_row (by omega), jup_at], by rw [jup_at]⟩
      · rw [jset_ne e, jset_ne e, jset_ne e, ← hs4]
        obtain ⟨l1, l2, l3⟩ := hL.2 j (by omega)
        exact ⟨by rw [jup_row (by omega), jup_row (by omega), jup_ne (Or.inr e), jup_row (by omega)]; exact l1, by rw [jup_row (by omega), jup_ne (Or.inr e), jup_row (by omega), jup_row (by omega)]; exact l2, by rw [jup_ne (Or.inr e), jup_row (by omega), jup_row (by omega), jup_row (by omega)]; exact l3⟩
    refine hK1 a c rfl rfl ?_ ?_ ?_ h0 (m - 1) _ _ _ σ4 (hC.bonds hL' w1 f r) w2 rfl (fun e q => r e (by omega) (by omega) (by omega) (by omega)) <;> omega
set_option maxRecDepth 100000 in
theorem m_heap {x : Int} (hC : MI n nb yr wt hp pr ga sh fe m ba bb bm s se sp σ) (h1 : jR x)
    (hK : K (some (.int (jI (if 0 ≤ x ∧ x < n then hp x.toNat else -1)))) σ) : jRun (d + 9) mX8_heap [.ref 24, .int (jI x)] σ K := by
  refine jenter (lv := [_, _]) rfl rfl (Nat.le_of_ble_eq_true rfl) ?_
  refine jr_aload_n (pc' := 1) gM dX8_heap_0 rfl rfl ?_
  refine jr_iload_n (pc' := 2) gM dX8_heap_1 rfl rfl ?_
  refine jr_inv (pc' := 5) (as := [_]) gM dX8_heap_2 rfl kX8_74 rfl rfl rfl (Nat.le_of_ble_eq_true rfl) ?_
  refine isUse_ok hC.1.1 hC.1.2 h1 ?_
  dsimp only [Option.toList, List.cons_append, List.nil_append]
  refine jr_pb_eq (tgt := 17) (pc' := 8) gM dX8_heap_5 rfl rfl (fun c5 => ?_) (fun c5 => ?_)
  · refine jr_iconst (pc' := 18) gM dX8_heap_17 rfl ?_
    refine jr_ireturn dX8_heap_18 rfl ?_
    rw [if_neg c5] at hK
    exact hK
  · obtain ⟨k, rfl⟩ := Int.eq_ofNat_of_zero_le c5.1
    have hn := hC.1.2
    refine jr_aload_n (pc' := 9) gM dX8_heap_8 rfl rfl ?_
    refine jr_gfr (pc' := 12) gM dX8_heap_9 rfl fX8_32 rfl rfl ?_
    refine jr_iload_n (pc' := 13) gM dX8_heap_12 rfl rfl ?_
    refine jr_iald (pc' := 14) _ gM dX8_heap_13 rfl rfl rfl (by omega) (by decide) ?_
    refine jr_goto (tgt := 18) gM dX8_heap_14 rfl ?_
    refine jr_ireturn dX8_heap_18 rfl ?_
    rw [if_pos c5] at hK
    rw [hC.2.2.2.2.2.1 k (by omega)]
    exact hK
theorem m_size {x : Int} (hC : MI n nb yr wt hp pr ga sh fe m ba bb bm s se sp σ) (h1 : jR x)
    (hK : K (some (.int (jI ((jn (fun v => decide (0 ≤ x ∧ hp v = x)) 40 : Nat) : Int)))) σ) : jRun (d + 9) mX8_size [.ref 24, .int (jI x)] σ K :=
  msize_ok hC.1.1 hC.1.2 hC.2.2.2.2.1 hC.2.2.2.2.2.1 h1 hK
set_option maxRecDepth 100000 in
theorem m_far {x y : Int} (hC : MI n nb yr wt hp pr ga sh fe m ba bb bm s se sp σ) (h1 : jR x) (h2 : jR y)
    (hK : K (some (.int (jI (if (0 ≤ x ∧ x < n) ∧ 0 ≤ y ∧ y < n then jfar wt (nb x.toNat) (nb y.toNat) else -1)))) σ) : jRun (d + 9) mX8_far [.ref 24, .int (jI x), .int (jI y)] σ K := by
  have hn := hC.1.2
  refine jenter (lv := [_, _, _]) rfl rfl (Nat.le_of_ble_eq_true rfl) ?_
  refine jr_aload_n (pc' := 1) gM dX8_far_0 rfl rfl ?_
  refine jr_iload_n (pc' := 2) gM dX8_far_1 rfl rfl ?_
  refine jr_inv (pc' := 5) (as := [_]) gM dX8_far_2 rfl kX8_74 rfl rfl rfl (Nat.le_of_ble_eq_true rfl) ?_
  refine isUse_ok hC.1.1 hC.1.2 h1 ?_
  dsimp only [Option.toList, List.cons_append, List.nil_append]
  refine jr_pb_eq (tgt := 30) (pc' := 8) gM dX8_far_5 rfl rfl (fun c5 => ?_) (fun c5 => ?_)
  · refine jr_iconst (pc' := 31) gM dX8_far_30 rfl ?_
    refine jr_ireturn dX8_far_31 rfl ?_
    rw [if_neg (fun q => c5 q.1)] at hK
    exact hK
  · refine jr_aload_n (pc' := 9) gM dX8_far_8 rfl rfl ?_
    refine jr_iload_n (pc' := 10) gM dX8_far_9 rfl rfl ?_
    refine jr_inv (pc' := 13) (as := [_]) gM dX8_far_10 rfl kX8_74 rfl rfl rfl (Nat.le_of_ble_eq_true rfl) ?_
    refine isUse_ok hC.1.1 hC.1.2 h2 ?_
    dsimp only [Option.toList, List.cons_append, List.nil_append]
    refine jr_pb_eq (tgt := 30) (pc' := 16) gM dX8_far_13 rfl rfl (fun c13 => ?_) (fun c13 => ?_)
    · refine jr_iconst (pc' := 31) gM dX8_far_30 rfl ?_
      refine jr_ireturn dX8_far_31 rfl ?_
      rw [if_neg (fun q => c13 q.2)] at hK
      exact hK
    · obtain ⟨a, rfl⟩ := Int.eq_ofNat_of_zero_le c5.1
      obtain ⟨b, rfl⟩ := Int.eq_ofNat_of_zero_le c13.1
      rw [if_pos ⟨c5, c13⟩] at hK
      refine jr_aload_n (pc' := 17) gM dX8_far_16 rfl rfl ?_
      refine jr_gfr (pc' := 20) gM dX8_far_17 rfl fX8_35 rfl rfl ?_
      refine jr_bipush (pc' := 22) gM dX8_far_20 rfl rfl ?_
      refine jr_iload_n (pc' := 23) gM dX8_far_22 rfl rfl ?_
      refine jr_imul (pc' := 24) gM dX8_far_23 rfl ?_
      refine jr_iload_n (pc' := 25) gM dX8_far_24 rfl rfl ?_
      refine jr_iadd (pc' := 26) gM dX8_far_25 rfl ?_
      refine jr_iald (pc' := 27) ((40 * a + b)) gM dX8_far_26 rfl rfl (by push_cast; omega) (by omega) (by decide) ?_
      rw [hC.2.2.2.2.2.2.1 a b (by omega) (by omega)]
      refine jr_goto (tgt := 31) gM dX8_far_27 rfl ?_
      refine jr_ireturn dX8_far_31 rfl ?_
      exact hK
end jMr
