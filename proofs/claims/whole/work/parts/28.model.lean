/-! ===== the reference: small methods ===== -/
section jMo
variable {n : Nat} {nb : Nat → Nat} {yr wt hp : Nat → Int} {σ : jMem} {K : Option Value → jMem → Prop} {d : Nat}
set_option maxRecDepth 100000 in
theorem in_ok {v lo hi : Int} (h1 : jR v) (h2 : jR lo) (h3 : jR hi) (hK : K (some (.int (jI (bI (lo ≤ v ∧ v ≤ hi))))) σ) : jRun d mX8_in [.int (jI v), .int (jI lo), .int (jI hi)] σ K := by
  refine jenter (lv := [_, _, _]) rfl rfl (Nat.le_of_ble_eq_true rfl) ?_
  refine jr_iload_n (pc' := 1) gM dX8_in_0 rfl rfl ?_
  refine jr_iload_n (pc' := 2) gM dX8_in_1 rfl rfl ?_
  refine jr_icmp_lt (tgt := 14) (pc' := 5) gM dX8_in_2 rfl rfl ⟨by omega, by omega⟩ ⟨by omega, by omega⟩ (fun c2 => ?_) (fun c2 => ?_)
  · refine jr_iconst (pc' := 15) gM dX8_in_14 rfl ?_
    refine jr_zreturn dX8_in_15 rfl (by first | omega | exact bI_01 _) ?_
    rw [bI_f (by omega)] at hK
    exact hK
  · refine jr_iload_n (pc' := 6) gM dX8_in_5 rfl rfl ?_
    refine jr_iload_n (pc' := 7) gM dX8_in_6 rfl rfl ?_
    refine jr_icmp_gt (tgt := 14) (pc' := 10) gM dX8_in_7 rfl rfl ⟨by omega, by omega⟩ ⟨by omega, by omega⟩ (fun c7 => ?_) (fun c7 => ?_)
    · refine jr_iconst (pc' := 15) gM dX8_in_14 rfl ?_
      refine jr_zreturn dX8_in_15 rfl (by first | omega | exact bI_01 _) ?_
      rw [bI_f (by omega)] at hK
      exact hK
    · refine jr_iconst (pc' := 11) gM dX8_in_10 rfl ?_
      refine jr_goto (tgt := 15) gM dX8_in_11 rfl ?_
      refine jr_zreturn dX8_in_15 rfl (by first | omega | exact bI_01 _) ?_
      rw [bI_t (by omega)] at hK
      exact hK
set_option maxRecDepth 100000 in
theorem isUse_ok {v : Int} (hn : σ 24 5 = (n : Int)) (hn2 : n ≤ 40) (h1 : jR v) (hK : K (some (.int (jI (bI (0 ≤ v ∧ v < n))))) σ) : jRun (d + 1) mX8_isUse [.ref 24, .int (jI v)] σ K := by
  refine jenter (lv := [_, _]) rfl rfl (Nat.le_of_ble_eq_true rfl) ?_
  refine jr_iload_n (pc' := 1) gM dX8_isUse_0 rfl rfl ?_
  refine jr_iconst (pc' := 2) gM dX8_isUse_1 rfl ?_
  refine jr_aload_n (pc' := 3) gM dX8_isUse_2 rfl rfl ?_
  refine jr_gfi (pc' := 6) gM dX8_isUse_3 rfl fX8_60 rfl rfl ?_
  refine jr_iconst (pc' := 7) gM dX8_isUse_6 rfl ?_
  refine jr_isub (pc' := 8) gM dX8_isUse_7 rfl ?_
  rw [hn]
  refine jr_ins (pc' := 11) (as := [_, _, _]) gM dX8_isUse_8 rfl kX8_63 rfl rfl (Nat.le_of_ble_eq_true rfl) ?_
  refine in_ok h1 ⟨by omega, by omega⟩ ⟨by omega, by omega⟩ ?_
  dsimp only [Option.toList, List.cons_append, List.nil_append]
  refine jr_zreturn dX8_isUse_11 rfl (by first | omega | exact bI_01 _) ?_
  rw [bI_iff (q := 0 ≤ v ∧ v ≤ (n : Int) - 1) (by omega)] at hK
  exact hK
set_option maxRecDepth 100000 in
theorem mapart_ok {a b : Nat} (ha : a < 2 ^ 20) (hb : b < 2 ^ 20) (hK : K (some (.int (jI (jfar (σ 25) a b)))) σ) : jRun d mX8_apart [.ref 24, .int (jI (a : Int)), .int (jI (b : Int))] σ K := by
  have hx := jx_xlt ha hb
  refine jenter (lv := [_, _, _, _, _, _]) rfl rfl (Nat.le_of_ble_eq_true rfl) ?_
  refine jr_iload_n (pc' := 1) gM dX8_apart_0 rfl rfl ?_
  refine jr_iload_n (pc' := 2) gM dX8_apart_1 rfl rfl ?_
  refine jr_ixor (pc' := 3) (((a ^^^ b : Nat) : Int)) gM dX8_apart_2 rfl (jx_xor a b) ?_
  refine jr_istore_n (pc' := 4) (lv' := [_, _, _, _, _, _]) gM dX8_apart_3 rfl rfl (Nat.le_of_ble_eq_true rfl) ?_
  refine jr_iconst (pc' := 5) gM dX8_apart_4 rfl ?_
  refine jr_istore (pc' := 7) (lv' := [_, _, _, _, _, _]) gM dX8_apart_5 rfl rfl (Nat.le_of_ble_eq_true rfl) ?_
  refine jr_iconst (pc' := 8) gM dX8_apart_7 rfl ?_
  refine jr_istore (pc' := 10) (lv' := [_, _, _, _, _, _]) gM dX8_apart_8 rfl rfl (Nat.le_of_ble_eq_true rfl) ?_
  have lp : ∀ i, i ≤ 20 → jV (jP mX8_apart d K) 10 [some (.ref 24), some (.int (jI (a : Int))), some (.int (jI (b : Int))), some (.int (jI ((a ^^^ b : Nat) : Int))), some (.int (jI (js (fun k => if (a ^^^ b).testBit k then σ 25 k else 0) i))), some (.int (jI (i : Int)))] [] σ := by
    refine jdown 20 ?_
    intro i hi ih
    refine jr_iload (pc' := 12) gM dX8_apart_10 rfl rfl ?_
    refine jr_bipush (pc' := 14) gM dX8_apart_12 rfl rfl ?_
    refine jr_icmp_ge (tgt := 49) (pc' := 17) gM dX8_apart_14 rfl rfl ⟨by omega, by omega⟩ ⟨by omega, by omega⟩ (fun c14 => ?_) (fun c14 => ?_)
    · refine jr_iload (pc' := 51) gM dX8_apart_49 rfl rfl ?_
      refine jr_ireturn dX8_apart_51 rfl ?_
      have e : i = 20 := by omega
      subst e
      exact hK
    · have h := ih (i + 1) (by omega) (by omega)
      simp only [js] at h
      have h01 := bI_01 ((a ^^^ b).testBit i = true)
      refine jr_iload (pc' := 19) gM dX8_apart_17 rfl rfl ?_
      refine jr_iload_n (pc' := 20) gM dX8_apart_19 rfl rfl ?_
      refine jr_iload (pc' := 22) gM dX8_apart_20 rfl rfl ?_
      refine jr_ishr (pc' := 23) ((((a ^^^ b) / 2 ^ i : Nat) : Int)) gM dX8_apart_22 rfl (jx_shr (by omega) (by omega)) ?_
      refine jr_iconst (pc' := 24) gM dX8_apart_23 rfl ?_
      refine jr_iand (pc' := 25) (bI ((a ^^^ b).testBit i = true)) gM dX8_apart_24 rfl (jx_lo (by omega)) ?_
      refine jr_iconst (pc' := 26) gM dX8_apart_25 rfl ?_
      refine jr_icmp_ne (tgt := 39) (pc' := 29) gM dX8_apart_26 rfl rfl ⟨by omega, by omega⟩ ⟨by omega, by omega⟩ (fun c26 => ?_) (fun c26 => ?_)
      · refine jr_iconst (pc' := 40) gM dX8_apart_39 rfl ?_
        refine jr_iadd (pc' := 41) gM dX8_apart_40 rfl ?_
        refine jr_istore (pc' := 43) (lv' := [_, _, _, _, _, _]) gM dX8_apart_41 rfl rfl (Nat.le_of_ble_eq_true rfl) ?_
        refine jr_iinc (pc' := 46) (lv' := [_, _, _, _, _, _]) gM dX8_apart_43 rfl rfl rfl ?_
        refine jr_goto (tgt := 10) gM dX8_apart_46 rfl ?_
        rw [if_neg (fun q => c26 (bI_t q))] at h
        exact h
      · refine jr_aload_n (pc' := 30) gM dX8_apart_29 rfl rfl ?_
        refine jr_gfr (pc' := 33) gM dX8_apart_30 rfl fX8_9 rfl rfl ?_
        refine jr_iload (pc' := 35) gM dX8_apart_33 rfl rfl ?_
        refine jr_iald (pc' := 36) _ gM dX8_apart_35 rfl rfl rfl (by omega) (by decide) ?_
        refine jr_goto (tgt := 40) gM dX8_apart_36 rfl ?_
        refine jr_iadd (pc' := 41) gM dX8_apart_40 rfl ?_
        refine jr_istore (pc' := 43) (lv' := [_, _, _, _, _, _]) gM dX8_apart_41 rfl rfl (Nat.le_of_ble_eq_true rfl) ?_
        refine jr_iinc (pc' := 46) (lv' := [_, _, _, _, _, _]) gM dX8_apart_43 rfl rfl rfl ?_
        refine jr_goto (tgt := 10) gM dX8_apart_46 rfl ?_
        rw [if_pos (Decidable.byContradiction (fun q => by rw [bI_f q] at c26; omega))] at h
        exact h
  exact lp 0 (by omega)
set_option maxRecDepth 100000 in
theorem reckons_ok (hn : σ 24 5 = (n : Int)) (hn2 : n ≤ 40) (hnb : ∀ u, u < n → σ 26 u = (nb u : Int) ∧ nb u < 2 ^ 20) (hK : ∀ σ' : jMem, (∀ c, c ≠ 29 → σ' c = σ c) → (∀ a b, a < n → b < n → σ' 29 (40 * a + b) = jfar (σ 25) (nb a) (nb b)) → K none σ') : jRun (d + 1) mX8_reckons [.ref 24] σ K := by
  refine jenter (lv := [_, _, _]) rfl rfl (Nat.le_of_ble_eq_true rfl) ?_
  refine jr_iconst (pc' := 1) gM dX8_reckons_0 rfl ?_
  refine jr_istore_n (pc' := 2) (lv' := [_, _, _]) gM dX8_reckons_1 rfl rfl (Nat.le_of_ble_eq_true rfl) ?_
  have lp : ∀ a, a ≤ n → ∀ (q2 : Option Value) (σ1 : jMem), (∀ c, c ≠ 29 → σ1 c = σ c) → (∀ x z, x < a → z < n → σ1 29 (40 * x + z) = jfar (σ 25) (nb x) (nb z)) → jV (jP mX8_reckons (d + 1) K) 2 [some (.ref 24), some (.int (jI (a : Int))), q2] [] σ1 := by
    refine jdown n ?_
    intro a ha ih q2 σ1 g1 g2
    refine jr_iload_n (pc' := 3) gM dX8_reckons_2 rfl rfl ?_
    refine jr_aload_n (pc' := 4) gM dX8_reckons_3 rfl rfl ?_
    refine jr_gfi (pc' := 7) gM dX8_reckons_4 rfl fX8_60 rfl rfl ?_
    rw [g1 24 (by omega), hn]
    refine jr_icmp_ge (tgt := 59) (pc' := 10) gM dX8_reckons_7 rfl rfl ⟨by omega, by omega⟩ ⟨by omega, by omega⟩ (fun c7 => ?_) (fun c7 => ?_)
    · refine jr_vreturn dX8_reckons_59 rfl ?_
      have e : a = n := by omega
      subst e
      exact hK σ1 g1 g2
    · refine jr_iconst (pc' := 11) gM dX8_reckons_10 rfl ?_
      refine jr_istore_n (pc' := 12) (lv' := [_, _, _]) gM dX8_reckons_11 rfl rfl (Nat.le_of_ble_eq_true rfl) ?_
      have lp2 : ∀ b, b ≤ n → ∀ σ2 : jMem, (∀ c, c ≠ 29 → σ2 c = σ c) → (∀ x z, (x < a ∧ z < n) ∨ (x = a ∧ z < b) → σ2 29 (40 * x + z) = jfar (σ 25) (nb x) (nb z)) → jV (jP mX8_reckons (d + 1) K) 12 [some (.ref 24), some (.int (jI (a : Int))), some (.int (jI (b : Int)))] [] σ2 := by
        refine jdown n ?_
        intro b hb ihb σ2 k1 k2
        refine jr_iload_n (pc' := 13) gM dX8_reckons_12 rfl rfl ?_
        refine jr_aload_n (pc' := 14) gM dX8_reckons_13 rfl rfl ?_
        refine jr_gfi (pc' := 17) gM dX8_reckons_14 rfl fX8_60 rfl rfl ?_
        rw [k1 24 (by omega), hn]
        refine jr_icmp_ge (tgt := 53) (pc' := 20) gM dX8_reckons_17 rfl rfl ⟨by omega, by omega⟩ ⟨by omega, by omega⟩ (fun c17 => ?_) (fun c17 => ?_)
        · refine jr_iinc (pc' := 56) (lv' := [_, _, _]) gM dX8_reckons_53 rfl rfl rfl ?_
          refine jr_goto (tgt := 2) gM dX8_reckons_56 rfl ?_
          exact ih (a + 1) (by omega) (by omega) _ σ2 k1 (fun x z hx hz => k2 x z (by omega))
        · refine jr_aload_n (pc' := 21) gM dX8_reckons_20 rfl rfl ?_
          refine jr_gfr (pc' := 24) gM dX8_reckons_21 rfl fX8_35 rfl rfl ?_
          refine jr_bipush (pc' := 26) gM dX8_reckons_24 rfl rfl ?_
          refine jr_iload_n (pc' := 27) gM dX8_reckons_26 rfl rfl ?_
          refine jr_imul (pc' := 28) gM dX8_reckons_27 rfl ?_
          refine jr_iload_n (pc' := 29) gM dX8_reckons_28 rfl rfl ?_
          refine jr_iadd (pc' := 30) gM dX8_reckons_29 rfl ?_
          refine jr_aload_n (pc' := 31) gM dX8_reckons_30 rfl rfl ?_
          refine jr_aload_n (pc' := 32) gM dX8_reckons_31 rfl rfl ?_
          refine jr_gfr (pc' := 35) gM dX8_reckons_32 rfl fX8_26 rfl rfl ?_
          refine jr_iload_n (pc' := 36) gM dX8_reckons_35 rfl rfl ?_
          refine jr_iald (pc' := 37) _ gM dX8_reckons_36 rfl rfl rfl (by omega) (by decide) ?_
          refine jr_aload_n (pc' := 38) gM dX8_reckons_37 rfl rfl ?_
          refine jr_gfr (pc' := 41) gM dX8_reckons_38 rfl fX8_26 rfl rfl ?_
          refine jr_iload_n (pc' := 42) gM dX8_reckons_41 rfl rfl ?_
          refine jr_iald (pc' := 43) _ gM dX8_reckons_42 rfl rfl rfl (by omega) (by decide) ?_
          rw [k1 26 (by omega), (hnb a (by omega)).1, (hnb b (by omega)).1]
          refine jr_inv (pc' := 46) (as := [_, _]) gM dX8_reckons_43 rfl kX8_67 rfl rfl rfl (Nat.le_of_ble_eq_true rfl) ?_
          refine mapart_ok (hnb a (by omega)).2 (hnb b (by omega)).2 ?_
          dsimp only [Option.toList, List.cons_append, List.nil_append]
          refine jr_iast (pc' := 47) (40 * a + b) gM dX8_reckons_46 rfl rfl (by omega) (by omega) (by decide) ?_
          refine jr_iinc (pc' := 50) (lv' := [_, _, _]) gM dX8_reckons_47 rfl rfl rfl ?_
          refine jr_goto (tgt := 12) gM dX8_reckons_50 rfl ?_
          refine ihb (b + 1) (by omega) (by omega) _ (fun c hc => by rw [jup_row hc]; exact k1 c hc) (fun x z hh => ?_)
          by_cases e : x = a ∧ z = b
          · obtain ⟨rfl, rfl⟩ := e
            rw [jup_at, k1 25 (by omega)]
          · rw [jup_ne (Or.inr (by omega))]
            exact k2 x z (by omega)
      exact lp2 0 (by omega) σ1 g1 (fun x z hh => g2 x z (by omega) (by omega))
  exact lp 0 (by omega) _ σ (fun c _ => rfl) (fun x z hx => absurd hx (by omega))
set_option maxRecDepth 100000 in
theorem misHeap_ok {x : Int} (hn : σ 24 5 = (n : Int)) (hn2 : n ≤ 40) (hV : HV n hp) (hh : ∀ u, u < n → σ 28 u = hp u) (h1 : jR x) (hK : K (some (.int (jI (bI (0 ≤ x ∧ x < n ∧ hp x.toNat = x))))) σ) : jRun (d + 2) mX8_isHeap [.ref 24, .int (jI x)] σ K := by
  refine jenter (lv := [_, _]) rfl rfl (Nat.le_of_ble_eq_true rfl) ?_
  refine jr_aload_n (pc' := 1) gM dX8_isHeap_0 rfl rfl ?_
  refine jr_iload_n (pc' := 2) gM dX8_isHeap_1 rfl rfl ?_
  refine jr_inv (pc' := 5) (as := [_]) gM dX8_isHeap_2 rfl kX8_74 rfl rfl rfl (Nat.le_of_ble_eq_true rfl) ?_
  refine isUse_ok hn hn2 h1 ?_
  dsimp only [Option.toList, List.cons_append, List.nil_append]
  refine jr_pb_eq (tgt := 22) (pc' := 8) gM dX8_isHeap_5 rfl rfl (fun c5 => ?_) (fun c5 => ?_)
  · refine jr_iconst (pc' := 23) gM dX8_isHeap_22 rfl ?_
    refine jr_zreturn dX8_isHeap_23 rfl (by first | omega | exact bI_01 _) ?_
    rw [bI_f (fun q => c5 ⟨q.1, q.2.1⟩)] at hK
    exact hK
  · obtain ⟨k, rfl⟩ := Int.eq_ofNat_of_zero_le c5.1
    have hr := hV.r hn2 k
    refine jr_aload_n (pc' := 9) gM dX8_isHeap_8 rfl rfl ?_
    refine jr_gfr (pc' := 12) gM dX8_isHeap_9 rfl fX8_32 rfl rfl ?_
    refine jr_iload_n (pc' := 13) gM dX8_isHeap_12 rfl rfl ?_
    refine jr_iald (pc' := 14) _ gM dX8_isHeap_13 rfl rfl rfl (by omega) (by decide) ?_
    rw [hh k (by omega)]
    refine jr_iload_n (pc' := 15) gM dX8_isHeap_14 rfl rfl ?_
    refine jr_icmp_ne (tgt := 22) (pc' := 18) gM dX8_isHeap_15 rfl rfl ⟨by omega, by omega⟩ ⟨by omega, by omega⟩ (fun c15 => ?_) (fun c15 => ?_)
    · refine jr_iconst (pc' := 23) gM dX8_isHeap_22 rfl ?_
      refine jr_zreturn dX8_isHeap_23 rfl (by first | omega | exact bI_01 _) ?_
      rw [bI_f (fun q => c15 q.2.2)] at hK
      exact hK
    · refine jr_iconst (pc' := 19) gM dX8_isHeap_18 rfl ?_
      refine jr_goto (tgt := 23) gM dX8_isHeap_19 rfl ?_
      refine jr_zreturn dX8_isHeap_23 rfl (by first | omega | exact bI_01 _) ?_
      rw [bI_t ⟨c5.1, c5.2, c15⟩] at hK
      exact hK
set_option maxRecDepth 100000 in
theorem beside_ok {fr : Nat → Nat → Int} {u : Nat} {h : Int} (hn : σ 24 5 = (n : Int)) (hn2 : n ≤ 40) (hV : HV n hp) (hh : ∀ u, u < n → σ 28 u = hp u) (hf : ∀ a b, a < n → b < n → σ 29 (40 * a + b) = fr a b) (h0 : fr u u = 0) (hu : u < n) (h1 : jR h) (hK : K (some (.int (jI (jbs (fr u) hp n h)))) σ) : jRun d mX8_beside [.ref 24, .int (jI (u : Int)), .int (jI h)] σ K := by
  refine jenter (lv := [_, _, _, _, _]) rfl rfl (Nat.le_of_ble_eq_true rfl) ?_
  refine jr_iconst (pc' := 1) gM dX8_beside_0 rfl ?_
  refine jr_istore_n (pc' := 2) (lv' := [_, _, _, _, _]) gM dX8_beside_1 rfl rfl (Nat.le_of_ble_eq_true rfl) ?_
  refine jr_iconst (pc' := 3) gM dX8_beside_2 rfl ?_
  refine jr_istore (pc' := 5) (lv' := [_, _, _, _, _]) gM dX8_beside_3 rfl rfl (Nat.le_of_ble_eq_true rfl) ?_
  have lp : ∀ i, i ≤ n → jV (jP mX8_beside d K) 5 [some (.ref 24), some (.int (jI (u : Int))), some (.int (jI h)), some (.int (jI (jbs (fr u) hp i h))), some (.int (jI (i : Int)))] [] σ := by
    refine jdown n ?_
    intro i hi ih
    have hr := hV.r hn2 i
    refine jr_iload (pc' := 7) gM dX8_beside_5 rfl rfl ?_
    refine jr_aload_n (pc' := 8) gM dX8_beside_7 rfl rfl ?_
    refine jr_gfi (pc' := 11) gM dX8_beside_8 rfl fX8_60 rfl rfl ?_
    rw [hn]
    refine jr_icmp_ge (tgt := 52) (pc' := 14) gM dX8_beside_11 rfl rfl ⟨by omega, by omega⟩ ⟨by omega, by omega⟩ (fun c11 => ?_) (fun c11 => ?_)
    · refine jr_iload_n (pc' := 53) gM dX8_beside_52 rfl rfl ?_
      refine jr_ireturn dX8_beside_53 rfl ?_
      have e : i = n := by omega
      subst e
      exact hK
    · have hq := ih (i + 1) (by omega) (by omega)
      rw [jbs_s] at hq
      refine jr_iload (pc' := 16) gM dX8_beside_14 rfl rfl ?_
      refine jr_iload_n (pc' := 17) gM dX8_beside_16 rfl rfl ?_
      refine jr_icmp_eq (tgt := 46) (pc' := 20) gM dX8_beside_17 rfl rfl ⟨by omega, by omega⟩ ⟨by omega, by omega⟩ (fun c17 => ?_) (fun c17 => ?_)
      · refine jr_iinc (pc' := 49) (lv' := [_, _, _, _, _]) gM dX8_beside_46 rfl rfl rfl ?_
        refine jr_goto (tgt := 5) gM dX8_beside_49 rfl ?_
        have e : i = u := by omega
        subst e
        rw [h0] at hq
        rw [show (if hp i = h then (0 : Int) else 0) = 0 by split <;> rfl, Int.add_zero] at hq
        exact hq
      · refine jr_aload_n (pc' := 21) gM dX8_beside_20 rfl rfl ?_
        refine jr_gfr (pc' := 24) gM dX8_beside_21 rfl fX8_32 rfl rfl ?_
        refine jr_iload (pc' := 26) gM dX8_beside_24 rfl rfl ?_
        refine jr_iald (pc' := 27) _ gM dX8_beside_26 rfl rfl rfl (by omega) (by decide) ?_
        rw [hh i (by omega)]
        refine jr_iload_n (pc' := 28) gM dX8_beside_27 rfl rfl ?_
        refine jr_icmp_ne (tgt := 46) (pc' := 31) gM dX8_beside_28 rfl rfl ⟨by omega, by omega⟩ ⟨by omega, by omega⟩ (fun c28 => ?_) (fun c28 => ?_)
        · refine jr_iinc (pc' := 49) (lv' := [_, _, _, _, _]) gM dX8_beside_46 rfl rfl rfl ?_
          refine jr_goto (tgt := 5) gM dX8_beside_49 rfl ?_
          rw [if_neg c28, Int.add_zero] at hq
          exact hq
        · refine jr_iload_n (pc' := 32) gM dX8_beside_31 rfl rfl ?_
          refine jr_aload_n (pc' := 33) gM dX8_beside_32 rfl rfl ?_
          refine jr_gfr (pc' := 36) gM dX8_beside_33 rfl fX8_35 rfl rfl ?_
          refine jr_bipush (pc' := 38) gM dX8_beside_36 rfl rfl ?_
          refine jr_iload_n (pc' := 39) gM dX8_beside_38 rfl rfl ?_
          refine jr_imul (pc' := 40) gM dX8_beside_39 rfl ?_
          refine jr_iload (pc' := 42) gM dX8_beside_40 rfl rfl ?_
          refine jr_iadd (pc' := 43) gM dX8_beside_42 rfl ?_
          refine jr_iald (pc' := 44) (40 * u + i) gM dX8_beside_43 rfl rfl (by omega) (by omega) (by decide) ?_
          rw [hf u i hu (by omega)]
          refine jr_iadd (pc' := 45) gM dX8_beside_44 rfl ?_
          refine jr_istore_n (pc' := 46) (lv' := [_, _, _, _, _]) gM dX8_beside_45 rfl rfl (Nat.le_of_ble_eq_true rfl) ?_
          refine jr_iinc (pc' := 49) (lv' := [_, _, _, _, _]) gM dX8_beside_46 rfl rfl rfl ?_
          refine jr_goto (tgt := 5) gM dX8_beside_49 rfl ?_
          rw [if_pos c28] at hq
          exact hq
  exact lp 0 (by omega)
theorem opF_ne {u : Nat} (hV : HV n hp) (hu : u < n) (h : hp u ≠ (u : Int)) (v : Nat) : opF n hp u v = if v = u then -1 else hp v := by
  by_cases e : v = u
  · subst e
    rw [opF_u, if_pos rfl]
  · rw [if_neg e]
    rcases hV.cases u with q | ⟨k, q⟩
    · rw [opF_open q]
    · obtain ⟨l1, l2, l3, l4⟩ := hV.lead q
      have hku : k ≠ u := by omega
      unfold opF rgF
      by_cases z : opP hp u v = true
      · rw [if_pos z]
        have ej : jlst (opP hp u) n = (k : Int) := jlst_at l4 (by unfold opP; simp [hku, l1, q]) (fun i hi => by
          unfold opP
          simp only [decide_eq_false_iff_not]
          intro w
          have := hV.lead (u := i) (k := k) (by omega)
          omega)
        rw [ej]
        unfold opP at z
        simp only [decide_eq_true_eq] at z
        omega
      · rw [if_neg z, jset_ne e]
set_option maxRecDepth 100000 in
theorem leaves_ok {u : Nat} (hn : σ 24 5 = (n : Int)) (hn2 : n ≤ 40) (hV : HV n hp) (hh : ∀ u, u < n → σ 28 u = hp u) (hu : u < n) (hK : ∀ σ' : jMem, (∀ v, v < n → σ' 28 v = opF n hp u v) → (∀ c, c ≠ 28 → σ' c = σ c) → K none σ') : jRun d mX8_leaves [.ref 24, .int (jI (u : Int))] σ K := by
  have hru := hV.r hn2 u
  refine jenter (lv := [_, _, _, _, _]) rfl rfl (Nat.le_of_ble_eq_true rfl) ?_
  refine jr_aload_n (pc' := 1) gM dX8_leaves_0 rfl rfl ?_
  refine jr_gfr (pc' := 4) gM dX8_leaves_1 rfl fX8_32 rfl rfl ?_
  refine jr_iload_n (pc' := 5) gM dX8_leaves_4 rfl rfl ?_
  refine jr_iald (pc' := 6) _ gM dX8_leaves_5 rfl rfl rfl (by omega) (by decide) ?_
  rw [hh u hu]
  refine jr_istore_n (pc' := 7) (lv' := [_, _, _, _, _]) gM dX8_leaves_6 rfl rfl (Nat.le_of_ble_eq_true rfl) ?_
  refine jr_aload_n (pc' := 8) gM dX8_leaves_7 rfl rfl ?_
  refine jr_gfr (pc' := 11) gM dX8_leaves_8 rfl fX8_32 rfl rfl ?_
  refine jr_iload_n (pc' := 12) gM dX8_leaves_11 rfl rfl ?_
  refine jr_iconst (pc' := 13) gM dX8_leaves_12 rfl ?_
  refine jr_iast (pc' := 14) _ gM dX8_leaves_13 rfl rfl rfl (by omega) (by decide) ?_
  refine jr_iload_n (pc' := 15) gM dX8_leaves_14 rfl rfl ?_
  refine jr_iload_n (pc' := 16) gM dX8_leaves_15 rfl rfl ?_
  refine jr_icmp_eq (tgt := 20) (pc' := 19) gM dX8_leaves_16 rfl rfl ⟨by omega, by omega⟩ ⟨by omega, by omega⟩ (fun c16 => ?_) (fun c16 => ?_)
  · refine jr_iconst (pc' := 21) gM dX8_leaves_20 rfl ?_
    refine jr_istore_n (pc' := 22) (lv' := [_, _, _, _, _]) gM dX8_leaves_21 rfl rfl (Nat.le_of_ble_eq_true rfl) ?_
    refine jr_iconst (pc' := 23) gM dX8_leaves_22 rfl ?_
    refine jr_istore (pc' := 25) (lv' := [_, _, _, _, _]) gM dX8_leaves_23 rfl rfl (Nat.le_of_ble_eq_true rfl) ?_
    have lp : ∀ i, i ≤ n → ∀ σ1 : jMem, (∀ c, c ≠ 28 → σ1 c = σ c) → (∀ v, v < n → σ1 28 v = if v < i then opF n hp u v else jset hp u (-1) v) → jV (jP mX8_leaves d K) 25 [some (.ref 24), some (.int (jI (u : Int))), some (.int (jI (hp u))), some (.int (jI (jlst (opP hp u) i))), some (.int (jI (i : Int)))] [] σ1 := by
      refine jdown n ?_
      intro i hi ih σ1 g1 g2
      have hrj : -1 ≤ jlst (opP hp u) i ∧ jlst (opP hp u) i < 40 := by
        rcases jlst_spec (opP hp u) i with ⟨q1, q2⟩ | ⟨j, q1, q2, q3, q4⟩ <;> omega
      refine jr_iload (pc' := 27) gM dX8_leaves_25 rfl rfl ?_
      refine jr_aload_n (pc' := 28) gM dX8_leaves_27 rfl rfl ?_
      refine jr_gfi (pc' := 31) gM dX8_leaves_28 rfl fX8_60 rfl rfl ?_
      rw [g1 24 (by omega), hn]
      refine jr_icmp_ge (tgt := 70) (pc' := 34) gM dX8_leaves_31 rfl rfl ⟨by omega, by omega⟩ ⟨by omega, by omega⟩ (fun c31 => ?_) (fun c31 => ?_)
      · refine jr_vreturn dX8_leaves_70 rfl ?_
        have e : i = n := by omega
        subst e
        exact hK σ1 (fun v hv => by rw [g2 v hv, if_pos hv]) g1
      · have hri := hV.r hn2 i
        have hsv : jset hp u (-1) i = if i = u then -1 else hp i := rfl
        refine jr_aload_n (pc' := 35) gM dX8_leaves_34 rfl rfl ?_
        refine jr_gfr (pc' := 38) gM dX8_leaves_35 rfl fX8_32 rfl rfl ?_
        refine jr_iload (pc' := 40) gM dX8_leaves_38 rfl rfl ?_
        refine jr_iald (pc' := 41) _ gM dX8_leaves_40 rfl rfl rfl (by omega) (by decide) ?_
        rw [g2 i (by omega), if_neg (by omega)]
        have hrs : -1 ≤ jset hp u (-1) i ∧ jset hp u (-1) i < 40 := by
          rw [hsv]
          split <;> omega
        refine jr_iload_n (pc' := 42) gM dX8_leaves_41 rfl rfl ?_
        refine jr_icmp_eq (tgt := 48) (pc' := 45) gM dX8_leaves_42 rfl rfl ⟨by omega, by omega⟩ ⟨by omega, by omega⟩ (fun c42 => ?_) (fun c42 => ?_)
        · have hpi : opP hp u i = true := by
            unfold opP
            rw [hsv] at c42
            simp only [decide_eq_true_eq]
            split at c42 <;> omega
          have st : jlst (opP hp u) (i + 1) = jlst (opP hp u) n := jlst_step hpi (by omega)
          have go : jV (jP mX8_leaves d K) 56 [some (.ref 24), some (.int (jI (u : Int))), some (.int (jI (hp u))), some (.int (jI (jlst (opP hp u) (i + 1)))), some (.int (jI (i : Int)))] [] σ1 := by
            refine jr_aload_n (pc' := 57) gM dX8_leaves_56 rfl rfl ?_
            refine jr_gfr (pc' := 60) gM dX8_leaves_57 rfl fX8_32 rfl rfl ?_
            refine jr_iload (pc' := 62) gM dX8_leaves_60 rfl rfl ?_
            refine jr_iload_n (pc' := 63) gM dX8_leaves_62 rfl rfl ?_
            refine jr_iast (pc' := 64) _ gM dX8_leaves_63 rfl rfl rfl (by omega) (by decide) ?_
            refine jr_iinc (pc' := 67) (lv' := [_, _, _, _, _]) gM dX8_leaves_64 rfl rfl rfl ?_
            refine jr_goto (tgt := 25) gM dX8_leaves_67 rfl ?_
            refine ih (i + 1) (by omega) (by omega) _ (fun c hc => by rw [jup_row hc]; exact g1 c hc) (fun v hv => ?_)
            by_cases e : v = i
            · subst e
              rw [jup_at, if_pos (by omega), st]
              unfold opF rgF
              rw [if_pos hpi]
            · rw [jup_ne (Or.inr e), g2 v hv]
              have : (v < i) ↔ (v < i + 1) := by omega
              simp only [this]
          refine jr_iload_n (pc' := 49) gM dX8_leaves_48 rfl rfl ?_
          refine jr_iconst (pc' := 50) gM dX8_leaves_49 rfl ?_
          refine jr_icmp_ne (tgt := 56) (pc' := 53) gM dX8_leaves_50 rfl rfl ⟨by omega, by omega⟩ ⟨by omega, by omega⟩ (fun c50 => ?_) (fun c50 => ?_)
          · rw [show jlst (opP hp u) (i + 1) = jlst (opP hp u) i by simp only [jlst]; rw [if_neg c50]] at go
            exact go
          · refine jr_iload (pc' := 55) gM dX8_leaves_53 rfl rfl ?_
            refine jr_istore_n (pc' := 56) (lv' := [_, _, _, _, _]) gM dX8_leaves_55 rfl rfl (Nat.le_of_ble_eq_true rfl) ?_
            rw [show jlst (opP hp u) (i + 1) = (i : Int) by simp only [jlst]; rw [if_pos c50, if_pos hpi]] at go
            exact go
        · have hpi : ¬ opP hp u i = true := by
            unfold opP
            rw [hsv] at c42
            simp only [decide_eq_true_eq]
            split at c42 <;> omega
          refine jr_goto (tgt := 64) gM dX8_leaves_45 rfl ?_
          refine jr_iinc (pc' := 67) (lv' := [_, _, _, _, _]) gM dX8_leaves_64 rfl rfl rfl ?_
          refine jr_goto (tgt := 25) gM dX8_leaves_67 rfl ?_
          rw [show jlst (opP hp u) i = jlst (opP hp u) (i + 1) by simp only [jlst]; rw [if_neg hpi]; split <;> omega]
          refine ih (i + 1) (by omega) (by omega) σ1 g1 (fun v hv => ?_)
          rw [g2 v hv]
          by_cases e : v = i
          · subst e
            rw [if_neg (by omega), if_pos (by omega)]
            unfold opF rgF
            rw [if_neg hpi]
          · have : (v < i) ↔ (v < i + 1) := by omega
            simp only [this]
    refine lp 0 (by omega) _ (fun c hc => jup_row hc) (fun v hv => ?_)
    rw [if_neg (by omega)]
    by_cases e : v = u
    · subst e
      rw [jup_at, jset_at]
    · rw [jup_ne (Or.inr e), jset_ne e]
      exact hh v hv
  · refine jr_vreturn dX8_leaves_19 rfl ?_
    refine hK _ (fun v hv => ?_) (fun c hc => jup_row hc)
    rw [opF_ne hV hu c16]
    by_cases e : v = u
    · subst e
      rw [jup_at, if_pos rfl]
    · rw [jup_ne (Or.inr e), if_neg e]
      exact hh v hv
theorem alF_at {u : Nat} (hu : u < n) (v : Nat) : alF n hp u v = if v = u then (u : Int) else opF n hp u v := by
  unfold alF rgF
  by_cases e : v = u
  · subst e
    rw [if_pos (by simp), if_pos rfl]
    exact jlst_at hu (by simp) (fun i hi => by simp; omega)
  · rw [if_neg (by simp [e]), if_neg e]
theorem opF_keep {u k : Nat} (hk : hp k = (k : Int)) (hne : hp u ≠ (k : Int)) : opF n hp u k = (k : Int) := by
  have hku : k ≠ u := by
    intro e
    subst e
    exact hne hk
  unfold opF rgF
  rw [if_neg (by unfold opP; simp only [decide_eq_true_eq]; omega), jset_ne hku]
  exact hk
theorem inF_at {u k : Nat} (hV : HV n hp) (hu : u < n) (hk : hp k = (k : Int)) (hk2 : k < n) (hne : hp u ≠ (k : Int)) (v : Nat) : inF n hp u k v = if v = u ∨ opF n hp u v = (k : Int) then ((min k u : Nat) : Int) else opF n hp u v := by
  have hg := opF_HV (u := u) hV
  have hgk := opF_keep (n := n) hk hne
  have hku : k ≠ u := by
    intro e
    subst e
    exact hne hk
  unfold inF
  rw [if_neg hne]
  unfold rgF
  by_cases e : v = u ∨ opF n hp u v = (k : Int)
  · rw [if_pos (by simpa using e), if_pos e]
    rcases Nat.lt_or_ge u k with q | q
    · rw [show min k u = u by omega]
      refine jlst_at hu (by simp) (fun i hi => ?_)
      simp only [decide_eq_false_iff_not]
      rintro (w | w)
      · omega
      · have := (hg.lead w).2.1
        omega
    · rw [show min k u = k by omega]
      refine jlst_at hk2 (by simp [hgk]) (fun i hi => ?_)
      simp only [decide_eq_false_iff_not]
      rintro (w | w)
      · omega
      · have := (hg.lead w).2.1
        omega
  · rw [if_neg (by simpa using e), if_neg e]
set_option maxRecDepth 100000 in
theorem goes_ok {u k : Nat} (hn : σ 24 5 = (n : Int)) (hn2 : n ≤ 40) (hV : HV n hp) (hh : ∀ u, u < n → σ 28 u = hp u) (hu : u < n) (hk : k = u ∨ (hp k = (k : Int) ∧ k < n ∧ hp u ≠ (k : Int))) (hK : ∀ σ' : jMem, (∀ v, v < n → σ' 28 v = if k = u then alF n hp u v else inF n hp u k v) → (∀ c, c ≠ 28 → σ' c = σ c) → K none σ') : jRun (d + 1) mX8_goes [.ref 24, .int (jI (u : Int)), .int (jI (k : Int))] σ K := by
  have hg := opF_HV (u := u) hV
  have hkn : k < 40 := by omega
  refine jenter (lv := [_, _, _, _]) rfl rfl (Nat.le_of_ble_eq_true rfl) ?_
  refine jr_aload_n (pc' := 1) gM dX8_goes_0 rfl rfl ?_
  refine jr_iload_n (pc' := 2) gM dX8_goes_1 rfl rfl ?_
  refine jr_inv (pc' := 5) (as := [_]) gM dX8_goes_2 rfl kX8_82 rfl rfl rfl (Nat.le_of_ble_eq_true rfl) ?_
  refine leaves_ok hn hn2 hV hh hu (fun σ1 k1 k2 => ?_)
  dsimp only [Option.toList, List.cons_append, List.nil_append]
  refine jr_aload_n (pc' := 6) gM dX8_goes_5 rfl rfl ?_
  refine jr_gfr (pc' := 9) gM dX8_goes_6 rfl fX8_32 rfl rfl ?_
  refine jr_iload_n (pc' := 10) gM dX8_goes_9 rfl rfl ?_
  refine jr_iload_n (pc' := 11) gM dX8_goes_10 rfl rfl ?_
  refine jr_iast (pc' := 12) _ gM dX8_goes_11 rfl rfl rfl (by omega) (by decide) ?_
  refine jr_iload_n (pc' := 13) gM dX8_goes_12 rfl rfl ?_
  refine jr_iload_n (pc' := 14) gM dX8_goes_13 rfl rfl ?_
  refine jr_icmp_gt (tgt := 18) (pc' := 17) gM dX8_goes_14 rfl rfl ⟨by omega, by omega⟩ ⟨by omega, by omega⟩ (fun c14 => ?_) (fun c14 => ?_)
  · have hk' : hp k = (k : Int) ∧ k < n ∧ hp u ≠ (k : Int) := by omega
    have hia := inF_at hV hu hk'.1 hk'.2.1 hk'.2.2
    rw [show min k u = u by omega] at hia
    refine jr_iconst (pc' := 19) gM dX8_goes_18 rfl ?_
    refine jr_istore_n (pc' := 20) (lv' := [_, _, _, _]) gM dX8_goes_19 rfl rfl (Nat.le_of_ble_eq_true rfl) ?_
    have lp : ∀ i, i ≤ n → ∀ σ2 : jMem, (∀ c, c ≠ 28 → σ2 c = σ c) → (∀ v, v < n → σ2 28 v = if v < i then inF n hp u k v else if v = u then (k : Int) else opF n hp u v) → jV (jP mX8_goes (d + 1) K) 20 [some (.ref 24), some (.int (jI (u : Int))), some (.int (jI (k : Int))), some (.int (jI (i : Int)))] [] σ2 := by
      refine jdown n ?_
      intro i hi ih σ2 g1 g2
      refine jr_iload_n (pc' := 21) gM dX8_goes_20 rfl rfl ?_
      refine jr_aload_n (pc' := 22) gM dX8_goes_21 rfl rfl ?_
      refine jr_gfi (pc' := 25) gM dX8_goes_22 rfl fX8_60 rfl rfl ?_
      rw [g1 24 (by omega), hn]
      refine jr_icmp_ge (tgt := 51) (pc' := 28) gM dX8_goes_25 rfl rfl ⟨by omega, by omega⟩ ⟨by omega, by omega⟩ (fun c25 => ?_) (fun c25 => ?_)
      · refine jr_vreturn dX8_goes_51 rfl ?_
        have e : i = n := by omega
        subst e
        refine hK σ2 (fun v hv => ?_) g1
        rw [g2 v hv, if_pos hv, if_neg (by omega)]
      · have hro := hg.r hn2 i
        refine jr_aload_n (pc' := 29) gM dX8_goes_28 rfl rfl ?_
        refine jr_gfr (pc' := 32) gM dX8_goes_29 rfl fX8_32 rfl rfl ?_
        refine jr_iload_n (pc' := 33) gM dX8_goes_32 rfl rfl ?_
        refine jr_iald (pc' := 34) _ gM dX8_goes_33 rfl rfl rfl (by omega) (by decide) ?_
        rw [g2 i (by omega), if_neg (by omega)]
        have hrv : -1 ≤ (if i = u then (k : Int) else opF n hp u i) ∧ (if i = u then (k : Int) else opF n hp u i) < 40 := by split <;> omega
        refine jr_iload_n (pc' := 35) gM dX8_goes_34 rfl rfl ?_
        refine jr_icmp_ne (tgt := 45) (pc' := 38) gM dX8_goes_35 rfl rfl ⟨by omega, by omega⟩ ⟨by omega, by omega⟩ (fun c35 => ?_) (fun c35 => ?_)
        · refine jr_iinc (pc' := 48) (lv' := [_, _, _, _]) gM dX8_goes_45 rfl rfl rfl ?_
          refine jr_goto (tgt := 20) gM dX8_goes_48 rfl ?_
          refine ih (i + 1) (by omega) (by omega) σ2 g1 (fun v hv => ?_)
          rw [g2 v hv]
          by_cases e : v = i
          · subst e
            have hne : ¬ (v = u ∨ opF n hp u v = (k : Int)) := by
              rintro (w | w)
              · rw [if_pos w] at c35
                exact c35 rfl
              · split at c35
                · exact c35 rfl
                · exact c35 w
            rw [if_neg (show ¬ v < v by omega), if_neg (fun w => hne (Or.inl w)), if_pos (show v < v + 1 by omega), hia, if_neg hne]
          · have : (v < i) ↔ (v < i + 1) := by omega
            simp only [this]
        · refine jr_aload_n (pc' := 39) gM dX8_goes_38 rfl rfl ?_
          refine jr_gfr (pc' := 42) gM dX8_goes_39 rfl fX8_32 rfl rfl ?_
          refine jr_iload_n (pc' := 43) gM dX8_goes_42 rfl rfl ?_
          refine jr_iload_n (pc' := 44) gM dX8_goes_43 rfl rfl ?_
          refine jr_iast (pc' := 45) _ gM dX8_goes_44 rfl rfl rfl (by omega) (by decide) ?_
          refine jr_iinc (pc' := 48) (lv' := [_, _, _, _]) gM dX8_goes_45 rfl rfl rfl ?_
          refine jr_goto (tgt := 20) gM dX8_goes_48 rfl ?_
          refine ih (i + 1) (by omega) (by omega) _ (fun c hc => by rw [jup_row hc]; exact g1 c hc) (fun v hv => ?_)
          by_cases e : v = i
          · subst e
            rw [jup_at, if_pos (by omega), hia, if_pos]
            by_cases w : v = u
            · exact Or.inl w
            · rw [if_neg w] at c35
              exact Or.inr c35
          · rw [jup_ne (Or.inr e), g2 v hv]
            have : (v < i) ↔ (v < i + 1) := by omega
            simp only [this]
    refine lp 0 (by omega) _ (fun c hc => by rw [jup_row hc]; exact k2 c hc) (fun v hv => ?_)
    rw [if_neg (by omega)]
    by_cases e : v = u
    · subst e
      rw [jup_at, if_pos rfl]
    · rw [jup_ne (Or.inr e), if_neg e]
      exact k1 v hv
  · refine jr_vreturn dX8_goes_17 rfl ?_
    refine hK _ (fun v hv => ?_) (fun c hc => by rw [jup_row hc]; exact k2 c hc)
    by_cases ek : k = u
    · subst ek
      rw [if_pos rfl, alF_at hu]
      by_cases e : v = k
      · subst e
        rw [jup_at, if_pos rfl]
      · rw [jup_ne (Or.inr e), if_neg e]
        exact k1 v hv
    · have hk' : hp k = (k : Int) ∧ k < n ∧ hp u ≠ (k : Int) := by omega
      rw [if_neg ek, inF_at hV hu hk'.1 hk'.2.1 hk'.2.2, show min k u = k by omega]
      by_cases e : v = u
      · subst e
        rw [jup_at, if_pos (Or.inl rfl)]
      · rw [jup_ne (Or.inr e), k1 v hv]
        by_cases w : opF n hp u v = (k : Int)
        · rw [if_pos (Or.inr w)]
          exact w
        · rw [if_neg (by rintro (z | z); exact e z; exact w z)]
end jMo
