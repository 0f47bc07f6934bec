/-! ===== the reference: isGreat, sumOf, matches, matched, sum ===== -/
section jMz
variable {n : Nat} {nb : Nat → Nat} {yr wt hp : Nat → Int} {pr ga sh fe : Int} {m : Nat} {ba bb : Nat → Nat} {bm : Nat → Int} {s : Nat} {se : Nat → Nat} {sp : Int} {σ : jMem} {K : Option Value → jMem → Prop} {d : Nat}
theorem szF_0 (h : Nat) : jn (fun v => decide (0 ≤ ((h : Nat) : Int) ∧ hp v = (h : Int))) 40 = szF hp h := by
  unfold szF
  refine jn_congr (fun v _ => ?_)
  rw [decide_eq_decide]
  omega
set_option maxRecDepth 100000 in
theorem isGreat_ok {h : Nat} (hc1 : σ 24 5 = (n : Int)) (hn : n ≤ 40) (hV : HV n hp) (hh : ∀ u, u < n → σ 28 u = hp u) (hhn : h < n)
    (hK : K (some (.int (jI (bI (jn (fun o => decide (hp o = (o : Int)) && decide (szF hp h < szF hp o ∨ (szF hp o = szF hp h ∧ o < h))) n < 5))))) σ) : jRun (d + 4) mX8_isGreat [.ref 24, .int (jI (h : Int))] σ K := by
  have hsz : ∀ o, szF hp o ≤ 40 := fun o => jn_le _ _
  have hsh := hsz h
  refine jenter (lv := [_, _, _, _]) rfl rfl (Nat.le_of_ble_eq_true rfl) ?_
  refine jr_iconst (pc' := 1) gM dX8_isGreat_0 rfl ?_
  refine jr_istore_n (pc' := 2) (lv' := [_, _, _, _]) gM dX8_isGreat_1 rfl rfl (Nat.le_of_ble_eq_true rfl) ?_
  refine jr_iconst (pc' := 3) gM dX8_isGreat_2 rfl ?_
  refine jr_istore_n (pc' := 4) (lv' := [_, _, _, _]) gM dX8_isGreat_3 rfl rfl (Nat.le_of_ble_eq_true rfl) ?_
  have lp : ∀ i, i ≤ n → jV (jP mX8_isGreat (d + 4) K) 4 [some (.ref 24), some (.int (jI (h : Int))), some (.int (jI ((jn (fun o => decide (hp o = (o : Int)) && decide (szF hp h < szF hp o ∨ (szF hp o = szF hp h ∧ o < h))) i : Nat) : Int))), some (.int (jI (i : Int)))] [] σ := by
    refine jdown n ?_
    intro i hi ih
    have hb := jn_le (fun o => decide (hp o = (o : Int)) && decide (szF hp h < szF hp o ∨ (szF hp o = szF hp h ∧ o < h))) i
    refine jr_iload_n (pc' := 5) gM dX8_isGreat_4 rfl rfl ?_
    refine jr_aload_n (pc' := 6) gM dX8_isGreat_5 rfl rfl ?_
    refine jr_gfi (pc' := 9) gM dX8_isGreat_6 rfl fX8_60 rfl rfl ?_
    rw [hc1]
    refine jr_icmp_ge (tgt := 60) (pc' := 12) gM dX8_isGreat_9 rfl rfl ⟨by omega, by omega⟩ ⟨by omega, by omega⟩ (fun c9 => ?_) (fun c9 => ?_)
    · have e : i = n := by omega
      subst e
      refine jr_iload_n (pc' := 61) gM dX8_isGreat_60 rfl rfl ?_
      refine jr_iconst (pc' := 62) gM dX8_isGreat_61 rfl ?_
      refine jr_icmp_ge (tgt := 69) (pc' := 65) gM dX8_isGreat_62 rfl rfl ⟨by omega, by omega⟩ ⟨by omega, by omega⟩ (fun c62 => ?_) (fun c62 => ?_)
      · refine jr_iconst (pc' := 70) gM dX8_isGreat_69 rfl ?_
        refine jr_zreturn dX8_isGreat_70 rfl (by first | omega | exact bI_01 _) ?_
        rw [bI_f (by omega)] at hK
        exact hK
      · refine jr_iconst (pc' := 66) gM dX8_isGreat_65 rfl ?_
        refine jr_goto (tgt := 70) gM dX8_isGreat_66 rfl ?_
        refine jr_zreturn dX8_isGreat_70 rfl (by first | omega | exact bI_01 _) ?_
        rw [bI_t (by omega)] at hK
        exact hK
    · have hsi := hsz i
      have nxt := ih (i + 1) (by omega) (by omega)
      rw [show jn (fun o => decide (hp o = (o : Int)) && decide (szF hp h < szF hp o ∨ (szF hp o = szF hp h ∧ o < h))) (i + 1) = jn (fun o => decide (hp o = (o : Int)) && decide (szF hp h < szF hp o ∨ (szF hp o = szF hp h ∧ o < h))) i + (if (decide (hp i = (i : Int)) && decide (szF hp h < szF hp i ∨ (szF hp i = szF hp h ∧ i < h))) = true then 1 else 0) from rfl] at nxt
      have no : ¬ (hp i = (i : Int) ∧ (szF hp h < szF hp i ∨ (szF hp i = szF hp h ∧ i < h))) → jV (jP mX8_isGreat (d + 4) K) 54 [some (.ref 24), some (.int (jI (h : Int))), some (.int (jI ((jn (fun o => decide (hp o = (o : Int)) && decide (szF hp h < szF hp o ∨ (szF hp o = szF hp h ∧ o < h))) i : Nat) : Int))), some (.int (jI (i : Int)))] [] σ := by
        intro q
        rw [if_neg (by rw [Bool.and_eq_true, decide_eq_true_eq, decide_eq_true_eq]; exact q)] at nxt
        refine jr_iinc (pc' := 57) (lv' := [_, _, _, _]) gM dX8_isGreat_54 rfl rfl rfl ?_
        refine jr_goto (tgt := 4) gM dX8_isGreat_57 rfl ?_
        exact nxt
      have yes : (hp i = (i : Int) ∧ (szF hp h < szF hp i ∨ (szF hp i = szF hp h ∧ i < h))) → jV (jP mX8_isGreat (d + 4) K) 51 [some (.ref 24), some (.int (jI (h : Int))), some (.int (jI ((jn (fun o => decide (hp o = (o : Int)) && decide (szF hp h < szF hp o ∨ (szF hp o = szF hp h ∧ o < h))) i : Nat) : Int))), some (.int (jI (i : Int)))] [] σ := by
        intro q
        rw [if_pos (by rw [Bool.and_eq_true, decide_eq_true_eq, decide_eq_true_eq]; exact q)] at nxt
        refine jr_iinc (pc' := 54) (lv' := [_, _, _, _]) gM dX8_isGreat_51 rfl rfl rfl ?_
        refine jr_iinc (pc' := 57) (lv' := [_, _, _, _]) gM dX8_isGreat_54 rfl rfl rfl ?_
        refine jr_goto (tgt := 4) gM dX8_isGreat_57 rfl ?_
        exact nxt
      refine jr_aload_n (pc' := 13) gM dX8_isGreat_12 rfl rfl ?_
      refine jr_iload_n (pc' := 14) gM dX8_isGreat_13 rfl rfl ?_
      refine jr_inv (pc' := 17) (as := [_]) gM dX8_isGreat_14 rfl kX8_123 rfl rfl rfl (Nat.le_of_ble_eq_true rfl) ?_
      refine misHeap_ok hc1 hn hV hh ⟨by omega, by omega⟩ ?_
      dsimp only [Option.toList, List.cons_append, List.nil_append]
      refine jr_pb_eq (tgt := 54) (pc' := 20) gM dX8_isGreat_17 rfl rfl (fun c17 => ?_) (fun c17 => ?_)
      · exact no (fun q => c17 ⟨by omega, by omega, q.1⟩)
      · have hpi : hp i = (i : Int) := c17.2.2
        refine jr_aload_n (pc' := 21) gM dX8_isGreat_20 rfl rfl ?_
        refine jr_iload_n (pc' := 22) gM dX8_isGreat_21 rfl rfl ?_
        refine jr_inv (pc' := 25) (as := [_]) gM dX8_isGreat_22 rfl kX8_102 rfl rfl rfl (Nat.le_of_ble_eq_true rfl) ?_
        refine msize_ok hc1 hn hV hh ⟨by omega, by omega⟩ ?_
        rw [szF_0]
        dsimp only [Option.toList, List.cons_append, List.nil_append]
        refine jr_aload_n (pc' := 26) gM dX8_isGreat_25 rfl rfl ?_
        refine jr_iload_n (pc' := 27) gM dX8_isGreat_26 rfl rfl ?_
        refine jr_inv (pc' := 30) (as := [_]) gM dX8_isGreat_27 rfl kX8_102 rfl rfl rfl (Nat.le_of_ble_eq_true rfl) ?_
        refine msize_ok hc1 hn hV hh ⟨by omega, by omega⟩ ?_
        rw [szF_0]
        dsimp only [Option.toList, List.cons_append, List.nil_append]
        refine jr_icmp_gt (tgt := 51) (pc' := 33) gM dX8_isGreat_30 rfl rfl ⟨by omega, by omega⟩ ⟨by omega, by omega⟩ (fun c30 => ?_) (fun c30 => ?_)
        · exact yes ⟨hpi, Or.inl (by omega)⟩
        · refine jr_aload_n (pc' := 34) gM dX8_isGreat_33 rfl rfl ?_
          refine jr_iload_n (pc' := 35) gM dX8_isGreat_34 rfl rfl ?_
          refine jr_inv (pc' := 38) (as := [_]) gM dX8_isGreat_35 rfl kX8_102 rfl rfl rfl (Nat.le_of_ble_eq_true rfl) ?_
          refine msize_ok hc1 hn hV hh ⟨by omega, by omega⟩ ?_
          rw [szF_0]
          dsimp only [Option.toList, List.cons_append, List.nil_append]
          refine jr_aload_n (pc' := 39) gM dX8_isGreat_38 rfl rfl ?_
          refine jr_iload_n (pc' := 40) gM dX8_isGreat_39 rfl rfl ?_
          refine jr_inv (pc' := 43) (as := [_]) gM dX8_isGreat_40 rfl kX8_102 rfl rfl rfl (Nat.le_of_ble_eq_true rfl) ?_
          refine msize_ok hc1 hn hV hh ⟨by omega, by omega⟩ ?_
          rw [szF_0]
          dsimp only [Option.toList, List.cons_append, List.nil_append]
          refine jr_icmp_ne (tgt := 54) (pc' := 46) gM dX8_isGreat_43 rfl rfl ⟨by omega, by omega⟩ ⟨by omega, by omega⟩ (fun c43 => ?_) (fun c43 => ?_)
          · exact no (by omega)
          · refine jr_iload_n (pc' := 47) gM dX8_isGreat_46 rfl rfl ?_
            refine jr_iload_n (pc' := 48) gM dX8_isGreat_47 rfl rfl ?_
            refine jr_icmp_ge (tgt := 54) (pc' := 51) gM dX8_isGreat_48 rfl rfl ⟨by omega, by omega⟩ ⟨by omega, by omega⟩ (fun c48 => ?_) (fun c48 => ?_)
            · exact no (by omega)
            · exact yes ⟨hpi, Or.inr ⟨by omega, by omega⟩⟩
  exact lp 0 (by omega)
theorem smF_r {dist : Nat → Nat → Int} (hd : ∀ p t, 0 ≤ dist p t ∧ dist p t ≤ 180) {D : Nat → Nat} {g : Nat} : 0 ≤ smF s dist D g ∧ smF s dist D g ≤ g * 180 := js_le (fun i _ => by
  have := hd i (D i)
  split <;> omega)
set_option maxRecDepth 100000 in
theorem sumOf_ok {g c want : Nat} {gl : Nat → Nat} (hC : MI n nb yr wt hp pr ga sh fe m ba bb bm s se sp σ) (hg : g ≤ 5) (hw : want ≤ 5) (hc : c < 10000) (h35 : ∀ i, i < g → σ 35 i = (gl i : Int)) (hgl : ∀ i, i < g → gl i < n ∧ hp (gl i) = (gl i : Int))
    (hK0 : ¬ (ndD s (dg s g c) g ∧ myF s (dg s g c) g = want) → K (some (.int (jI (-1)))) σ) (hK1 : ndD s (dg s g c) g ∧ myF s (dg s g c) g = want → K (some (.int (jI (smF s (fun p t => jfar wt (jm (coF n nb (fun v => decide (hp v = (gl p : Int)))) 20) (se t)) (dg s g c) g)))) σ) : jRun (d + 5) mX8_sumOf [.ref 24, .int (jI (c : Int)), .int (jI (g : Int)), .int (jI (want : Int))] σ K := by
  obtain ⟨a1, a2, a3, a4, a5, a6, a7, a8, a9, a10, a11, a12, a13, a14⟩ := hC
  have hs5 := a13.2.1
  have hn := a1.2
  generalize hdi : (fun p t => jfar wt (jm (coF n nb (fun v => decide (hp v = (gl p : Int)))) 20) (se t)) = dist at *
  have hdr : ∀ p t, 0 ≤ dist p t ∧ dist p t ≤ 180 := fun p t => by
    rw [← hdi]
    exact jfar_le (fun k hk => (a4 k hk).2)
  generalize hD : dg s g c = D at *
  have hDl : ∀ i, D i ≤ s := fun i => by rw [← hD]; exact dg_lt _ _ _ _
  have mle := myF_le (s := s) (D := D) (g := g)
  refine jenter (lv := [_, _, _, _, _, _, _, _, _, _]) rfl rfl (Nat.le_of_ble_eq_true rfl) ?_
  refine jr_iload_n (pc' := 1) gM dX8_sumOf_0 rfl rfl ?_
  refine jr_istore (pc' := 3) (lv' := [_, _, _, _, _, _, _, _, _, _]) gM dX8_sumOf_1 rfl rfl (Nat.le_of_ble_eq_true rfl) ?_
  refine jr_iconst (pc' := 4) gM dX8_sumOf_3 rfl ?_
  refine jr_istore (pc' := 6) (lv' := [_, _, _, _, _, _, _, _, _, _]) gM dX8_sumOf_4 rfl rfl (Nat.le_of_ble_eq_true rfl) ?_
  refine jr_iconst (pc' := 7) gM dX8_sumOf_6 rfl ?_
  refine jr_istore (pc' := 9) (lv' := [_, _, _, _, _, _, _, _, _, _]) gM dX8_sumOf_7 rfl rfl (Nat.le_of_ble_eq_true rfl) ?_
  refine jr_iconst (pc' := 10) gM dX8_sumOf_9 rfl ?_
  refine jr_istore (pc' := 12) (lv' := [_, _, _, _, _, _, _, _, _, _]) gM dX8_sumOf_10 rfl rfl (Nat.le_of_ble_eq_true rfl) ?_
  refine jr_iload_n (pc' := 13) gM dX8_sumOf_12 rfl rfl ?_
  refine jr_iconst (pc' := 14) gM dX8_sumOf_13 rfl ?_
  refine jr_isub (pc' := 15) gM dX8_sumOf_14 rfl ?_
  refine jr_istore (pc' := 17) (lv' := [_, _, _, _, _, _, _, _, _, _]) gM dX8_sumOf_15 rfl rfl (Nat.le_of_ble_eq_true rfl) ?_
  have lp : ∀ i, i ≤ g → ∀ (U : Nat → Bool) (q9 : Option Value), (∀ t, t < s → (U t = true ↔ ∃ q, g - i ≤ q ∧ q < g ∧ D q = t)) → (∀ b, b < g → ∀ a, g - i ≤ a → a < b → D a = D b → D a = s) → jV (jP mX8_sumOf (d + 5) K) 17 [some (.ref 24), some (.int (jI (c : Int))), some (.int (jI (g : Int))), some (.int (jI (want : Int))), some (.int (jI ((c / (s + 1) ^ i : Nat) : Int))), some (.int (jI ((jm U 5 : Nat) : Int))), some (.int (jI ((myF s D g : Int) - (myF s D (g - i) : Int)))), some (.int (jI (smF s dist D g - smF s dist D (g - i)))), some (.int (jI ((g : Int) - 1 - (i : Int)))), q9] [] σ := by
    refine jdown g ?_
    intro i hi ih U q9 hU hnd
    have mle2 := myF_le (s := s) (D := D) (g := g - i)
    refine jr_iload (pc' := 19) gM dX8_sumOf_17 rfl rfl ?_
    refine jr_if_lt (tgt := 114) (pc' := 22) gM dX8_sumOf_19 rfl rfl ⟨by omega, by omega⟩ (fun c19 => ?_) (fun c19 => ?_)
    · have e : i = g := by omega
      subst e
      rw [Nat.sub_self] at *
      refine jr_iload (pc' := 116) gM dX8_sumOf_114 rfl rfl ?_
      refine jr_iload_n (pc' := 117) gM dX8_sumOf_116 rfl rfl ?_
      rw [show (myF s D i : Int) - (myF s D 0 : Int) = (myF s D i : Int) from Int.sub_zero _, show smF s dist D i - smF s dist D 0 = smF s dist D i from Int.sub_zero _]
      have hnd2 : ndD s D i := fun b hb a hab e => hnd b hb a (by omega) hab e
      refine jr_icmp_ne (tgt := 125) (pc' := 120) gM dX8_sumOf_117 rfl rfl ⟨by omega, by omega⟩ ⟨by omega, by omega⟩ (fun c117 => ?_) (fun c117 => ?_)
      · refine jr_iconst (pc' := 126) gM dX8_sumOf_125 rfl ?_
        refine jr_ireturn dX8_sumOf_126 rfl ?_
        exact hK0 (fun q => c117 (by rw [q.2]))
      · refine jr_iload (pc' := 122) gM dX8_sumOf_120 rfl rfl ?_
        refine jr_goto (tgt := 126) gM dX8_sumOf_122 rfl ?_
        refine jr_ireturn dX8_sumOf_126 rfl ?_
        exact hK1 ⟨hnd2, by omega⟩
    · have hcd : c / (s + 1) ^ i ≤ c := Nat.div_le_self _ _
      obtain ⟨j, hj⟩ : ∃ j, g - i = j + 1 := ⟨g - i - 1, by omega⟩
      have hjg : j < g := by omega
      have hji : g - (i + 1) = j := by omega
      have hDj := hDl j
      have edm : ((c / (s + 1) ^ i : Nat) : Int) % ((s : Int) + 1) = ((D j : Nat) : Int) := by
        rw [← hD]
        unfold dg
        rw [show g - 1 - j = i by omega]
        rfl
      have edd : ((c / (s + 1) ^ i : Nat) : Int) / ((s : Int) + 1) = ((c / (s + 1) ^ (i + 1) : Nat) : Int) := by
        rw [Nat.pow_succ, ← Nat.div_div_eq_div_mul]
        rfl
      have hmy : myF s D (j + 1) = myF s D j + (if D j ≠ s then 1 else 0) := myF_succ
      have hsm : smF s dist D (j + 1) = smF s dist D j + (if D j = s then 0 else dist j (D j)) := rfl
      rw [hj] at hU hnd mle2
      rw [hj]
      generalize c / (s + 1) ^ i = L at *
      have nxt := ih (i + 1) (by omega) (by omega)
      rw [hji] at nxt
      rw [show (g : Int) - 1 - ((i + 1 : Nat) : Int) = (j : Int) + -1 by omega] at nxt
      rw [show (g : Int) - 1 - (i : Int) = (j : Int) by omega]
      refine jr_iload (pc' := 24) gM dX8_sumOf_22 rfl rfl ?_
      refine jr_aload_n (pc' := 25) gM dX8_sumOf_24 rfl rfl ?_
      refine jr_gfi (pc' := 28) gM dX8_sumOf_25 rfl fX8_136 rfl rfl ?_
      rw [a13.1]
      refine jr_iconst (pc' := 29) gM dX8_sumOf_28 rfl ?_
      refine jr_iadd (pc' := 30) gM dX8_sumOf_29 rfl ?_
      refine jr_irem (pc' := 31) gM dX8_sumOf_30 rfl (by omega) (by omega) ?_
      refine jr_istore (pc' := 33) (lv' := [_, _, _, _, _, _, _, _, _, _]) gM dX8_sumOf_31 rfl rfl (Nat.le_of_ble_eq_true rfl) ?_
      refine jr_iload (pc' := 35) gM dX8_sumOf_33 rfl rfl ?_
      refine jr_aload_n (pc' := 36) gM dX8_sumOf_35 rfl rfl ?_
      refine jr_gfi (pc' := 39) gM dX8_sumOf_36 rfl fX8_136 rfl rfl ?_
      rw [edm, a13.1]
      refine jr_iconst (pc' := 40) gM dX8_sumOf_39 rfl ?_
      refine jr_iadd (pc' := 41) gM dX8_sumOf_40 rfl ?_
      refine jr_idiv (pc' := 42) gM dX8_sumOf_41 rfl (by omega) (by omega) ?_
      refine jr_istore (pc' := 44) (lv' := [_, _, _, _, _, _, _, _, _, _]) gM dX8_sumOf_42 rfl rfl (Nat.le_of_ble_eq_true rfl) ?_
      refine jr_iload (pc' := 46) gM dX8_sumOf_44 rfl rfl ?_
      refine jr_aload_n (pc' := 47) gM dX8_sumOf_46 rfl rfl ?_
      refine jr_gfi (pc' := 50) gM dX8_sumOf_47 rfl fX8_136 rfl rfl ?_
      rw [edd, a13.1]
      refine jr_icmp_ne (tgt := 56) (pc' := 53) gM dX8_sumOf_50 rfl rfl ⟨by omega, by omega⟩ ⟨by omega, by omega⟩ (fun c50 => ?_) (fun c50 => ?_)
      · -- a sense
        have hds : D j < s := by omega
        rw [if_pos (by omega)] at hmy
        rw [if_neg (by omega)] at hsm
        have hjm : jm U 5 < 32 := jm_lt U 5
        refine jr_iload (pc' := 58) gM dX8_sumOf_56 rfl rfl ?_
        refine jr_iload (pc' := 60) gM dX8_sumOf_58 rfl rfl ?_
        refine jr_ishr (pc' := 61) (((jm U 5 / 2 ^ (D j) : Nat) : Int)) gM dX8_sumOf_60 rfl (jx_shr (by omega) (by omega)) ?_
        refine jr_iconst (pc' := 62) gM dX8_sumOf_61 rfl ?_
        refine jr_iand (pc' := 63) (bI ((jm U 5).testBit (D j) = true)) gM dX8_sumOf_62 rfl (jx_lo (by omega)) ?_
        refine jr_iconst (pc' := 64) gM dX8_sumOf_63 rfl ?_
        have htb : (jm U 5).testBit (D j) = U (D j) := by
          rw [jm_tb, decide_eq_true (show D j < 5 by omega), Bool.true_and]
        have hb01 := bI_01 ((jm U 5).testBit (D j) = true)
        refine jr_icmp_ne (tgt := 69) (pc' := 67) gM dX8_sumOf_64 rfl rfl ⟨by omega, by omega⟩ ⟨by omega, by omega⟩ (fun c64 => ?_) (fun c64 => ?_)
        · have hUf : ¬ U (D j) = true := fun q => c64 (bI_t (by rw [htb]; exact q))
          refine jr_iload (pc' := 71) gM dX8_sumOf_69 rfl rfl ?_
          refine jr_iconst (pc' := 72) gM dX8_sumOf_71 rfl ?_
          refine jr_iload (pc' := 74) gM dX8_sumOf_72 rfl rfl ?_
          refine jr_ishl (pc' := 75) (((2 ^ (D j) : Nat) : Int)) gM dX8_sumOf_74 rfl (jx_shl (by omega)) ?_
          refine jr_ior (pc' := 76) (((jm (fun t => U t || decide (t = D j)) 5 : Nat) : Int)) gM dX8_sumOf_75 rfl (by rw [jx_or, jm_bit (show D j < 5 by omega), jm_or]) ?_
          refine jr_istore (pc' := 78) (lv' := [_, _, _, _, _, _, _, _, _, _]) gM dX8_sumOf_76 rfl rfl (Nat.le_of_ble_eq_true rfl) ?_
          refine jr_iinc (pc' := 81) (lv' := [_, _, _, _, _, _, _, _, _, _]) gM dX8_sumOf_78 rfl rfl rfl ?_
          refine jr_iload (pc' := 83) gM dX8_sumOf_81 rfl rfl ?_
          refine jr_aload_n (pc' := 84) gM dX8_sumOf_83 rfl rfl ?_
          refine jr_aload_n (pc' := 85) gM dX8_sumOf_84 rfl rfl ?_
          refine jr_aload_n (pc' := 86) gM dX8_sumOf_85 rfl rfl ?_
          refine jr_gfr (pc' := 89) gM dX8_sumOf_86 rfl fX8_54 rfl rfl ?_
          refine jr_iload (pc' := 91) gM dX8_sumOf_89 rfl rfl ?_
          refine jr_iald (pc' := 92) (j) gM dX8_sumOf_91 rfl rfl (rfl) (by omega) (by decide) ?_
          rw [h35 j hjg]
          obtain ⟨g1, g2⟩ := hgl j hjg
          have isH' : isH n hp ((gl j : Nat) : Int) := ⟨by omega, by omega, g2⟩
          refine jr_inv (pc' := 95) (as := [_]) gM dX8_sumOf_92 rfl kX8_149 rfl rfl rfl (Nat.le_of_ble_eq_true rfl) ?_
          refine mcore_ok a1.1 a1.2 a5 a6 a2 ⟨by omega, by omega⟩ (fun q => absurd isH' q) (fun _ => ?_)
          dsimp only [Option.toList, List.cons_append, List.nil_append]
          refine jr_aload_n (pc' := 96) gM dX8_sumOf_95 rfl rfl ?_
          refine jr_gfr (pc' := 99) gM dX8_sumOf_96 rfl fX8_48 rfl rfl ?_
          refine jr_iload (pc' := 101) gM dX8_sumOf_99 rfl rfl ?_
          refine jr_iald (pc' := 102) ((D j)) gM dX8_sumOf_101 rfl rfl (rfl) (by omega) (by decide) ?_
          obtain ⟨s1, s2⟩ := a13.2.2 (D j) hds
          rw [s1]
          refine jr_inv (pc' := 105) (as := [_, _]) gM dX8_sumOf_102 rfl kX8_67 rfl rfl rfl (Nat.le_of_ble_eq_true rfl) ?_
          refine mapart_ok (jm_lt _ 20) s2 ?_
          dsimp only [Option.toList, List.cons_append, List.nil_append]
          rw [show jfar (σ 25) (jm (coF n nb (fun v => decide (0 ≤ ((gl j : Nat) : Int) ∧ hp v = ((gl j : Nat) : Int)))) 20) (se (D j)) = dist j (D j) by
            rw [← hdi, jfar_congr (fun k hk => (a4 k hk).1)]
            have : (fun v => decide (0 ≤ ((gl j : Nat) : Int) ∧ hp v = ((gl j : Nat) : Int))) = (fun v => decide (hp v = ((gl j : Nat) : Int))) := by
              funext v
              rw [decide_eq_decide]
              omega
            rw [this]]
          refine jr_iadd (pc' := 106) gM dX8_sumOf_105 rfl ?_
          refine jr_istore (pc' := 108) (lv' := [_, _, _, _, _, _, _, _, _, _]) gM dX8_sumOf_106 rfl rfl (Nat.le_of_ble_eq_true rfl) ?_
          refine jr_iinc (pc' := 111) (lv' := [_, _, _, _, _, _, _, _, _, _]) gM dX8_sumOf_108 rfl rfl rfl ?_
          refine jr_goto (tgt := 17) gM dX8_sumOf_111 rfl ?_
          rw [show smF s dist D g - smF s dist D (j + 1) + dist j (D j) = smF s dist D g - smF s dist D j by omega, show (myF s D g : Int) - (myF s D (j + 1) : Int) + 1 = (myF s D g : Int) - (myF s D j : Int) by omega]
          refine nxt (fun t => U t || decide (t = D j)) _ (fun t ht => ?_) (fun b hb a ha hab e => ?_)
          · rw [Bool.or_eq_true, hU t ht, decide_eq_true_eq]
            constructor
            · rintro (⟨q, q1, q2, q3⟩ | rfl)
              · exact ⟨q, by omega, q2, q3⟩
              · exact ⟨j, by omega, hjg, rfl⟩
            · rintro ⟨q, q1, q2, q3⟩
              by_cases e : q = j
              · subst e
                exact Or.inr q3.symm
              · exact Or.inl ⟨q, by omega, q2, q3⟩
          · by_cases ea : a = j
            · subst ea
              exact absurd ((hU (D a) hds).mpr ⟨b, by omega, hb, e.symm⟩) hUf
            · exact hnd b hb a (by omega) hab e
        · have hUt : U (D j) = true := by
            rw [← htb]
            refine Classical.byContradiction (fun q => ?_)
            rw [bI_f q] at c64
            omega
          obtain ⟨q, q1, q2, q3⟩ := (hU (D j) hds).mp hUt
          refine jr_iconst (pc' := 68) gM dX8_sumOf_67 rfl ?_
          refine jr_ireturn dX8_sumOf_68 rfl ?_
          refine hK0 (fun z => ?_)
          have := z.1 q q2 j (by omega) q3.symm
          omega
      · -- none
        have hds : D j = s := by omega
        rw [if_neg (by omega)] at hmy
        rw [if_pos hds] at hsm
        rw [show smF s dist D (j + 1) = smF s dist D j by omega, show myF s D (j + 1) = myF s D j by omega]
        refine jr_goto (tgt := 108) gM dX8_sumOf_53 rfl ?_
        refine jr_iinc (pc' := 111) (lv' := [_, _, _, _, _, _, _, _, _, _]) gM dX8_sumOf_108 rfl rfl rfl ?_
        refine jr_goto (tgt := 17) gM dX8_sumOf_111 rfl ?_
        refine nxt U _ (fun t ht => ?_) (fun b hb a ha hab e => ?_)
        · rw [hU t ht]
          constructor
          · rintro ⟨q, q1, q2, q3⟩
            exact ⟨q, by omega, q2, q3⟩
          · rintro ⟨q, q1, q2, q3⟩
            by_cases e : q = j
            · subst e
              omega
            · exact ⟨q, by omega, q2, q3⟩
        · by_cases ea : a = j
          · subst ea
            exact hds
          · exact hnd b hb a (by omega) hab e
  have st := lp 0 (by omega) (fun _ => false) none (fun t _ => by
    constructor
    · intro q
      cases q
    · rintro ⟨q, q1, q2, -⟩
      omega) (fun b hb a h1 h2 => absurd h1 (by omega))
  rw [Nat.sub_zero, Nat.pow_zero, Nat.div_one, Int.sub_self, Int.sub_self, show jm (fun _ => false) 5 = 0 from rfl, show (g : Int) - 1 - ((0 : Nat) : Int) = (g : Int) - 1 by omega] at st
  exact st
end jMz
