/-! ===== the reference: settle, sense, cost, broken, share, first, count ===== -/
section jMu
variable {n : Nat} {nb : Nat → Nat} {yr wt hp : Nat → Int} {pr ga sh fe : Int} {m : Nat} {ba bb : Nat → Nat} {bm : Nat → Int} {s : Nat} {se : Nat → Nat} {sp : Int} {σ : jMem} {K : Option Value → jMem → Prop} {d : Nat}
theorem m_settle {x : Int} (hC : MI n nb yr wt hp pr ga sh fe m ba bb bm s se sp σ) (h1 : jR x)
    (hK0 : ¬ (0 ≤ x ∧ x ≤ 100) → K (some (.int (jI (-1)))) σ)
    (hK1 : ∀ t : Nat, x = (t : Int) → t ≤ 100 → ∀ σ' : jMem, MI n nb yr wt (stN (stR n (fun a b => jfar wt (nb a) (nb b)) (bdL ba bb bm m) pr) t hp).2 pr ga sh fe m ba bb bm s se (sp + ((stN (stR n (fun a b => jfar wt (nb a) (nb b)) (bdL ba bb bm m) pr) t hp).1 : Int)) σ' → (∀ c, c < 24 → σ' c = σ c) → K (some (.int (jI ((stN (stR n (fun a b => jfar wt (nb a) (nb b)) (bdL ba bb bm m) pr) t hp).1 : Int)))) σ') : jRun (d + 9) mX8_settle [.ref 24, .int (jI x)] σ K := by
  refine msettle_ok hC.SM h1 hK0 (fun t e ht hV' σ' k1 k2 k3 k4 => ?_)
  obtain ⟨a1, a2, a3, a4, a5, a6, a7, ⟨a8, a8'⟩, a9, a10, a11, a12, a13, a14⟩ := hC
  refine hK1 t e ht σ' ?_ (fun c hc => k4 c (by omega) (by omega))
  unfold MI
  rw [k3 5 (by omega), k3 1 (by omega), k3 2 (by omega), k3 3 (by omega), k3 4 (by omega), k3 14 (by omega), k4 25 (by omega) (by omega), k4 26 (by omega) (by omega), k4 27 (by omega) (by omega), k4 29 (by omega) (by omega), k4 33 (by omega) (by omega)]
  exact ⟨a1, a2, a3, a4, hV', k1, a7, ⟨a8.of (k3 10 (by omega)) (fun c q1 q2 => k4 c (by omega) (by omega)), a8'⟩, a9, a10, a11, a12, a13, by rw [k2, a14]⟩
set_option maxRecDepth 100000 in
theorem m_sense {x : Int} (hC : MI n nb yr wt hp pr ga sh fe m ba bb bm s se sp σ) (h1 : jR x)
    (hK0 : ¬ ((0 ≤ x ∧ x ≤ 1048575) ∧ s < 5) → K (some (.int (jI (-1)))) σ)
    (hK1 : ∀ a : Nat, x = (a : Int) → a < 2 ^ 20 → s < 5 → ∀ σ' : jMem, MI n nb yr wt hp pr ga sh fe m ba bb bm (s + 1) (jset se s a) sp σ' → (∀ c, c < 24 → σ' c = σ c) → K (some (.int (jI (s : Int)))) σ') : jRun (d + 9) mX8_sense [.ref 24, .int (jI x)] σ K := by
  refine jenter (lv := [_, _]) rfl rfl (Nat.le_of_ble_eq_true rfl) ?_
  refine jr_iload_n (pc' := 1) gM dX8_sense_0 rfl rfl ?_
  refine jr_iconst (pc' := 2) gM dX8_sense_1 rfl ?_
  refine jr_ldc (pc' := 4) gM dX8_sense_2 rfl qX8_78 ?_
  refine jr_ins (pc' := 7) (as := [_, _, _]) gM dX8_sense_4 rfl kX8_63 rfl rfl (Nat.le_of_ble_eq_true rfl) ?_
  refine in_ok h1 ⟨by omega, by omega⟩ ⟨by omega, by omega⟩ ?_
  dsimp only [Option.toList, List.cons_append, List.nil_append]
  refine jr_pb_eq (tgt := 18) (pc' := 10) gM dX8_sense_7 rfl rfl (fun c7 => ?_) (fun c7 => ?_)
  · refine jr_iconst (pc' := 19) gM dX8_sense_18 rfl ?_
    refine jr_ireturn dX8_sense_19 rfl ?_
    exact hK0 (fun q => c7 q.1)
  · obtain ⟨a, rfl⟩ := Int.eq_ofNat_of_zero_le c7.1
    obtain ⟨a1, a2, a3, a4, a5, a6, a7, ⟨a8, a8'⟩, a9, a10, a11, a12, a13, a14⟩ := hC
    have hs5 := a13.2.1
    refine jr_aload_n (pc' := 11) gM dX8_sense_10 rfl rfl ?_
    refine jr_gfi (pc' := 14) gM dX8_sense_11 rfl fX8_136 rfl rfl ?_
    refine jr_iconst (pc' := 15) gM dX8_sense_14 rfl ?_
    rw [a13.1]
    refine jr_icmp_ne (tgt := 20) (pc' := 18) gM dX8_sense_15 rfl rfl ⟨by omega, by omega⟩ ⟨by omega, by omega⟩ (fun c15 => ?_) (fun c15 => ?_)
    · refine jr_aload_n (pc' := 21) gM dX8_sense_20 rfl rfl ?_
      refine jr_gfr (pc' := 24) gM dX8_sense_21 rfl fX8_48 rfl rfl ?_
      refine jr_aload_n (pc' := 25) gM dX8_sense_24 rfl rfl ?_
      refine jr_gfi (pc' := 28) gM dX8_sense_25 rfl fX8_136 rfl rfl ?_
      rw [a13.1]
      refine jr_iload_n (pc' := 29) gM dX8_sense_28 rfl rfl ?_
      refine jr_iast (pc' := 30) (s) gM dX8_sense_29 rfl rfl (rfl) (by omega) (by decide) ?_
      refine jr_aload_n (pc' := 31) gM dX8_sense_30 rfl rfl ?_
      refine jr_dup (pc' := 32) gM dX8_sense_31 rfl rfl ?_
      refine jr_gfi (pc' := 35) gM dX8_sense_32 rfl fX8_136 rfl rfl ?_
      rw [jup_row (show (24 : Nat) ≠ 33 by omega), a13.1]
      refine jr_iconst (pc' := 36) gM dX8_sense_35 rfl ?_
      refine jr_iadd (pc' := 37) gM dX8_sense_36 rfl ?_
      refine jr_pf (pc' := 40) gM dX8_sense_37 rfl fX8_136 rfl rfl ⟨rfl, by decide +kernel⟩ ?_
      refine jr_aload_n (pc' := 41) gM dX8_sense_40 rfl rfl ?_
      refine jr_gfi (pc' := 44) gM dX8_sense_41 rfl fX8_136 rfl rfl ?_
      rw [jup_at]
      refine jr_iconst (pc' := 45) gM dX8_sense_44 rfl ?_
      refine jr_isub (pc' := 46) gM dX8_sense_45 rfl ?_
      refine jr_ireturn dX8_sense_46 rfl ?_
      rw [show (s : Int) + 1 - 1 = (s : Int) by omega]
      have r : ∀ c, c ≠ 24 → c ≠ 33 → jup (jup σ 33 s a) 24 14 ((s : Int) + 1) c = σ c := fun c q1 q2 => by rw [jup_row q1, jup_row q2]
      have f : ∀ j, j ≠ 14 → jup (jup σ 33 s a) 24 14 ((s : Int) + 1) 24 j = σ 24 j := fun j q => by rw [jup_ne (Or.inr q), jup_row (by omega)]
      refine hK1 a rfl (by omega) (by omega) _ ?_ (fun c hc => r c (by omega) (by omega))
      unfold MI
      rw [f 5 (by omega), f 1 (by omega), f 2 (by omega), f 3 (by omega), f 4 (by omega), f 16 (by omega), r 25 (by omega) (by omega), r 26 (by omega) (by omega), r 27 (by omega) (by omega), r 28 (by omega) (by omega), r 29 (by omega) (by omega)]
      refine ⟨a1, a2, a3, a4, a5, a6, a7, ⟨a8.of (f 10 (by omega)) (fun c q1 q2 => r c (by omega) (by omega)), a8'⟩, a9, a10, a11, a12, ⟨by rw [jup_at]; rfl, by omega, fun t ht => ?_⟩, a14⟩
      rw [jup_row (show (33 : Nat) ≠ 24 by omega)]
      by_cases e : t = s
      · subst e
        rw [jup_at, jset_at]
        exact ⟨rfl, by omega⟩
      · rw [jup_ne (Or.inr e), jset_ne e]
        exact a13.2.2 t (by omega)
    · refine jr_iconst (pc' := 19) gM dX8_sense_18 rfl ?_
      refine jr_ireturn dX8_sense_19 rfl ?_
      exact hK0 (by omega)
/-- a sum over all pairs is twice the sum over the ordered ones -/
theorem js_pairs {g : Nat → Nat → Int} (h1 : ∀ u v, g u v = g v u) (h0 : ∀ u, g u u = 0) (n : Nat) : js (fun u => js (g u) n) n = 2 * js (fun u => js (g u) u) n := by
  induction n with
  | zero => rfl
  | succ n ih =>
    have e : js (fun u => js (g u) (n + 1)) n = js (fun u => js (g u) n) n + js (g n) n := by
      have : (fun u => js (g u) (n + 1)) = (fun u => js (g u) n + g u n) := rfl
      rw [this, js_add]
      have : js (fun u => g u n) n = js (g n) n := js_congr (fun i _ => h1 i n)
      omega
    simp only [js] at *
    rw [e, ih, h0]
    omega
def csF (n : Nat) (hp : Nat → Int) (fr : Nat → Nat → Int) (pr : Int) : Int := js (fun u => (if hp u = (u : Int) then pr else 0) + js (fun v => if hp u ≠ -1 ∧ hp u = hp v then fr u v else 0) u) n
theorem csF_eq {fr : Nat → Nat → Int} (h1 : ∀ u v, fr u v = fr v u) (h0 : ∀ u, fr u u = 0) : js (fun h => bI (hp h = (h : Int))) n * pr + js (fun u => js (fun o => if decide (hp u ≠ -1 ∧ hp o = hp u) then fr u o else 0) n) n / 2 = csF n hp fr pr := by
  have e := js_pairs (g := fun u v => if hp u ≠ -1 ∧ hp u = hp v then fr u v else 0) (fun u v => by
    by_cases q : hp u ≠ -1 ∧ hp u = hp v
    · rw [if_pos q, if_pos ⟨by rw [← q.2]; exact q.1, q.2.symm⟩]
      exact h1 u v
    · rw [if_neg q, if_neg (fun z => q ⟨by rw [← z.2]; exact z.1, z.2.symm⟩)]) (fun u => by
    rw [h0]
    split <;> rfl) n
  have e2 : js (fun u => js (fun o => if decide (hp u ≠ -1 ∧ hp o = hp u) then fr u o else 0) n) n = js (fun u => js (fun v => if hp u ≠ -1 ∧ hp u = hp v then fr u v else 0) n) n := by
    apply js_congr
    intro u _
    apply js_congr
    intro v _
    exact ite_congr (propext (by rw [decide_eq_true_eq]; exact ⟨fun q => ⟨q.1, q.2.symm⟩, fun q => ⟨q.1, q.2.symm⟩⟩)) (fun _ => rfl) (fun _ => rfl)
  have e3 : js (fun h => bI (hp h = (h : Int))) n * pr = js (fun u => if hp u = (u : Int) then pr else 0) n := by
    clear e e2
    induction n with
    | zero => simp [js]
    | succ n ih =>
      simp only [js]
      rw [Int.add_mul, ih]
      unfold bI
      split <;> simp
  rw [e2, e, e3]
  unfold csF
  rw [js_add]
  omega
set_option maxRecDepth 100000 in
theorem m_cost (hC : MI n nb yr wt hp pr ga sh fe m ba bb bm s se sp σ)
    (hK : K (some (.int (jI (csF n hp (fun a b => jfar wt (nb a) (nb b)) pr)))) σ) : jRun (d + 9) mX8_cost [.ref 24] σ K := by
  obtain ⟨c1, hn, hV, hh, hf, hfr, hf0, hL, hB, hp1, -⟩ := hC.SM
  generalize hfe : (fun a b => jfar wt (nb a) (nb b)) = fr at *
  refine jenter (lv := [_, _, _, _]) rfl rfl (Nat.le_of_ble_eq_true rfl) ?_
  refine jr_iconst (pc' := 1) gM dX8_cost_0 rfl ?_
  refine jr_istore_n (pc' := 2) (lv' := [_, _, _, _]) gM dX8_cost_1 rfl rfl (Nat.le_of_ble_eq_true rfl) ?_
  refine jr_iconst (pc' := 3) gM dX8_cost_2 rfl ?_
  refine jr_istore_n (pc' := 4) (lv' := [_, _, _, _]) gM dX8_cost_3 rfl rfl (Nat.le_of_ble_eq_true rfl) ?_
  have lp : ∀ i, i ≤ n → ∀ q : Option Value, jV (jP mX8_cost (d + 9) K) 4 [some (.ref 24), some (.int (jI (csF i hp fr pr))), some (.int (jI (i : Int))), q] [] σ := by
    refine jdown n ?_
    intro i hi ih q
    refine jr_iload_n (pc' := 5) gM dX8_cost_4 rfl rfl ?_
    refine jr_aload_n (pc' := 6) gM dX8_cost_5 rfl rfl ?_
    refine jr_gfi (pc' := 9) gM dX8_cost_6 rfl fX8_60 rfl rfl ?_
    rw [c1]
    refine jr_icmp_ge (tgt := 91) (pc' := 12) gM dX8_cost_9 rfl rfl ⟨by omega, by omega⟩ ⟨by omega, by omega⟩ (fun c9 => ?_) (fun c9 => ?_)
    · refine jr_iload_n (pc' := 92) gM dX8_cost_91 rfl rfl ?_
      refine jr_ireturn dX8_cost_92 rfl ?_
      have e : i = n := by omega
      subst e
      exact hK
    · have hri := hV.r hn i
      have inner : ∀ j, j ≤ i → jV (jP mX8_cost (d + 9) K) 35 [some (.ref 24), some (.int (jI (csF i hp fr pr + (if hp i = (i : Int) then pr else 0) + js (fun v => if hp i ≠ -1 ∧ hp i = hp v then fr i v else 0) j))), some (.int (jI (i : Int))), some (.int (jI (j : Int)))] [] σ := by
        refine jdown i ?_
        intro j hj ihj
        refine jr_iload_n (pc' := 36) gM dX8_cost_35 rfl rfl ?_
        refine jr_iload_n (pc' := 37) gM dX8_cost_36 rfl rfl ?_
        refine jr_icmp_ge (tgt := 85) (pc' := 40) gM dX8_cost_37 rfl rfl ⟨by omega, by omega⟩ ⟨by omega, by omega⟩ (fun c37 => ?_) (fun c37 => ?_)
        · have e : j = i := by omega
          subst e
          refine jr_iinc (pc' := 88) (lv' := [_, _, _, _]) gM dX8_cost_85 rfl rfl rfl ?_
          refine jr_goto (tgt := 4) gM dX8_cost_88 rfl ?_
          have := ih (j + 1) (by omega) (by omega) (some (.int (jI (j : Int))))
          unfold csF at this ⊢
          simp only [js] at this
          rw [← Int.add_assoc] at this
          exact this
        · have hrj := hV.r hn j
          have nxt := ihj (j + 1) (by omega) (by omega)
          simp only [js] at nxt
          refine jr_aload_n (pc' := 41) gM dX8_cost_40 rfl rfl ?_
          refine jr_gfr (pc' := 44) gM dX8_cost_41 rfl fX8_32 rfl rfl ?_
          refine jr_iload_n (pc' := 45) gM dX8_cost_44 rfl rfl ?_
          refine jr_iald (pc' := 46) (i) gM dX8_cost_45 rfl rfl (rfl) (by omega) (by decide) ?_
          rw [hh i (by omega)]
          refine jr_iconst (pc' := 47) gM dX8_cost_46 rfl ?_
          refine jr_icmp_eq (tgt := 79) (pc' := 50) gM dX8_cost_47 rfl rfl ⟨by omega, by omega⟩ ⟨by omega, by omega⟩ (fun c47 => ?_) (fun c47 => ?_)
          · rw [if_neg (show ¬ (hp i ≠ -1 ∧ hp i = hp j) by omega), Int.add_zero] at nxt
            refine jr_iinc (pc' := 82) (lv' := [_, _, _, _]) gM dX8_cost_79 rfl rfl rfl ?_
            refine jr_goto (tgt := 35) gM dX8_cost_82 rfl ?_
            exact nxt
          · refine jr_aload_n (pc' := 51) gM dX8_cost_50 rfl rfl ?_
            refine jr_gfr (pc' := 54) gM dX8_cost_51 rfl fX8_32 rfl rfl ?_
            refine jr_iload_n (pc' := 55) gM dX8_cost_54 rfl rfl ?_
            refine jr_iald (pc' := 56) (i) gM dX8_cost_55 rfl rfl (rfl) (by omega) (by decide) ?_
            refine jr_aload_n (pc' := 57) gM dX8_cost_56 rfl rfl ?_
            refine jr_gfr (pc' := 60) gM dX8_cost_57 rfl fX8_32 rfl rfl ?_
            refine jr_iload_n (pc' := 61) gM dX8_cost_60 rfl rfl ?_
            refine jr_iald (pc' := 62) (j) gM dX8_cost_61 rfl rfl (rfl) (by omega) (by decide) ?_
            rw [hh i (by omega), hh j (by omega)]
            refine jr_icmp_ne (tgt := 79) (pc' := 65) gM dX8_cost_62 rfl rfl ⟨by omega, by omega⟩ ⟨by omega, by omega⟩ (fun c62 => ?_) (fun c62 => ?_)
            · rw [if_neg (show ¬ (hp i ≠ -1 ∧ hp i = hp j) by omega), Int.add_zero] at nxt
              refine jr_iinc (pc' := 82) (lv' := [_, _, _, _]) gM dX8_cost_79 rfl rfl rfl ?_
              refine jr_goto (tgt := 35) gM dX8_cost_82 rfl ?_
              exact nxt
            · rw [if_pos (show hp i ≠ -1 ∧ hp i = hp j by omega), ← Int.add_assoc] at nxt
              refine jr_iload_n (pc' := 66) gM dX8_cost_65 rfl rfl ?_
              refine jr_aload_n (pc' := 67) gM dX8_cost_66 rfl rfl ?_
              refine jr_gfr (pc' := 70) gM dX8_cost_67 rfl fX8_35 rfl rfl ?_
              refine jr_bipush (pc' := 72) gM dX8_cost_70 rfl rfl ?_
              refine jr_iload_n (pc' := 73) gM dX8_cost_72 rfl rfl ?_
              refine jr_imul (pc' := 74) gM dX8_cost_73 rfl ?_
              refine jr_iload_n (pc' := 75) gM dX8_cost_74 rfl rfl ?_
              refine jr_iadd (pc' := 76) gM dX8_cost_75 rfl ?_
              refine jr_iald (pc' := 77) ((40 * i + j)) gM dX8_cost_76 rfl rfl (by push_cast; omega) (by omega) (by decide) ?_
              rw [hf i j (by omega) (by omega)]
              refine jr_iadd (pc' := 78) gM dX8_cost_77 rfl ?_
              refine jr_istore_n (pc' := 79) (lv' := [_, _, _, _]) gM dX8_cost_78 rfl rfl (Nat.le_of_ble_eq_true rfl) ?_
              refine jr_iinc (pc' := 82) (lv' := [_, _, _, _]) gM dX8_cost_79 rfl rfl rfl ?_
              refine jr_goto (tgt := 35) gM dX8_cost_82 rfl ?_
              exact nxt
      refine jr_iload_n (pc' := 13) gM dX8_cost_12 rfl rfl ?_
      refine jr_aload_n (pc' := 14) gM dX8_cost_13 rfl rfl ?_
      refine jr_gfr (pc' := 17) gM dX8_cost_14 rfl fX8_32 rfl rfl ?_
      refine jr_iload_n (pc' := 18) gM dX8_cost_17 rfl rfl ?_
      refine jr_iald (pc' := 19) (i) gM dX8_cost_18 rfl rfl (rfl) (by omega) (by decide) ?_
      rw [hh i (by omega)]
      refine jr_iload_n (pc' := 20) gM dX8_cost_19 rfl rfl ?_
      have st := inner 0 (by omega)
      simp only [js] at st
      rw [Int.add_zero] at st
      refine jr_icmp_ne (tgt := 30) (pc' := 23) gM dX8_cost_20 rfl rfl ⟨by omega, by omega⟩ ⟨by omega, by omega⟩ (fun c20 => ?_) (fun c20 => ?_)
      · rw [if_neg (by omega)] at st
        refine jr_iconst (pc' := 31) gM dX8_cost_30 rfl ?_
        refine jr_iadd (pc' := 32) gM dX8_cost_31 rfl ?_
        refine jr_istore_n (pc' := 33) (lv' := [_, _, _, _]) gM dX8_cost_32 rfl rfl (Nat.le_of_ble_eq_true rfl) ?_
        refine jr_iconst (pc' := 34) gM dX8_cost_33 rfl ?_
        refine jr_istore_n (pc' := 35) (lv' := [_, _, _, _]) gM dX8_cost_34 rfl rfl (Nat.le_of_ble_eq_true rfl) ?_
        exact st
      · rw [if_pos (by omega)] at st
        refine jr_aload_n (pc' := 24) gM dX8_cost_23 rfl rfl ?_
        refine jr_gfi (pc' := 27) gM dX8_cost_24 rfl fX8_13 rfl rfl ?_
        rw [hp1]
        refine jr_goto (tgt := 31) gM dX8_cost_27 rfl ?_
        refine jr_iadd (pc' := 32) gM dX8_cost_31 rfl ?_
        refine jr_istore_n (pc' := 33) (lv' := [_, _, _, _]) gM dX8_cost_32 rfl rfl (Nat.le_of_ble_eq_true rfl) ?_
        refine jr_iconst (pc' := 34) gM dX8_cost_33 rfl ?_
        refine jr_istore_n (pc' := 35) (lv' := [_, _, _, _]) gM dX8_cost_34 rfl rfl (Nat.le_of_ble_eq_true rfl) ?_
        exact st
  exact lp 0 (by omega) _
/-- the class's count of the broken, from both ends of each bond -/
def brS (bd : Nat → Nat → Int) (hp : Nat → Int) : Int := js (fun u => if hp u ≠ -1 then ((jn (fun v => decide (bd u v = 1) && decide (hp v ≠ -1) && !decide (hp u ≠ -1 ∧ hp v = hp u)) 40 + jn (fun v => decide (bd u v = 2) && decide (hp u ≠ -1 ∧ hp v = hp u)) 40 : Nat) : Int) else 0) 40
abbrev boQ (ba bb : Nat → Nat) (bm hp : Nat → Int) (k : Nat) : Prop := hp (ba k) ≠ -1 ∧ hp (bb k) ≠ -1 ∧ ((bm k = 1 ∧ hp (ba k) ≠ hp (bb k)) ∨ (bm k = 0 ∧ hp (ba k) = hp (bb k)))
theorem brS_s (h : BL n (m + 1) ba bb bm) (hn : n ≤ 40) : brS (bdL ba bb bm (m + 1)) hp = brS (bdL ba bb bm m) hp + 2 * bI (boQ ba bb bm hp m) := by
  have hm := h.2.1 m (by omega)
  unfold brS
  have e : ∀ u, (if hp u ≠ -1 then ((jn (fun v => decide (bdL ba bb bm (m + 1) u v = 1) && decide (hp v ≠ -1) && !decide (hp u ≠ -1 ∧ hp v = hp u)) 40 + jn (fun v => decide (bdL ba bb bm (m + 1) u v = 2) && decide (hp u ≠ -1 ∧ hp v = hp u)) 40 : Nat) : Int) else 0) = (if hp u ≠ -1 then ((jn (fun v => decide (bdL ba bb bm m u v = 1) && decide (hp v ≠ -1) && !decide (hp u ≠ -1 ∧ hp v = hp u)) 40 + jn (fun v => decide (bdL ba bb bm m u v = 2) && decide (hp u ≠ -1 ∧ hp v = hp u)) 40 : Nat) : Int) else 0) + ((if u = ba m then bI (boQ ba bb bm hp m) else 0) + (if u = bb m then bI (boQ ba bb bm hp m) else 0)) := by
    intro u
    simp only [Bool.and_assoc]
    rw [jn_bdL h hn (u := u) (t := 2) (by decide), jn_bdL h hn (u := u) (t := 1) (by decide)]
    unfold tcF bI boQ
    simp only [Bool.and_eq_true, Bool.not_eq_true', decide_eq_true_eq, decide_eq_false_iff_not]
    generalize jn _ 40 = x1
    generalize jn _ 40 = x2
    obtain ⟨-, -, hne, hb⟩ := hm
    by_cases ea : u = ba m
    · subst ea
      have h1 : ¬ bb m = ba m := fun q => hne q.symm
      have h2 : ¬ ba m = bb m := hne
      simp only [h1, h2, true_and, false_and, or_false, if_true, if_false]
      by_cases z1 : hp (ba m) = -1
      · simp [z1]
      · have z1' : ¬ (-1 = hp (ba m)) := fun q => z1 q.symm
        rcases hb with q | q <;> simp only [q] <;> by_cases z2 : hp (bb m) = -1 <;> by_cases z3 : hp (bb m) = hp (ba m) <;> simp [z1, z1', z2, z3] <;> omega
    · by_cases eb : u = bb m
      · subst eb
        have h2 : ¬ ba m = bb m := hne
        have h1 : ¬ bb m = ba m := fun q => hne q.symm
        simp only [h1, h2, true_and, false_and, false_or, if_true, if_false]
        by_cases z1 : hp (bb m) = -1
        · simp [z1]
        · have z1' : ¬ (-1 = hp (bb m)) := fun q => z1 q.symm
          rcases hb with q | q <;> simp only [q] <;> by_cases z2 : hp (ba m) = -1 <;> by_cases z3 : hp (ba m) = hp (bb m) <;> simp [z1, z1', z2, z3] <;> omega
      · have h1 : ¬ ba m = u := fun q => ea q.symm
        have h2 : ¬ bb m = u := fun q => eb q.symm
        simp [h1, h2, ea, eb]
  rw [js_congr (fun u _ => e u), js_add, js_add, js_pt (by omega), js_pt (by omega)]
  omega
theorem brS_0 : brS (bdL ba bb bm 0) hp = 0 := by
  unfold brS
  have : ∀ u, u < 40 → (if hp u ≠ -1 then ((jn (fun v => decide (bdL ba bb bm 0 u v = 1) && decide (hp v ≠ -1) && !decide (hp u ≠ -1 ∧ hp v = hp u)) 40 + jn (fun v => decide (bdL ba bb bm 0 u v = 2) && decide (hp u ≠ -1 ∧ hp v = hp u)) 40 : Nat) : Int) else 0) = (fun _ => (0 : Int)) u := by
    intro u _
    simp only [Bool.and_assoc]
    rw [jn_bd0 (by decide), jn_bd0 (by decide)]
    split <;> rfl
  rw [js_congr this]
  decide
theorem brS_eq (hn : n ≤ 40) : ∀ m, BL n m ba bb bm → brS (bdL ba bb bm m) hp / 2 = js (fun k => bI (boQ ba bb bm hp k)) m := by
  have : ∀ m, BL n m ba bb bm → brS (bdL ba bb bm m) hp = 2 * js (fun k => bI (boQ ba bb bm hp k)) m := by
    intro m
    induction m with
    | zero => intro _; rw [brS_0]; rfl
    | succ m ih =>
      intro h
      rw [brS_s h hn, ih (h.pre (by omega))]
      simp only [js]
      omega
  intro m h
  rw [this m h]
  omega
theorem m_broken (hC : MI n nb yr wt hp pr ga sh fe m ba bb bm s se sp σ)
    (hK : K (some (.int (jI (brS (bdL ba bb bm m) hp / 2)))) σ) : jRun (d + 9) mX8_broken [.ref 24] σ K := by
  obtain ⟨a1, a2, a3, a4, a5, a6, a7, ⟨a8, a8'⟩, a9⟩ := hC
  rw [brS_eq a1.2 m a8'] at hK
  exact mbroken_ok a8 a8' a1.2 a5 a6 hK
end jMu
