/-! ===== Search ===== -/
def jmn (f : Nat → Int) : Nat → Int
  | 0 => 1000000000
  | m + 1 => min (jmn f m) (f m)
theorem jmn_le (f : Nat → Int) (m : Nat) : jmn f m ≤ 1000000000 := by
  induction m with
  | zero => exact Int.le_refl _
  | succ m ih =>
    simp only [jmn]
    omega
theorem jmn_ge {f : Nat → Int} {m : Nat} {b : Int} (hb : b ≤ 1000000000) (h : ∀ j, j < m → b ≤ f j) : b ≤ jmn f m := by
  induction m with
  | zero => exact hb
  | succ m ih =>
    have h1 := ih (fun j hj => h j (by omega))
    have h2 := h m (by omega)
    simp only [jmn]
    omega
/-- a use u may lie in the group j of those below it, laid by P -/
def okP (bd : Nat → Nat → Int) (u j : Nat) (P : Nat → Nat) : Prop := ∀ v, v < u → (bd u v = 1 → P v = j) ∧ (bd u v = 2 → P v ≠ j)
/-- what u costs there -/
def mrF (fr : Nat → Nat → Int) (price : Int) (u made j : Nat) (P : Nat → Nat) : Int := if j < made then js (fun v => if P v = j then fr u v else 0) u else price
/-- the least cost of all ways to lay k uses from u on -/
def mcF (fr bd : Nat → Nat → Int) (price : Int) : Nat → Nat → Nat → (Nat → Nat) → Int → Int
  | 0, _, _, _, s => s
  | k + 1, u, made, P, s => jmn (fun j => if ∀ v, v < u → (bd u v = 1 → P v = j) ∧ (bd u v = 2 → P v ≠ j) then mcF fr bd price k (u + 1) (max made (j + 1)) (jset P u j) (s + mrF fr price u made j P) else 1000000000) (made + 1)
theorem js_nonneg {f : Nat → Int} {n : Nat} (h : ∀ i, i < n → 0 ≤ f i) : 0 ≤ js f n := by
  induction n with
  | zero => exact Int.le_refl _
  | succ n ih =>
    have h1 := ih (fun i hi => h i (by omega))
    have h2 := h n (by omega)
    simp only [js]
    omega
theorem js_cut {f : Nat → Int} {n u : Nat} (hu : u ≤ n) (h : ∀ i, u ≤ i → i < n → f i = 0) : js f n = js f u := by
  induction n with
  | zero =>
    have : u = 0 := by omega
    subst this
    rfl
  | succ n ih =>
    by_cases e : u = n + 1
    · subst e
      rfl
    · simp only [js]
      rw [ih (by omega) (fun i h1 h2 => h i h1 (by omega)), h n (by omega) (by omega), Int.add_zero]
theorem mrF_r {n : Nat} {fr : Nat → Nat → Int} {price : Int} {u made j : Nat} {P : Nat → Nat} (hf : ∀ a b, a < n → b < n → 0 ≤ fr a b ∧ fr a b ≤ 180) (hp : 0 ≤ price ∧ price ≤ 200) (hu : u < n) (hn : n ≤ 7) : 0 ≤ mrF fr price u made j P ∧ mrF fr price u made j P ≤ 1500 := by
  unfold mrF
  split
  · have := js_le (f := fun v => if P v = j then fr u v else 0) (n := u) (b := 180) (fun i hi => by
      have := hf u i hu (by omega)
      split <;> omega)
    omega
  · omega
theorem mcF_ge {n : Nat} {fr bd : Nat → Nat → Int} {price : Int} (hf : ∀ a b, a < n → b < n → 0 ≤ fr a b ∧ fr a b ≤ 180) (hp : 0 ≤ price ∧ price ≤ 200) (hn : n ≤ 7) : ∀ (k u made : Nat) (P : Nat → Nat) (s : Int), u + k = n → s ≤ u * 1500 → s ≤ mcF fr bd price k u made P s := by
  intro k
  induction k with
  | zero =>
    intro u made P s _ _
    exact Int.le_refl _
  | succ k ih =>
    intro u made P s hu hs
    simp only [mcF]
    refine jmn_ge (by omega) (fun j hj => ?_)
    split
    · have h1 := mrF_r (u := u) (made := made) (j := j) (P := P) hf hp (by omega) hn
      have h2 := ih (u + 1) (max made (j + 1)) (jset P u j) (s + mrF fr price u made j P) (by omega) (by omega)
      omega
    · omega
set_option maxRecDepth 100000 in
theorem layRest_ok {n : Nat} {fr bd : Nat → Nat → Int} {m : Nat} {price : Int} (hn : n ≤ 7) (hf : ∀ a b, a < n → b < n → 0 ≤ fr a b ∧ fr a b ≤ 180) (hp : 0 ≤ price ∧ price ≤ 200) (hbd : ∀ u v, bd u v = 0 ∨ bd u v = 1 ∨ bd u v = 2) : ∀ (k : Nat) (d : Nat) (σ : jMem) (K : Option Value → jMem → Prop) (u made : Nat) (P : Nat → Nat) (s : Int), u + k = n → made ≤ u → (∀ v, v < u → P v < made) → 0 ≤ s ∧ s ≤ u * 1500 → σ 1 5 = (n : Int) → BI bd m σ → (∀ a b, a < n → b < n → σ 6 (a * 40 + b) = fr a b) → σ 15 3 = price → 0 ≤ σ 15 4 ∧ σ 15 4 ≤ 1000000000 → (∀ j, j < made → σ 16 j = jk (fun v => decide (v < u ∧ P v = j))) →
    (∀ σ' : jMem, σ' 15 4 = min (σ 15 4) (mcF fr bd price k u made P s) → σ' 15 3 = price → (∀ j, j < made → σ' 16 j = σ 16 j) → (∀ c, c ≠ 15 → c ≠ 16 → σ' c = σ c) → K none σ') → jRun (k + (d + 2)) mX4_layRest [.ref 15, .int (jI (u : Int)), .int (jI (made : Int)), .int (jI s)] σ K := by
  intro k
  induction k with
  | zero =>
    intro d σ K u made P s hu hmu hP hs h1 hB h6 h3 h4 h16 hK
    refine jenter (lv := [_, _, _, _, _, _, _, _, _, _]) rfl rfl (Nat.le_of_ble_eq_true rfl) ?_
    refine jr_iload_n (pc' := 1) gM dX4_layRest_0 rfl rfl ?_
    refine jr_aload_n (pc' := 2) gM dX4_layRest_1 rfl rfl ?_
    refine jr_gfi (pc' := 5) gM dX4_layRest_2 rfl fX4_28 rfl rfl ?_
    refine jr_icmp_lt (tgt := 9) (pc' := 8) gM dX4_layRest_5 rfl rfl ⟨by omega, by omega⟩ ⟨by omega, by omega⟩ (fun c5 => ?_) (fun c5 => ?_)
    · refine jr_iload_n (pc' := 10) gM dX4_layRest_9 rfl rfl ?_
      refine jr_aload_n (pc' := 11) gM dX4_layRest_10 rfl rfl ?_
      refine jr_gfr (pc' := 14) gM dX4_layRest_11 rfl fX4_9 rfl rfl ?_
      refine jr_gfi (pc' := 17) gM dX4_layRest_14 rfl fX4_35 rfl rfl ?_
      refine jr_icmp_ge (tgt := 26) (pc' := 20) gM dX4_layRest_17 rfl rfl ⟨by omega, by omega⟩ ⟨by omega, by omega⟩ (fun _ => ?_) (fun cc => absurd cc (by omega))
      refine jr_aload_n (pc' := 27) gM dX4_layRest_26 rfl rfl ?_
      refine jr_iload_n (pc' := 28) gM dX4_layRest_27 rfl rfl ?_
      refine jr_pf (pc' := 31) gM dX4_layRest_28 rfl fX4_28 rfl rfl ⟨rfl, by decide +kernel⟩ ?_
      refine jr_vreturn dX4_layRest_31 rfl ?_
      refine hK _ ?_ ?_ (fun j _ => by rw [jup_row (by omega)]) (fun c q1 q2 => by rw [jup_row q1])
      · rw [jup_at]
        show s = min (σ 15 4) s
        omega
      · rw [jup_ne (Or.inr (by omega))]
        exact h3
    · refine jr_vreturn dX4_layRest_8 rfl ?_
      refine hK σ ?_ h3 (fun j _ => rfl) (fun c _ _ => rfl)
      show σ 15 4 = min (σ 15 4) s
      omega
  | succ k ih =>
    intro d σ K u made P s hu hmu hP hs h1 hB h6 h3 h4 h16 hK
    have hge := mcF_ge (n := n) (bd := bd) hf hp hn (k + 1) u made P s hu hs.2
    have hmrr := fun j => mrF_r (u := u) (made := made) (j := j) (P := P) hf hp (by omega) hn
    refine jenter (lv := [_, _, _, _, _, _, _, _, _, _]) rfl rfl (Nat.le_of_ble_eq_true rfl) ?_
    refine jr_iload_n (pc' := 1) gM dX4_layRest_0 rfl rfl ?_
    refine jr_aload_n (pc' := 2) gM dX4_layRest_1 rfl rfl ?_
    refine jr_gfi (pc' := 5) gM dX4_layRest_2 rfl fX4_28 rfl rfl ?_
    refine jr_icmp_lt (tgt := 9) (pc' := 8) gM dX4_layRest_5 rfl rfl ⟨by omega, by omega⟩ ⟨by omega, by omega⟩ (fun c5 => ?_) (fun c5 => ?_)
    · refine jr_iload_n (pc' := 10) gM dX4_layRest_9 rfl rfl ?_
      refine jr_aload_n (pc' := 11) gM dX4_layRest_10 rfl rfl ?_
      refine jr_gfr (pc' := 14) gM dX4_layRest_11 rfl fX4_9 rfl rfl ?_
      refine jr_gfi (pc' := 17) gM dX4_layRest_14 rfl fX4_35 rfl rfl ?_
      refine jr_icmp_ge (tgt := 26) (pc' := 20) gM dX4_layRest_17 rfl rfl ⟨by omega, by omega⟩ ⟨by omega, by omega⟩ (fun cc => absurd cc (by omega)) (fun _ => ?_)
      refine jr_iload_n (pc' := 21) gM dX4_layRest_20 rfl rfl ?_
      refine jr_bipush (pc' := 23) gM dX4_layRest_21 rfl rfl ?_
      refine jr_icmp_lt (tgt := 32) (pc' := 26) gM dX4_layRest_23 rfl rfl ⟨by omega, by omega⟩ ⟨by omega, by omega⟩ (fun _ => ?_) (fun cc => absurd cc (by omega))
      refine jr_iload_n (pc' := 33) gM dX4_layRest_32 rfl rfl ?_
      refine jr_inn (pc' := 36) (as := [_]) gM dX4_layRest_33 rfl kX4_40 rfl rfl (Nat.le_of_ble_eq_true rfl) ?_
      refine bitraw_ok (by omega) ?_
      dsimp only [Option.toList, List.cons_append, List.nil_append]
      refine jr_lconst (pc' := 37) (x := 1) gM dX4_layRest_36 rfl rfl ?_
      refine jr_lsub (pc' := 38) gM dX4_layRest_37 rfl ?_
      have e : ((2 ^ u : Nat) : Int) - 1 = jk (fun v => decide (v < u)) := by
        unfold jk
        rw [← jm_all (show u ≤ 40 by omega)]
        have := Nat.two_pow_pos u
        omega
      rw [e]
      refine jr_lstore (pc' := 40) (lv' := [_, _, _, _, _, _, _, _, _, _]) gM dX4_layRest_38 rfl rfl (Nat.le_of_ble_eq_true rfl) ?_
      refine jr_iconst (pc' := 41) gM dX4_layRest_40 rfl ?_
      refine jr_istore (pc' := 43) (lv' := [_, _, _, _, _, _, _, _, _, _]) gM dX4_layRest_41 rfl rfl (Nat.le_of_ble_eq_true rfl) ?_
      have lp : ∀ j, j ≤ made + 1 → ∀ (q7 q9 : Option Value) (σ1 : jMem), σ1 15 4 = min (σ 15 4) (jmn (fun j => if ∀ v, v < u → (bd u v = 1 → P v = j) ∧ (bd u v = 2 → P v ≠ j) then mcF fr bd price k (u + 1) (max made (j + 1)) (jset P u j) (s + mrF fr price u made j P) else 1000000000) j) → σ1 15 3 = price → (∀ j, j < made → σ1 16 j = σ 16 j) → (∀ c, c ≠ 15 → c ≠ 16 → σ1 c = σ c) → jV (jP mX4_layRest (k + 1 + (d + 2)) K) 43 [some (.ref 15), some (.int (jI (u : Int))), some (.int (jI (made : Int))), some (.int (jI s)), some (.long (jL (jk (fun v => decide (v < u))))), none, some (.int (jI (j : Int))), q7, none, q9] [] σ1 := by
        refine jdown (made + 1) ?_
        intro j hj ihj q7 q9 σ1 g4 g3 g16 gc
        have hB1 : BI bd m σ1 := hB.of (fun c _ _ => gc c (by omega) (by omega))
        have hmn := jmn_le (fun j => if ∀ v, v < u → (bd u v = 1 → P v = j) ∧ (bd u v = 2 → P v ≠ j) then mcF fr bd price k (u + 1) (max made (j + 1)) (jset P u j) (s + mrF fr price u made j P) else 1000000000) j
        have hge2 := jmn_ge (f := fun j => if ∀ v, v < u → (bd u v = 1 → P v = j) ∧ (bd u v = 2 → P v ≠ j) then mcF fr bd price k (u + 1) (max made (j + 1)) (jset P u j) (s + mrF fr price u made j P) else 1000000000) (m := j) (b := 0) (by omega) (fun i hi => by
          split
          · have h1 := hmrr i
            have h2 := mcF_ge (n := n) (bd := bd) hf hp hn k (u + 1) (max made (i + 1)) (jset P u i) (s + mrF fr price u made i P) (by omega) (by omega)
            omega
          · omega)
        refine jr_iload (pc' := 45) gM dX4_layRest_43 rfl rfl ?_
        refine jr_iload_n (pc' := 46) gM dX4_layRest_45 rfl rfl ?_
        refine jr_icmp_gt (tgt := 163) (pc' := 49) gM dX4_layRest_46 rfl rfl ⟨by omega, by omega⟩ ⟨by omega, by omega⟩ (fun c46 => ?_) (fun c46 => ?_)
        · refine jr_vreturn dX4_layRest_163 rfl ?_
          have ej : j = made + 1 := by omega
          subst ej
          exact hK σ1 g4 g3 g16 gc
        · refine jr_iload (pc' := 51) gM dX4_layRest_49 rfl rfl ?_
          refine jr_bipush (pc' := 53) gM dX4_layRest_51 rfl rfl ?_
          refine jr_icmp_ge (tgt := 163) (pc' := 56) gM dX4_layRest_53 rfl rfl ⟨by omega, by omega⟩ ⟨by omega, by omega⟩ (fun cc => absurd cc (by omega)) (fun _ => ?_)
          have body : ∀ q7 : Option Value, jV (jP mX4_layRest (k + 1 + (d + 2)) K) 75 [some (.ref 15), some (.int (jI (u : Int))), some (.int (jI (made : Int))), some (.int (jI s)), some (.long (jL (jk (fun v => decide (v < u))))), none, some (.int (jI (j : Int))), some (.long (jL (jk (fun v => decide (v < u ∧ P v = j))))), none, q9] [] σ1 := by
            intro _
            have step : ∀ σ2 : jMem, ∀ q9 : Option Value, σ2 15 4 = min (σ1 15 4) (if ∀ v, v < u → (bd u v = 1 → P v = j) ∧ (bd u v = 2 → P v ≠ j) then mcF fr bd price k (u + 1) (max made (j + 1)) (jset P u j) (s + mrF fr price u made j P) else 1000000000) → σ2 15 3 = price → (∀ j, j < made → σ2 16 j = σ 16 j) → (∀ c, c ≠ 15 → c ≠ 16 → σ2 c = σ c) → jV (jP mX4_layRest (k + 1 + (d + 2)) K) 157 [some (.ref 15), some (.int (jI (u : Int))), some (.int (jI (made : Int))), some (.int (jI s)), some (.long (jL (jk (fun v => decide (v < u))))), none, some (.int (jI (j : Int))), some (.long (jL (jk (fun v => decide (v < u ∧ P v = j))))), none, q9] [] σ2 := by
              intro σ2 q9 k4 k3 k16 kc
              refine jr_iinc (pc' := 160) (lv' := [_, _, _, _, _, _, _, _, _, _]) gM dX4_layRest_157 rfl rfl rfl ?_
              refine jr_goto (tgt := 43) gM dX4_layRest_160 rfl ?_
              refine ihj (j + 1) (by omega) (by omega) _ _ σ2 ?_ k3 k16 kc
              simp only [jmn]
              rw [k4, g4]
              omega
            refine jr_aload_n (pc' := 76) gM dX4_layRest_75 rfl rfl ?_
            refine jr_gfr (pc' := 79) gM dX4_layRest_76 rfl fX4_15 rfl rfl ?_
            refine jr_iload_n (pc' := 80) gM dX4_layRest_79 rfl rfl ?_
            refine jr_lload (pc' := 82) gM dX4_layRest_80 rfl rfl ?_
            refine jr_lload (pc' := 84) gM dX4_layRest_82 rfl rfl ?_
            refine jr_inv (pc' := 87) (as := [_, _, _]) gM dX4_layRest_84 rfl kX4_44 rfl rfl rfl (Nat.le_of_ble_eq_true rfl) ?_
            refine brokenBy_ok hB1 (by omega) ?_
            dsimp only [Option.toList, List.cons_append, List.nil_append]
            have l1 := jn_le (fun v => decide (bd u v = 1) && decide (v < u) && !decide (v < u ∧ P v = j)) 40
            have l2 := jn_le (fun v => decide (bd u v = 2) && decide (v < u ∧ P v = j)) 40
            have hok : (jn (fun v => decide (bd u v = 1) && decide (v < u) && !decide (v < u ∧ P v = j)) 40 + jn (fun v => decide (bd u v = 2) && decide (v < u ∧ P v = j)) 40 = 0) ↔ ∀ v, v < u → (bd u v = 1 → P v = j) ∧ (bd u v = 2 → P v ≠ j) := by
              constructor
              · intro h v hv
                have z1 := jn_zero.mp (show jn (fun v => decide (bd u v = 1) && decide (v < u) && !decide (v < u ∧ P v = j)) 40 = 0 by omega) v (by omega)
                have z2 := jn_zero.mp (show jn (fun v => decide (bd u v = 2) && decide (v < u ∧ P v = j)) 40 = 0 by omega) v (by omega)
                simp [hv] at z1 z2
                exact ⟨z1, z2⟩
              · intro h
                have z1 := (jn_zero (p := fun v => decide (bd u v = 1) && decide (v < u) && !decide (v < u ∧ P v = j)) (n := 40)).mpr (fun v _ => by
                  by_cases hv : v < u
                  · by_cases b1 : bd u v = 1
                    · simp [hv, (h v hv).1 b1]
                    · simp [b1]
                  · simp [hv])
                have z2 := (jn_zero (p := fun v => decide (bd u v = 2) && decide (v < u ∧ P v = j)) (n := 40)).mpr (fun v _ => by
                  by_cases hv : v < u
                  · by_cases b1 : bd u v = 2
                    · simp [hv, (h v hv).2 b1]
                    · simp [b1]
                  · simp [hv])
                omega
            refine jr_if_ne (tgt := 157) (pc' := 90) gM dX4_layRest_87 rfl rfl ⟨by omega, by omega⟩ (fun c87 => ?_) (fun c87 => ?_)
            · refine step σ1 _ ?_ g3 g16 gc
              rw [if_neg (fun q => c87 (by have := hok.mpr q; omega))]
              omega
            · have hyes := hok.mp (by omega)
              have more : jV (jP mX4_layRest (k + 1 + (d + 2)) K) 115 [some (.ref 15), some (.int (jI (u : Int))), some (.int (jI (made : Int))), some (.int (jI s)), some (.long (jL (jk (fun v => decide (v < u))))), none, some (.int (jI (j : Int))), some (.long (jL (jk (fun v => decide (v < u ∧ P v = j))))), none, some (.int (jI (mrF fr price u made j P)))] [] σ1 := by
                refine jr_aload_n (pc' := 116) gM dX4_layRest_115 rfl rfl ?_
                refine jr_gfr (pc' := 119) gM dX4_layRest_116 rfl fX4_19 rfl rfl ?_
                refine jr_iload (pc' := 121) gM dX4_layRest_119 rfl rfl ?_
                refine jr_lload (pc' := 123) gM dX4_layRest_121 rfl rfl ?_
                refine jr_iload_n (pc' := 124) gM dX4_layRest_123 rfl rfl ?_
                refine jr_inn (pc' := 127) (as := [_]) gM dX4_layRest_124 rfl kX4_40 rfl rfl (Nat.le_of_ble_eq_true rfl) ?_
                refine bit_ok (by omega) ?_
                dsimp only [Option.toList, List.cons_append, List.nil_append]
                refine jr_lor (pc' := 128) (jk (fun v => decide (v < u + 1 ∧ jset P u j v = j))) gM dX4_layRest_127 rfl ((jk_or _ _).trans (congrArg jL (jk_congr (fun v _ => by
                  by_cases e : v = u
                  · subst e
                    simp [jset_at]
                  · rw [jset_ne e]
                    by_cases q : v < u
                    · simp [e, q, show v < u + 1 by omega]
                    · simp [e, q, show ¬ v < u + 1 by omega])))) ?_
                refine jr_last (pc' := 129) _ gM dX4_layRest_128 rfl rfl rfl (by omega) (by decide) ?_
                refine jr_aload_n (pc' := 130) gM dX4_layRest_129 rfl rfl ?_
                refine jr_iload_n (pc' := 131) gM dX4_layRest_130 rfl rfl ?_
                refine jr_iconst (pc' := 132) gM dX4_layRest_131 rfl ?_
                refine jr_iadd (pc' := 133) gM dX4_layRest_132 rfl ?_
                refine jr_iload_n (pc' := 134) gM dX4_layRest_133 rfl rfl ?_
                refine jr_iload (pc' := 136) gM dX4_layRest_134 rfl rfl ?_
                refine jr_iconst (pc' := 137) gM dX4_layRest_136 rfl ?_
                refine jr_iadd (pc' := 138) gM dX4_layRest_137 rfl ?_
                have hmj := hmrr j
                refine jr_max (pc' := 141) gM dX4_layRest_138 rfl kX4_54 ⟨by omega, by omega⟩ ⟨by omega, by omega⟩ (Nat.le_of_ble_eq_true rfl) ?_
                refine jr_iload_n (pc' := 142) gM dX4_layRest_141 rfl rfl ?_
                refine jr_iload (pc' := 144) gM dX4_layRest_142 rfl rfl ?_
                refine jr_iadd (pc' := 145) gM dX4_layRest_144 rfl ?_
                rw [show ((u : Int) + 1) = ((u + 1 : Nat) : Int) by omega, show max (made : Int) ((j : Int) + 1) = ((max made (j + 1) : Nat) : Int) by omega]
                refine jr_inv (pc' := 148) (as := [_, _, _]) gM dX4_layRest_145 rfl kX4_31 rfl rfl rfl (Nat.le_of_ble_eq_true rfl) ?_
                rw [show (k + 1).add (d + 1) = k + (d + 2) from (show k + 1 + (d + 1) = k + (d + 2) by omega)]
                refine ih d (jup σ1 16 j (jk (fun v => decide (v < u + 1 ∧ jset P u j v = j)))) _ (u + 1) (max made (j + 1)) (jset P u j) (s + mrF fr price u made j P) (by omega) (by omega) ?_ (by omega) ?_ ?_ ?_ ?_ ?_ ?_ ?_
                · intro v hv
                  by_cases e : v = u
                  · subst e
                    rw [jset_at]
                    omega
                  · rw [jset_ne e]
                    have := hP v (by omega)
                    omega
                · rw [jup_row (by omega), gc 1 (by omega) (by omega)]
                  exact h1
                · exact hB1.of (fun c _ _ => by rw [jup_row (by omega)])
                · intro a b ha hb
                  rw [jup_row (by omega), gc 6 (by omega) (by omega)]
                  exact h6 a b ha hb
                · rw [jup_row (by omega)]
                  exact g3
                · rw [jup_row (by omega), g4]
                  omega
                · intro j2 hj2
                  by_cases e : j2 = j
                  · subst e
                    rw [jup_at]
                  · rw [jup_ne (Or.inr e), g16 j2 (by omega), h16 j2 (by omega)]
                    apply jk_congr
                    intro v _
                    by_cases q : v = u
                    · subst q
                      rw [jset_at]
                      have : ¬ j = j2 := by omega
                      simp [this]
                    · rw [jset_ne q]
                      have : (v < u ∧ P v = j2) ↔ (v < u + 1 ∧ P v = j2) := and_congr_left (fun _ => by omega)
                      simp only [this]
                · intro σ3 k4 k3 k16 kc
                  dsimp only [Option.toList, List.cons_append, List.nil_append]
                  refine jr_aload_n (pc' := 149) gM dX4_layRest_148 rfl rfl ?_
                  refine jr_gfr (pc' := 152) gM dX4_layRest_149 rfl fX4_19 rfl rfl ?_
                  refine jr_iload (pc' := 154) gM dX4_layRest_152 rfl rfl ?_
                  refine jr_lload (pc' := 156) gM dX4_layRest_154 rfl rfl ?_
                  refine jr_last (pc' := 157) _ gM dX4_layRest_156 rfl rfl rfl (by omega) (by decide) ?_
                  refine step _ _ ?_ ?_ ?_ ?_
                  · rw [jup_row (by omega), k4, jup_row (by omega), if_pos hyes]
                  · rw [jup_row (by omega)]
                    exact k3
                  · intro j2 hj2
                    by_cases e : j2 = j
                    · subst e
                      rw [jup_at, h16 j2 hj2]
                    · rw [jup_ne (Or.inr e), k16 j2 (by omega), jup_ne (Or.inr e)]
                      exact g16 j2 hj2
                  · intro c q1 q2
                    rw [jup_row q2, kc c q1 q2, jup_row q2]
                    exact gc c q1 q2
              refine jr_iload (pc' := 92) gM dX4_layRest_90 rfl rfl ?_
              refine jr_iload_n (pc' := 93) gM dX4_layRest_92 rfl rfl ?_
              refine jr_icmp_ge (tgt := 109) (pc' := 96) gM dX4_layRest_93 rfl rfl ⟨by omega, by omega⟩ ⟨by omega, by omega⟩ (fun c93 => ?_) (fun c93 => ?_)
              · refine jr_aload_n (pc' := 110) gM dX4_layRest_109 rfl rfl ?_
                refine jr_gfi (pc' := 113) gM dX4_layRest_110 rfl fX4_23 rfl rfl ?_
                rw [g3]
                refine jr_istore (pc' := 115) (lv' := [_, _, _, _, _, _, _, _, _, _]) gM dX4_layRest_113 rfl rfl (Nat.le_of_ble_eq_true rfl) ?_
                rw [show mrF fr price u made j P = price by unfold mrF; rw [if_neg (by omega)]] at more
                exact more
              · refine jr_aload_n (pc' := 97) gM dX4_layRest_96 rfl rfl ?_
                refine jr_gfr (pc' := 100) gM dX4_layRest_97 rfl fX4_9 rfl rfl ?_
                refine jr_iload_n (pc' := 101) gM dX4_layRest_100 rfl rfl ?_
                refine jr_lload (pc' := 103) gM dX4_layRest_101 rfl rfl ?_
                refine jr_inv (pc' := 106) (as := [_, _]) gM dX4_layRest_103 rfl kX4_50 rfl rfl rfl (Nat.le_of_ble_eq_true rfl) ?_
                refine toGroup_ok (n := n) (by rw [gc 1 (by omega) (by omega)]; exact h1) (by omega) (by omega) ?_
                dsimp only [Option.toList, List.cons_append, List.nil_append]
                refine jr_goto (tgt := 113) gM dX4_layRest_106 rfl ?_
                refine jr_istore (pc' := 115) (lv' := [_, _, _, _, _, _, _, _, _, _]) gM dX4_layRest_113 rfl rfl (Nat.le_of_ble_eq_true rfl) ?_
                have em : js (fun o => if decide (o < u ∧ P o = j) then σ1 6 (u * 40 + o) else 0) n = mrF fr price u made j P := by
                  unfold mrF
                  rw [if_pos (by omega), js_cut (u := u) (by omega) (fun i h1 h2 => by simp; omega)]
                  apply js_congr
                  intro i hi
                  rw [gc 6 (by omega) (by omega), h6 u i (by omega) (by omega)]
                  simp [hi]
                rw [em]
                exact more
          refine jr_iload (pc' := 58) gM dX4_layRest_56 rfl rfl ?_
          refine jr_iload_n (pc' := 59) gM dX4_layRest_58 rfl rfl ?_
          refine jr_icmp_ge (tgt := 72) (pc' := 62) gM dX4_layRest_59 rfl rfl ⟨by omega, by omega⟩ ⟨by omega, by omega⟩ (fun c59 => ?_) (fun c59 => ?_)
          · refine jr_lconst (pc' := 73) (x := jk (fun v => decide (v < u ∧ P v = j))) gM dX4_layRest_72 rfl ?_ ?_
            · rw [jk_zero.mpr (fun v _ => by
                by_cases q : v < u
                · have := hP v q
                  simp [q] <;> omega
                · simp [q])]
              rfl
            · refine jr_lstore (pc' := 75) (lv' := [_, _, _, _, _, _, _, _, _, _]) gM dX4_layRest_73 rfl rfl (Nat.le_of_ble_eq_true rfl) ?_
              exact body q7
          · refine jr_aload_n (pc' := 63) gM dX4_layRest_62 rfl rfl ?_
            refine jr_gfr (pc' := 66) gM dX4_layRest_63 rfl fX4_19 rfl rfl ?_
            refine jr_iload (pc' := 68) gM dX4_layRest_66 rfl rfl ?_
            refine jr_lald (pc' := 69) _ gM dX4_layRest_68 rfl rfl rfl (by omega) (by decide) ?_
            rw [g16 j (by omega), h16 j (by omega)]
            refine jr_goto (tgt := 73) gM dX4_layRest_69 rfl ?_
            refine jr_lstore (pc' := 75) (lv' := [_, _, _, _, _, _, _, _, _, _]) gM dX4_layRest_73 rfl rfl (Nat.le_of_ble_eq_true rfl) ?_
            exact body q7
      refine lp 0 (by omega) _ _ σ ?_ h3 (fun j _ => rfl) (fun c _ _ => rfl)
      show σ 15 4 = min (σ 15 4) 1000000000
      omega
    · refine jr_vreturn dX4_layRest_8 rfl ?_
      refine hK σ ?_ h3 (fun j _ => rfl) (fun c _ _ => rfl)
      omega
set_option maxRecDepth 100000 in
theorem leastCost_ok {d : Nat} {σ : jMem} {K : Option Value → jMem → Prop} {n : Nat} {fr bd : Nat → Nat → Int} {m : Nat} {price : Int} (hn : n ≤ 7) (hf : ∀ a b, a < n → b < n → 0 ≤ fr a b ∧ fr a b ≤ 180) (hp : 0 ≤ price ∧ price ≤ 200) (hbd : ∀ u v, bd u v = 0 ∨ bd u v = 1 ∨ bd u v = 2) (h1 : σ 1 5 = (n : Int)) (hB : BI bd m σ) (h6 : ∀ a b, a < n → b < n → σ 6 (a * 40 + b) = fr a b)
    (hK : ∀ σ' : jMem, (∀ c, c ≠ 15 → c ≠ 16 → σ' c = σ c) → K (some (.int (jI (if mcF fr bd price n 0 0 (fun _ => 0) 0 = 1000000000 then -1 else mcF fr bd price n 0 0 (fun _ => 0) 0)))) σ') : jRun (d + 10) mX4_leastCost [.ref 15, .int (jI price)] σ K := by
  have hge := mcF_ge (n := n) (bd := bd) hf hp hn n 0 0 (fun _ => 0) 0 (by omega) (by omega)
  have hle : mcF fr bd price n 0 0 (fun _ => 0) 0 ≤ 1000000000 := by
    cases n with
    | zero => show (0 : Int) ≤ _; omega
    | succ n => exact jmn_le _ _
  refine jenter (lv := [_, _]) rfl rfl (Nat.le_of_ble_eq_true rfl) ?_
  refine jr_aload_n (pc' := 1) gM dX4_leastCost_0 rfl rfl ?_
  refine jr_iload_n (pc' := 2) gM dX4_leastCost_1 rfl rfl ?_
  refine jr_pf (pc' := 5) gM dX4_leastCost_2 rfl fX4_23 rfl rfl ⟨rfl, by decide +kernel⟩ ?_
  refine jr_aload_n (pc' := 6) gM dX4_leastCost_5 rfl rfl ?_
  refine jr_ldc (pc' := 8) gM dX4_leastCost_6 rfl qX4_27 ?_
  refine jr_pf (pc' := 11) gM dX4_leastCost_8 rfl fX4_28 rfl rfl ⟨rfl, by decide +kernel⟩ ?_
  refine jr_aload_n (pc' := 12) gM dX4_leastCost_11 rfl rfl ?_
  refine jr_iconst (pc' := 13) gM dX4_leastCost_12 rfl ?_
  refine jr_iconst (pc' := 14) gM dX4_leastCost_13 rfl ?_
  refine jr_iconst (pc' := 15) gM dX4_leastCost_14 rfl ?_
  refine jr_inv (pc' := 18) (as := [_, _, _]) gM dX4_leastCost_15 rfl kX4_31 rfl rfl rfl (Nat.le_of_ble_eq_true rfl) ?_
  have hd : d + 9 = n + ((d + 7 - n) + 2) := by omega
  rw [hd]
  refine layRest_ok hn hf hp hbd n (d + 7 - n) _ _ 0 0 (fun _ => 0) 0 (by omega) (by omega) (fun v hv => absurd hv (by omega)) (by omega) (by rw [jup_row (by omega), jup_row (by omega)]; exact h1) (hB.of (fun c _ _ => by rw [jup_row (by omega), jup_row (by omega)])) (fun a b ha hb => by rw [jup_row (by omega), jup_row (by omega)]; exact h6 a b ha hb) (by rw [jup_ne (Or.inr (by omega)), jup_at]) (by rw [jup_at]; omega) (fun j hj => absurd hj (by omega)) (fun σ' k4 k3 k16 kc => ?_)
  dsimp only [Option.toList, List.cons_append, List.nil_append]
  have k5 : σ' 15 4 = mcF fr bd price n 0 0 (fun _ => 0) 0 := by
    rw [k4, jup_at]
    omega
  have kcc : ∀ c, c ≠ 15 → c ≠ 16 → σ' c = σ c := fun c q1 q2 => by rw [kc c q1 q2, jup_row q1, jup_row q1]
  refine jr_aload_n (pc' := 19) gM dX4_leastCost_18 rfl rfl ?_
  refine jr_gfi (pc' := 22) gM dX4_leastCost_19 rfl fX4_28 rfl rfl ?_
  refine jr_ldc (pc' := 24) gM dX4_leastCost_22 rfl qX4_27 ?_
  rw [k5]
  refine jr_icmp_ne (tgt := 31) (pc' := 27) gM dX4_leastCost_24 rfl rfl ⟨by omega, by omega⟩ ⟨by omega, by omega⟩ (fun c24 => ?_) (fun c24 => ?_)
  · refine jr_aload_n (pc' := 32) gM dX4_leastCost_31 rfl rfl ?_
    refine jr_gfi (pc' := 35) gM dX4_leastCost_32 rfl fX4_28 rfl rfl ?_
    rw [k5]
    refine jr_ireturn dX4_leastCost_35 rfl ?_
    have := hK σ' kcc
    rw [if_neg c24] at this
    exact this
  · refine jr_iconst (pc' := 28) gM dX4_leastCost_27 rfl ?_
    refine jr_goto (tgt := 35) gM dX4_leastCost_28 rfl ?_
    refine jr_ireturn dX4_leastCost_35 rfl ?_
    have := hK σ' kcc
    rw [if_pos c24] at this
    exact this
