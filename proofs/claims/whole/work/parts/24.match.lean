/-! ===== System.arraycopy of two rows of ints ===== -/
theorem jWO_row {ω : jW} {σ σ' : jMem} {c : Nat} {s : jSh} {e : va_E} (h : jsh[c]? = some s) (ho : ∀ k, k ≠ c → σ' k = σ k) (he : jce ω (σ' c) s = e) : (jWO ω σ).set c (jad ω c, e) = jWO ω σ' := by
  apply List.ext_getElem?
  intro k
  by_cases hk : c = k
  · subst hk
    rw [jWO_at h, he, List.getElem?_set_self]
    exact (List.getElem?_eq_some_iff.mp (jWO_at (ω := ω) (σ := σ) h)).1
  · rw [List.getElem?_set_ne hk]
    unfold jWO
    rw [List.getElem?_mapIdx, List.getElem?_mapIdx, ho k (fun q => hk q.symm)]
def jcp (σ : jMem) (c0 c1 m : Nat) : jMem := fun c j => if c = c1 ∧ j < m then σ c0 j else σ c j
def jCA (own : String) (idx : Nat) : Prop := Cond.methodLink own idx arraycopyName ∈ jTB ∧ Cond.static arraycopyName ∈ jTB ∧ Cond.initialized "java/lang/System" ∈ jTB ∧ Cond.native arraycopyName ∈ jTB
theorem kX1_100 : jCA RX1 100 := ⟨jTB_mem (by decide +kernel) rfl, jTB_mem (by decide +kernel) rfl, jTB_mem (by decide +kernel) rfl, jTB_mem (by decide +kernel) rfl⟩
section jCopy
variable {Ψ : jX → Prop} {B : ByteArray} {own : String} {d pc pc' : Nat} {lv : List (Option Value)} {st : List Value} {σ : jMem}
theorem jr_copy {index c0 c1 n0 n1 m : Nat} (G : jG Ψ B own (d + 1)) (hd : decode B pc = .ok (.invokestatic index, 3)) (hp : pc + 3 = pc') (hc : jCA own index) (hs0 : jsh[c0]? = some (.inl (0, n0))) (hs1 : jsh[c1]? = some (.inl (0, n1))) (hm0 : m ≤ n0) (hm1 : m ≤ n1) (hn : m < 2147483648) (hroom : (st.map fun v => v.category).sum ≤ 8) (k : jV Ψ pc' lv st (jcp σ c0 c1 m)) : jV Ψ pc lv (.int (jI (m : Int)) :: .int (jI 0) :: .ref c1 :: .int (jI 0) :: .ref c0 :: st) σ := by
  subst hp
  intro p l e R s mm args below meth c cells slots Q ω hΨ ls H locs hl hP hS
  obtain ⟨hx, hb, hown, hts, hnw, hK, hI, hfr, hlo, hce, hsl⟩ := G p l e R s mm args below meth c cells slots Q ω hΨ
  obtain ⟨h1, h2, h3, h4⟩ := hc
  have e0 : (jI 0).toNatClampNeg = 0 := rfl
  have em : (jI (m : Int)).toNatClampNeg = m := jI_clamp hn
  have w5 : nativeFrameWords "java/lang/System" "arraycopy" 5 ≤ 20 := by decide +kernel
  have hnm : ¬ jI (m : Int) < 0 := by rw [jI_nat]; exact nI_pos (by omega)
  refine va_copyi (ty := .int) (sp := jI 0) (dp := jI 0) (n := jI (m : Int)) hx hb hl.1.symm hown (hts _ h1) (hts _ h4) (hts _ h2) (hts _ h3) hK hP (jWO_D hI σ) hS c0 c1 0 0 (jWO_at hs0) (jWO_at hs1) rfl rfl rfl (by decide) (by decide) hnm (by rw [e0, em]; omega) (by rw [e0, em]; omega) (fun i _ => rfl) (by omega) (by rw [jcat_map]; omega) hd (fun H1 locs1 hP1 hD1 hS1 => ?_)
  rw [e0, em, jWO_row (σ' := jcp σ c0 c1 m) hs1 (fun k hk => by funext j; unfold jcp; rw [if_neg (fun q => hk q.1)]) (by
    show (Sum.inl (_, n1, Sum.inl _) : va_E) = _
    congr 3
    congr 1
    funext q
    unfold va_cpy jcp
    by_cases hq : q < m
    · rw [if_pos ⟨rfl, hq⟩, if_pos (by omega)]
      simp
    · rw [if_neg (fun z => hq z.2), if_neg (by omega)])] at hP1
  exact k p l e R s mm args below meth c cells slots Q ω hΨ ls H1 locs1 hl hP1 hS1
end jCopy
/-! ===== Dictionary: matchRest, match ===== -/
abbrev vAcc : Type := Int × (Nat → Int)
def vfo (f : Nat → vAcc → vAcc) : Nat → vAcc → vAcc
  | 0, a => a
  | m + 1, a => f m (vfo f m a)
/-- all ways to match k heaps from p on, by their order; the first of the least sums stays -/
def vtF (s : Nat) (dist : Nat → Nat → Int) : Nat → Nat → Nat → (Nat → Bool) → Int → (Nat → Int) → vAcc → vAcc
  | 0, _, _, _, sum, asg, acc => if sum < acc.1 then (sum, asg) else acc
  | k + 1, p, spare, tk, sum, asg, acc => if 0 < spare then vtF s dist k (p + 1) (spare - 1) tk sum (jset asg p (-1)) (vfo (fun t a => if tk t = true then a else vtF s dist k (p + 1) spare (fun i => tk i || decide (i = t)) (sum + dist p t) (jset asg p (t : Int)) a) s acc) else vfo (fun t a => if tk t = true then a else vtF s dist k (p + 1) spare (fun i => tk i || decide (i = t)) (sum + dist p t) (jset asg p (t : Int)) a) s acc
theorem vfo_same {f : Nat → vAcc → vAcc} {m : Nat} {a : vAcc} (h : ∀ t, t < m → f t a = a) : vfo f m a = a := by
  induction m with
  | zero => rfl
  | succ m ih =>
    simp only [vfo]
    rw [ih (fun t ht => h t (by omega)), h m (by omega)]
theorem vtF_ge {s : Nat} {dist : Nat → Nat → Int} (hd : ∀ p t, 0 ≤ dist p t) : ∀ (k p spare : Nat) (tk : Nat → Bool) (sum : Int) (asg : Nat → Int) (acc : vAcc), acc.1 ≤ sum → vtF s dist k p spare tk sum asg acc = acc := by
  intro k
  induction k with
  | zero =>
    intro p spare tk sum asg acc h
    simp only [vtF]
    rw [if_neg (by omega)]
  | succ k ih =>
    intro p spare tk sum asg acc h
    have hv : vfo (fun t a => if tk t = true then a else vtF s dist k (p + 1) spare (fun i => tk i || decide (i = t)) (sum + dist p t) (jset asg p (t : Int)) a) s acc = acc := by
      refine vfo_same (fun t _ => ?_)
      split
      · rfl
      · have := hd p t
        exact ih _ _ _ _ _ _ (by omega)
    simp only [vtF]
    rw [hv]
    split
    · exact ih _ _ _ _ _ _ h
    · rfl
theorem vfo_r {f : Nat → vAcc → vAcc} {m : Nat} {a : vAcc} (P : vAcc → Prop) (h0 : P a) (h : ∀ t a, t < m → P a → P (f t a)) : P (vfo f m a) := by
  induction m with
  | zero => exact h0
  | succ m ih => exact h m _ (by omega) (ih (fun t a ht => h t a (by omega)))
theorem vtF_r {s : Nat} {dist : Nat → Nat → Int} (hd : ∀ p t, 0 ≤ dist p t) : ∀ (k p spare : Nat) (tk : Nat → Bool) (sum : Int) (asg : Nat → Int) (acc : vAcc), 0 ≤ sum → 0 ≤ acc.1 ∧ acc.1 ≤ 1000000000 → 0 ≤ (vtF s dist k p spare tk sum asg acc).1 ∧ (vtF s dist k p spare tk sum asg acc).1 ≤ 1000000000 := by
  intro k
  induction k with
  | zero =>
    intro p spare tk sum asg acc h0 h
    simp only [vtF]
    split
    · show 0 ≤ sum ∧ sum ≤ _
      omega
    · exact h
  | succ k ih =>
    intro p spare tk sum asg acc h0 h
    have hv : 0 ≤ (vfo (fun t a => if tk t = true then a else vtF s dist k (p + 1) spare (fun i => tk i || decide (i = t)) (sum + dist p t) (jset asg p (t : Int)) a) s acc).1 ∧ (vfo (fun t a => if tk t = true then a else vtF s dist k (p + 1) spare (fun i => tk i || decide (i = t)) (sum + dist p t) (jset asg p (t : Int)) a) s acc).1 ≤ 1000000000 := by
      refine vfo_r (fun a => 0 ≤ a.1 ∧ a.1 ≤ 1000000000) h (fun t a _ ha => ?_)
      show 0 ≤ (if tk t = true then a else _).1 ∧ (if tk t = true then a else _).1 ≤ _
      split
      · exact ha
      · have := hd p t
        exact ih _ _ _ _ _ _ (by omega) ha
    simp only [vtF]
    split
    · exact ih _ _ _ _ _ _ h0 hv
    · exact hv
set_option maxRecDepth 100000 in
theorem matchRest_ok {g s : Nat} {dist : Nat → Nat → Int} (hg : g ≤ 5) (hs : s ≤ 5) (hdr : ∀ p t, 0 ≤ dist p t ∧ dist p t ≤ 180) : ∀ (k : Nat) (d : Nat) (σ : jMem) (K : Option Value → jMem → Prop) (p spare : Nat) (tk : Nat → Bool) (sum : Int) (asg : Nat → Int) (acc : vAcc), p + k = g → spare ≤ 5 → 0 ≤ sum ∧ sum ≤ p * 180 → 0 ≤ acc.1 ∧ acc.1 ≤ 1000000000 → σ 18 6 = (g : Int) → σ 18 4 = (s : Int) → σ 18 10 = acc.1 → (∀ p t, p < g → t < s → σ 21 (p * 5 + t) = dist p t) → (∀ i, i < p → σ 22 i = asg i) → (∀ i, i < g → σ 23 i = acc.2 i) →
    (∀ σ' : jMem, σ' 18 10 = (vtF s dist k p spare tk sum asg acc).1 → (∀ i, i < g → σ' 23 i = (vtF s dist k p spare tk sum asg acc).2 i) → (∀ i, i < p → σ' 22 i = σ 22 i) → (∀ j, j ≠ 10 → σ' 18 j = σ 18 j) → (∀ c, c ≠ 18 → c ≠ 22 → c ≠ 23 → σ' c = σ c) → K none σ') → jRun (k + (d + 2)) mX1_matchRest [.ref 18, .int (jI (p : Int)), .int (jI (spare : Int)), .int (jI ((jm tk 5 : Nat) : Int)), .int (jI sum)] σ K := by
  have hd0 : ∀ p t, 0 ≤ dist p t := fun p t => (hdr p t).1
  intro k
  induction k with
  | zero =>
    intro d σ K p spare tk sum asg acc hpk hsp hsum hacc h6 h4 h10 h21 h22 h23 hK
    refine jenter (lv := [_, _, _, _, _, _]) rfl rfl (Nat.le_of_ble_eq_true rfl) ?_
    refine jr_iload (pc' := 2) gM dX1_matchRest_0 rfl rfl ?_
    refine jr_aload_n (pc' := 3) gM dX1_matchRest_2 rfl rfl ?_
    refine jr_gfi (pc' := 6) gM dX1_matchRest_3 rfl fX1_49 rfl rfl ?_
    rw [h10]
    refine jr_icmp_lt (tgt := 10) (pc' := 9) gM dX1_matchRest_6 rfl rfl ⟨by omega, by omega⟩ ⟨by omega, by omega⟩ (fun c6 => ?_) (fun c6 => ?_)
    · refine jr_iload_n (pc' := 11) gM dX1_matchRest_10 rfl rfl ?_
      refine jr_aload_n (pc' := 12) gM dX1_matchRest_11 rfl rfl ?_
      refine jr_gfi (pc' := 15) gM dX1_matchRest_12 rfl fX1_46 rfl rfl ?_
      rw [h6]
      refine jr_icmp_ge (tgt := 23) (pc' := 18) gM dX1_matchRest_15 rfl rfl ⟨by omega, by omega⟩ ⟨by omega, by omega⟩ (fun _ => ?_) (fun cc => absurd cc (by omega))
      refine jr_aload_n (pc' := 24) gM dX1_matchRest_23 rfl rfl ?_
      refine jr_iload (pc' := 26) gM dX1_matchRest_24 rfl rfl ?_
      refine jr_pf (pc' := 29) gM dX1_matchRest_26 rfl fX1_49 rfl rfl ⟨rfl, by decide +kernel⟩ ?_
      refine jr_aload_n (pc' := 30) gM dX1_matchRest_29 rfl rfl ?_
      refine jr_gfr (pc' := 33) gM dX1_matchRest_30 rfl fX1_33 rfl rfl ?_
      refine jr_iconst (pc' := 34) gM dX1_matchRest_33 rfl ?_
      refine jr_aload_n (pc' := 35) gM dX1_matchRest_34 rfl rfl ?_
      refine jr_gfr (pc' := 38) gM dX1_matchRest_35 rfl fX1_36 rfl rfl ?_
      refine jr_iconst (pc' := 39) gM dX1_matchRest_38 rfl ?_
      refine jr_iconst (pc' := 40) gM dX1_matchRest_39 rfl ?_
      refine jr_copy (pc' := 43) (m := 5) gM dX1_matchRest_40 rfl kX1_100 rfl rfl (by decide) (by decide) (by decide) (Nat.le_of_ble_eq_true rfl) ?_
      refine jr_vreturn dX1_matchRest_43 rfl ?_
      have ev : vtF s dist 0 p spare tk sum asg acc = (sum, asg) := by
        simp only [vtF]
        rw [if_pos c6]
      refine hK _ ?_ (fun i hi => ?_) (fun i hi => ?_) (fun j hj => ?_) (fun c q1 q2 q3 => ?_)
      · rw [ev]
        unfold jcp
        rw [if_neg (by omega), jup_at]
      · rw [ev]
        unfold jcp
        rw [if_pos ⟨rfl, by omega⟩, jup_row (by omega)]
        exact h22 i (by omega)
      · unfold jcp
        rw [if_neg (by omega), jup_row (by omega)]
      · unfold jcp
        rw [if_neg (by omega), jup_ne (Or.inr hj)]
      · funext j
        unfold jcp
        rw [if_neg (by omega), jup_row q1]
    · refine jr_vreturn dX1_matchRest_9 rfl ?_
      rw [vtF_ge hd0 0 p spare tk sum asg acc (by omega)] at hK
      exact hK σ h10 h23 (fun _ _ => rfl) (fun _ _ => rfl) (fun _ _ _ _ => rfl)
  | succ k ih =>
    intro d σ K p spare tk sum asg acc hpk hsp hsum hacc h6 h4 h10 h21 h22 h23 hK
    refine jenter (lv := [_, _, _, _, _, _]) rfl rfl (Nat.le_of_ble_eq_true rfl) ?_
    refine jr_iload (pc' := 2) gM dX1_matchRest_0 rfl rfl ?_
    refine jr_aload_n (pc' := 3) gM dX1_matchRest_2 rfl rfl ?_
    refine jr_gfi (pc' := 6) gM dX1_matchRest_3 rfl fX1_49 rfl rfl ?_
    rw [h10]
    refine jr_icmp_lt (tgt := 10) (pc' := 9) gM dX1_matchRest_6 rfl rfl ⟨by omega, by omega⟩ ⟨by omega, by omega⟩ (fun c6 => ?_) (fun c6 => ?_)
    · refine jr_iload_n (pc' := 11) gM dX1_matchRest_10 rfl rfl ?_
      refine jr_aload_n (pc' := 12) gM dX1_matchRest_11 rfl rfl ?_
      refine jr_gfi (pc' := 15) gM dX1_matchRest_12 rfl fX1_46 rfl rfl ?_
      rw [h6]
      refine jr_icmp_ge (tgt := 23) (pc' := 18) gM dX1_matchRest_15 rfl rfl ⟨by omega, by omega⟩ ⟨by omega, by omega⟩ (fun cc => absurd cc (by omega)) (fun _ => ?_)
      refine jr_iload_n (pc' := 19) gM dX1_matchRest_18 rfl rfl ?_
      refine jr_iconst (pc' := 20) gM dX1_matchRest_19 rfl ?_
      refine jr_icmp_lt (tgt := 44) (pc' := 23) gM dX1_matchRest_20 rfl rfl ⟨by omega, by omega⟩ ⟨by omega, by omega⟩ (fun _ => ?_) (fun cc => absurd cc (by omega))
      refine jr_iconst (pc' := 45) gM dX1_matchRest_44 rfl ?_
      refine jr_istore (pc' := 47) (lv' := [_, _, _, _, _, _]) gM dX1_matchRest_45 rfl rfl (Nat.le_of_ble_eq_true rfl) ?_
      generalize hfo : (fun (t : Nat) (a : vAcc) => if tk t = true then a else vtF s dist k (p + 1) spare (fun i => tk i || decide (i = t)) (sum + dist p t) (jset asg p (t : Int)) a) = fo at *
      have hfr : ∀ t, t ≤ s → 0 ≤ (vfo fo t acc).1 ∧ (vfo fo t acc).1 ≤ 1000000000 := by
        intro t _
        refine vfo_r (fun a => 0 ≤ a.1 ∧ a.1 ≤ 1000000000) hacc (fun t a _ ha => ?_)
        rw [← hfo]
        show 0 ≤ (if tk t = true then a else _).1 ∧ (if tk t = true then a else _).1 ≤ _
        split
        · exact ha
        · have := hd0 p t
          exact vtF_r hd0 _ _ _ _ _ _ _ (by omega) ha
      have lp : ∀ t, t ≤ s → ∀ σ1 : jMem, σ1 18 10 = (vfo fo t acc).1 → (∀ i, i < g → σ1 23 i = (vfo fo t acc).2 i) → (∀ i, i < p → σ1 22 i = σ 22 i) → (∀ j, j ≠ 10 → σ1 18 j = σ 18 j) → (∀ c, c ≠ 18 → c ≠ 22 → c ≠ 23 → σ1 c = σ c) → jV (jP mX1_matchRest (k + 1 + (d + 2)) K) 47 [some (.ref 18), some (.int (jI (p : Int))), some (.int (jI (spare : Int))), some (.int (jI ((jm tk 5 : Nat) : Int))), some (.int (jI sum)), some (.int (jI (t : Int)))] [] σ1 := by
        refine jdown s ?_
        intro t ht iht σ1 g10 g23 g22 g18 gc
        have hfrt := hfr t ht
        have htk := jm_lt tk 5
        refine jr_iload (pc' := 49) gM dX1_matchRest_47 rfl rfl ?_
        refine jr_aload_n (pc' := 50) gM dX1_matchRest_49 rfl rfl ?_
        refine jr_gfi (pc' := 53) gM dX1_matchRest_50 rfl fX1_39 rfl rfl ?_
        rw [g18 4 (by omega), h4]
        refine jr_icmp_ge (tgt := 107) (pc' := 56) gM dX1_matchRest_53 rfl rfl ⟨by omega, by omega⟩ ⟨by omega, by omega⟩ (fun c53 => ?_) (fun c53 => ?_)
        · have ets : t = s := by omega
          subst ets
          refine jr_iload_n (pc' := 108) gM dX1_matchRest_107 rfl rfl ?_
          refine jr_if_le (tgt := 131) (pc' := 111) gM dX1_matchRest_108 rfl rfl ⟨by omega, by omega⟩ (fun c108 => ?_) (fun c108 => ?_)
          · refine jr_vreturn dX1_matchRest_131 rfl ?_
            have ev : vtF t dist (k + 1) p spare tk sum asg acc = vfo fo t acc := by
              simp only [vtF]
              rw [if_neg (by omega), hfo]
            rw [ev] at hK
            exact hK σ1 g10 g23 g22 g18 gc
          · have ev : vtF t dist (k + 1) p spare tk sum asg acc = vtF t dist k (p + 1) (spare - 1) tk sum (jset asg p (-1)) (vfo fo t acc) := by
              simp only [vtF]
              rw [if_pos (by omega), hfo]
            rw [ev] at hK
            refine jr_aload_n (pc' := 112) gM dX1_matchRest_111 rfl rfl ?_
            refine jr_gfr (pc' := 115) gM dX1_matchRest_112 rfl fX1_33 rfl rfl ?_
            refine jr_iload_n (pc' := 116) gM dX1_matchRest_115 rfl rfl ?_
            refine jr_iconst (pc' := 117) gM dX1_matchRest_116 rfl ?_
            refine jr_iast (pc' := 118) (p) gM dX1_matchRest_117 rfl rfl (rfl) (by omega) (by decide) ?_
            refine jr_aload_n (pc' := 119) gM dX1_matchRest_118 rfl rfl ?_
            refine jr_iload_n (pc' := 120) gM dX1_matchRest_119 rfl rfl ?_
            refine jr_iconst (pc' := 121) gM dX1_matchRest_120 rfl ?_
            refine jr_iadd (pc' := 122) gM dX1_matchRest_121 rfl ?_
            refine jr_iload_n (pc' := 123) gM dX1_matchRest_122 rfl rfl ?_
            refine jr_iconst (pc' := 124) gM dX1_matchRest_123 rfl ?_
            refine jr_isub (pc' := 125) gM dX1_matchRest_124 rfl ?_
            refine jr_iload_n (pc' := 126) gM dX1_matchRest_125 rfl rfl ?_
            refine jr_iload (pc' := 128) gM dX1_matchRest_126 rfl rfl ?_
            rw [show ((p : Int) + 1) = ((p + 1 : Nat) : Int) by omega, show ((spare : Int) - 1) = ((spare - 1 : Nat) : Int) by omega]
            refine jr_inv (pc' := 131) (as := [_, _, _, _]) gM dX1_matchRest_128 rfl kX1_79 rfl rfl rfl (Nat.le_of_ble_eq_true rfl) ?_
            rw [show (k + 1).add (d + 1) = k + (d + 2) from (show k + 1 + (d + 1) = k + (d + 2) by omega)]
            refine ih d _ _ (p + 1) (spare - 1) tk sum (jset asg p (-1)) (vfo fo t acc) (by omega) (by omega) (by omega) hfrt ?_ ?_ ?_ ?_ ?_ ?_ ?_
            · rw [jup_row (by omega), g18 6 (by omega)]
              exact h6
            · rw [jup_row (by omega), g18 4 (by omega)]
              exact h4
            · rw [jup_row (by omega)]
              exact g10
            · intro p2 t2 hp2 ht2
              rw [jup_row (by omega), gc 21 (by omega) (by omega) (by omega)]
              exact h21 p2 t2 hp2 ht2
            · intro i hi
              by_cases e : i = p
              · subst e
                rw [jup_at, jset_at]
              · rw [jup_ne (Or.inr e), jset_ne e, g22 i (by omega)]
                exact h22 i (by omega)
            · intro i hi
              rw [jup_row (by omega)]
              exact g23 i hi
            · intro σ3 k10 k23 k22 k18 kc
              dsimp only [Option.toList, List.cons_append, List.nil_append]
              refine jr_vreturn dX1_matchRest_131 rfl ?_
              refine hK σ3 k10 k23 (fun i hi => ?_) (fun j hj => ?_) (fun c q1 q2 q3 => ?_)
              · rw [k22 i (by omega), jup_ne (Or.inr (by omega))]
                exact g22 i hi
              · rw [k18 j hj, jup_row (by omega)]
                exact g18 j hj
              · rw [kc c q1 q2 q3, jup_row q2]
                exact gc c q1 q2 q3
        · have go : ∀ σ2 : jMem, σ2 18 10 = (vfo fo (t + 1) acc).1 → (∀ i, i < g → σ2 23 i = (vfo fo (t + 1) acc).2 i) → (∀ i, i < p → σ2 22 i = σ 22 i) → (∀ j, j ≠ 10 → σ2 18 j = σ 18 j) → (∀ c, c ≠ 18 → c ≠ 22 → c ≠ 23 → σ2 c = σ c) → jV (jP mX1_matchRest (k + 1 + (d + 2)) K) 101 [some (.ref 18), some (.int (jI (p : Int))), some (.int (jI (spare : Int))), some (.int (jI ((jm tk 5 : Nat) : Int))), some (.int (jI sum)), some (.int (jI (t : Int)))] [] σ2 := by
            intro σ2 w1 w2 w3 w4 w5
            refine jr_iinc (pc' := 104) (lv' := [_, _, _, _, _, _]) gM dX1_matchRest_101 rfl rfl rfl ?_
            refine jr_goto (tgt := 47) gM dX1_matchRest_104 rfl ?_
            exact iht (t + 1) (by omega) (by omega) σ2 w1 w2 w3 w4 w5
          refine jr_iload_n (pc' := 57) gM dX1_matchRest_56 rfl rfl ?_
          refine jr_iload (pc' := 59) gM dX1_matchRest_57 rfl rfl ?_
          refine jr_ishr (pc' := 60) (((jm tk 5 / 2 ^ t : Nat) : Int)) gM dX1_matchRest_59 rfl (jx_shr (by omega) (by omega)) ?_
          refine jr_iconst (pc' := 61) gM dX1_matchRest_60 rfl ?_
          refine jr_iand (pc' := 62) (bI ((jm tk 5).testBit t = true)) gM dX1_matchRest_61 rfl (jx_lo (by omega)) ?_
          have etb : (jm tk 5).testBit t = tk t := by rw [jm_tb]; simp; omega
          rw [etb]
          refine jr_pb_ne (tgt := 101) (pc' := 65) gM dX1_matchRest_62 rfl rfl (fun c62 => ?_) (fun c62 => ?_)
          · refine go σ1 ?_ ?_ g22 g18 gc
            · simp only [vfo]
              rw [← hfo]
              simp only [c62, if_true]
              rw [hfo]
              exact g10
            · intro i hi
              simp only [vfo]
              rw [← hfo]
              simp only [c62, if_true]
              rw [hfo]
              exact g23 i hi
          · have ev : vfo fo (t + 1) acc = vtF s dist k (p + 1) spare (fun i => tk i || decide (i = t)) (sum + dist p t) (jset asg p (t : Int)) (vfo fo t acc) := by
              have e1 : vfo fo (t + 1) acc = fo t (vfo fo t acc) := rfl
              rw [e1]
              conv => lhs; rw [← hfo]
              simp only [c62]
              rw [hfo]
              rfl
            rw [ev] at go
            have hpt := hdr p t
            refine jr_aload_n (pc' := 66) gM dX1_matchRest_65 rfl rfl ?_
            refine jr_gfr (pc' := 69) gM dX1_matchRest_66 rfl fX1_33 rfl rfl ?_
            refine jr_iload_n (pc' := 70) gM dX1_matchRest_69 rfl rfl ?_
            refine jr_iload (pc' := 72) gM dX1_matchRest_70 rfl rfl ?_
            refine jr_iast (pc' := 73) (p) gM dX1_matchRest_72 rfl rfl (rfl) (by omega) (by decide) ?_
            refine jr_aload_n (pc' := 74) gM dX1_matchRest_73 rfl rfl ?_
            refine jr_iload_n (pc' := 75) gM dX1_matchRest_74 rfl rfl ?_
            refine jr_iconst (pc' := 76) gM dX1_matchRest_75 rfl ?_
            refine jr_iadd (pc' := 77) gM dX1_matchRest_76 rfl ?_
            refine jr_iload_n (pc' := 78) gM dX1_matchRest_77 rfl rfl ?_
            refine jr_iload_n (pc' := 79) gM dX1_matchRest_78 rfl rfl ?_
            refine jr_iconst (pc' := 80) gM dX1_matchRest_79 rfl ?_
            refine jr_iload (pc' := 82) gM dX1_matchRest_80 rfl rfl ?_
            refine jr_ishl (pc' := 83) (((2 ^ t : Nat) : Int)) gM dX1_matchRest_82 rfl (jx_shl (by omega)) ?_
            refine jr_ior (pc' := 84) (((jm (fun i => tk i || decide (i = t)) 5 : Nat) : Int)) gM dX1_matchRest_83 rfl (by rw [jx_or, jm_bit (show t < 5 by omega), jm_or]) ?_
            refine jr_iload (pc' := 86) gM dX1_matchRest_84 rfl rfl ?_
            refine jr_aload_n (pc' := 87) gM dX1_matchRest_86 rfl rfl ?_
            refine jr_gfr (pc' := 90) gM dX1_matchRest_87 rfl fX1_30 rfl rfl ?_
            refine jr_iload_n (pc' := 91) gM dX1_matchRest_90 rfl rfl ?_
            refine jr_iconst (pc' := 92) gM dX1_matchRest_91 rfl ?_
            refine jr_imul (pc' := 93) gM dX1_matchRest_92 rfl ?_
            refine jr_iload (pc' := 95) gM dX1_matchRest_93 rfl rfl ?_
            refine jr_iadd (pc' := 96) gM dX1_matchRest_95 rfl ?_
            refine jr_iald (pc' := 97) (p * 5 + t) gM dX1_matchRest_96 rfl rfl (by omega) (by omega) (by decide) ?_
            rw [jup_row (show (21 : Nat) ≠ 22 by omega), gc 21 (by omega) (by omega) (by omega), h21 p t (by omega) (by omega)]
            refine jr_iadd (pc' := 98) gM dX1_matchRest_97 rfl ?_
            rw [show ((p : Int) + 1) = ((p + 1 : Nat) : Int) by omega]
            refine jr_inv (pc' := 101) (as := [_, _, _, _]) gM dX1_matchRest_98 rfl kX1_79 rfl rfl rfl (Nat.le_of_ble_eq_true rfl) ?_
            rw [show (k + 1).add (d + 1) = k + (d + 2) from (show k + 1 + (d + 1) = k + (d + 2) by omega)]
            refine ih d _ _ (p + 1) spare (fun i => tk i || decide (i = t)) (sum + dist p t) (jset asg p (t : Int)) (vfo fo t acc) (by omega) hsp (by omega) hfrt ?_ ?_ ?_ ?_ ?_ ?_ ?_
            · rw [jup_row (by omega), g18 6 (by omega)]
              exact h6
            · rw [jup_row (by omega), g18 4 (by omega)]
              exact h4
            · rw [jup_row (by omega)]
              exact g10
            · intro p2 t2 hp2 ht2
              rw [jup_row (by omega), gc 21 (by omega) (by omega) (by omega)]
              exact h21 p2 t2 hp2 ht2
            · intro i hi
              by_cases e : i = p
              · subst e
                rw [jup_at, jset_at]
              · rw [jup_ne (Or.inr e), jset_ne e, g22 i (by omega)]
                exact h22 i (by omega)
            · intro i hi
              rw [jup_row (by omega)]
              exact g23 i hi
            · intro σ3 k10 k23 k22 k18 kc
              dsimp only [Option.toList, List.cons_append, List.nil_append]
              refine go σ3 k10 k23 (fun i hi => ?_) (fun j hj => ?_) (fun c q1 q2 q3 => ?_)
              · rw [k22 i (by omega), jup_ne (Or.inr (by omega))]
                exact g22 i hi
              · rw [k18 j hj, jup_row (by omega)]
                exact g18 j hj
              · rw [kc c q1 q2 q3, jup_row q2]
                exact gc c q1 q2 q3
      exact lp 0 (by omega) σ h10 h23 (fun _ _ => rfl) (fun _ _ => rfl) (fun _ _ _ _ => rfl)
    · refine jr_vreturn dX1_matchRest_9 rfl ?_
      rw [vtF_ge hd0 (k + 1) p spare tk sum asg acc (by omega)] at hK
      exact hK σ h10 h23 (fun _ _ => rfl) (fun _ _ => rfl) (fun _ _ _ _ => rfl)
