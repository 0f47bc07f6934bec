/-! ===== Heaps: measure, layNew ===== -/
def jbs (f : Nat → Int) (hp : Nat → Int) (n : Nat) (h : Int) : Int := js (fun o => if hp o = h then f o else 0) n
theorem jbs_s (f : Nat → Int) (hp : Nat → Int) (n : Nat) (h : Int) : jbs f hp (n + 1) h = jbs f hp n h + (if hp n = h then f n else 0) := rfl
theorem jbs_le {f : Nat → Int} {hp : Nat → Int} {n : Nat} {h : Int} (hf : ∀ o, o < n → 0 ≤ f o ∧ f o ≤ 180) : 0 ≤ jbs f hp n h ∧ jbs f hp n h ≤ n * 180 := by
  unfold jbs
  refine js_le (fun i hi => ?_)
  have := hf i hi
  split <;> omega
theorem js_single {g : Nat → Int} {n u : Nat} (hu : u < n) : js (fun v => if decide (v = u) then g v else 0) n = g u := by
  induction n with
  | zero => omega
  | succ n ih =>
    simp only [js]
    by_cases e : u = n
    · subst e
      have : js (fun v => if decide (v = u) then g v else 0) u = js (fun _ => 0) u := js_congr (fun i hi => by simp; omega)
      rw [this]
      have z : ∀ m, js (fun _ => 0) m = 0 := fun m => by
        induction m with
        | zero => rfl
        | succ m ihm => simp [js, ihm]
      rw [z]
      simp
    · rw [ih (by omega)]
      simp [show ¬ n = u from fun q => e q.symm]
set_option maxRecDepth 100000 in
theorem addFar_ok {d : Nat} {σ : jMem} {K : Option Value → jMem → Prop} {n : Nat} {hp : Nat → Int} {u : Nat} (hc : σ 1 5 = (n : Int)) (hn : n ≤ 40) (hV : HV n hp) (hI : HI hp σ) (hu : u < 40)
    (hK : ∀ σ' : jMem, (∀ c, c ≠ 13 → σ' c = σ c) → (∀ h : Nat, h < 40 → σ' 13 h = σ 13 h + jbs (fun o => σ 6 (u * 40 + o)) hp n h) → K none σ') : jRun (d + 1) mX2_addFar [.ref 10, .int (jI (u : Int))] σ K := by
  refine jenter (lv := [_, _, _, _]) rfl rfl (Nat.le_of_ble_eq_true rfl) ?_
  refine jr_iconst gM dX2_addFar_0 rfl ?_
  refine jr_istore_n (lv' := [_, _, _, _]) gM dX2_addFar_1 rfl rfl (Nat.le_of_ble_eq_true rfl) ?_
  have lp : ∀ i, i ≤ n → ∀ (q3 : Option Value) (σ' : jMem), (∀ c, c ≠ 13 → σ' c = σ c) → (∀ h : Nat, h < 40 → σ' 13 h = σ 13 h + jbs (fun o => σ 6 (u * 40 + o)) hp i h) → jV (jP mX2_addFar (d + 1) K) 2 [some (.ref 10), some (.int (jI (u : Int))), some (.int (jI (i : Int))), q3] [] σ' := by
    refine jdown n ?_
    intro i hi ih q3 σ' g1 g2
    have o1 : σ' 1 = σ 1 := g1 1 (by omega)
    have o6 : σ' 6 = σ 6 := g1 6 (by omega)
    refine jr_iload_n gM dX2_addFar_2 rfl rfl ?_
    refine jr_aload_n gM dX2_addFar_3 rfl rfl ?_
    refine jr_gfr gM dX2_addFar_4 rfl fX2_9 rfl rfl ?_
    refine jr_gfi gM dX2_addFar_7 rfl fX2_39 rfl rfl ?_
    rw [o1]
    refine jr_icmp_ge gM dX2_addFar_10 rfl rfl ⟨by omega, by omega⟩ ⟨by omega, by omega⟩ (fun c10 => ?_) (fun c10 => ?_)
    · refine jr_vreturn dX2_addFar_49 rfl ?_
      have e : i = n := by omega
      subst e
      exact hK σ' g1 g2
    · refine jr_aload_n gM dX2_addFar_13 rfl rfl ?_
      refine jr_gfr gM dX2_addFar_14 rfl fX2_15 rfl rfl ?_
      refine jr_iload_n gM dX2_addFar_17 rfl rfl ?_
      refine jr_iald _ gM dX2_addFar_18 rfl rfl rfl (by omega) (by decide) ?_
      rw [g1 11 (by omega), hI.1 i (by omega)]
      have hr := hV.r hn i
      refine jr_istore_n (lv' := [_, _, _, _]) gM dX2_addFar_19 rfl rfl (Nat.le_of_ble_eq_true rfl) ?_
      refine jr_iload_n gM dX2_addFar_20 rfl rfl ?_
      refine jr_iconst gM dX2_addFar_21 rfl ?_
      refine jr_icmp_eq gM dX2_addFar_22 rfl rfl ⟨by omega, by omega⟩ ⟨by omega, by omega⟩ (fun c22 => ?_) (fun c22 => ?_)
      · refine jr_iinc (lv' := [_, _, _, _]) gM dX2_addFar_43 rfl rfl rfl ?_
        refine jr_goto gM dX2_addFar_46 rfl ?_
        refine ih (i + 1) (by omega) (by omega) _ σ' g1 (fun h hh => ?_)
        rw [g2 h hh]
        unfold jbs
        simp only [js]
        rw [if_neg (by omega), Int.add_zero]
      · rcases hV.cases i with e | ⟨k, e⟩
        · exact absurd e c22
        · rw [e] at hr ⊢
          refine jr_aload_n gM dX2_addFar_25 rfl rfl ?_
          refine jr_gfr gM dX2_addFar_26 rfl fX2_23 rfl rfl ?_
          refine jr_iload_n gM dX2_addFar_29 rfl rfl ?_
          refine jr_dup2 gM dX2_addFar_30 rfl rfl rfl ?_
          refine jr_iald (k) gM dX2_addFar_31 rfl rfl (rfl) (by omega) (by decide) ?_
          refine jr_aload_n gM dX2_addFar_32 rfl rfl ?_
          refine jr_gfr gM dX2_addFar_33 rfl fX2_9 rfl rfl ?_
          refine jr_iload_n gM dX2_addFar_36 rfl rfl ?_
          refine jr_iload_n gM dX2_addFar_37 rfl rfl ?_
          refine jr_inv (as := [_, _]) gM dX2_addFar_38 rfl kX2_87 rfl rfl rfl (Nat.le_of_ble_eq_true rfl) ?_
          refine between_ok hu (by omega) ?_
          dsimp only [Option.toList, List.cons_append, List.nil_append]
          refine jr_iadd gM dX2_addFar_41 rfl ?_
          refine jr_iast (k) gM dX2_addFar_42 rfl rfl (rfl) (by omega) (by decide) ?_
          refine jr_iinc (lv' := [_, _, _, _]) gM dX2_addFar_43 rfl rfl rfl ?_
          refine jr_goto gM dX2_addFar_46 rfl ?_
          refine ih (i + 1) (by omega) (by omega) _ _ (fun c hc => by rw [jup_row hc]; exact g1 c hc) (fun h hh => ?_)
          rw [jbs_s]
          by_cases q : h = k
          · subst q
            rw [jup_at, g2 h hh, if_pos e, o6]
            omega
          · rw [jup_ne (Or.inr q), g2 h hh, if_neg (by omega)]
            omega
  refine lp 0 (by omega) _ σ (fun c _ => rfl) (fun h hh => ?_)
  unfold jbs
  simp [js]
set_option maxRecDepth 100000 in
theorem measure_ok {d : Nat} {σ : jMem} {K : Option Value → jMem → Prop} {n : Nat} {hp : Nat → Int} {p : Nat → Bool} (hc : σ 1 5 = (n : Int)) (hn : n ≤ 40) (hV : HV n hp) (hI : HI hp σ)
    (hK : ∀ σ' : jMem, (∀ c, c ≠ 13 → σ' c = σ c) → (∀ h : Nat, h < 40 → σ' 13 h = js (fun u => if p u then jbs (fun o => σ 6 (u * 40 + o)) hp n h else 0) n) → K none σ') : jRun (d + 2) mX2_measure [.ref 10, .long (jL (jk p))] σ K := by
  refine jenter (lv := [_, _, _, _]) rfl rfl (Nat.le_of_ble_eq_true rfl) ?_
  refine jr_aload_n gM dX2_measure_0 rfl rfl ?_
  refine jr_gfr gM dX2_measure_1 rfl fX2_23 rfl rfl ?_
  refine jr_iconst gM dX2_measure_4 rfl ?_
  refine jr_ins (as := [_, _]) gM dX2_measure_5 rfl kX2_33 rfl rfl (Nat.le_of_ble_eq_true rfl) ?_
  refine fill_ok (c0 := 13) (n := 40) rfl (by decide) (fun σ0 f1 f2 => ?_)
  dsimp only [Option.toList, List.cons_append, List.nil_append]
  refine jr_iconst gM dX2_measure_8 rfl ?_
  refine jr_istore_n (lv' := [_, _, _, _]) gM dX2_measure_9 rfl rfl (Nat.le_of_ble_eq_true rfl) ?_
  have lp : ∀ i, i ≤ n → ∀ (σ' : jMem), (∀ c, c ≠ 13 → σ' c = σ c) → (∀ h : Nat, h < 40 → σ' 13 h = js (fun u => if p u then jbs (fun o => σ 6 (u * 40 + o)) hp n h else 0) i) → jV (jP mX2_measure (d + 2) K) 10 [some (.ref 10), some (.long (jL (jk p))), none, some (.int (jI (i : Int)))] [] σ' := by
    refine jdown n ?_
    intro i hi ih σ' g1 g2
    have o1 : σ' 1 = σ 1 := g1 1 (by omega)
    have o6 : σ' 6 = σ 6 := g1 6 (by omega)
    refine jr_iload_n gM dX2_measure_10 rfl rfl ?_
    refine jr_aload_n gM dX2_measure_11 rfl rfl ?_
    refine jr_gfr gM dX2_measure_12 rfl fX2_9 rfl rfl ?_
    refine jr_gfi gM dX2_measure_15 rfl fX2_39 rfl rfl ?_
    rw [o1]
    refine jr_icmp_ge gM dX2_measure_18 rfl rfl ⟨by omega, by omega⟩ ⟨by omega, by omega⟩ (fun c18 => ?_) (fun c18 => ?_)
    · refine jr_vreturn dX2_measure_40 rfl ?_
      have e : i = n := by omega
      subst e
      exact hK σ' g1 g2
    · refine jr_lload_n gM dX2_measure_21 rfl rfl ?_
      refine jr_iload_n gM dX2_measure_22 rfl rfl ?_
      refine jr_inn (as := [_, _]) gM dX2_measure_23 rfl kX2_80 rfl rfl (Nat.le_of_ble_eq_true rfl) ?_
      refine holds_ok (by omega) ?_
      dsimp only [Option.toList, List.cons_append, List.nil_append]
      refine jr_pb_eq gM dX2_measure_26 rfl rfl (fun c26 => ?_) (fun c26 => ?_)
      · refine jr_iinc (lv' := [_, _, _, _]) gM dX2_measure_34 rfl rfl rfl ?_
        refine jr_goto gM dX2_measure_37 rfl ?_
        refine ih (i + 1) (by omega) (by omega) σ' g1 (fun h hh => ?_)
        simp only [js]
        rw [g2 h hh, if_neg c26, Int.add_zero]
      · refine jr_aload_n gM dX2_measure_29 rfl rfl ?_
        refine jr_iload_n gM dX2_measure_30 rfl rfl ?_
        refine jr_inv (as := [_]) gM dX2_measure_31 rfl kX2_84 rfl rfl rfl (Nat.le_of_ble_eq_true rfl) ?_
        refine addFar_ok (by rw [o1]; exact hc) hn hV (hI.of (g1 11 (by omega)) (g1 12 (by omega))) (by omega) (fun σ2 k1 k2 => ?_)
        dsimp only [Option.toList, List.cons_append, List.nil_append]
        refine jr_iinc (lv' := [_, _, _, _]) gM dX2_measure_34 rfl rfl rfl ?_
        refine jr_goto gM dX2_measure_37 rfl ?_
        refine ih (i + 1) (by omega) (by omega) σ2 (fun c hc => by rw [k1 c hc]; exact g1 c hc) (fun h hh => ?_)
        simp only [js]
        rw [k2 h hh, g2 h hh, if_pos c26, o6]
  exact lp 0 (by omega) σ0 f1 (fun h hh => by rw [f2 h hh]; rfl)
/-- the cheapest heap and the next cheapest, of those below i -/
def lnF (c : Nat → Int) (hp : Nat → Int) : Nat → Int × Int × Int
  | 0 => (-1, 1000000000, 1000000000)
  | i + 1 => if hp i = (i : Int) then (if c i < (lnF c hp i).2.1 then ((i : Int), c i, (lnF c hp i).2.1) else ((lnF c hp i).1, (lnF c hp i).2.1, min (lnF c hp i).2.2 (c i))) else lnF c hp i
theorem lnF_spec {c : Nat → Int} {hp : Nat → Int} {i : Nat} (hc : ∀ h, h < i → 0 ≤ c h ∧ c h ≤ 7200) : (lnF c hp i = (-1, 1000000000, 1000000000) ∧ ∀ h : Nat, h < i → ¬ hp h = (h : Int)) ∨ ∃ k : Nat, k < i ∧ hp k = (k : Int) ∧ (lnF c hp i).1 = (k : Int) ∧ (lnF c hp i).2.1 = c k ∧ c k ≤ (lnF c hp i).2.2 ∧ (lnF c hp i).2.2 ≤ 1000000000 ∧ ((lnF c hp i).2.2 ≤ 7200 ∨ (lnF c hp i).2.2 = 1000000000) := by
  induction i with
  | zero => exact Or.inl ⟨rfl, fun h hh => absurd hh (by omega)⟩
  | succ i ih =>
    have hci := hc i (by omega)
    simp only [lnF]
    rcases ih (fun h hh => hc h (by omega)) with ⟨e, h1⟩ | ⟨k, h1, h2, h3, h4, h5, h6, h7⟩
    · by_cases q : hp i = (i : Int)
      · rw [if_pos q, e]
        rw [if_pos (by show c i < 1000000000; omega)]
        exact Or.inr ⟨i, by omega, q, rfl, rfl, by show c i ≤ 1000000000; omega, by show (1000000000 : Int) ≤ 1000000000; omega, Or.inr rfl⟩
      · rw [if_neg q]
        refine Or.inl ⟨e, fun h hh => ?_⟩
        by_cases e2 : h = i
        · subst e2
          exact q
        · exact h1 h (by omega)
    · have hck := hc k (by omega)
      by_cases q : hp i = (i : Int)
      · rw [if_pos q]
        by_cases q2 : c i < (lnF c hp i).2.1
        · rw [if_pos q2]
          refine Or.inr ⟨i, by omega, q, rfl, rfl, ?_, ?_, ?_⟩
          · show c i ≤ (lnF c hp i).2.1
            omega
          · show (lnF c hp i).2.1 ≤ _
            omega
          · show (lnF c hp i).2.1 ≤ 7200 ∨ _
            omega
        · rw [if_neg q2]
          refine Or.inr ⟨k, by omega, h2, h3, h4, ?_, ?_, ?_⟩
          · show c k ≤ min (lnF c hp i).2.2 (c i)
            omega
          · show min (lnF c hp i).2.2 (c i) ≤ _
            omega
          · show min (lnF c hp i).2.2 (c i) ≤ 7200 ∨ _
            omega
      · rw [if_neg q]
        exact Or.inr ⟨k, by omega, h2, h3, h4, h5, h6, h7⟩
/-- where a use that comes is laid -/
def lnR (n : Nat) (c hp : Nat → Int) (price gap : Int) (u : Nat) : Nat → Int := if (lnF c hp u).1 = -1 ∨ price < (lnF c hp u).2.1 then (if (lnF c hp u).2.1 - price < gap then hp else alF n hp u) else (if min (lnF c hp u).2.2 price - (lnF c hp u).2.1 < gap then hp else inF n hp u (lnF c hp u).1.toNat)
set_option maxRecDepth 100000 in
theorem layNew_ok {d : Nat} {σ : jMem} {K : Option Value → jMem → Prop} {n : Nat} {hp : Nat → Int} {u : Nat} (hc : σ 1 5 = (n : Int)) (hn : n ≤ 40) (hV : HV n hp) (hI : HI hp σ) (hu : u + 1 = n) (hf : ∀ o, o < n → 0 ≤ σ 6 (u * 40 + o) ∧ σ 6 (u * 40 + o) ≤ 180) (hpr : 0 ≤ σ 10 4 ∧ σ 10 4 ≤ 200) (hga : 0 ≤ σ 10 5 ∧ σ 10 5 ≤ 50)
    (hK : ∀ σ' : jMem, HI (lnR n (fun h => jbs (fun o => σ 6 (u * 40 + o)) hp n h) hp (σ 10 4) (σ 10 5) u) σ' → (∀ c, c ≠ 11 → c ≠ 12 → c ≠ 13 → σ' c = σ c) → K none σ') : jRun (d + 4) mX2_layNew [.ref 10, .int (jI (u : Int))] σ K := by
  refine jenter (lv := [_, _, _, _, _, _]) rfl rfl (Nat.le_of_ble_eq_true rfl) ?_
  refine jr_aload_n gM dX2_layNew_0 rfl rfl ?_
  refine jr_iload_n gM dX2_layNew_1 rfl rfl ?_
  refine jr_inn (as := [_]) gM dX2_layNew_2 rfl kX2_69 rfl rfl (Nat.le_of_ble_eq_true rfl) ?_
  refine bit_ok (by omega) ?_
  dsimp only [Option.toList, List.cons_append, List.nil_append]
  refine jr_inv (as := [_]) gM dX2_layNew_5 rfl kX2_91 rfl rfl rfl (Nat.le_of_ble_eq_true rfl) ?_
  refine measure_ok hc hn hV hI (fun σ1 m1 m2 => ?_)
  dsimp only [Option.toList, List.cons_append, List.nil_append]
  generalize hcc : (fun h : Nat => jbs (fun o => σ 6 (u * 40 + o)) hp n h) = c at hK
  have m3 : ∀ h : Nat, h < 40 → σ1 13 h = c h := by
    intro h hh
    rw [m2 h hh, js_single (by omega), ← hcc]
  have hcb : ∀ h : Nat, 0 ≤ c h ∧ c h ≤ 7200 := by
    intro h
    have := jbs_le (hp := hp) (h := h) hf
    rw [← hcc]
    show 0 ≤ jbs _ _ _ _ ∧ jbs _ _ _ _ ≤ _
    omega
  have o1 : σ1 1 = σ 1 := m1 1 (by omega)
  have o10 : σ1 10 = σ 10 := m1 10 (by omega)
  have hI1 : HI hp σ1 := hI.of (m1 11 (by omega)) (m1 12 (by omega))
  have hc1 : σ1 1 5 = (n : Int) := by rw [o1]; exact hc
  refine jr_iconst gM dX2_layNew_8 rfl ?_
  refine jr_istore_n (lv' := [_, _, _, _, _, _]) gM dX2_layNew_9 rfl rfl (Nat.le_of_ble_eq_true rfl) ?_
  refine jr_ldc gM dX2_layNew_10 rfl qX2_94 ?_
  refine jr_istore_n (lv' := [_, _, _, _, _, _]) gM dX2_layNew_12 rfl rfl (Nat.le_of_ble_eq_true rfl) ?_
  refine jr_ldc gM dX2_layNew_13 rfl qX2_94 ?_
  refine jr_istore (lv' := [_, _, _, _, _, _]) gM dX2_layNew_15 rfl rfl (Nat.le_of_ble_eq_true rfl) ?_
  refine jr_iconst gM dX2_layNew_17 rfl ?_
  refine jr_istore (lv' := [_, _, _, _, _, _]) gM dX2_layNew_18 rfl rfl (Nat.le_of_ble_eq_true rfl) ?_
  have fin : ∀ (q5 : Option Value), jV (jP mX2_layNew (d + 4) K) 92 [some (.ref 10), some (.int (jI (u : Int))), some (.int (jI (lnF c hp u).1)), some (.int (jI (lnF c hp u).2.1)), some (.int (jI (lnF c hp u).2.2)), q5] [] σ1 := by
    intro q5
    have sp := lnF_spec (c := c) (hp := hp) (i := u) (fun h _ => hcb h)
    generalize hF : lnF c hp u = r at *
    have hr : -1 ≤ r.1 ∧ r.1 < 40 ∧ 0 ≤ r.2.1 ∧ r.2.1 ≤ 1000000000 ∧ 0 ≤ r.2.2 ∧ r.2.2 ≤ 1000000000 := by
      rcases sp with ⟨e, h1⟩ | ⟨k, h1, h2, h3, h4, h5, h6, h7⟩
      · rw [e]
        decide
      · have := hcb k
        omega
    have go1 : (r.1 = -1 ∨ σ 10 4 < r.2.1) → jV (jP mX2_layNew (d + 4) K) 112 [some (.ref 10), some (.int (jI (u : Int))), some (.int (jI r.1)), some (.int (jI r.2.1)), some (.int (jI r.2.2)), some (.int (jI 1))] [] σ1 := by
      intro hA
      refine jr_iload gM dX2_layNew_112 rfl rfl ?_
      refine jr_if_eq gM dX2_layNew_114 rfl rfl ⟨by omega, by omega⟩ (fun cc => absurd cc (by omega)) (fun _ => ?_)
      refine jr_iload_n gM dX2_layNew_117 rfl rfl ?_
      refine jr_goto gM dX2_layNew_118 rfl ?_
      refine jr_istore (lv' := [_, _, _, _, _, _]) gM dX2_layNew_130 rfl rfl (Nat.le_of_ble_eq_true rfl) ?_
      refine jr_iload gM dX2_layNew_132 rfl rfl ?_
      refine jr_if_eq gM dX2_layNew_134 rfl rfl ⟨by omega, by omega⟩ (fun cc => absurd cc (by omega)) (fun _ => ?_)
      refine jr_aload_n gM dX2_layNew_137 rfl rfl ?_
      refine jr_gfi gM dX2_layNew_138 rfl fX2_26 rfl rfl ?_
      refine jr_goto gM dX2_layNew_141 rfl ?_
      refine jr_istore_n (lv' := [_, _, _, _, _, _]) gM dX2_layNew_145 rfl rfl (Nat.le_of_ble_eq_true rfl) ?_
      refine jr_iload gM dX2_layNew_146 rfl rfl ?_
      refine jr_iload_n gM dX2_layNew_148 rfl rfl ?_
      refine jr_isub gM dX2_layNew_149 rfl ?_
      refine jr_aload_n gM dX2_layNew_150 rfl rfl ?_
      refine jr_gfi gM dX2_layNew_151 rfl fX2_30 rfl rfl ?_
      rw [o10]
      refine jr_icmp_ge gM dX2_layNew_154 rfl rfl ⟨by omega, by omega⟩ ⟨by omega, by omega⟩ (fun c154 => ?_) (fun c154 => ?_)
      · refine jr_iload gM dX2_layNew_158 rfl rfl ?_
        refine jr_if_eq gM dX2_layNew_160 rfl rfl ⟨by omega, by omega⟩ (fun cc => absurd cc (by omega)) (fun _ => ?_)
        refine jr_aload_n gM dX2_layNew_163 rfl rfl ?_
        refine jr_iload_n gM dX2_layNew_164 rfl rfl ?_
        refine jr_inv (as := [_]) gM dX2_layNew_165 rfl kX2_100 rfl rfl rfl (Nat.le_of_ble_eq_true rfl) ?_
        refine putAlone_ok hc1 hn hV hI1 (by omega) (fun σ2 k1 k2 => ?_)
        dsimp only [Option.toList, List.cons_append, List.nil_append]
        refine jr_goto gM dX2_layNew_168 rfl ?_
        refine jr_vreturn dX2_layNew_177 rfl ?_
        refine hK σ2 ?_ (fun q a b e => by rw [k2 q a b, m1 q e])
        unfold lnR
        rw [hF, if_pos hA, if_neg (by omega)]
        exact k1
      · refine jr_vreturn dX2_layNew_157 rfl ?_
        refine hK σ1 ?_ (fun q a b e => m1 q e)
        unfold lnR
        rw [hF, if_pos hA, if_pos (by omega)]
        exact hI1
    have go0 : ¬ (r.1 = -1 ∨ σ 10 4 < r.2.1) → jV (jP mX2_layNew (d + 4) K) 112 [some (.ref 10), some (.int (jI (u : Int))), some (.int (jI r.1)), some (.int (jI r.2.1)), some (.int (jI r.2.2)), some (.int (jI 0))] [] σ1 := by
      intro hA
      rcases sp with ⟨e, h1⟩ | ⟨k, h1, h2, h3, h4, h5, h6, h7⟩
      · rw [e] at hA
        exact absurd (Or.inl rfl) hA
      · refine jr_iload gM dX2_layNew_112 rfl rfl ?_
        refine jr_if_eq gM dX2_layNew_114 rfl rfl ⟨by omega, by omega⟩ (fun _ => ?_) (fun cc => absurd cc (by omega))
        refine jr_iload gM dX2_layNew_121 rfl rfl ?_
        refine jr_aload_n gM dX2_layNew_123 rfl rfl ?_
        refine jr_gfi gM dX2_layNew_124 rfl fX2_26 rfl rfl ?_
        rw [o10]
        refine jr_min gM dX2_layNew_127 rfl kX2_95 ⟨by omega, by omega⟩ ⟨by omega, by omega⟩ (Nat.le_of_ble_eq_true rfl) ?_
        refine jr_istore (lv' := [_, _, _, _, _, _]) gM dX2_layNew_130 rfl rfl (Nat.le_of_ble_eq_true rfl) ?_
        refine jr_iload gM dX2_layNew_132 rfl rfl ?_
        refine jr_if_eq gM dX2_layNew_134 rfl rfl ⟨by omega, by omega⟩ (fun _ => ?_) (fun cc => absurd cc (by omega))
        refine jr_iload_n gM dX2_layNew_144 rfl rfl ?_
        refine jr_istore_n (lv' := [_, _, _, _, _, _]) gM dX2_layNew_145 rfl rfl (Nat.le_of_ble_eq_true rfl) ?_
        refine jr_iload gM dX2_layNew_146 rfl rfl ?_
        refine jr_iload_n gM dX2_layNew_148 rfl rfl ?_
        refine jr_isub gM dX2_layNew_149 rfl ?_
        refine jr_aload_n gM dX2_layNew_150 rfl rfl ?_
        refine jr_gfi gM dX2_layNew_151 rfl fX2_30 rfl rfl ?_
        rw [o10]
        refine jr_icmp_ge gM dX2_layNew_154 rfl rfl ⟨by omega, by omega⟩ ⟨by omega, by omega⟩ (fun c154 => ?_) (fun c154 => ?_)
        · refine jr_iload gM dX2_layNew_158 rfl rfl ?_
          refine jr_if_eq gM dX2_layNew_160 rfl rfl ⟨by omega, by omega⟩ (fun _ => ?_) (fun cc => absurd cc (by omega))
          refine jr_aload_n gM dX2_layNew_171 rfl rfl ?_
          refine jr_iload_n gM dX2_layNew_172 rfl rfl ?_
          refine jr_iload_n gM dX2_layNew_173 rfl rfl ?_
          rw [h3]
          refine jr_inv (as := [_, _]) gM dX2_layNew_174 rfl kX2_103 rfl rfl rfl (Nat.le_of_ble_eq_true rfl) ?_
          refine putInto_ok hc1 hn hV hI1 (by omega) h2 (by omega) (fun σ2 k1 k2 => ?_)
          dsimp only [Option.toList, List.cons_append, List.nil_append]
          refine jr_vreturn dX2_layNew_177 rfl ?_
          refine hK σ2 ?_ (fun q a b e => by rw [k2 q a b, m1 q e])
          unfold lnR
          rw [hF, if_neg hA, if_neg (by omega), h3]
          exact k1
        · refine jr_vreturn dX2_layNew_157 rfl ?_
          refine hK σ1 ?_ (fun q a b e => m1 q e)
          unfold lnR
          rw [hF, if_neg hA, if_pos (by omega)]
          exact hI1
    refine jr_iload_n gM dX2_layNew_92 rfl rfl ?_
    refine jr_iconst gM dX2_layNew_93 rfl ?_
    refine jr_icmp_eq gM dX2_layNew_94 rfl rfl ⟨by omega, by omega⟩ ⟨by omega, by omega⟩ (fun c94 => ?_) (fun c94 => ?_)
    · refine jr_iconst gM dX2_layNew_105 rfl ?_
      refine jr_goto gM dX2_layNew_106 rfl ?_
      refine jr_istore (lv' := [_, _, _, _, _, _]) gM dX2_layNew_110 rfl rfl (Nat.le_of_ble_eq_true rfl) ?_
      exact go1 (Or.inl c94)
    · refine jr_aload_n gM dX2_layNew_97 rfl rfl ?_
      refine jr_gfi gM dX2_layNew_98 rfl fX2_26 rfl rfl ?_
      refine jr_iload_n gM dX2_layNew_101 rfl rfl ?_
      rw [o10]
      refine jr_icmp_ge gM dX2_layNew_102 rfl rfl ⟨by omega, by omega⟩ ⟨by omega, by omega⟩ (fun c102 => ?_) (fun c102 => ?_)
      · refine jr_iconst gM dX2_layNew_109 rfl ?_
        refine jr_istore (lv' := [_, _, _, _, _, _]) gM dX2_layNew_110 rfl rfl (Nat.le_of_ble_eq_true rfl) ?_
        exact go0 (by omega)
      · refine jr_iconst gM dX2_layNew_105 rfl ?_
        refine jr_goto gM dX2_layNew_106 rfl ?_
        refine jr_istore (lv' := [_, _, _, _, _, _]) gM dX2_layNew_110 rfl rfl (Nat.le_of_ble_eq_true rfl) ?_
        exact go1 (by omega)
  have lp : ∀ i, i ≤ u → jV (jP mX2_layNew (d + 4) K) 20 [some (.ref 10), some (.int (jI (u : Int))), some (.int (jI (lnF c hp i).1)), some (.int (jI (lnF c hp i).2.1)), some (.int (jI (lnF c hp i).2.2)), some (.int (jI (i : Int)))] [] σ1 := by
    refine jdown u ?_
    intro i hi ih
    have sp := lnF_spec (c := c) (hp := hp) (i := i) (fun h _ => hcb h)
    have hr : -1 ≤ (lnF c hp i).1 ∧ (lnF c hp i).1 < 40 ∧ 0 ≤ (lnF c hp i).2.1 ∧ (lnF c hp i).2.1 ≤ 1000000000 ∧ 0 ≤ (lnF c hp i).2.2 ∧ (lnF c hp i).2.2 ≤ 1000000000 := by
      rcases sp with ⟨e, h1⟩ | ⟨k, h1, h2, h3, h4, h5, h6, h7⟩
      · rw [e]
        decide
      · have := hcb k
        omega
    have hci := hcb i
    refine jr_iload gM dX2_layNew_20 rfl rfl ?_
    refine jr_iload_n gM dX2_layNew_22 rfl rfl ?_
    refine jr_icmp_ge gM dX2_layNew_23 rfl rfl ⟨by omega, by omega⟩ ⟨by omega, by omega⟩ (fun c23 => ?_) (fun c23 => ?_)
    · have e : i = u := by omega
      subst e
      exact fin _
    · have h := ih (i + 1) (by omega) (by omega)
      refine jr_aload_n gM dX2_layNew_26 rfl rfl ?_
      refine jr_iload gM dX2_layNew_27 rfl rfl ?_
      refine jr_inv (as := [_]) gM dX2_layNew_29 rfl kX2_53 rfl rfl rfl (Nat.le_of_ble_eq_true rfl) ?_
      refine isHeap_ok hn hV hI1 (by omega) ?_
      dsimp only [Option.toList, List.cons_append, List.nil_append]
      refine jr_pb_eq gM dX2_layNew_32 rfl rfl (fun c32 => ?_) (fun c32 => ?_)
      · refine jr_aload_n gM dX2_layNew_63 rfl rfl ?_
        refine jr_iload gM dX2_layNew_64 rfl rfl ?_
        refine jr_inv (as := [_]) gM dX2_layNew_66 rfl kX2_53 rfl rfl rfl (Nat.le_of_ble_eq_true rfl) ?_
        refine isHeap_ok hn hV hI1 (by omega) ?_
        dsimp only [Option.toList, List.cons_append, List.nil_append]
        refine jr_pb_eq gM dX2_layNew_69 rfl rfl (fun c69 => ?_) (fun c69 => ?_)
        · refine jr_iinc (lv' := [_, _, _, _, _, _]) gM dX2_layNew_86 rfl rfl rfl ?_
          refine jr_goto gM dX2_layNew_89 rfl ?_
          rw [show lnF c hp (i + 1) = lnF c hp i by simp only [lnF]; rw [if_neg c32]] at h
          exact h
        · exact absurd c69 c32
      · refine jr_aload_n gM dX2_layNew_35 rfl rfl ?_
        refine jr_gfr gM dX2_layNew_36 rfl fX2_23 rfl rfl ?_
        refine jr_iload gM dX2_layNew_39 rfl rfl ?_
        refine jr_iald _ gM dX2_layNew_41 rfl rfl rfl (by omega) (by decide) ?_
        rw [m3 i (by omega)]
        refine jr_iload_n gM dX2_layNew_42 rfl rfl ?_
        refine jr_icmp_ge gM dX2_layNew_43 rfl rfl ⟨by omega, by omega⟩ ⟨by omega, by omega⟩ (fun c43 => ?_) (fun c43 => ?_)
        · refine jr_aload_n gM dX2_layNew_63 rfl rfl ?_
          refine jr_iload gM dX2_layNew_64 rfl rfl ?_
          refine jr_inv (as := [_]) gM dX2_layNew_66 rfl kX2_53 rfl rfl rfl (Nat.le_of_ble_eq_true rfl) ?_
          refine isHeap_ok hn hV hI1 (by omega) ?_
          dsimp only [Option.toList, List.cons_append, List.nil_append]
          refine jr_pb_eq gM dX2_layNew_69 rfl rfl (fun c69 => ?_) (fun c69 => ?_)
          · exact absurd c32 c69
          · refine jr_iload gM dX2_layNew_72 rfl rfl ?_
            refine jr_aload_n gM dX2_layNew_74 rfl rfl ?_
            refine jr_gfr gM dX2_layNew_75 rfl fX2_23 rfl rfl ?_
            refine jr_iload gM dX2_layNew_78 rfl rfl ?_
            refine jr_iald _ gM dX2_layNew_80 rfl rfl rfl (by omega) (by decide) ?_
            rw [m3 i (by omega)]
            refine jr_min gM dX2_layNew_81 rfl kX2_95 ⟨by omega, by omega⟩ ⟨by omega, by omega⟩ (Nat.le_of_ble_eq_true rfl) ?_
            refine jr_istore (lv' := [_, _, _, _, _, _]) gM dX2_layNew_84 rfl rfl (Nat.le_of_ble_eq_true rfl) ?_
            refine jr_iinc (lv' := [_, _, _, _, _, _]) gM dX2_layNew_86 rfl rfl rfl ?_
            refine jr_goto gM dX2_layNew_89 rfl ?_
            rw [show lnF c hp (i + 1) = ((lnF c hp i).1, (lnF c hp i).2.1, min (lnF c hp i).2.2 (c i)) by simp only [lnF]; rw [if_pos c32, if_neg (by omega)]] at h
            exact h
        · refine jr_iload_n gM dX2_layNew_46 rfl rfl ?_
          refine jr_istore (lv' := [_, _, _, _, _, _]) gM dX2_layNew_47 rfl rfl (Nat.le_of_ble_eq_true rfl) ?_
          refine jr_aload_n gM dX2_layNew_49 rfl rfl ?_
          refine jr_gfr gM dX2_layNew_50 rfl fX2_23 rfl rfl ?_
          refine jr_iload gM dX2_layNew_53 rfl rfl ?_
          refine jr_iald _ gM dX2_layNew_55 rfl rfl rfl (by omega) (by decide) ?_
          rw [m3 i (by omega)]
          refine jr_istore_n (lv' := [_, _, _, _, _, _]) gM dX2_layNew_56 rfl rfl (Nat.le_of_ble_eq_true rfl) ?_
          refine jr_iload gM dX2_layNew_57 rfl rfl ?_
          refine jr_istore_n (lv' := [_, _, _, _, _, _]) gM dX2_layNew_59 rfl rfl (Nat.le_of_ble_eq_true rfl) ?_
          refine jr_goto gM dX2_layNew_60 rfl ?_
          refine jr_iinc (lv' := [_, _, _, _, _, _]) gM dX2_layNew_86 rfl rfl rfl ?_
          refine jr_goto gM dX2_layNew_89 rfl ?_
          rw [show lnF c hp (i + 1) = ((i : Int), c i, (lnF c hp i).2.1) by simp only [lnF]; rw [if_pos c32, if_pos (by omega)]] at h
          exact h
  exact lp 0 (by omega)
