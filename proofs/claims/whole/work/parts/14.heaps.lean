/-! ===== Uses.weigh ===== -/
theorem js_one {f g : Nat → Int} {n k : Nat} (hk : k < n) (h : ∀ i, i < n → i ≠ k → g i = f i) : js g n = js f n + (g k - f k) := by
  induction n with
  | zero => omega
  | succ n ih =>
    simp only [js]
    by_cases e : k = n
    · subst e
      rw [js_congr (f := g) (g := f) (fun i hi => h i (by omega) (by omega))]
      omega
    · rw [ih (by omega) (fun i hi hn => h i (by omega) hn), h n (by omega) (fun q => e q.symm)]
      omega
theorem jfar_set {w : Nat → Int} {k : Nat} {v : Int} {a b : Nat} (hk : k < 20) : jfar (jset w k v) a b = jfar w a b + (if (a ^^^ b).testBit k then v - w k else 0) := by
  unfold jfar
  rw [js_one (f := fun i => if (a ^^^ b).testBit i then w i else 0) (k := k) hk (fun i hi hn => by rw [jset_ne hn])]
  rw [jset_at]
  split <;> omega
set_option maxRecDepth 100000 in
theorem weigh_ok {d : Nat} {σ : jMem} {K : Option Value → jMem → Prop} {n : Nat} {nb : Nat → Nat} {yr wt : Nat → Int} {k : Nat} {w : Int} (hU : UI n nb yr wt σ) (hk : k < 20) (hw : 1 ≤ w ∧ w ≤ 9)
    (hK : ∀ σ' : jMem, UI n nb yr (jset wt k w) σ' → (∀ c, (c = 0 ∨ 7 ≤ c) → σ' c = σ c) → K none σ') : jRun (d + 1) mX6_weigh [.ref 1, .int (jI (k : Int)), .int (jI w)] σ K := by
  obtain ⟨u1, u2, u3, u4, u5, u6, u7⟩ := hU
  refine jenter (lv := [_, _, _, _, _, _]) rfl rfl (Nat.le_of_ble_eq_true rfl) ?_
  refine jr_iload_n gM dX6_weigh_0 rfl rfl ?_
  refine jr_aload_n gM dX6_weigh_1 rfl rfl ?_
  refine jr_gfr gM dX6_weigh_2 rfl fX6_22 rfl rfl ?_
  refine jr_iload_n gM dX6_weigh_5 rfl rfl ?_
  refine jr_iald (k) gM dX6_weigh_6 rfl rfl (rfl) (by omega) (by decide) ?_
  rw [(u5 k hk).1]
  refine jr_isub gM dX6_weigh_7 rfl ?_
  refine jr_istore_n (lv' := [_, _, _, _, _, _]) gM dX6_weigh_8 rfl rfl (Nat.le_of_ble_eq_true rfl) ?_
  refine jr_aload_n gM dX6_weigh_9 rfl rfl ?_
  refine jr_gfr gM dX6_weigh_10 rfl fX6_22 rfl rfl ?_
  refine jr_iload_n gM dX6_weigh_13 rfl rfl ?_
  refine jr_iload_n gM dX6_weigh_14 rfl rfl ?_
  refine jr_iast (k) gM dX6_weigh_15 rfl rfl (rfl) (by omega) (by decide) ?_
  refine jr_iconst gM dX6_weigh_16 rfl ?_
  refine jr_istore (lv' := [_, _, _, _, _, _]) gM dX6_weigh_17 rfl rfl (Nat.le_of_ble_eq_true rfl) ?_
  have oth : ∀ {σ' : jMem}, (∀ c, c ≠ 6 → σ' c = jup σ 5 k w c) → σ' 1 = σ 1 ∧ σ' 2 = σ 2 := by
    intro σ' h
    rw [h 1 (by omega), h 2 (by omega), jup_row (by omega), jup_row (by omega)]
    exact ⟨rfl, rfl⟩
  have lp : ∀ a, a ≤ n → ∀ (q5 : Option Value) (σ' : jMem), (∀ c, c ≠ 6 → σ' c = jup σ 5 k w c) → (∀ x z, x < n → z < n → σ' 6 (x * 40 + z) = if x < a ∧ z < a then jfar (jset wt k w) (nb x) (nb z) else jfar wt (nb x) (nb z)) → (∀ x, x < 40 → σ' 6 (x * 40 + x) = 0) → jV (jP mX6_weigh (d + 1) K) 19 [some (.ref 1), some (.int (jI (k : Int))), some (.int (jI w)), some (.int (jI (w - wt k))), some (.int (jI (a : Int))), q5] [] σ' := by
    refine jdown n ?_
    intro a hi ih q5 σ' h1 h2 h3
    obtain ⟨o1, o2⟩ := oth h1
    refine jr_iload gM dX6_weigh_19 rfl rfl ?_
    refine jr_aload_n gM dX6_weigh_21 rfl rfl ?_
    refine jr_gfi gM dX6_weigh_22 rfl fX6_34 rfl rfl ?_
    rw [o1, u1]
    refine jr_icmp_ge gM dX6_weigh_25 rfl rfl ⟨by omega, by omega⟩ ⟨by omega, by omega⟩ (fun c25 => ?_) (fun c25 => ?_)
    · refine jr_vreturn dX6_weigh_90 rfl ?_
      have e : a = n := by omega
      subst e
      refine hK σ' ⟨by rw [o1, u1], u2, fun u hu => ?_, fun j hj => ?_, fun j hj => ?_, fun x z hx hz => ?_, h3⟩ (fun c hc => ?_)
      · rw [o2, h1 3 (by omega), jup_row (by omega)]
        exact u3 u hu
      · rw [h1 4 (by omega), jup_row (by omega)]
        exact u4 j hj
      · rw [h1 5 (by omega)]
        by_cases e : j = k
        · subst e
          rw [jup_at, jset_at]
          exact ⟨rfl, hw⟩
        · rw [jup_ne (Or.inr e), jset_ne e]
          exact u5 j hj
      · rw [h2 x z hx hz, if_pos ⟨hx, hz⟩]
      · rw [h1 c (by omega), jup_row (by omega)]
    · refine jr_iconst gM dX6_weigh_28 rfl ?_
      refine jr_istore (lv' := [_, _, _, _, _, _]) gM dX6_weigh_29 rfl rfl (Nat.le_of_ble_eq_true rfl) ?_
      have lp2 : ∀ b, b ≤ a → ∀ σ2 : jMem, (∀ c, c ≠ 6 → σ2 c = jup σ 5 k w c) → (∀ x z, x < n → z < n → σ2 6 (x * 40 + z) = if (x < a ∧ z < a) ∨ (x = a ∧ z < b) ∨ (z = a ∧ x < b) then jfar (jset wt k w) (nb x) (nb z) else jfar wt (nb x) (nb z)) → (∀ x, x < 40 → σ2 6 (x * 40 + x) = 0) → jV (jP mX6_weigh (d + 1) K) 31 [some (.ref 1), some (.int (jI (k : Int))), some (.int (jI w)), some (.int (jI (w - wt k))), some (.int (jI (a : Int))), some (.int (jI (b : Int)))] [] σ2 := by
        refine jdown a ?_
        intro b hb ihb σ2 g1 g2 g3
        obtain ⟨p1, p2⟩ := oth g1
        refine jr_iload gM dX6_weigh_31 rfl rfl ?_
        refine jr_iload gM dX6_weigh_33 rfl rfl ?_
        refine jr_icmp_ge gM dX6_weigh_35 rfl rfl ⟨by omega, by omega⟩ ⟨by omega, by omega⟩ (fun c35 => ?_) (fun c35 => ?_)
        · refine jr_iinc (lv' := [_, _, _, _, _, _]) gM dX6_weigh_84 rfl rfl rfl ?_
          refine jr_goto gM dX6_weigh_87 rfl ?_
          refine ih (a + 1) (by omega) (by omega) _ σ2 g1 (fun x z hx hz => ?_) g3
          rw [g2 x z hx hz]
          by_cases e : x = a ∧ z = a
          · obtain ⟨rfl, rfl⟩ := e
            rw [if_neg (by omega), if_pos (by omega), jfar_self, jfar_self]
          · have : ((x < a ∧ z < a) ∨ (x = a ∧ z < b) ∨ (z = a ∧ x < b)) ↔ (x < a + 1 ∧ z < a + 1) := by omega
            simp only [this]
        · have na := (u3 a (by omega))
          have nb' := (u3 b (by omega))
          have hx := jx_xlt na.2.1 nb'.2.1
          refine jr_aload_n gM dX6_weigh_38 rfl rfl ?_
          refine jr_gfr gM dX6_weigh_39 rfl fX6_9 rfl rfl ?_
          refine jr_iload gM dX6_weigh_42 rfl rfl ?_
          refine jr_iald _ gM dX6_weigh_44 rfl rfl rfl (by omega) (by decide) ?_
          refine jr_aload_n gM dX6_weigh_45 rfl rfl ?_
          refine jr_gfr gM dX6_weigh_46 rfl fX6_9 rfl rfl ?_
          refine jr_iload gM dX6_weigh_49 rfl rfl ?_
          refine jr_iald _ gM dX6_weigh_51 rfl rfl rfl (by omega) (by decide) ?_
          rw [p2, na.1, nb'.1]
          refine jr_ixor (((nb a ^^^ nb b : Nat) : Int)) gM dX6_weigh_52 rfl (jx_xor _ _) ?_
          refine jr_iload_n gM dX6_weigh_53 rfl rfl ?_
          refine jr_ishr ((((nb a ^^^ nb b) / 2 ^ k : Nat) : Int)) gM dX6_weigh_54 rfl (jx_shr (by omega) (by omega)) ?_
          refine jr_iconst gM dX6_weigh_55 rfl ?_
          refine jr_iand (bI ((nb a ^^^ nb b).testBit k = true)) gM dX6_weigh_56 rfl (jx_lo (by omega)) ?_
          refine jr_pb_eq gM dX6_weigh_57 rfl rfl (fun c57 => ?_) (fun c57 => ?_)
          · refine jr_iinc (lv' := [_, _, _, _, _, _]) gM dX6_weigh_78 rfl rfl rfl ?_
            refine jr_goto gM dX6_weigh_81 rfl ?_
            refine ihb (b + 1) (by omega) (by omega) σ2 g1 (fun x z hx hz => ?_) g3
            rw [g2 x z hx hz]
            by_cases e : x = a ∧ z = b
            · obtain ⟨rfl, rfl⟩ := e
              rw [if_neg (by omega), if_pos (by omega), jfar_set hk, if_neg c57, Int.add_zero]
            · by_cases e2 : z = a ∧ x = b
              · obtain ⟨rfl, rfl⟩ := e2
                rw [if_neg (by omega), if_pos (by omega), jfar_set hk, Nat.xor_comm (nb x) (nb z), if_neg c57, Int.add_zero]
              · have : ((x < a ∧ z < a) ∨ (x = a ∧ z < b) ∨ (z = a ∧ x < b)) ↔ ((x < a ∧ z < a) ∨ (x = a ∧ z < b + 1) ∨ (z = a ∧ x < b + 1)) := by omega
                simp only [this]
          · refine jr_aload_n gM dX6_weigh_60 rfl rfl ?_
            refine jr_iload gM dX6_weigh_61 rfl rfl ?_
            refine jr_iload gM dX6_weigh_63 rfl rfl ?_
            refine jr_aload_n gM dX6_weigh_65 rfl rfl ?_
            refine jr_iload gM dX6_weigh_66 rfl rfl ?_
            refine jr_iload gM dX6_weigh_68 rfl rfl ?_
            refine jr_inv (as := [_, _]) gM dX6_weigh_70 rfl kX6_50 rfl rfl rfl (Nat.le_of_ble_eq_true rfl) ?_
            refine between_ok (by omega) (by omega) ?_
            dsimp only [Option.toList, List.cons_append, List.nil_append]
            refine jr_iload_n gM dX6_weigh_73 rfl rfl ?_
            refine jr_iadd gM dX6_weigh_74 rfl ?_
            refine jr_inv (as := [_, _, _]) gM dX6_weigh_75 rfl kX6_46 rfl rfl rfl (Nat.le_of_ble_eq_true rfl) ?_
            refine setBetween_ok (by omega) (by omega) ?_
            dsimp only [Option.toList, List.cons_append, List.nil_append]
            refine jr_iinc (lv' := [_, _, _, _, _, _]) gM dX6_weigh_78 rfl rfl rfl ?_
            refine jr_goto gM dX6_weigh_81 rfl ?_
            rw [g2 a b (by omega) (by omega), if_neg (by omega)]
            have ev : jfar wt (nb a) (nb b) + (w - wt k) = jfar (jset wt k w) (nb a) (nb b) := by rw [jfar_set hk, if_pos c57]
            rw [ev]
            refine ihb (b + 1) (by omega) (by omega) _ (fun c hc => ?_) (fun x z hx hz => ?_) (fun x hx => ?_)
            · rw [jup_row hc, jup_row hc]
              exact g1 c hc
            · by_cases q1 : x * 40 + z = b * 40 + a
              · have : x = b ∧ z = a := by omega
                obtain ⟨rfl, rfl⟩ := this
                rw [jup_at, if_pos (by omega), jfar_symm]
              · rw [jup_ne (Or.inr q1)]
                by_cases q2 : x * 40 + z = a * 40 + b
                · have : x = a ∧ z = b := by omega
                  obtain ⟨rfl, rfl⟩ := this
                  rw [jup_at, if_pos (by omega)]
                · rw [jup_ne (Or.inr q2), g2 x z hx hz]
                  have : ((x < a ∧ z < a) ∨ (x = a ∧ z < b) ∨ (z = a ∧ x < b)) ↔ ((x < a ∧ z < a) ∨ (x = a ∧ z < b + 1) ∨ (z = a ∧ x < b + 1)) := by omega
                  simp only [this]
            · rw [jup_ne (Or.inr (by omega)), jup_ne (Or.inr (by omega))]
              exact g3 x hx
      refine lp2 0 (by omega) σ' h1 (fun x z hx hz => ?_) h3
      rw [h2 x z hx hz]
      have : (x < a ∧ z < a) ↔ ((x < a ∧ z < a) ∨ (x = a ∧ z < 0) ∨ (z = a ∧ x < 0)) := by omega
      simp only [← this]
  refine lp 0 (by omega) _ _ (fun c _ => rfl) (fun x z hx hz => ?_) (fun x hx => ?_)
  · rw [if_neg (by omega), jup_row (by omega)]
    exact u6 x z hx hz
  · rw [jup_row (by omega)]
    exact u7 x hx
/-! ===== Heaps: what it holds ===== -/
def HV (n : Nat) (hp : Nat → Int) : Prop := (∀ u, n ≤ u → hp u = -1) ∧ ∀ u, u < n → hp u = -1 ∨ ∃ h : Nat, h ≤ u ∧ hp u = (h : Int) ∧ hp h = (h : Int)
def HI (hp : Nat → Int) (σ : jMem) : Prop := (∀ u, u < 40 → σ 11 u = hp u) ∧ ∀ h : Nat, h < 40 → σ 12 h = jk (fun u => decide (hp u = (h : Int)))
theorem HI.of {hp : Nat → Int} {σ σ' : jMem} (h : HI hp σ) (h1 : σ' 11 = σ 11) (h2 : σ' 12 = σ 12) : HI hp σ' := by
  unfold HI
  rw [h1, h2]
  exact h
theorem HV.r {n : Nat} {hp : Nat → Int} (h : HV n hp) (hn : n ≤ 40) (u : Nat) : -1 ≤ hp u ∧ hp u < 40 ∧ hp u < n ∧ hp u ≤ u := by
  rcases Nat.lt_or_ge u n with q | q
  · rcases h.2 u q with e | ⟨k, h1, h2, h3⟩
    · omega
    · omega
  · have := h.1 u q
    omega
theorem HV.lead {n : Nat} {hp : Nat → Int} (h : HV n hp) {u k : Nat} (e : hp u = (k : Int)) : hp k = (k : Int) ∧ k ≤ u ∧ u < n ∧ k < n := by
  rcases Nat.lt_or_ge u n with q | q
  · rcases h.2 u q with e2 | ⟨k2, h1, h2, h3⟩
    · omega
    · have : k2 = k := by omega
      subst this
      exact ⟨h3, h1, q, by omega⟩
  · have := h.1 u q
    omega
theorem HV.cases {n : Nat} {hp : Nat → Int} (h : HV n hp) (u : Nat) : hp u = -1 ∨ ∃ k : Nat, hp u = (k : Int) := by
  rcases Nat.lt_or_ge u n with q | q
  · rcases h.2 u q with e | ⟨k, h1, h2, h3⟩
    · exact Or.inl e
    · exact Or.inr ⟨k, h2⟩
  · exact Or.inl (h.1 u q)
/-- a heap's mask is empty just where the use is no least one -/
theorem HV.empty {n : Nat} {hp : Nat → Int} (h : HV n hp) (hn : n ≤ 40) {k : Nat} (hk : k < 40) : jk (fun u => decide (hp u = (k : Int))) = 0 ↔ ¬ hp k = (k : Int) := by
  rw [jk_zero]
  constructor
  · intro h1 h2
    have := h1 k hk
    simp [h2] at this
  · intro h1 i hi
    simp only [decide_eq_false_iff_not]
    intro e
    exact h1 (h.lead e).1
set_option maxRecDepth 100000 in
theorem isOpen_ok {d : Nat} {σ : jMem} {K : Option Value → jMem → Prop} {n : Nat} {hp : Nat → Int} {u : Nat} (hn : n ≤ 40) (hV : HV n hp) (hI : HI hp σ) (hu : u < 40) (hK : K (some (.int (jI (bI (hp u = -1))))) σ) : jRun d mX2_isOpen [.ref 10, .int (jI (u : Int))] σ K := by
  have hr := hV.r hn u
  refine jenter (lv := [_, _]) rfl rfl (Nat.le_of_ble_eq_true rfl) ?_
  refine jr_aload_n gM dX2_isOpen_0 rfl rfl ?_
  refine jr_gfr gM dX2_isOpen_1 rfl fX2_15 rfl rfl ?_
  refine jr_iload_n gM dX2_isOpen_4 rfl rfl ?_
  refine jr_iald _ gM dX2_isOpen_5 rfl rfl rfl (by omega) (by decide) ?_
  rw [hI.1 u hu]
  refine jr_iconst gM dX2_isOpen_6 rfl ?_
  refine jr_icmp_ne gM dX2_isOpen_7 rfl rfl ⟨by omega, by omega⟩ ⟨by omega, by omega⟩ (fun c7 => ?_) (fun c7 => ?_)
  · refine jr_iconst gM dX2_isOpen_14 rfl ?_
    refine jr_zreturn dX2_isOpen_15 rfl (by first | omega | exact bI_01 _) ?_
    rw [bI_f c7] at hK
    exact hK
  · refine jr_iconst gM dX2_isOpen_10 rfl ?_
    refine jr_goto gM dX2_isOpen_11 rfl ?_
    refine jr_zreturn dX2_isOpen_15 rfl (by first | omega | exact bI_01 _) ?_
    rw [bI_t c7] at hK
    exact hK
set_option maxRecDepth 100000 in
theorem isHeap_ok {d : Nat} {σ : jMem} {K : Option Value → jMem → Prop} {n : Nat} {hp : Nat → Int} {u : Nat} (hn : n ≤ 40) (hV : HV n hp) (hI : HI hp σ) (hu : u < 40) (hK : K (some (.int (jI (bI (hp u = (u : Int)))))) σ) : jRun d mX2_isHeap [.ref 10, .int (jI (u : Int))] σ K := by
  have hr := jk_r (fun v => decide (hp v = (u : Int)))
  refine jenter (lv := [_, _]) rfl rfl (Nat.le_of_ble_eq_true rfl) ?_
  refine jr_aload_n gM dX2_isHeap_0 rfl rfl ?_
  refine jr_gfr gM dX2_isHeap_1 rfl fX2_19 rfl rfl ?_
  refine jr_iload_n gM dX2_isHeap_4 rfl rfl ?_
  refine jr_lald _ gM dX2_isHeap_5 rfl rfl rfl (by omega) (by decide) ?_
  rw [hI.2 u hu]
  refine jr_lconst (x := 0) gM dX2_isHeap_6 rfl rfl ?_
  refine jr_lcmp gM dX2_isHeap_7 rfl (by omega) (by omega) ?_
  refine jr_cb_eq gM dX2_isHeap_8 rfl rfl (fun c8 => ?_) (fun c8 => ?_)
  · refine jr_iconst gM dX2_isHeap_15 rfl ?_
    refine jr_zreturn dX2_isHeap_16 rfl (by first | omega | exact bI_01 _) ?_
    rw [bI_f ((hV.empty hn hu).mp c8)] at hK
    exact hK
  · refine jr_iconst gM dX2_isHeap_11 rfl ?_
    refine jr_goto gM dX2_isHeap_12 rfl ?_
    refine jr_zreturn dX2_isHeap_16 rfl (by first | omega | exact bI_01 _) ?_
    rw [bI_t (Decidable.byContradiction (fun q => c8 ((hV.empty hn hu).mpr q)))] at hK
    exact hK
set_option maxRecDepth 100000 in
theorem around_ok {d : Nat} {σ : jMem} {K : Option Value → jMem → Prop} {n : Nat} {hp : Nat → Int} {u : Nat} (hn : n ≤ 40) (hV : HV n hp) (hI : HI hp σ) (hu : u < 40) (hK : K (some (.long (jL (jk (fun v => decide (hp u ≠ -1 ∧ hp v = hp u)))))) σ) : jRun d mX2_around [.ref 10, .int (jI (u : Int))] σ K := by
  have hr := hV.r hn u
  refine jenter (lv := [_, _, _]) rfl rfl (Nat.le_of_ble_eq_true rfl) ?_
  refine jr_aload_n gM dX2_around_0 rfl rfl ?_
  refine jr_gfr gM dX2_around_1 rfl fX2_15 rfl rfl ?_
  refine jr_iload_n gM dX2_around_4 rfl rfl ?_
  refine jr_iald _ gM dX2_around_5 rfl rfl rfl (by omega) (by decide) ?_
  rw [hI.1 u hu]
  refine jr_istore_n (lv' := [_, _, _]) gM dX2_around_6 rfl rfl (Nat.le_of_ble_eq_true rfl) ?_
  refine jr_iload_n gM dX2_around_7 rfl rfl ?_
  refine jr_iconst gM dX2_around_8 rfl ?_
  refine jr_icmp_ne gM dX2_around_9 rfl rfl ⟨by omega, by omega⟩ ⟨by omega, by omega⟩ (fun c9 => ?_) (fun c9 => ?_)
  · rcases hV.cases u with e | ⟨k, e⟩
    · exact absurd e c9
    · refine jr_aload_n gM dX2_around_16 rfl rfl ?_
      refine jr_gfr gM dX2_around_17 rfl fX2_19 rfl rfl ?_
      refine jr_iload_n gM dX2_around_20 rfl rfl ?_
      rw [e] at hr hK ⊢
      refine jr_lald (k) gM dX2_around_21 rfl rfl (rfl) (by omega) (by decide) ?_
      rw [hI.2 k (by omega)]
      refine jr_lreturn dX2_around_22 rfl ?_
      have e2 : jk (fun v => decide ((k : Int) ≠ -1 ∧ hp v = (k : Int))) = jk (fun v => decide (hp v = (k : Int))) := jk_congr (fun i _ => by simp)
      rw [e2] at hK
      exact hK
  · refine jr_lconst (x := 0) gM dX2_around_12 rfl rfl ?_
    refine jr_goto gM dX2_around_13 rfl ?_
    refine jr_lreturn dX2_around_22 rfl ?_
    have e2 : jk (fun v => decide (hp u ≠ -1 ∧ hp v = hp u)) = 0 := jk_zero.mpr (fun i _ => by simp [c9])
    rw [e2] at hK
    exact hK
