/-! ===== Heaps: open, putAlone, putInto, melt ===== -/
def opP (hp : Nat → Int) (u : Nat) : Nat → Bool := fun w => decide (w ≠ u ∧ hp u ≠ -1 ∧ hp w = hp u)
def opF (n : Nat) (hp : Nat → Int) (u : Nat) : Nat → Int := rgF n (jset hp u (-1)) (opP hp u)
def alF (n : Nat) (hp : Nat → Int) (u : Nat) : Nat → Int := rgF n (opF n hp u) (fun w => decide (w = u))
def inF (n : Nat) (hp : Nat → Int) (u k : Nat) : Nat → Int := if hp u = (k : Int) then hp else rgF n (opF n hp u) (fun w => decide (w = u ∨ opF n hp u w = (k : Int)))
def meF (n : Nat) (hp : Nat → Int) (a b : Nat) : Nat → Int := rgF n hp (fun w => decide (hp w = (a : Int) ∨ hp w = (b : Int)))
theorem opF_u {n : Nat} {hp : Nat → Int} {u : Nat} : opF n hp u u = -1 := by
  unfold opF rgF opP
  simp [jset_at]
theorem opF_open {n : Nat} {hp : Nat → Int} {u : Nat} (h : hp u = -1) : opF n hp u = hp := by
  funext v
  unfold opF rgF opP
  rw [if_neg (by simp [h])]
  by_cases e : v = u
  · subst e
    rw [jset_at, h]
  · rw [jset_ne e]
theorem opF_HV {n : Nat} {hp : Nat → Int} {u : Nat} (hV : HV n hp) : HV n (opF n hp u) := by
  refine rgF_HV (fun v hv => ?_) (fun v hv => ?_) (fun v hv hp2 => ?_)
  · unfold opP at hv
    simp only [decide_eq_true_eq] at hv
    rcases Nat.lt_or_ge v n with q | q
    · exact q
    · have := hV.1 v q
      omega
  · by_cases e : v = u
    · subst e
      exact jset_at
    · rw [jset_ne e]
      exact hV.1 v hv
  · by_cases e : v = u
    · subst e
      exact Or.inl jset_at
    · rw [jset_ne e]
      unfold opP at hp2
      simp only [decide_eq_false_iff_not] at hp2
      rcases hV.2 v hv with q | ⟨k, q1, q2, q3⟩
      · exact Or.inl q
      · have hk : k ≠ u := by
          intro e2
          subst e2
          exact hp2 ⟨e, by omega, by omega⟩
        refine Or.inr ⟨k, q1, q2, by rw [jset_ne hk]; exact q3, ?_⟩
        unfold opP
        simp only [decide_eq_false_iff_not]
        intro q
        exact hp2 ⟨e, q.2.1, by omega⟩
theorem alF_HV {n : Nat} {hp : Nat → Int} {u : Nat} (hV : HV n hp) (hu : u < n) : HV n (alF n hp u) := by
  have hg := opF_HV (u := u) hV
  refine rgF_HV (fun v hv => ?_) hg.1 (fun v hv hp2 => ?_)
  · simp only [decide_eq_true_eq] at hv
    omega
  · rcases hg.2 v hv with q | ⟨k, q1, q2, q3⟩
    · exact Or.inl q
    · refine Or.inr ⟨k, q1, q2, q3, ?_⟩
      simp only [decide_eq_false_iff_not]
      intro e
      subst e
      rw [opF_u] at q3
      omega
theorem inF_HV {n : Nat} {hp : Nat → Int} {u k : Nat} (hV : HV n hp) (hu : u < n) : HV n (inF n hp u k) := by
  unfold inF
  split
  · exact hV
  · have hg := opF_HV (u := u) hV
    refine rgF_HV (fun v hv => ?_) hg.1 (fun v hv hp2 => ?_)
    · simp only [decide_eq_true_eq] at hv
      rcases hv with e | e
      · omega
      · exact (hg.lead e).2.2.1
    · simp only [decide_eq_false_iff_not] at hp2
      rcases hg.2 v hv with q | ⟨j, q1, q2, q3⟩
      · exact Or.inl q
      · refine Or.inr ⟨j, q1, q2, q3, ?_⟩
        simp only [decide_eq_false_iff_not]
        rintro (e | e)
        · subst e
          rw [opF_u] at q3
          omega
        · exact hp2 (Or.inr (by omega))
theorem meF_HV {n : Nat} {hp : Nat → Int} {a b : Nat} (hV : HV n hp) : HV n (meF n hp a b) := by
  refine rgF_HV (fun v hv => ?_) hV.1 (fun v hv hp2 => ?_)
  · simp only [decide_eq_true_eq] at hv
    rcases hv with e | e
    · exact (hV.lead e).2.2.1
    · exact (hV.lead e).2.2.1
  · simp only [decide_eq_false_iff_not] at hp2
    rcases hV.2 v hv with q | ⟨j, q1, q2, q3⟩
    · exact Or.inl q
    · refine Or.inr ⟨j, q1, q2, q3, ?_⟩
      simp only [decide_eq_false_iff_not]
      intro e
      exact hp2 (by omega)
set_option maxRecDepth 100000 in
theorem open_ok {d : Nat} {σ : jMem} {K : Option Value → jMem → Prop} {n : Nat} {hp : Nat → Int} {u : Nat} (hc : σ 1 5 = (n : Int)) (hn : n ≤ 40) (hV : HV n hp) (hI : HI hp σ) (hu : u < n)
    (hK : ∀ σ' : jMem, HI (opF n hp u) σ' → (∀ c, c ≠ 11 → c ≠ 12 → σ' c = σ c) → K none σ') : jRun (d + 2) mX2_open [.ref 10, .int (jI (u : Int))] σ K := by
  have hr := hV.r hn u
  refine jenter (lv := [_, _, _, _, _]) rfl rfl (Nat.le_of_ble_eq_true rfl) ?_
  refine jr_aload_n gM dX2_open_0 rfl rfl ?_
  refine jr_gfr gM dX2_open_1 rfl fX2_15 rfl rfl ?_
  refine jr_iload_n gM dX2_open_4 rfl rfl ?_
  refine jr_iald _ gM dX2_open_5 rfl rfl rfl (by omega) (by decide) ?_
  rw [hI.1 u (by omega)]
  refine jr_istore_n (lv' := [_, _, _, _, _]) gM dX2_open_6 rfl rfl (Nat.le_of_ble_eq_true rfl) ?_
  refine jr_iload_n gM dX2_open_7 rfl rfl ?_
  refine jr_iconst gM dX2_open_8 rfl ?_
  refine jr_icmp_ne gM dX2_open_9 rfl rfl ⟨by omega, by omega⟩ ⟨by omega, by omega⟩ (fun c9 => ?_) (fun c9 => ?_)
  · rcases hV.cases u with e | ⟨k, e⟩
    · exact absurd e c9
    · rw [e] at hr ⊢
      refine jr_aload_n gM dX2_open_13 rfl rfl ?_
      refine jr_gfr gM dX2_open_14 rfl fX2_19 rfl rfl ?_
      refine jr_iload_n gM dX2_open_17 rfl rfl ?_
      refine jr_lald (k) gM dX2_open_18 rfl rfl (rfl) (by omega) (by decide) ?_
      rw [hI.2 k (by omega)]
      refine jr_iload_n gM dX2_open_19 rfl rfl ?_
      refine jr_inn (as := [_]) gM dX2_open_20 rfl kX2_69 rfl rfl (Nat.le_of_ble_eq_true rfl) ?_
      refine bit_ok (by omega) ?_
      dsimp only [Option.toList, List.cons_append, List.nil_append]
      refine jr_ldc2 gM dX2_open_23 rfl qX2_51 ?_
      refine jr_lxor (-1 - jk (fun i => decide (i = u))) gM dX2_open_26 rfl (jL_not _) ?_
      refine jr_land (jk (opP hp u)) gM dX2_open_27 rfl ((jk_andn _ _).trans (congrArg jL (jk_congr (fun v _ => by unfold opP; rw [e]; by_cases a : v = u <;> by_cases b : hp v = (k : Int) <;> simp [a, b])))) ?_
      refine jr_lstore_n (lv' := [_, _, _, _, _]) gM dX2_open_28 rfl rfl (Nat.le_of_ble_eq_true rfl) ?_
      refine jr_aload_n gM dX2_open_29 rfl rfl ?_
      refine jr_gfr gM dX2_open_30 rfl fX2_19 rfl rfl ?_
      refine jr_iload_n gM dX2_open_33 rfl rfl ?_
      refine jr_lconst (x := 0) gM dX2_open_34 rfl rfl ?_
      refine jr_last (k) gM dX2_open_35 rfl rfl (rfl) (by omega) (by decide) ?_
      refine jr_aload_n gM dX2_open_36 rfl rfl ?_
      refine jr_gfr gM dX2_open_37 rfl fX2_15 rfl rfl ?_
      refine jr_iload_n gM dX2_open_40 rfl rfl ?_
      refine jr_iconst gM dX2_open_41 rfl ?_
      refine jr_iast _ gM dX2_open_42 rfl rfl rfl (by omega) (by decide) ?_
      refine jr_aload_n gM dX2_open_43 rfl rfl ?_
      refine jr_lload_n gM dX2_open_44 rfl rfl ?_
      refine jr_inv (as := [_]) gM dX2_open_45 rfl kX2_72 rfl rfl rfl (Nat.le_of_ble_eq_true rfl) ?_
      refine pile_ok (hp := jset hp u (-1)) (n := n) ?_ hn (fun v hv => ?_) (fun v hv => ?_) (fun h hh => ?_) (fun v hv hp2 h0 => ?_) (fun σ' h1 h2 => ?_)
      · rw [jup_row (by omega), jup_row (by omega)]
        exact hc
      · unfold opP at hv
        simp only [decide_eq_true_eq] at hv
        rcases Nat.lt_or_ge v n with q | q
        · exact q
        · have := hV.1 v q
          omega
      · by_cases a : v = u
        · subst a
          rw [jup_at, jset_at]
        · rw [jup_ne (Or.inr a), jup_row (by omega), jset_ne a]
          exact hI.1 v hv
      · rw [jup_row (by omega)]
        by_cases a : h = k
        · subst a
          rw [jup_at]
          refine (jk_zero.mpr (fun v hv => ?_)).symm
          unfold opP
          by_cases b : v = u
          · subst b
            rw [jset_at]
            simp <;> omega
          · rw [jset_ne b, e]
            by_cases q : hp v = (h : Int)
            · simp [q, b] <;> omega
            · simp [q]
        · rw [jup_ne (Or.inr a), hI.2 h hh]
          apply jk_congr
          intro v hv
          unfold opP
          by_cases b : v = u
          · subst b
            rw [jset_at, e]
            simp <;> omega
          · rw [jset_ne b, e]
            by_cases q : hp v = (h : Int)
            · simp [q] <;> omega
            · simp [q]
      · by_cases b : v = u
        · subst b
          rw [jset_at] at h0
          omega
        · rw [jset_ne b] at h0 ⊢
          intro q
          rcases jlst_spec (opP hp u) n with ⟨q1, q2⟩ | ⟨j, q1, q2, q3, q4⟩
          · omega
          · have hl := hV.lead (u := v) (k := j) (by omega)
            unfold opP at q3 hp2
            simp only [decide_eq_true_eq, decide_eq_false_iff_not] at q3 hp2
            exact hp2 ⟨b, q3.2.1, by omega⟩
      · dsimp only [Option.toList, List.cons_append, List.nil_append]
        refine jr_vreturn dX2_open_48 rfl ?_
        refine hK σ' h1 (fun c a b => ?_)
        rw [h2 c a b, jup_row a, jup_row b]
  · refine jr_vreturn dX2_open_12 rfl ?_
    refine hK σ (by rw [opF_open c9]; exact hI) (fun c _ _ => rfl)
set_option maxRecDepth 100000 in
theorem putAlone_ok {d : Nat} {σ : jMem} {K : Option Value → jMem → Prop} {n : Nat} {hp : Nat → Int} {u : Nat} (hc : σ 1 5 = (n : Int)) (hn : n ≤ 40) (hV : HV n hp) (hI : HI hp σ) (hu : u < n)
    (hK : ∀ σ' : jMem, HI (alF n hp u) σ' → (∀ c, c ≠ 11 → c ≠ 12 → σ' c = σ c) → K none σ') : jRun (d + 3) mX2_putAlone [.ref 10, .int (jI (u : Int))] σ K := by
  have hg := opF_HV (u := u) hV
  refine jenter (lv := [_, _]) rfl rfl (Nat.le_of_ble_eq_true rfl) ?_
  refine jr_aload_n gM dX2_putAlone_0 rfl rfl ?_
  refine jr_iload_n gM dX2_putAlone_1 rfl rfl ?_
  refine jr_inv (as := [_]) gM dX2_putAlone_2 rfl kX2_76 rfl rfl rfl (Nat.le_of_ble_eq_true rfl) ?_
  refine open_ok hc hn hV hI hu (fun σ1 g1 g2 => ?_)
  dsimp only [Option.toList, List.cons_append, List.nil_append]
  refine jr_aload_n gM dX2_putAlone_5 rfl rfl ?_
  refine jr_iload_n gM dX2_putAlone_6 rfl rfl ?_
  refine jr_inn (as := [_]) gM dX2_putAlone_7 rfl kX2_69 rfl rfl (Nat.le_of_ble_eq_true rfl) ?_
  refine bit_ok (by omega) ?_
  dsimp only [Option.toList, List.cons_append, List.nil_append]
  refine jr_inv (as := [_]) gM dX2_putAlone_10 rfl kX2_72 rfl rfl rfl (Nat.le_of_ble_eq_true rfl) ?_
  have ej : jlst (fun i => decide (i = u)) n = (u : Int) := jlst_at hu (by simp) (fun i hi => by simp; omega)
  refine pile_ok (hp := opF n hp u) (n := n) ?_ hn (fun v hv => ?_) g1.1 (fun h hh => ?_) (fun v hv hp2 h0 => ?_) (fun σ' h1 h2 => ?_)
  · rw [g2 1 (by omega) (by omega)]
    exact hc
  · simp only [decide_eq_true_eq] at hv
    omega
  · rw [g1.2 h hh]
    apply jk_congr
    intro v hv
    by_cases b : v = u
    · subst b
      rw [opF_u]
      simp <;> omega
    · simp [b]
  · rw [ej]
    intro q
    have := (hg.lead q).1
    rw [opF_u] at this
    omega
  · dsimp only [Option.toList, List.cons_append, List.nil_append]
    refine jr_vreturn dX2_putAlone_13 rfl ?_
    refine hK σ' h1 (fun c a b => ?_)
    rw [h2 c a b, g2 c a b]
set_option maxRecDepth 100000 in
theorem putInto_ok {d : Nat} {σ : jMem} {K : Option Value → jMem → Prop} {n : Nat} {hp : Nat → Int} {u k : Nat} (hc : σ 1 5 = (n : Int)) (hn : n ≤ 40) (hV : HV n hp) (hI : HI hp σ) (hu : u < n) (hk : hp k = (k : Int)) (hk2 : k < n)
    (hK : ∀ σ' : jMem, HI (inF n hp u k) σ' → (∀ c, c ≠ 11 → c ≠ 12 → σ' c = σ c) → K none σ') : jRun (d + 3) mX2_putInto [.ref 10, .int (jI (u : Int)), .int (jI (k : Int))] σ K := by
  have hg := opF_HV (u := u) hV
  have hr := hV.r hn u
  refine jenter (lv := [_, _, _, _, _]) rfl rfl (Nat.le_of_ble_eq_true rfl) ?_
  refine jr_aload_n gM dX2_putInto_0 rfl rfl ?_
  refine jr_gfr gM dX2_putInto_1 rfl fX2_15 rfl rfl ?_
  refine jr_iload_n gM dX2_putInto_4 rfl rfl ?_
  refine jr_iald _ gM dX2_putInto_5 rfl rfl rfl (by omega) (by decide) ?_
  rw [hI.1 u (by omega)]
  refine jr_iload_n gM dX2_putInto_6 rfl rfl ?_
  refine jr_icmp_ne gM dX2_putInto_7 rfl rfl ⟨by omega, by omega⟩ ⟨by omega, by omega⟩ (fun c7 => ?_) (fun c7 => ?_)
  · refine jr_aload_n gM dX2_putInto_11 rfl rfl ?_
    refine jr_iload_n gM dX2_putInto_12 rfl rfl ?_
    refine jr_inv (as := [_]) gM dX2_putInto_13 rfl kX2_76 rfl rfl rfl (Nat.le_of_ble_eq_true rfl) ?_
    refine open_ok hc hn hV hI hu (fun σ1 g1 g2 => ?_)
    dsimp only [Option.toList, List.cons_append, List.nil_append]
    refine jr_aload_n gM dX2_putInto_16 rfl rfl ?_
    refine jr_gfr gM dX2_putInto_17 rfl fX2_19 rfl rfl ?_
    refine jr_iload_n gM dX2_putInto_20 rfl rfl ?_
    refine jr_lald (k) gM dX2_putInto_21 rfl rfl (rfl) (by omega) (by decide) ?_
    rw [g1.2 k (by omega)]
    refine jr_iload_n gM dX2_putInto_22 rfl rfl ?_
    refine jr_inn (as := [_]) gM dX2_putInto_23 rfl kX2_69 rfl rfl (Nat.le_of_ble_eq_true rfl) ?_
    refine bit_ok (by omega) ?_
    dsimp only [Option.toList, List.cons_append, List.nil_append]
    refine jr_lor (jk (fun w => decide (w = u ∨ opF n hp u w = (k : Int)))) gM dX2_putInto_26 rfl ((jk_or _ _).trans (congrArg jL (jk_congr (fun v _ => by by_cases a : v = u <;> simp [a])))) ?_
    refine jr_lstore_n (lv' := [_, _, _, _, _]) gM dX2_putInto_27 rfl rfl (Nat.le_of_ble_eq_true rfl) ?_
    refine jr_aload_n gM dX2_putInto_28 rfl rfl ?_
    refine jr_gfr gM dX2_putInto_29 rfl fX2_19 rfl rfl ?_
    refine jr_iload_n gM dX2_putInto_32 rfl rfl ?_
    refine jr_lconst (x := 0) gM dX2_putInto_33 rfl rfl ?_
    refine jr_last (k) gM dX2_putInto_34 rfl rfl (rfl) (by omega) (by decide) ?_
    refine jr_aload_n gM dX2_putInto_35 rfl rfl ?_
    refine jr_lload_n gM dX2_putInto_36 rfl rfl ?_
    refine jr_inv (as := [_]) gM dX2_putInto_37 rfl kX2_72 rfl rfl rfl (Nat.le_of_ble_eq_true rfl) ?_
    refine pile_ok (hp := opF n hp u) (n := n) ?_ hn (fun v hv => ?_) (fun v hv => ?_) (fun h hh => ?_) (fun v hv hp2 h0 => ?_) (fun σ' h1 h2 => ?_)
    · rw [jup_row (by omega), g2 1 (by omega) (by omega)]
      exact hc
    · simp only [decide_eq_true_eq] at hv
      rcases hv with e | e
      · omega
      · exact (hg.lead e).2.2.1
    · rw [jup_row (by omega)]
      exact g1.1 v hv
    · by_cases a : h = k
      · subst a
        rw [jup_at]
        refine (jk_zero.mpr (fun v hv => ?_)).symm
        by_cases q : opF n hp u v = (h : Int) <;> simp [q]
      · rw [jup_ne (Or.inr a), g1.2 h hh]
        apply jk_congr
        intro v hv
        by_cases b : v = u
        · subst b
          rw [opF_u]
          simp <;> omega
        · by_cases q : opF n hp u v = (h : Int)
          · simp [q, b] <;> omega
          · simp [q]
    · simp only [decide_eq_false_iff_not] at hp2
      intro q
      rcases jlst_spec (fun w => decide (w = u ∨ opF n hp u w = (k : Int))) n with ⟨q1, q2⟩ | ⟨j, q1, q2, q3, q4⟩
      · omega
      · have hl := hg.lead (u := v) (k := j) (by omega)
        simp only [decide_eq_true_eq] at q3
        rcases q3 with e | e
        · subst e
          rw [opF_u] at hl
          omega
        · exact hp2 (Or.inr (by omega))
    · dsimp only [Option.toList, List.cons_append, List.nil_append]
      refine jr_vreturn dX2_putInto_40 rfl ?_
      refine hK σ' ?_ (fun c a b => ?_)
      · unfold inF
        rw [if_neg c7]
        exact h1
      · rw [h2 c a b, jup_row b, g2 c a b]
  · refine jr_vreturn dX2_putInto_10 rfl ?_
    refine hK σ ?_ (fun c _ _ => rfl)
    unfold inF
    rw [if_pos c7]
    exact hI
set_option maxRecDepth 100000 in
theorem melt_ok {d : Nat} {σ : jMem} {K : Option Value → jMem → Prop} {n : Nat} {hp : Nat → Int} {a b : Nat} (hc : σ 1 5 = (n : Int)) (hn : n ≤ 40) (hV : HV n hp) (hI : HI hp σ) (ha : a < n) (hb : b < n)
    (hK : ∀ σ' : jMem, HI (meF n hp a b) σ' → (∀ c, c ≠ 11 → c ≠ 12 → σ' c = σ c) → K none σ') : jRun (d + 2) mX2_melt [.ref 10, .int (jI (a : Int)), .int (jI (b : Int))] σ K := by
  refine jenter (lv := [_, _, _, _, _]) rfl rfl (Nat.le_of_ble_eq_true rfl) ?_
  refine jr_aload_n gM dX2_melt_0 rfl rfl ?_
  refine jr_gfr gM dX2_melt_1 rfl fX2_19 rfl rfl ?_
  refine jr_iload_n gM dX2_melt_4 rfl rfl ?_
  refine jr_lald _ gM dX2_melt_5 rfl rfl rfl (by omega) (by decide) ?_
  refine jr_aload_n gM dX2_melt_6 rfl rfl ?_
  refine jr_gfr gM dX2_melt_7 rfl fX2_19 rfl rfl ?_
  refine jr_iload_n gM dX2_melt_10 rfl rfl ?_
  refine jr_lald _ gM dX2_melt_11 rfl rfl rfl (by omega) (by decide) ?_
  rw [hI.2 a (by omega), hI.2 b (by omega)]
  refine jr_lor (jk (fun w => decide (hp w = (a : Int) ∨ hp w = (b : Int)))) gM dX2_melt_12 rfl ((jk_or _ _).trans (congrArg jL (jk_congr (fun v _ => by rw [Bool.decide_or])))) ?_
  refine jr_lstore_n (lv' := [_, _, _, _, _]) gM dX2_melt_13 rfl rfl (Nat.le_of_ble_eq_true rfl) ?_
  refine jr_aload_n gM dX2_melt_14 rfl rfl ?_
  refine jr_gfr gM dX2_melt_15 rfl fX2_19 rfl rfl ?_
  refine jr_iload_n gM dX2_melt_18 rfl rfl ?_
  refine jr_lconst (x := 0) gM dX2_melt_19 rfl rfl ?_
  refine jr_last _ gM dX2_melt_20 rfl rfl rfl (by omega) (by decide) ?_
  refine jr_aload_n gM dX2_melt_21 rfl rfl ?_
  refine jr_gfr gM dX2_melt_22 rfl fX2_19 rfl rfl ?_
  refine jr_iload_n gM dX2_melt_25 rfl rfl ?_
  refine jr_lconst (x := 0) gM dX2_melt_26 rfl rfl ?_
  refine jr_last _ gM dX2_melt_27 rfl rfl rfl (by omega) (by decide) ?_
  refine jr_aload_n gM dX2_melt_28 rfl rfl ?_
  refine jr_lload_n gM dX2_melt_29 rfl rfl ?_
  refine jr_inv (as := [_]) gM dX2_melt_30 rfl kX2_72 rfl rfl rfl (Nat.le_of_ble_eq_true rfl) ?_
  refine pile_ok (hp := hp) (n := n) ?_ hn (fun v hv => ?_) (fun v hv => ?_) (fun h hh => ?_) (fun v hv hp2 h0 => ?_) (fun σ' h1 h2 => ?_)
  · rw [jup_row (by omega), jup_row (by omega)]
    exact hc
  · simp only [decide_eq_true_eq] at hv
    rcases hv with e | e
    · exact (hV.lead e).2.2.1
    · exact (hV.lead e).2.2.1
  · rw [jup_row (by omega), jup_row (by omega)]
    exact hI.1 v hv
  · by_cases q1 : h = b
    · subst q1
      rw [jup_at]
      refine (jk_zero.mpr (fun v hv => ?_)).symm
      by_cases q : hp v = (h : Int) <;> simp [q]
    · rw [jup_ne (Or.inr q1)]
      by_cases q2 : h = a
      · subst q2
        rw [jup_at]
        refine (jk_zero.mpr (fun v hv => ?_)).symm
        by_cases q : hp v = (h : Int) <;> simp [q]
      · rw [jup_ne (Or.inr q2), hI.2 h hh]
        apply jk_congr
        intro v hv
        by_cases q : hp v = (h : Int)
        · simp [q] <;> omega
        · simp [q]
  · simp only [decide_eq_false_iff_not] at hp2
    intro q
    rcases jlst_spec (fun w => decide (hp w = (a : Int) ∨ hp w = (b : Int))) n with ⟨q1, q2⟩ | ⟨j, q1, q2, q3, q4⟩
    · omega
    · have hl := hV.lead (u := v) (k := j) (by omega)
      simp only [decide_eq_true_eq] at q3
      exact hp2 (by omega)
  · dsimp only [Option.toList, List.cons_append, List.nil_append]
    refine jr_vreturn dX2_melt_33 rfl ?_
    refine hK σ' h1 (fun c q1 q2 => ?_)
    rw [h2 c q1 q2, jup_row q2, jup_row q2]
