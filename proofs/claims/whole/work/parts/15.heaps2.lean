/-! ===== Heaps: reads over all uses ===== -/
set_option maxRecDepth 100000 in
theorem allLaid_ok {d : Nat} {σ : jMem} {K : Option Value → jMem → Prop} {n : Nat} {hp : Nat → Int} (hc : σ 1 5 = (n : Int)) (hn : n ≤ 40) (hV : HV n hp) (hI : HI hp σ) (hK : K (some (.long (jL (jk (fun v => decide (hp v ≠ -1)))))) σ) : jRun d mX2_allLaid [.ref 10] σ K := by
  refine jenter (lv := [_, _, _, _]) rfl rfl (Nat.le_of_ble_eq_true rfl) ?_
  refine jr_lconst (x := 0) gM dX2_allLaid_0 rfl rfl ?_
  rw [show (0 : Int) = jk (fun v => decide (0 ≤ hp v ∧ hp v < ((0 : Nat) : Int))) from (jk_zero.mpr (fun i _ => by simp)).symm]
  refine jr_lstore_n (lv' := [_, _, _, _]) gM dX2_allLaid_1 rfl rfl (Nat.le_of_ble_eq_true rfl) ?_
  refine jr_iconst gM dX2_allLaid_2 rfl ?_
  refine jr_istore_n (lv' := [_, _, _, _]) gM dX2_allLaid_3 rfl rfl (Nat.le_of_ble_eq_true rfl) ?_
  have lp : ∀ i, i ≤ n → jV (jP mX2_allLaid d K) 4 [some (.ref 10), some (.long (jL (jk (fun v => decide (0 ≤ hp v ∧ hp v < (i : Int)))))), none, some (.int (jI (i : Int)))] [] σ := by
    refine jdown n ?_
    intro i hi ih
    refine jr_iload_n gM dX2_allLaid_4 rfl rfl ?_
    refine jr_aload_n gM dX2_allLaid_5 rfl rfl ?_
    refine jr_gfr gM dX2_allLaid_6 rfl fX2_9 rfl rfl ?_
    refine jr_gfi gM dX2_allLaid_9 rfl fX2_39 rfl rfl ?_
    refine jr_icmp_ge gM dX2_allLaid_12 rfl rfl ⟨by omega, by omega⟩ ⟨by omega, by omega⟩ (fun c12 => ?_) (fun c12 => ?_)
    · refine jr_lload_n gM dX2_allLaid_30 rfl rfl ?_
      refine jr_lreturn dX2_allLaid_31 rfl ?_
      have e : i = n := by omega
      subst e
      rw [show jk (fun v => decide (hp v ≠ -1)) = jk (fun v => decide (0 ≤ hp v ∧ hp v < (i : Int))) from jk_congr (fun v _ => by
        have := hV.r hn v
        simp only [decide_eq_decide]
        omega)] at hK
      exact hK
    · refine jr_lload_n gM dX2_allLaid_15 rfl rfl ?_
      refine jr_aload_n gM dX2_allLaid_16 rfl rfl ?_
      refine jr_gfr gM dX2_allLaid_17 rfl fX2_19 rfl rfl ?_
      refine jr_iload_n gM dX2_allLaid_20 rfl rfl ?_
      refine jr_lald _ gM dX2_allLaid_21 rfl rfl rfl (by omega) (by decide) ?_
      rw [hI.2 i (by omega)]
      refine jr_lor (jk (fun v => decide (0 ≤ hp v ∧ hp v < ((i + 1 : Nat) : Int)))) gM dX2_allLaid_22 rfl ((jk_or _ _).trans (congrArg jL (jk_congr (fun v _ => by rw [← Bool.decide_or]; simp only [decide_eq_decide]; omega)))) ?_
      refine jr_lstore_n (lv' := [_, _, _, _]) gM dX2_allLaid_23 rfl rfl (Nat.le_of_ble_eq_true rfl) ?_
      refine jr_iinc (lv' := [_, _, _, _]) gM dX2_allLaid_24 rfl rfl rfl ?_
      refine jr_goto gM dX2_allLaid_27 rfl ?_
      exact ih (i + 1) (by omega) (by omega)
  exact lp 0 (by omega)
set_option maxRecDepth 100000 in
theorem allOpen_ok {d : Nat} {σ : jMem} {K : Option Value → jMem → Prop} {n : Nat} {hp : Nat → Int} (hc : σ 1 5 = (n : Int)) (hn : n ≤ 40) (hV : HV n hp) (hI : HI hp σ) (hK : K (some (.long (jL (jk (fun v => decide (v < n ∧ hp v = -1)))))) σ) : jRun (d + 2) mX2_allOpen [.ref 10] σ K := by
  refine jenter (lv := [_]) rfl rfl (Nat.le_of_ble_eq_true rfl) ?_
  refine jr_aload_n gM dX2_allOpen_0 rfl rfl ?_
  refine jr_gfr gM dX2_allOpen_1 rfl fX2_9 rfl rfl ?_
  refine jr_inv (as := []) gM dX2_allOpen_4 rfl kX2_44 rfl rfl rfl (Nat.le_of_ble_eq_true rfl) ?_
  refine all_ok hc hn ?_
  dsimp only [Option.toList, List.cons_append, List.nil_append]
  refine jr_aload_n gM dX2_allOpen_7 rfl rfl ?_
  refine jr_inv (as := []) gM dX2_allOpen_8 rfl kX2_48 rfl rfl rfl (Nat.le_of_ble_eq_true rfl) ?_
  refine allLaid_ok hc hn hV hI ?_
  dsimp only [Option.toList, List.cons_append, List.nil_append]
  refine jr_ldc2 gM dX2_allOpen_11 rfl qX2_51 ?_
  refine jr_lxor (-1 - jk (fun v => decide (hp v ≠ -1))) gM dX2_allOpen_14 rfl (jL_not _) ?_
  refine jr_land (jk (fun v => decide (v < n ∧ hp v = -1))) gM dX2_allOpen_15 rfl ((jk_andn _ _).trans (congrArg jL (jk_congr (fun v _ => by by_cases a : v < n <;> by_cases b : hp v = -1 <;> simp [a, b])))) ?_
  refine jr_lreturn dX2_allOpen_16 rfl ?_
  exact hK
set_option maxRecDepth 100000 in
theorem howMany_ok {d : Nat} {σ : jMem} {K : Option Value → jMem → Prop} {n : Nat} {hp : Nat → Int} (hc : σ 1 5 = (n : Int)) (hn : n ≤ 40) (hV : HV n hp) (hI : HI hp σ) (hK : K (some (.int (jI (js (fun h => bI (hp h = (h : Int))) n)))) σ) : jRun (d + 1) mX2_howMany [.ref 10] σ K := by
  refine jenter (lv := [_, _, _]) rfl rfl (Nat.le_of_ble_eq_true rfl) ?_
  refine jr_iconst gM dX2_howMany_0 rfl ?_
  refine jr_istore_n (lv' := [_, _, _]) gM dX2_howMany_1 rfl rfl (Nat.le_of_ble_eq_true rfl) ?_
  refine jr_iconst gM dX2_howMany_2 rfl ?_
  refine jr_istore_n (lv' := [_, _, _]) gM dX2_howMany_3 rfl rfl (Nat.le_of_ble_eq_true rfl) ?_
  have lp : ∀ i, i ≤ n → jV (jP mX2_howMany (d + 1) K) 4 [some (.ref 10), some (.int (jI (js (fun h => bI (hp h = (h : Int))) i))), some (.int (jI (i : Int)))] [] σ := by
    refine jdown n ?_
    intro i hi ih
    refine jr_iload_n gM dX2_howMany_4 rfl rfl ?_
    refine jr_aload_n gM dX2_howMany_5 rfl rfl ?_
    refine jr_gfr gM dX2_howMany_6 rfl fX2_9 rfl rfl ?_
    refine jr_gfi gM dX2_howMany_9 rfl fX2_39 rfl rfl ?_
    refine jr_icmp_ge gM dX2_howMany_12 rfl rfl ⟨by omega, by omega⟩ ⟨by omega, by omega⟩ (fun c12 => ?_) (fun c12 => ?_)
    · refine jr_iload_n gM dX2_howMany_32 rfl rfl ?_
      refine jr_ireturn dX2_howMany_33 rfl ?_
      have e : i = n := by omega
      subst e
      exact hK
    · have h := ih (i + 1) (by omega) (by omega)
      rw [show js (fun h => bI (hp h = (h : Int))) (i + 1) = js (fun h => bI (hp h = (h : Int))) i + bI (hp i = (i : Int)) from rfl] at h
      refine jr_aload_n gM dX2_howMany_15 rfl rfl ?_
      refine jr_iload_n gM dX2_howMany_16 rfl rfl ?_
      refine jr_inv (as := [_]) gM dX2_howMany_17 rfl kX2_53 rfl rfl rfl (Nat.le_of_ble_eq_true rfl) ?_
      refine isHeap_ok hn hV hI (by omega) ?_
      dsimp only [Option.toList, List.cons_append, List.nil_append]
      refine jr_pb_eq gM dX2_howMany_20 rfl rfl (fun c20 => ?_) (fun c20 => ?_)
      · refine jr_iinc (lv' := [_, _, _]) gM dX2_howMany_26 rfl rfl rfl ?_
        refine jr_goto gM dX2_howMany_29 rfl ?_
        rw [bI_f c20, Int.add_zero] at h
        exact h
      · refine jr_iinc (lv' := [_, _, _]) gM dX2_howMany_23 rfl rfl rfl ?_
        refine jr_iinc (lv' := [_, _, _]) gM dX2_howMany_26 rfl rfl rfl ?_
        refine jr_goto gM dX2_howMany_29 rfl ?_
        rw [bI_t c20] at h
        exact h
  exact lp 0 (by omega)
set_option maxRecDepth 100000 in
theorem costOfAll_ok {d : Nat} {σ : jMem} {K : Option Value → jMem → Prop} {n : Nat} {hp : Nat → Int} (hc : σ 1 5 = (n : Int)) (hn : n ≤ 40) (hV : HV n hp) (hI : HI hp σ) (hf : ∀ a b, a < n → b < n → 0 ≤ σ 6 (a * 40 + b) ∧ σ 6 (a * 40 + b) ≤ 180)
    (hK : K (some (.int (jI (js (fun h => bI (hp h = (h : Int))) n * σ 10 4 + js (fun u => js (fun o => if decide (hp u ≠ -1 ∧ hp o = hp u) then σ 6 (u * 40 + o) else 0) n) n / 2)))) σ) : jRun (d + 2) mX2_costOfAll [.ref 10] σ K := by
  have hin : ∀ u, u < n → 0 ≤ js (fun o => if decide (hp u ≠ -1 ∧ hp o = hp u) then σ 6 (u * 40 + o) else 0) n ∧ js (fun o => if decide (hp u ≠ -1 ∧ hp o = hp u) then σ 6 (u * 40 + o) else 0) n ≤ 7200 := by
    intro u hu
    have := js_le (f := fun o => if decide (hp u ≠ -1 ∧ hp o = hp u) then σ 6 (u * 40 + o) else 0) (n := n) (b := 180) (fun i hi => by
      have := hf u i hu hi
      split <;> omega)
    omega
  refine jenter (lv := [_, _, _]) rfl rfl (Nat.le_of_ble_eq_true rfl) ?_
  refine jr_iconst gM dX2_costOfAll_0 rfl ?_
  refine jr_istore_n (lv' := [_, _, _]) gM dX2_costOfAll_1 rfl rfl (Nat.le_of_ble_eq_true rfl) ?_
  refine jr_iconst gM dX2_costOfAll_2 rfl ?_
  refine jr_istore_n (lv' := [_, _, _]) gM dX2_costOfAll_3 rfl rfl (Nat.le_of_ble_eq_true rfl) ?_
  have lp : ∀ i, i ≤ n → jV (jP mX2_costOfAll (d + 2) K) 4 [some (.ref 10), some (.int (jI (js (fun u => js (fun o => if decide (hp u ≠ -1 ∧ hp o = hp u) then σ 6 (u * 40 + o) else 0) n) i))), some (.int (jI (i : Int)))] [] σ := by
    refine jdown n ?_
    intro i hi ih
    refine jr_iload_n gM dX2_costOfAll_4 rfl rfl ?_
    refine jr_aload_n gM dX2_costOfAll_5 rfl rfl ?_
    refine jr_gfr gM dX2_costOfAll_6 rfl fX2_9 rfl rfl ?_
    refine jr_gfi gM dX2_costOfAll_9 rfl fX2_39 rfl rfl ?_
    refine jr_icmp_ge gM dX2_costOfAll_12 rfl rfl ⟨by omega, by omega⟩ ⟨by omega, by omega⟩ (fun c12 => ?_) (fun c12 => ?_)
    · refine jr_aload_n gM dX2_costOfAll_37 rfl rfl ?_
      have e : i = n := by omega
      subst e
      have hb := js_le (f := fun u => js (fun o => if decide (hp u ≠ -1 ∧ hp o = hp u) then σ 6 (u * 40 + o) else 0) i) (n := i) (b := 7200) hin
      refine jr_inv (as := []) gM dX2_costOfAll_38 rfl kX2_65 rfl rfl rfl (Nat.le_of_ble_eq_true rfl) ?_
      refine howMany_ok hc hn hV hI ?_
      dsimp only [Option.toList, List.cons_append, List.nil_append]
      refine jr_aload_n gM dX2_costOfAll_41 rfl rfl ?_
      refine jr_gfi gM dX2_costOfAll_42 rfl fX2_26 rfl rfl ?_
      refine jr_imul gM dX2_costOfAll_45 rfl ?_
      refine jr_iload_n gM dX2_costOfAll_46 rfl rfl ?_
      refine jr_iconst gM dX2_costOfAll_47 rfl ?_
      refine jr_idiv gM dX2_costOfAll_48 rfl (by omega) (by omega) ?_
      refine jr_iadd gM dX2_costOfAll_49 rfl ?_
      refine jr_ireturn dX2_costOfAll_50 rfl ?_
      exact hK
    · have h := ih (i + 1) (by omega) (by omega)
      refine jr_iload_n gM dX2_costOfAll_15 rfl rfl ?_
      refine jr_aload_n gM dX2_costOfAll_16 rfl rfl ?_
      refine jr_gfr gM dX2_costOfAll_17 rfl fX2_9 rfl rfl ?_
      refine jr_iload_n gM dX2_costOfAll_20 rfl rfl ?_
      refine jr_aload_n gM dX2_costOfAll_21 rfl rfl ?_
      refine jr_iload_n gM dX2_costOfAll_22 rfl rfl ?_
      refine jr_inv (as := [_]) gM dX2_costOfAll_23 rfl kX2_57 rfl rfl rfl (Nat.le_of_ble_eq_true rfl) ?_
      refine around_ok hn hV hI (by omega) ?_
      dsimp only [Option.toList, List.cons_append, List.nil_append]
      refine jr_inv (as := [_, _]) gM dX2_costOfAll_26 rfl kX2_61 rfl rfl rfl (Nat.le_of_ble_eq_true rfl) ?_
      refine toGroup_ok hc hn (by omega) ?_
      dsimp only [Option.toList, List.cons_append, List.nil_append]
      refine jr_iadd gM dX2_costOfAll_29 rfl ?_
      refine jr_istore_n (lv' := [_, _, _]) gM dX2_costOfAll_30 rfl rfl (Nat.le_of_ble_eq_true rfl) ?_
      refine jr_iinc (lv' := [_, _, _]) gM dX2_costOfAll_31 rfl rfl rfl ?_
      refine jr_goto gM dX2_costOfAll_34 rfl ?_
      exact h
  exact lp 0 (by omega)
/-! ===== the least of a set; a set made one heap ===== -/
def jlst (p : Nat → Bool) : Nat → Int
  | 0 => -1
  | m + 1 => if jlst p m = -1 then (if p m then (m : Int) else -1) else jlst p m
theorem jlst_spec (p : Nat → Bool) (m : Nat) : (jlst p m = -1 ∧ ∀ i, i < m → p i = false) ∨ ∃ k : Nat, k < m ∧ jlst p m = (k : Int) ∧ p k = true ∧ ∀ i, i < k → p i = false := by
  induction m with
  | zero => exact Or.inl ⟨rfl, fun i hi => absurd hi (by omega)⟩
  | succ m ih =>
    simp only [jlst]
    rcases ih with ⟨h1, h2⟩ | ⟨k, h1, h2, h3, h4⟩
    · rw [if_pos h1]
      by_cases hp : p m = true
      · rw [if_pos hp]
        exact Or.inr ⟨m, by omega, rfl, hp, h2⟩
      · rw [if_neg hp]
        refine Or.inl ⟨rfl, fun i hi => ?_⟩
        by_cases e : i = m
        · subst e
          simpa using hp
        · exact h2 i (by omega)
    · rw [if_neg (by omega)]
      exact Or.inr ⟨k, by omega, h2, h3, h4⟩
theorem jlst_at {p : Nat → Bool} {m k : Nat} (hk : k < m) (h1 : p k = true) (h2 : ∀ i, i < k → p i = false) : jlst p m = (k : Int) := by
  rcases jlst_spec p m with ⟨q1, q2⟩ | ⟨j, q1, q2, q3, q4⟩
  · have := q2 k hk
    rw [h1] at this
    cases this
  · rcases Nat.lt_trichotomy j k with e | e | e
    · have := h2 j e
      rw [q3] at this
      cases this
    · omega
    · have := q4 k e
      rw [h1] at this
      cases this
theorem jlst_step {p : Nat → Bool} {i m : Nat} (hp : p i = true) (hi : i < m) : jlst p (i + 1) = jlst p m := by
  rcases jlst_spec p (i + 1) with ⟨q1, q2⟩ | ⟨j, q1, q2, q3, q4⟩
  · have := q2 i (by omega)
    rw [hp] at this
    cases this
  · rw [q2]
    exact (jlst_at (by omega) q3 q4).symm
theorem jlst_congr {p q : Nat → Bool} {n : Nat} (h : ∀ i, i < n → p i = q i) : jlst p n = jlst q n := by
  induction n with
  | zero => rfl
  | succ n ih =>
    simp only [jlst]
    rw [ih (fun i hi => h i (by omega)), h n (by omega)]
def rgF (n : Nat) (hp : Nat → Int) (p : Nat → Bool) : Nat → Int := fun v => if p v then jlst p n else hp v
theorem rgF_HV {n : Nat} {hp : Nat → Int} {p : Nat → Bool} (hp1 : ∀ v, p v = true → v < n) (h0 : ∀ v, n ≤ v → hp v = -1) (h1 : ∀ v, v < n → p v = false → hp v = -1 ∨ ∃ k : Nat, k ≤ v ∧ hp v = (k : Int) ∧ hp k = (k : Int) ∧ p k = false) : HV n (rgF n hp p) := by
  refine ⟨fun u hu => ?_, fun u hu => ?_⟩
  · unfold rgF
    rw [if_neg (fun q => by have := hp1 u q; omega)]
    exact h0 u hu
  · by_cases e : p u = true
    · rcases jlst_spec p n with ⟨q1, q2⟩ | ⟨j, q1, q2, q3, q4⟩
      · have := q2 u hu
        rw [e] at this
        cases this
      · refine Or.inr ⟨j, ?_, ?_, ?_⟩
        · rcases Nat.lt_or_ge u j with q | q
          · have := q4 u q
            rw [e] at this
            cases this
          · exact q
        · unfold rgF
          rw [if_pos e, q2]
        · unfold rgF
          rw [if_pos q3, q2]
    · have e2 : p u = false := by simpa using e
      rcases h1 u hu e2 with q | ⟨k, q1, q2, q3, q4⟩
      · left
        unfold rgF
        rw [if_neg e]
        exact q
      · refine Or.inr ⟨k, q1, ?_, ?_⟩
        · unfold rgF
          rw [if_neg e]
          exact q2
        · unfold rgF
          rw [if_neg (by rw [q4]; decide)]
          exact q3
set_option maxRecDepth 100000 in
theorem pile_ok {d : Nat} {σ : jMem} {K : Option Value → jMem → Prop} {n : Nat} {hp : Nat → Int} {p : Nat → Bool} (hc : σ 1 5 = (n : Int)) (hn : n ≤ 40) (hp1 : ∀ v, p v = true → v < n) (h1 : ∀ u, u < 40 → σ 11 u = hp u) (h2 : ∀ h : Nat, h < 40 → σ 12 h = jk (fun v => decide (hp v = (h : Int)) && !p v)) (h3 : ∀ v, v < 40 → p v = false → 0 ≤ hp v → hp v ≠ jlst p n)
    (hK : ∀ σ' : jMem, HI (rgF n hp p) σ' → (∀ c, c ≠ 11 → c ≠ 12 → σ' c = σ c) → K none σ') : jRun (d + 1) mX2_pile [.ref 10, .long (jL (jk p))] σ K := by
  refine jenter (lv := [_, _, _, _, _]) rfl rfl (Nat.le_of_ble_eq_true rfl) ?_
  refine jr_iconst gM dX2_pile_0 rfl ?_
  refine jr_istore_n (lv' := [_, _, _, _, _]) gM dX2_pile_1 rfl rfl (Nat.le_of_ble_eq_true rfl) ?_
  refine jr_iconst gM dX2_pile_2 rfl ?_
  refine jr_istore (lv' := [_, _, _, _, _]) gM dX2_pile_3 rfl rfl (Nat.le_of_ble_eq_true rfl) ?_
  have lp : ∀ i, i ≤ n → ∀ σ' : jMem, (∀ c, c ≠ 11 → σ' c = σ c) → (∀ u, u < 40 → σ' 11 u = if u < i ∧ p u = true then jlst p n else hp u) → jV (jP mX2_pile (d + 1) K) 5 [some (.ref 10), some (.long (jL (jk p))), none, some (.int (jI (jlst p i))), some (.int (jI (i : Int)))] [] σ' := by
    refine jdown n ?_
    intro i hi ih σ' g1 g2
    have o1 : σ' 1 = σ 1 := g1 1 (by omega)
    have hr : -1 ≤ jlst p i ∧ jlst p i < 40 := by
      rcases jlst_spec p i with ⟨q1, q2⟩ | ⟨j, q1, q2, q3, q4⟩ <;> omega
    refine jr_iload gM dX2_pile_5 rfl rfl ?_
    refine jr_aload_n gM dX2_pile_7 rfl rfl ?_
    refine jr_gfr gM dX2_pile_8 rfl fX2_9 rfl rfl ?_
    refine jr_gfi gM dX2_pile_11 rfl fX2_39 rfl rfl ?_
    rw [o1]
    refine jr_icmp_ge gM dX2_pile_14 rfl rfl ⟨by omega, by omega⟩ ⟨by omega, by omega⟩ (fun c14 => ?_) (fun c14 => ?_)
    · have e : i = n := by omega
      subst e
      refine jr_iload_n gM dX2_pile_52 rfl rfl ?_
      refine jr_iconst gM dX2_pile_53 rfl ?_
      refine jr_icmp_eq gM dX2_pile_54 rfl rfl ⟨by omega, by omega⟩ ⟨by omega, by omega⟩ (fun c54 => ?_) (fun c54 => ?_)
      · refine jr_vreturn dX2_pile_64 rfl ?_
        rcases jlst_spec p i with ⟨q1, q2⟩ | ⟨j, q1, q2, q3, q4⟩
        · have pf : ∀ v, p v = false := fun v => by
            by_cases e : p v = true
            · have := q2 v (hp1 v e)
              rw [this] at e
              cases e
            · simpa using e
          refine hK σ' ⟨fun u hu => ?_, fun h hh => ?_⟩ (fun c hc1 hc2 => g1 c hc1)
          · rw [g2 u hu]
            unfold rgF
            simp [pf]
          · rw [g1 12 (by omega), h2 h hh]
            apply jk_congr
            intro v hv
            unfold rgF
            simp [pf]
        · omega
      · rcases jlst_spec p i with ⟨q1, q2⟩ | ⟨j, q1, q2, q3, q4⟩
        · omega
        · refine jr_aload_n gM dX2_pile_57 rfl rfl ?_
          refine jr_gfr gM dX2_pile_58 rfl fX2_19 rfl rfl ?_
          refine jr_iload_n gM dX2_pile_61 rfl rfl ?_
          refine jr_lload_n gM dX2_pile_62 rfl rfl ?_
          refine jr_last (j) gM dX2_pile_63 rfl rfl (q2) (by omega) (by decide) ?_
          refine jr_vreturn dX2_pile_64 rfl ?_
          refine hK _ ⟨fun u hu => ?_, fun h hh => ?_⟩ (fun c hc1 hc2 => by rw [jup_row hc2]; exact g1 c hc1)
          · rw [jup_row (by omega), g2 u hu]
            unfold rgF
            by_cases e : p u = true
            · rw [if_pos ⟨hp1 u e, e⟩, if_pos e]
            · rw [if_neg (fun q => e q.2), if_neg e]
          · by_cases e : h = j
            · subst e
              rw [jup_at]
              apply jk_congr
              intro v hv
              unfold rgF
              by_cases e : p v = true
              · rw [if_pos e, q2, e]
                simp
              · have e2 : p v = false := by simpa using e
                rw [if_neg e, e2]
                have := h3 v hv e2
                rw [q2] at this
                simp only [Bool.false_eq, decide_eq_false_iff_not]
                intro q
                exact this (by omega) q
            · rw [jup_ne (Or.inr e), g1 12 (by omega), h2 h hh]
              apply jk_congr
              intro v hv
              unfold rgF
              by_cases e2 : p v = true
              · rw [if_pos e2, q2, e2]
                simp
                omega
              · have e3 : p v = false := by simpa using e2
                rw [if_neg e2, e3]
                simp
    · refine jr_lload_n gM dX2_pile_17 rfl rfl ?_
      refine jr_iload gM dX2_pile_18 rfl rfl ?_
      refine jr_inn (as := [_, _]) gM dX2_pile_20 rfl kX2_80 rfl rfl (Nat.le_of_ble_eq_true rfl) ?_
      refine holds_ok (by omega) ?_
      dsimp only [Option.toList, List.cons_append, List.nil_append]
      refine jr_pb_eq gM dX2_pile_23 rfl rfl (fun c23 => ?_) (fun c23 => ?_)
      · refine jr_iinc (lv' := [_, _, _, _, _]) gM dX2_pile_46 rfl rfl rfl ?_
        refine jr_goto gM dX2_pile_49 rfl ?_
        have e : jlst p (i + 1) = jlst p i := by
          simp only [jlst, if_neg c23]
          split <;> omega
        rw [← e]
        refine ih (i + 1) (by omega) (by omega) σ' g1 (fun u hu => ?_)
        rw [g2 u hu]
        by_cases q : u = i
        · subst q
          rw [if_neg (fun q => c23 q.2), if_neg (fun q => c23 q.2)]
        · have : (u < i ∧ p u = true) ↔ (u < i + 1 ∧ p u = true) := and_congr_left (fun _ => by omega)
          simp only [this]
      · have go : jV (jP mX2_pile (d + 1) K) 38 [some (.ref 10), some (.long (jL (jk p))), none, some (.int (jI (jlst p (i + 1)))), some (.int (jI (i : Int)))] [] σ' := by
          refine jr_aload_n gM dX2_pile_38 rfl rfl ?_
          refine jr_gfr gM dX2_pile_39 rfl fX2_15 rfl rfl ?_
          refine jr_iload gM dX2_pile_42 rfl rfl ?_
          refine jr_iload_n gM dX2_pile_44 rfl rfl ?_
          refine jr_iast _ gM dX2_pile_45 rfl rfl rfl (by omega) (by decide) ?_
          refine jr_iinc (lv' := [_, _, _, _, _]) gM dX2_pile_46 rfl rfl rfl ?_
          refine jr_goto gM dX2_pile_49 rfl ?_
          rw [jlst_step c23 (show i < n by omega)]
          have := ih (i + 1) (by omega) (by omega) (jup σ' 11 i (jlst p n)) (fun c hc => by rw [jup_row hc]; exact g1 c hc) (fun u hu => by
            by_cases q : u = i
            · subst q
              rw [jup_at, if_pos ⟨by omega, c23⟩]
            · rw [jup_ne (Or.inr q), g2 u hu]
              have : (u < i ∧ p u = true) ↔ (u < i + 1 ∧ p u = true) := and_congr_left (fun _ => by omega)
              simp only [this])
          rw [jlst_step c23 (show i < n by omega)] at this
          exact this
        refine jr_iload_n gM dX2_pile_26 rfl rfl ?_
        refine jr_iconst gM dX2_pile_27 rfl ?_
        refine jr_icmp_ne gM dX2_pile_28 rfl rfl ⟨by omega, by omega⟩ ⟨by omega, by omega⟩ (fun c28 => ?_) (fun c28 => ?_)
        · refine jr_iload_n gM dX2_pile_36 rfl rfl ?_
          refine jr_istore_n (lv' := [_, _, _, _, _]) gM dX2_pile_37 rfl rfl (Nat.le_of_ble_eq_true rfl) ?_
          rw [show jlst p (i + 1) = jlst p i by simp only [jlst]; rw [if_neg c28]] at go
          exact go
        · refine jr_iload gM dX2_pile_31 rfl rfl ?_
          refine jr_goto gM dX2_pile_33 rfl ?_
          refine jr_istore_n (lv' := [_, _, _, _, _]) gM dX2_pile_37 rfl rfl (Nat.le_of_ble_eq_true rfl) ?_
          rw [show jlst p (i + 1) = (i : Int) by simp only [jlst]; rw [if_pos c28, if_pos c23]] at go
          exact go
  exact lp 0 (by omega) σ (fun c _ => rfl) (fun u hu => by rw [if_neg (by omega)]; exact h1 u hu)
