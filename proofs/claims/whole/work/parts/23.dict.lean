/-! ===== Dictionary: take, largestBut, choose ===== -/
theorem jn_mono {p q : Nat → Bool} {n : Nat} (h : ∀ i, i < n → p i = true → q i = true) : jn p n ≤ jn q n := by
  induction n with
  | zero => exact Nat.le_refl _
  | succ n ih =>
    have h1 := ih (fun i hi => h i (by omega))
    simp only [jn]
    by_cases e : p n = true
    · rw [if_pos e, if_pos (h n (by omega) e)]
      omega
    · rw [if_neg e]
      omega
theorem jn_plus {p q : Nat → Bool} {n m : Nat} (hm : m < n) (h1 : p m = false) (h2 : q m = true) (h3 : ∀ i, i < n → i ≠ m → q i = p i) : jn q n = jn p n + 1 := by
  induction n with
  | zero => omega
  | succ n ih =>
    simp only [jn]
    by_cases e : m = n
    · subst e
      rw [jn_congr (p := q) (q := p) (fun i hi => h3 i (by omega) (by omega)), if_pos h2, if_neg (by rw [h1]; decide)]
    · rw [ih (by omega) (fun i hi hn => h3 i (by omega) hn), h3 n (by omega) (fun q => e q.symm)]
      omega
theorem jn_le_of {p : Nat → Bool} {i n : Nat} (h : i ≤ n) : jn p i ≤ jn p n := by
  induction n with
  | zero =>
    have : i = 0 := by omega
    subst this
    exact Nat.le_refl _
  | succ n ih =>
    by_cases e : i = n + 1
    · subst e
      exact Nat.le_refl _
    · have := ih (by omega)
      simp only [jn]
      omega
theorem jn_pos {p : Nat → Bool} {n k : Nat} (hk : k < n) (h : p k = true) : 0 < jn p n := by
  rcases Nat.eq_zero_or_pos (jn p n) with e | e
  · have := jn_zero.mp e k hk
    rw [h] at this
    cases this
  · exact e
def szF (hp : Nat → Int) (h : Nat) : Nat := jn (fun v => decide (hp v = (h : Int))) 40
theorem szF_pos {n : Nat} {hp : Nat → Int} (hV : HV n hp) (hn : n ≤ 40) (h : Nat) (hh : h < 40) : 0 < szF hp h ↔ hp h = (h : Int) := by
  unfold szF
  constructor
  · intro q
    refine Decidable.byContradiction (fun e => ?_)
    have z : jn (fun v => decide (hp v = (h : Int))) 40 = 0 := jn_zero.mpr (fun v _ => by
      simp only [decide_eq_false_iff_not]
      intro q2
      exact e (hV.lead q2).1)
    omega
  · intro e
    exact jn_pos (k := h) hh (by simp [e])
def lbF (hp : Nat → Int) (p : Nat → Bool) : Nat → Int × Nat
  | 0 => (-1, 0)
  | i + 1 => if (lbF hp p i).2 < szF hp i ∧ ¬ p i = true then ((i : Int), szF hp i) else lbF hp p i
/-- a is greater than b: more uses, or as many and a lesser number -/
def ahF (hp : Nat → Int) (a b : Nat) : Prop := szF hp b < szF hp a ∨ (szF hp a = szF hp b ∧ a < b)
theorem lbF_spec {n : Nat} {hp : Nat → Int} {p : Nat → Bool} (hV : HV n hp) (hn : n ≤ 40) : ∀ i, i ≤ n → (lbF hp p i = (-1, 0) ∧ ∀ h : Nat, h < i → hp h = (h : Int) → p h = true) ∨ ∃ m : Nat, m < i ∧ lbF hp p i = ((m : Int), szF hp m) ∧ hp m = (m : Int) ∧ p m = false ∧ ∀ o : Nat, o < i → hp o = (o : Int) → p o = false → o ≠ m → ahF hp m o := by
  intro i
  induction i with
  | zero => intro _; exact Or.inl ⟨rfl, fun h hh => absurd hh (by omega)⟩
  | succ i ih =>
    intro hi
    have hs := szF_pos hV hn i (by omega)
    simp only [lbF]
    rcases ih (by omega) with ⟨e, h1⟩ | ⟨m, h1, h2, h3, h4, h5⟩
    · rw [e]
      by_cases q : hp i = (i : Int) ∧ p i = false
      · rw [if_pos ⟨by show 0 < szF hp i; exact hs.mpr q.1, by rw [q.2]; decide⟩]
        refine Or.inr ⟨i, by omega, rfl, q.1, q.2, fun o ho ho1 ho2 ho3 => ?_⟩
        have := h1 o (by omega) ho1
        rw [ho2] at this
        cases this
      · rw [if_neg (fun z => q ⟨hs.mp z.1, by simpa using z.2⟩)]
        refine Or.inl ⟨rfl, fun h hh he => ?_⟩
        by_cases e2 : h = i
        · subst e2
          by_cases z : p h = true
          · exact z
          · exact absurd ⟨he, by simpa using z⟩ q
        · exact h1 h (by omega) he
    · rw [h2]
      by_cases q : szF hp m < szF hp i ∧ ¬ p i = true
      · rw [if_pos q]
        refine Or.inr ⟨i, by omega, rfl, hs.mp (by omega), by simpa using q.2, fun o ho ho1 ho2 ho3 => ?_⟩
        by_cases e : o = m
        · subst e
          exact Or.inl q.1
        · have := h5 o (by omega) ho1 ho2 e
          unfold ahF at this ⊢
          omega
      · rw [if_neg q]
        refine Or.inr ⟨m, by omega, rfl, h3, h4, fun o ho ho1 ho2 ho3 => ?_⟩
        by_cases e : o = i
        · subst e
          have : ¬ szF hp m < szF hp o := fun z => q ⟨z, by rw [ho2]; decide⟩
          unfold ahF
          omega
        · exact h5 o (by omega) ho1 ho2 ho3
set_option maxRecDepth 100000 in
theorem largestBut_ok {d : Nat} {σ : jMem} {K : Option Value → jMem → Prop} {n : Nat} {hp : Nat → Int} {p : Nat → Bool} (hc : σ 1 5 = (n : Int)) (hn : n ≤ 40) (hV : HV n hp) (hI : HI hp σ) (hK : K (some (.int (jI (lbF hp p n).1))) σ) : jRun (d + 1) mX1_largestBut [.ref 18, .long (jL (jk p))] σ K := by
  refine jenter (lv := [_, _, _, _, _, _, _]) rfl rfl (Nat.le_of_ble_eq_true rfl) ?_
  refine jr_iconst (pc' := 1) gM dX1_largestBut_0 rfl ?_
  refine jr_istore_n (pc' := 2) (lv' := [_, _, _, _, _, _, _]) gM dX1_largestBut_1 rfl rfl (Nat.le_of_ble_eq_true rfl) ?_
  refine jr_iconst (pc' := 3) gM dX1_largestBut_2 rfl ?_
  refine jr_istore (pc' := 5) (lv' := [_, _, _, _, _, _, _]) gM dX1_largestBut_3 rfl rfl (Nat.le_of_ble_eq_true rfl) ?_
  refine jr_iconst (pc' := 6) gM dX1_largestBut_5 rfl ?_
  refine jr_istore (pc' := 8) (lv' := [_, _, _, _, _, _, _]) gM dX1_largestBut_6 rfl rfl (Nat.le_of_ble_eq_true rfl) ?_
  have lp : ∀ i, i ≤ n → ∀ q6 : Option Value, jV (jP mX1_largestBut (d + 1) K) 8 [some (.ref 18), some (.long (jL (jk p))), none, some (.int (jI (lbF hp p i).1)), some (.int (jI ((lbF hp p i).2 : Int))), some (.int (jI (i : Int))), q6] [] σ := by
    refine jdown n ?_
    intro i hi ih q6
    have hr : (lbF hp p i).2 ≤ 40 := by
      rcases lbF_spec (p := p) hV hn i hi with ⟨e, -⟩ | ⟨m, h1, h2, -⟩
      · rw [e]
        decide
      · rw [h2]
        exact jn_le _ _
    refine jr_iload (pc' := 10) gM dX1_largestBut_8 rfl rfl ?_
    refine jr_aload_n (pc' := 11) gM dX1_largestBut_10 rfl rfl ?_
    refine jr_gfr (pc' := 14) gM dX1_largestBut_11 rfl fX1_9 rfl rfl ?_
    refine jr_gfi (pc' := 17) gM dX1_largestBut_14 rfl fX1_90 rfl rfl ?_
    refine jr_icmp_ge (tgt := 64) (pc' := 20) gM dX1_largestBut_17 rfl rfl ⟨by omega, by omega⟩ ⟨by omega, by omega⟩ (fun c17 => ?_) (fun c17 => ?_)
    · refine jr_iload_n (pc' := 65) gM dX1_largestBut_64 rfl rfl ?_
      refine jr_ireturn dX1_largestBut_65 rfl ?_
      have e : i = n := by omega
      subst e
      exact hK
    · have h := fun q => ih (i + 1) (by omega) (by omega) q
      simp only [lbF] at h
      have hsz : szF hp i ≤ 40 := jn_le _ _
      refine jr_aload_n (pc' := 21) gM dX1_largestBut_20 rfl rfl ?_
      refine jr_gfr (pc' := 24) gM dX1_largestBut_21 rfl fX1_15 rfl rfl ?_
      refine jr_gfr (pc' := 27) gM dX1_largestBut_24 rfl fX1_55 rfl rfl ?_
      refine jr_iload (pc' := 29) gM dX1_largestBut_27 rfl rfl ?_
      refine jr_lald (pc' := 30) _ gM dX1_largestBut_29 rfl rfl rfl (by omega) (by decide) ?_
      rw [hI.2 i (by omega)]
      refine jr_ins (pc' := 33) (as := [_]) gM dX1_largestBut_30 rfl kX1_95 rfl rfl (Nat.le_of_ble_eq_true rfl) ?_
      refine bitCount_ok ?_
      dsimp only [Option.toList, List.cons_append, List.nil_append]
      rw [show jn (fun u => decide (hp u = (i : Int))) 40 = szF hp i from rfl]
      refine jr_istore (pc' := 35) (lv' := [_, _, _, _, _, _, _]) gM dX1_largestBut_33 rfl rfl (Nat.le_of_ble_eq_true rfl) ?_
      refine jr_iload (pc' := 37) gM dX1_largestBut_35 rfl rfl ?_
      refine jr_iload (pc' := 39) gM dX1_largestBut_37 rfl rfl ?_
      refine jr_icmp_le (tgt := 58) (pc' := 42) gM dX1_largestBut_39 rfl rfl ⟨by omega, by omega⟩ ⟨by omega, by omega⟩ (fun c39 => ?_) (fun c39 => ?_)
      · refine jr_iinc (pc' := 61) (lv' := [_, _, _, _, _, _, _]) gM dX1_largestBut_58 rfl rfl rfl ?_
        refine jr_goto (tgt := 8) gM dX1_largestBut_61 rfl ?_
        have := h (some (.int (jI (szF hp i : Int))))
        rw [if_neg (by omega)] at this
        exact this
      · refine jr_lload_n (pc' := 43) gM dX1_largestBut_42 rfl rfl ?_
        refine jr_iload (pc' := 45) gM dX1_largestBut_43 rfl rfl ?_
        refine jr_inn (pc' := 48) (as := [_, _]) gM dX1_largestBut_45 rfl kX1_91 rfl rfl (Nat.le_of_ble_eq_true rfl) ?_
        refine holds_ok (by omega) ?_
        dsimp only [Option.toList, List.cons_append, List.nil_append]
        refine jr_pb_ne (tgt := 58) (pc' := 51) gM dX1_largestBut_48 rfl rfl (fun c48 => ?_) (fun c48 => ?_)
        · refine jr_iinc (pc' := 61) (lv' := [_, _, _, _, _, _, _]) gM dX1_largestBut_58 rfl rfl rfl ?_
          refine jr_goto (tgt := 8) gM dX1_largestBut_61 rfl ?_
          have := h (some (.int (jI (szF hp i : Int))))
          rw [if_neg (fun z => z.2 c48)] at this
          exact this
        · refine jr_iload (pc' := 53) gM dX1_largestBut_51 rfl rfl ?_
          refine jr_istore_n (pc' := 54) (lv' := [_, _, _, _, _, _, _]) gM dX1_largestBut_53 rfl rfl (Nat.le_of_ble_eq_true rfl) ?_
          refine jr_iload (pc' := 56) gM dX1_largestBut_54 rfl rfl ?_
          refine jr_istore (pc' := 58) (lv' := [_, _, _, _, _, _, _]) gM dX1_largestBut_56 rfl rfl (Nat.le_of_ble_eq_true rfl) ?_
          refine jr_iinc (pc' := 61) (lv' := [_, _, _, _, _, _, _]) gM dX1_largestBut_58 rfl rfl rfl ?_
          refine jr_goto (tgt := 8) gM dX1_largestBut_61 rfl ?_
          have := h (some (.int (jI (szF hp i : Int))))
          rw [if_pos ⟨by omega, c48⟩] at this
          exact this
  exact lp 0 (by omega) _
/-- the heaps that are chosen in t turns -/
def chT (n : Nat) (hp : Nat → Int) : Nat → Nat → Bool
  | 0 => fun _ => false
  | t + 1 => if (lbF hp (chT n hp t) n).1 = -1 then chT n hp t else fun h => chT n hp t h || decide ((h : Int) = (lbF hp (chT n hp t) n).1)
theorem chT_spec {n : Nat} {hp : Nat → Int} (hV : HV n hp) (hn : n ≤ 40) : ∀ t, (∀ h, chT n hp t h = true → h < n ∧ hp h = (h : Int)) ∧ (∀ a b : Nat, a < n → b < n → chT n hp t a = true → chT n hp t b = false → hp b = (b : Int) → ahF hp a b) ∧ jn (chT n hp t) n ≤ t ∧ (jn (chT n hp t) n = t ∨ ∀ h : Nat, h < n → hp h = (h : Int) → chT n hp t h = true) := by
  intro t
  induction t with
  | zero =>
    refine ⟨fun h (q : false = true) => Bool.noConfusion q, fun a b _ _ (q : false = true) => Bool.noConfusion q, ?_, Or.inl ?_⟩
    · have : jn (chT n hp 0) n = 0 := jn_zero.mpr (fun _ _ => rfl)
      omega
    · exact jn_zero.mpr (fun _ _ => rfl)
  | succ t ih =>
    obtain ⟨i1, i2, i3, i4⟩ := ih
    rcases lbF_spec (p := chT n hp t) hV hn n (Nat.le_refl _) with ⟨e, h1⟩ | ⟨m, h1, h2, h3, h4, h5⟩
    · have e2 : chT n hp (t + 1) = chT n hp t := by
        simp only [chT]
        rw [e]
        rfl
      rw [e2]
      exact ⟨i1, i2, by omega, Or.inr h1⟩
    · have e2 : chT n hp (t + 1) = fun h => chT n hp t h || decide (h = m) := by
        simp only [chT]
        rw [h2]
        rw [if_neg (by show ¬ (m : Int) = -1; omega)]
        funext h
        have : ((h : Int) = (m : Int)) ↔ h = m := by omega
        simp only [this]
      have ec : jn (chT n hp (t + 1)) n = jn (chT n hp t) n + 1 := by
        rw [e2]
        refine jn_plus h1 h4 (by simp) (fun i _ hne => by simp [hne])
      rw [ec]
      refine ⟨fun h q => ?_, fun a b ha hb qa qb hb2 => ?_, by omega, ?_⟩
      · rw [e2] at q
        simp only [Bool.or_eq_true, decide_eq_true_eq] at q
        rcases q with q | q
        · exact i1 h q
        · subst q
          exact ⟨h1, h3⟩
      · rw [e2] at qa qb
        simp only [Bool.or_eq_true, decide_eq_true_eq, Bool.or_eq_false_iff, decide_eq_false_iff_not] at qa qb
        rcases qa with q | q
        · exact i2 a b ha hb q qb.1 hb2
        · subst q
          exact h5 b hb hb2 qb.1 qb.2
      · rcases i4 with q | q
        · exact Or.inl (by omega)
        · have := q m h1 h3
          rw [h4] at this
          cases this
/-- the greatest heaps, five at most -/
def grT (n : Nat) (hp : Nat → Int) : Nat → Bool := fun h => decide (hp h = (h : Int)) && decide (jn (fun o => decide (hp o = (o : Int)) && decide (szF hp h < szF hp o ∨ (szF hp o = szF hp h ∧ o < h))) n < 5)
theorem chT_grT {n : Nat} {hp : Nat → Int} (hV : HV n hp) (hn : n ≤ 40) {h : Nat} (hh : h < n) : chT n hp 5 h = grT n hp h := by
  obtain ⟨i1, i2, i3, i4⟩ := chT_spec hV hn 5
  by_cases q : chT n hp 5 h = true
  · rw [q]
    symm
    unfold grT
    simp only [Bool.and_eq_true, decide_eq_true_eq]
    refine ⟨(i1 h q).2, ?_⟩
    have a1 : jn (chT n hp 5) n = jn (fun x => chT n hp 5 x && decide (x ≠ h)) n + 1 := jn_plus hh (by simp) q (fun i _ hne => by simp [hne])
    have a2 : jn (fun o => decide (hp o = (o : Int)) && decide (szF hp h < szF hp o ∨ (szF hp o = szF hp h ∧ o < h))) n ≤ jn (fun x => chT n hp 5 x && decide (x ≠ h)) n := jn_mono (fun i hi hq => by
      simp only [Bool.and_eq_true, decide_eq_true_eq] at hq ⊢
      refine ⟨?_, fun e => by subst e; omega⟩
      by_cases z : chT n hp 5 i = true
      · exact z
      · have := i2 h i hh hi q (by simpa using z) hq.1
        unfold ahF at this
        omega)
    omega
  · have q2 : chT n hp 5 h = false := by simpa using q
    rw [q2]
    symm
    unfold grT
    by_cases hz : hp h = (h : Int)
    · rcases i4 with c | c
      · have a2 : jn (chT n hp 5) n ≤ jn (fun o => decide (hp o = (o : Int)) && decide (szF hp h < szF hp o ∨ (szF hp o = szF hp h ∧ o < h))) n := jn_mono (fun i hi hq => by
          have z1 := (i1 i hq).2
          have z2 := i2 i h hi hh hq q2 hz
          unfold ahF at z2
          simp [z1]
          omega)
        simp only [Bool.and_eq_false_iff, decide_eq_false_iff_not]
        right
        omega
      · exact absurd (c h hh hz) q
    · simp [hz]
theorem grT_le {n : Nat} {hp : Nat → Int} (hV : HV n hp) (hn : n ≤ 40) : jn (grT n hp) n ≤ 5 := by
  rw [← jn_congr (p := chT n hp 5) (q := grT n hp) (fun i hi => chT_grT hV hn hi)]
  exact (chT_spec hV hn 5).2.2.1
/-- the heap at a place among those of T -/
def glF (T : Nat → Bool) (n i : Nat) : Nat := (jlst (fun h => T h && decide (jn T h = i)) n).toNat
theorem glF_at {T : Nat → Bool} {n h : Nat} (hh : h < n) (ht : T h = true) : glF T n (jn T h) = h := by
  unfold glF
  rw [jlst_at (k := h) hh (by simp [ht]) (fun i hi => ?_)]
  · rfl
  · by_cases q : T i = true
    · have : jn T (i + 1) ≤ jn T h := jn_le_of (by omega)
      simp only [jn, if_pos q] at this
      simp [q] <;> omega
    · simp [q]
theorem glF_spec {T : Nat → Bool} {n i : Nat} (hi : i < jn T n) : glF T n i < n ∧ T (glF T n i) = true ∧ jn T (glF T n i) = i := by
  have ex0 : ∀ n, i < jn T n → ∃ h, h < n ∧ T h = true ∧ jn T h = i := by
    intro n
    induction n with
    | zero => intro hi; simp [jn] at hi
    | succ n ih =>
      intro hi
      simp only [jn] at hi
      by_cases q : T n = true
      · rw [if_pos q] at hi
        by_cases e : i = jn T n
        · exact ⟨n, by omega, q, e.symm⟩
        · obtain ⟨h, h1, h2, h3⟩ := ih (by omega)
          exact ⟨h, by omega, h2, h3⟩
      · rw [if_neg q] at hi
        obtain ⟨h, h1, h2, h3⟩ := ih (by omega)
        exact ⟨h, by omega, h2, h3⟩
  obtain ⟨h, h1, h2, h3⟩ := ex0 n hi
  have := glF_at h1 h2
  rw [h3] at this
  rw [this]
  exact ⟨h1, h2, h3⟩
set_option maxRecDepth 100000 in
theorem choose_ok {d : Nat} {σ : jMem} {K : Option Value → jMem → Prop} {n : Nat} {hp : Nat → Int} (hc : σ 1 5 = (n : Int)) (hn : n ≤ 40) (hV : HV n hp) (hI : HI hp σ)
    (hK : ∀ σ' : jMem, σ' 18 6 = (jn (grT n hp) n : Int) → (∀ i, i < jn (grT n hp) n → σ' 20 i = (glF (grT n hp) n i : Int)) → (∀ j, j ≠ 6 → σ' 18 j = σ 18 j) → (∀ c, c ≠ 18 → c ≠ 20 → σ' c = σ c) → K none σ') : jRun (d + 2) mX1_choose [.ref 18] σ K := by
  refine jenter (lv := [_, _, _, _, _]) rfl rfl (Nat.le_of_ble_eq_true rfl) ?_
  refine jr_lconst (pc' := 1) (x := jk (chT n hp 0)) gM dX1_choose_0 rfl (by rw [show jk (chT n hp 0) = 0 from jk_zero.mpr (fun _ _ => rfl)]; rfl) ?_
  refine jr_lstore_n (pc' := 2) (lv' := [_, _, _, _, _]) gM dX1_choose_1 rfl rfl (Nat.le_of_ble_eq_true rfl) ?_
  refine jr_iconst (pc' := 3) gM dX1_choose_2 rfl ?_
  refine jr_istore_n (pc' := 4) (lv' := [_, _, _, _, _]) gM dX1_choose_3 rfl rfl (Nat.le_of_ble_eq_true rfl) ?_
  have lp : ∀ t, t ≤ 5 → ∀ q4 : Option Value, jV (jP mX1_choose (d + 2) K) 4 [some (.ref 18), some (.long (jL (jk (chT n hp t)))), none, some (.int (jI (t : Int))), q4] [] σ := by
    refine jdown 5 ?_
    intro t ht ih q4
    refine jr_iload_n (pc' := 5) gM dX1_choose_4 rfl rfl ?_
    refine jr_iconst (pc' := 6) gM dX1_choose_5 rfl ?_
    refine jr_icmp_ge (tgt := 36) (pc' := 9) gM dX1_choose_6 rfl rfl ⟨by omega, by omega⟩ ⟨by omega, by omega⟩ (fun c6 => ?_) (fun c6 => ?_)
    · have et : t = 5 := by omega
      subst et
      have ej : jk (chT n hp 5) = jk (fun h => decide (h < n) && grT n hp h) := jk_congr (fun h hh => by
        by_cases q : h < n
        · rw [chT_grT hV hn q]
          simp [q]
        · by_cases z : chT n hp 5 h = true
          · exact absurd ((chT_spec hV hn 5).1 h z).1 q
          · simp [q]
            simpa using z)
      rw [ej]
      have hg5 := grT_le hV hn
      refine jr_aload_n (pc' := 37) gM dX1_choose_36 rfl rfl ?_
      refine jr_iconst (pc' := 38) gM dX1_choose_37 rfl ?_
      refine jr_pf (pc' := 41) gM dX1_choose_38 rfl fX1_46 rfl rfl ⟨rfl, by decide +kernel⟩ ?_
      refine jr_iconst (pc' := 42) gM dX1_choose_41 rfl ?_
      refine jr_istore_n (pc' := 43) (lv' := [_, _, _, _, _]) gM dX1_choose_42 rfl rfl (Nat.le_of_ble_eq_true rfl) ?_
      have lp2 : ∀ i, i ≤ n → ∀ σ1 : jMem, σ1 18 6 = (jn (grT n hp) i : Int) → (∀ h, h < i → grT n hp h = true → σ1 20 (jn (grT n hp) h) = (h : Int)) → (∀ j, j ≠ 6 → σ1 18 j = σ 18 j) → (∀ c, c ≠ 18 → c ≠ 20 → σ1 c = σ c) → jV (jP mX1_choose (d + 2) K) 43 [some (.ref 18), some (.long (jL (jk (fun h => decide (h < n) && grT n hp h)))), none, some (.int (jI (i : Int))), q4] [] σ1 := by
        refine jdown n ?_
        intro i hi ihi σ1 g6 g20 g18 gc
        refine jr_iload_n (pc' := 44) gM dX1_choose_43 rfl rfl ?_
        refine jr_aload_n (pc' := 45) gM dX1_choose_44 rfl rfl ?_
        refine jr_gfr (pc' := 48) gM dX1_choose_45 rfl fX1_9 rfl rfl ?_
        refine jr_gfi (pc' := 51) gM dX1_choose_48 rfl fX1_90 rfl rfl ?_
        rw [gc 1 (by omega) (by omega)]
        refine jr_icmp_ge (tgt := 96) (pc' := 54) gM dX1_choose_51 rfl rfl ⟨by omega, by omega⟩ ⟨by omega, by omega⟩ (fun c51 => ?_) (fun c51 => ?_)
        · refine jr_vreturn dX1_choose_96 rfl ?_
          have e : i = n := by omega
          subst e
          refine hK σ1 g6 (fun j hj => ?_) g18 gc
          obtain ⟨z1, z2, z3⟩ := glF_spec hj
          have := g20 _ z1 z2
          rw [z3] at this
          exact this
        · refine jr_lload_n (pc' := 55) gM dX1_choose_54 rfl rfl ?_
          refine jr_iload_n (pc' := 56) gM dX1_choose_55 rfl rfl ?_
          refine jr_inn (pc' := 59) (as := [_, _]) gM dX1_choose_56 rfl kX1_91 rfl rfl (Nat.le_of_ble_eq_true rfl) ?_
          refine holds_ok (by omega) ?_
          dsimp only [Option.toList, List.cons_append, List.nil_append]
          refine jr_pb_eq (tgt := 90) (pc' := 62) gM dX1_choose_59 rfl rfl (fun c59 => ?_) (fun c59 => ?_)
          · have z : ¬ grT n hp i = true := fun q => c59 (by simp [q]; omega)
            refine jr_iinc (pc' := 93) (lv' := [_, _, _, _, _]) gM dX1_choose_90 rfl rfl rfl ?_
            refine jr_goto (tgt := 43) gM dX1_choose_93 rfl ?_
            refine ihi (i + 1) (by omega) (by omega) σ1 ?_ (fun h hh q => ?_) g18 gc
            · simp only [jn]
              rw [if_neg z]
              exact g6
            · by_cases e : h = i
              · subst e
                exact absurd q z
              · exact g20 h (by omega) q
          · have z : grT n hp i = true := by
              simp only [Bool.and_eq_true] at c59
              exact c59.2
            have hlt : jn (grT n hp) (i + 1) ≤ jn (grT n hp) n := jn_le_of (by omega)
            simp only [jn, if_pos z] at hlt
            refine jr_aload_n (pc' := 63) gM dX1_choose_62 rfl rfl ?_
            refine jr_gfi (pc' := 66) gM dX1_choose_63 rfl fX1_46 rfl rfl ?_
            refine jr_iconst (pc' := 67) gM dX1_choose_66 rfl ?_
            rw [g6]
            refine jr_icmp_ge (tgt := 90) (pc' := 70) gM dX1_choose_67 rfl rfl ⟨by omega, by omega⟩ ⟨by omega, by omega⟩ (fun cc => absurd cc (by omega)) (fun _ => ?_)
            refine jr_aload_n (pc' := 71) gM dX1_choose_70 rfl rfl ?_
            refine jr_gfr (pc' := 74) gM dX1_choose_71 rfl fX1_27 rfl rfl ?_
            refine jr_aload_n (pc' := 75) gM dX1_choose_74 rfl rfl ?_
            refine jr_gfi (pc' := 78) gM dX1_choose_75 rfl fX1_46 rfl rfl ?_
            refine jr_iload_n (pc' := 79) gM dX1_choose_78 rfl rfl ?_
            rw [g6]
            refine jr_iast (pc' := 80) (jn (grT n hp) i) gM dX1_choose_79 rfl rfl (rfl) (by omega) (by decide) ?_
            refine jr_aload_n (pc' := 81) gM dX1_choose_80 rfl rfl ?_
            refine jr_dup (pc' := 82) gM dX1_choose_81 rfl rfl ?_
            refine jr_gfi (pc' := 85) gM dX1_choose_82 rfl fX1_46 rfl rfl ?_
            refine jr_iconst (pc' := 86) gM dX1_choose_85 rfl ?_
            refine jr_iadd (pc' := 87) gM dX1_choose_86 rfl ?_
            refine jr_pf (pc' := 90) gM dX1_choose_87 rfl fX1_46 rfl rfl ⟨rfl, by decide +kernel⟩ ?_
            rw [jup_row (show (18 : Nat) ≠ 20 by omega), g6]
            refine jr_iinc (pc' := 93) (lv' := [_, _, _, _, _]) gM dX1_choose_90 rfl rfl rfl ?_
            refine jr_goto (tgt := 43) gM dX1_choose_93 rfl ?_
            refine ihi (i + 1) (by omega) (by omega) _ ?_ (fun h hh q => ?_) (fun j hj => ?_) (fun c q1 q2 => ?_)
            · rw [jup_at]
              simp only [jn, if_pos z]
              omega
            · rw [jup_row (by omega)]
              by_cases e : h = i
              · subst e
                rw [jup_at]
              · have : jn (grT n hp) (h + 1) ≤ jn (grT n hp) i := jn_le_of (by omega)
                simp only [jn, if_pos q] at this
                rw [jup_ne (Or.inr (by omega))]
                exact g20 h (by omega) q
            · rw [jup_ne (Or.inr hj), jup_row (by omega)]
              exact g18 j hj
            · rw [jup_row q1, jup_row q2]
              exact gc c q1 q2
      exact lp2 0 (by omega) _ (by rw [jup_at]; rfl) (fun h hh => absurd hh (by omega)) (fun j hj => jup_ne (Or.inr hj)) (fun c q1 _ => jup_row q1)
    · have h := fun q => ih (t + 1) (by omega) (by omega) q
      simp only [chT] at h
      refine jr_aload_n (pc' := 10) gM dX1_choose_9 rfl rfl ?_
      refine jr_lload_n (pc' := 11) gM dX1_choose_10 rfl rfl ?_
      refine jr_inv (pc' := 14) (as := [_]) gM dX1_choose_11 rfl kX1_83 rfl rfl rfl (Nat.le_of_ble_eq_true rfl) ?_
      refine largestBut_ok hc hn hV hI ?_
      dsimp only [Option.toList, List.cons_append, List.nil_append]
      refine jr_istore (pc' := 16) (lv' := [_, _, _, _, _]) gM dX1_choose_14 rfl rfl (Nat.le_of_ble_eq_true rfl) ?_
      refine jr_iload (pc' := 18) gM dX1_choose_16 rfl rfl ?_
      refine jr_iconst (pc' := 19) gM dX1_choose_18 rfl ?_
      rcases lbF_spec (p := chT n hp t) hV hn n (Nat.le_refl _) with ⟨e, -⟩ | ⟨m, h1, h2, h3, h4, h5⟩
      · rw [e] at h ⊢
        dsimp only at h ⊢
        refine jr_icmp_eq (tgt := 30) (pc' := 22) gM dX1_choose_19 rfl rfl ⟨by omega, by omega⟩ ⟨by omega, by omega⟩ (fun _ => ?_) (fun cc => absurd cc (by omega))
        refine jr_iinc (pc' := 33) (lv' := [_, _, _, _, _]) gM dX1_choose_30 rfl rfl rfl ?_
        refine jr_goto (tgt := 4) gM dX1_choose_33 rfl ?_
        exact h _
      · rw [h2] at h ⊢
        dsimp only at h ⊢
        refine jr_icmp_eq (tgt := 30) (pc' := 22) gM dX1_choose_19 rfl rfl ⟨by omega, by omega⟩ ⟨by omega, by omega⟩ (fun cc => absurd cc (by omega)) (fun _ => ?_)
        refine jr_lload_n (pc' := 23) gM dX1_choose_22 rfl rfl ?_
        refine jr_iload (pc' := 25) gM dX1_choose_23 rfl rfl ?_
        refine jr_inn (pc' := 28) (as := [_]) gM dX1_choose_25 rfl kX1_86 rfl rfl (Nat.le_of_ble_eq_true rfl) ?_
        refine bit_ok (by omega) ?_
        dsimp only [Option.toList, List.cons_append, List.nil_append]
        refine jr_lor (pc' := 29) (jk (fun h => chT n hp t h || decide ((h : Int) = (m : Int)))) gM dX1_choose_28 rfl ((jk_or _ _).trans (congrArg jL (jk_congr (fun v _ => by congr 1; simp only [decide_eq_decide]; omega)))) ?_
        refine jr_lstore_n (pc' := 30) (lv' := [_, _, _, _, _]) gM dX1_choose_29 rfl rfl (Nat.le_of_ble_eq_true rfl) ?_
        refine jr_iinc (pc' := 33) (lv' := [_, _, _, _, _]) gM dX1_choose_30 rfl rfl rfl ?_
        refine jr_goto (tgt := 4) gM dX1_choose_33 rfl ?_
        have := h (some (.int (jI (m : Int))))
        rw [if_neg (show ¬ (m : Int) = -1 by omega)] at this
        exact this
  exact lp 0 (by omega) _
set_option maxRecDepth 100000 in
theorem dtake_ok {d : Nat} {σ : jMem} {K : Option Value → jMem → Prop} {s : Nat} {x : Int} (hs : σ 18 4 = (s : Int)) (hs5 : s ≤ 5) (hK0 : s = 5 → K (some (.int (jI (-1)))) σ) (hK1 : s < 5 → K (some (.int (jI (s : Int)))) (jup (jup σ 19 s x) 18 4 ((s : Int) + 1))) : jRun d mX1_take [.ref 18, .int (jI x)] σ K := by
  refine jenter (lv := [_, _]) rfl rfl (Nat.le_of_ble_eq_true rfl) ?_
  refine jr_aload_n (pc' := 1) gM dX1_take_0 rfl rfl ?_
  refine jr_gfi (pc' := 4) gM dX1_take_1 rfl fX1_39 rfl rfl ?_
  refine jr_iconst (pc' := 5) gM dX1_take_4 rfl ?_
  rw [hs]
  refine jr_icmp_lt (tgt := 10) (pc' := 8) gM dX1_take_5 rfl rfl ⟨by omega, by omega⟩ ⟨by omega, by omega⟩ (fun c5 => ?_) (fun c5 => ?_)
  · refine jr_aload_n (pc' := 11) gM dX1_take_10 rfl rfl ?_
    refine jr_gfr (pc' := 14) gM dX1_take_11 rfl fX1_23 rfl rfl ?_
    refine jr_aload_n (pc' := 15) gM dX1_take_14 rfl rfl ?_
    refine jr_gfi (pc' := 18) gM dX1_take_15 rfl fX1_39 rfl rfl ?_
    refine jr_iload_n (pc' := 19) gM dX1_take_18 rfl rfl ?_
    rw [hs]
    refine jr_iast (pc' := 20) (s) gM dX1_take_19 rfl rfl (rfl) (by omega) (by decide) ?_
    refine jr_aload_n (pc' := 21) gM dX1_take_20 rfl rfl ?_
    refine jr_dup (pc' := 22) gM dX1_take_21 rfl rfl ?_
    refine jr_gfi (pc' := 25) gM dX1_take_22 rfl fX1_39 rfl rfl ?_
    refine jr_iconst (pc' := 26) gM dX1_take_25 rfl ?_
    refine jr_iadd (pc' := 27) gM dX1_take_26 rfl ?_
    refine jr_pf (pc' := 30) gM dX1_take_27 rfl fX1_39 rfl rfl ⟨rfl, by decide +kernel⟩ ?_
    refine jr_aload_n (pc' := 31) gM dX1_take_30 rfl rfl ?_
    refine jr_gfi (pc' := 34) gM dX1_take_31 rfl fX1_39 rfl rfl ?_
    refine jr_iconst (pc' := 35) gM dX1_take_34 rfl ?_
    refine jr_isub (pc' := 36) gM dX1_take_35 rfl ?_
    rw [jup_at, jup_row (show (18 : Nat) ≠ 19 by omega), hs]
    refine jr_ireturn dX1_take_36 rfl ?_
    rw [show (s : Int) + 1 - 1 = (s : Int) by omega]
    exact hK1 (by omega)
  · refine jr_iconst (pc' := 9) gM dX1_take_8 rfl ?_
    refine jr_ireturn dX1_take_9 rfl ?_
    exact hK0 (by omega)
