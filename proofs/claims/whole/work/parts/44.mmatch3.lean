/-! ===== the reference: matches, matched, sum ===== -/
section jNa
variable {n : Nat} {nb : Nat → Nat} {yr wt hp : Nat → Int} {pr ga sh fe : Int} {m : Nat} {ba bb : Nat → Nat} {bm : Nat → Int} {s : Nat} {se : Nat → Nat} {sp : Int} {σ : jMem} {K : Option Value → jMem → Prop} {d : Nat}
theorem pow6 {i : Nat} (hs : s ≤ 5) (hi : i ≤ 5) : (s + 1) ^ i ≤ 7776 := Nat.le_trans (Nat.pow_le_pow_left (show s + 1 ≤ 6 by omega) i) (Nat.le_trans (Nat.pow_le_pow_right (show 0 < 6 by omega) hi) (by decide))
/-- a memory of the reference but for its matching -/
def mOf (σ σ' : jMem) : Prop := (∀ j, j ≠ 20 → σ' 24 j = σ 24 j) ∧ ∀ c, c ≠ 24 → c ≠ 35 → c ≠ 36 → σ' c = σ c
theorem MI.mat {σ' : jMem} (h : MI n nb yr wt hp pr ga sh fe m ba bb bm s se sp σ) (q : mOf σ σ') : MI n nb yr wt hp pr ga sh fe m ba bb bm s se sp σ' := h.of q.1 (fun c q1 q2 => q.2 c (by omega) (by omega) (by omega))
theorem beF_at {x : Int} (h : x ≠ 1000000000) : beF x = x := if_neg h
set_option maxRecDepth 100000 in
theorem matches_ok (f0 : Nat → Int) (hC : MI n nb yr wt hp pr ga sh fe m ba bb bm s se sp σ)
    (hK : ∀ σ' : jMem, mOf σ σ' → σ' 24 20 = (maF n nb wt hp s se f0).1 → (∀ i, i < jn (grT n hp) n → σ' 35 i = (glF (grT n hp) n i : Int)) → (∀ i, i < jn (grT n hp) n → ∃ q : Nat, q ≤ s ∧ σ' 36 i = (q : Int) ∧ (maF n nb wt hp s se f0).2 i = cvS s q) → K (some (.int (jI (jn (grT n hp) n : Int)))) σ') : jRun (d + 6) mX8_matches [.ref 24] σ K := by
  have hn := hC.1.2
  have hV := hC.2.2.2.2.1
  have hs5 := hC.2.2.2.2.2.2.2.2.2.2.2.2.1.2.1
  have hg5 := grT_le hV hn
  have hsp : ∀ i, i < jn (grT n hp) n → glF (grT n hp) n i < n ∧ hp (glF (grT n hp) n i) = (glF (grT n hp) n i : Int) := by
    intro i hi
    obtain ⟨w1, w2, w3⟩ := glF_spec hi
    refine ⟨w1, ?_⟩
    unfold grT at w2
    simp only [Bool.and_eq_true, decide_eq_true_eq] at w2
    exact w2.1
  have hma := vtF_way (s := s) (dist := diF n nb wt hp se) (fun p t => (jfar_le (fun k hk => (hC.2.2.2.1 k hk).2)).2) (jn (grT n hp) n) 0 (jn (grT n hp) n - s) (fun _ => false) 0 (fun _ => 0) (1000000000, f0) (by
    rw [show jn (fun _ => false) s = 0 from jn_zero.mpr (fun _ _ => rfl)]
    omega)
  have hdr : ∀ p t, 0 ≤ diF n nb wt hp se p t ∧ diF n nb wt hp se p t ≤ 180 := fun p t => jfar_le (fun k hk => (hC.2.2.2.1 k hk).2)
  have hblk := vtF_blk (s := s) (g := jn (grT n hp) n) (dist := diF n nb wt hp se) (jn (grT n hp) n) 0 0 (jn (grT n hp) n - s) (fun _ => false) 0 (fun _ => 0) (1000000000, f0) (1000000000, f0) (by omega) (fun j hj => absurd hj (by omega)) (fun t _ => Iff.intro (fun q => (Bool.false_ne_true q).elim) (fun q => q.elim (fun i hi => absurd hi.1 (by omega)))) (jn_zero.mpr (fun _ _ => rfl)) rfl rfl (fun i hi => absurd hi (by omega)) ⟨rfl, Int.le_refl _, Or.inl rfl⟩
  change vR (jn (grT n hp) n) _ (maF n nb wt hp s se f0) at hblk
  change (maF n nb wt hp s se f0).1 ≤ _ at hma
  generalize hF : (fun r => mvF s (diF n nb wt hp se) (jn (grT n hp) n) (0 * (s + 1) ^ jn (grT n hp) n + r)) = F at *
  have hFe : ∀ r a, F r a = mvF s (diF n nb wt hp se) (jn (grT n hp) n) r a := fun r a => by rw [← hF]; show mvF s (diF n nb wt hp se) (jn (grT n hp) n) (0 * (s + 1) ^ jn (grT n hp) n + r) a = _; rw [Nat.zero_mul, Nat.zero_add]
  generalize maF n nb wt hp s se f0 = res at *
  have hpow := fun i (hi : i ≤ 5) => pow6 (s := s) (i := i) hs5 hi
  -- the codes
  have codes : ∀ σ0 : jMem, mOf σ σ0 → (∀ i, i < jn (grT n hp) n → σ0 35 i = (glF (grT n hp) n i : Int)) → ∀ i, i ≤ (s + 1) ^ jn (grT n hp) n → ∀ (σ1 : jMem) (q5 q6 q7 : Option Value), mOf σ σ1 → σ1 35 = σ0 35 → σ1 24 20 = beF (vfo F i (1000000000, f0)).1 → 0 ≤ (vfo F i (1000000000, f0)).1 ∧ (vfo F i (1000000000, f0)).1 ≤ 1000000000 → ((vfo F i (1000000000, f0)).1 = 1000000000 ∨ ∀ p, p < jn (grT n hp) n → ∃ q : Nat, q ≤ s ∧ σ1 36 p = (q : Int) ∧ (vfo F i (1000000000, f0)).2 p = cvS s q) → jV (jP mX8_matches (d + 6) K) 96 [some (.ref 24), some (.int (jI (jn (grT n hp) n : Int))), some (.int (jI (((s + 1) ^ jn (grT n hp) n : Nat) : Int))), some (.int (jI ((min (jn (grT n hp) n) s : Nat) : Int))), some (.int (jI (i : Int))), q5, q6, q7] [] σ1 := by
    intro σ0 m0 h35
    have hpg := hpow (jn (grT n hp) n) hg5
    refine jdown ((s + 1) ^ jn (grT n hp) n) ?_
    intro i hi ih σ1 q5 q6 q7 m1 e35 e20 hr hmem
    have hbe : beF (vfo F i (1000000000, f0)).1 = if (vfo F i (1000000000, f0)).1 = 1000000000 then -1 else (vfo F i (1000000000, f0)).1 := rfl
    have hbr : -1 ≤ beF (vfo F i (1000000000, f0)).1 ∧ beF (vfo F i (1000000000, f0)).1 ≤ 1000000000 := by
      rw [hbe]
      split <;> omega
    refine jr_iload (pc' := 98) gM dX8_matches_96 rfl rfl ?_
    refine jr_iload_n (pc' := 99) gM dX8_matches_98 rfl rfl ?_
    refine jr_icmp_ge (tgt := 197) (pc' := 102) gM dX8_matches_99 rfl rfl ⟨by omega, by omega⟩ ⟨by omega, by omega⟩ (fun c99 => ?_) (fun c99 => ?_)
    · have e : i = (s + 1) ^ jn (grT n hp) n := by omega
      subst e
      refine jr_iload_n (pc' := 198) gM dX8_matches_197 rfl rfl ?_
      refine jr_ireturn dX8_matches_198 rfl ?_
      obtain ⟨r1, r2, r3⟩ := hblk
      refine hK σ1 m1 ?_ (fun p hp => by rw [e35]; exact h35 p hp) (fun p hp => ?_)
      · rw [e20, r1, beF_at (by omega)]
      · rcases r3 with r3 | r3
        · omega
        · rcases hmem with z | z
          · omega
          · rw [← r3 p hp]
            exact z p hp
    · have hC1 := hC.mat m1
      have nxt := fun (σ2 : jMem) (q5 q6 q7 : Option Value) => ih (i + 1) (by omega) (by omega) σ2 q5 q6 q7
      have hst : vfo F (i + 1) (1000000000, f0) = mvF s (diF n nb wt hp se) (jn (grT n hp) n) i (vfo F i (1000000000, f0)) := by
        rw [← hFe]
        rfl
      rw [hst] at nxt
      generalize vfo F i (1000000000, f0) = acc at *
      have hsm := smF_r (s := s) hdr (D := dg s (jn (grT n hp) n) i) (g := jn (grT n hp) n)
      have skip : mvF s (diF n nb wt hp se) (jn (grT n hp) n) i acc = acc → ∀ q5 : Option Value, jV (jP mX8_matches (d + 6) K) 191 [some (.ref 24), some (.int (jI (jn (grT n hp) n : Int))), some (.int (jI (((s + 1) ^ jn (grT n hp) n : Nat) : Int))), some (.int (jI ((min (jn (grT n hp) n) s : Nat) : Int))), some (.int (jI (i : Int))), q5, q6, q7] [] σ1 := by
        intro e q5
        rw [e] at nxt
        refine jr_iinc (pc' := 194) (lv' := [_, _, _, _, _, _, _, _]) gM dX8_matches_191 rfl rfl rfl ?_
        refine jr_goto (tgt := 96) gM dX8_matches_194 rfl ?_
        exact nxt σ1 q5 q6 q7 m1 e35 e20 hr hmem
      refine jr_aload_n (pc' := 103) gM dX8_matches_102 rfl rfl ?_
      refine jr_iload (pc' := 105) gM dX8_matches_103 rfl rfl ?_
      refine jr_iload_n (pc' := 106) gM dX8_matches_105 rfl rfl ?_
      refine jr_iload_n (pc' := 107) gM dX8_matches_106 rfl rfl ?_
      refine jr_inv (pc' := 110) (as := [_, _, _]) gM dX8_matches_107 rfl kX8_145 rfl rfl rfl (Nat.le_of_ble_eq_true rfl) ?_
      refine sumOf_ok (gl := glF (grT n hp) n) hC1 hg5 (by omega) (by omega) (fun p hp => by rw [e35]; exact h35 p hp) hsp (fun hno => ?_) (fun hok => ?_)
      · dsimp only [Option.toList, List.cons_append, List.nil_append]
        refine jr_istore (pc' := 112) (lv' := [_, _, _, _, _, _, _, _]) gM dX8_matches_110 rfl rfl (Nat.le_of_ble_eq_true rfl) ?_
        refine jr_iload (pc' := 114) gM dX8_matches_112 rfl rfl ?_
        refine jr_iconst (pc' := 115) gM dX8_matches_114 rfl ?_
        refine jr_icmp_eq (tgt := 191) (pc' := 118) gM dX8_matches_115 rfl rfl ⟨by omega, by omega⟩ ⟨by omega, by omega⟩ (fun _ => ?_) (fun cc => absurd cc (by omega))
        refine skip ?_ _
        unfold mvF
        exact if_neg (fun q => hno ⟨q.1, q.2.1⟩)
      · have take : smF s (diF n nb wt hp se) (dg s (jn (grT n hp) n) i) (jn (grT n hp) n) < acc.1 → jV (jP mX8_matches (d + 6) K) 138 [some (.ref 24), some (.int (jI (jn (grT n hp) n : Int))), some (.int (jI (((s + 1) ^ jn (grT n hp) n : Nat) : Int))), some (.int (jI ((min (jn (grT n hp) n) s : Nat) : Int))), some (.int (jI (i : Int))), some (.int (jI (smF s (diF n nb wt hp se) (dg s (jn (grT n hp) n) i) (jn (grT n hp) n)))), q6, q7] [] σ1 := by
          intro hlt
          have ev : mvF s (diF n nb wt hp se) (jn (grT n hp) n) i acc = (smF s (diF n nb wt hp se) (dg s (jn (grT n hp) n) i) (jn (grT n hp) n), fun p => cvS s (dg s (jn (grT n hp) n) i p)) := if_pos ⟨hok.1, hok.2, hlt⟩
          rw [ev] at nxt
          dsimp only at nxt
          generalize hg : jn (grT n hp) n = g at *
          generalize smF s (diF n nb wt hp se) (dg s g i) g = v at *
          refine jr_aload_n (pc' := 139) gM dX8_matches_138 rfl rfl ?_
          refine jr_iload (pc' := 141) gM dX8_matches_139 rfl rfl ?_
          refine jr_pf (pc' := 144) gM dX8_matches_141 rfl fX8_142 rfl rfl ⟨rfl, by decide +kernel⟩ ?_
          refine jr_iload (pc' := 146) gM dX8_matches_144 rfl rfl ?_
          refine jr_istore (pc' := 148) (lv' := [_, _, _, _, _, _, _, _]) gM dX8_matches_146 rfl rfl (Nat.le_of_ble_eq_true rfl) ?_
          refine jr_iload_n (pc' := 149) gM dX8_matches_148 rfl rfl ?_
          refine jr_iconst (pc' := 150) gM dX8_matches_149 rfl ?_
          refine jr_isub (pc' := 151) gM dX8_matches_150 rfl ?_
          refine jr_istore (pc' := 153) (lv' := [_, _, _, _, _, _, _, _]) gM dX8_matches_151 rfl rfl (Nat.le_of_ble_eq_true rfl) ?_
          have wr : ∀ j, j ≤ g → ∀ (σ2 : jMem), mOf σ σ2 → σ2 35 = σ0 35 → σ2 24 20 = v → (∀ p, g - j ≤ p → p < g → σ2 36 p = (dg s g i p : Int)) → jV (jP mX8_matches (d + 6) K) 153 [some (.ref 24), some (.int (jI (g : Int))), some (.int (jI (((s + 1) ^ g : Nat) : Int))), some (.int (jI ((min g s : Nat) : Int))), some (.int (jI (i : Int))), some (.int (jI v)), some (.int (jI ((i / (s + 1) ^ j : Nat) : Int))), some (.int (jI ((g : Int) - 1 - (j : Int))))] [] σ2 := by
            refine jdown g ?_
            intro j hj ihj σ2 m2 w35 w20 w36
            refine jr_iload (pc' := 155) gM dX8_matches_153 rfl rfl ?_
            refine jr_if_lt (tgt := 191) (pc' := 158) gM dX8_matches_155 rfl rfl ⟨by omega, by omega⟩ (fun c155 => ?_) (fun c155 => ?_)
            · refine jr_iinc (pc' := 194) (lv' := [_, _, _, _, _, _, _, _]) gM dX8_matches_191 rfl rfl rfl ?_
              refine jr_goto (tgt := 96) gM dX8_matches_194 rfl ?_
              refine nxt σ2 _ _ _ m2 w35 (by rw [w20, beF_at (by omega)]) (by omega) (Or.inr (fun p hp => ⟨dg s g i p, dg_lt _ _ _ _, w36 p (by omega) hp, rfl⟩))
            · obtain ⟨k, hk⟩ : ∃ k, g - j = k + 1 := ⟨g - j - 1, by omega⟩
              have hs2 : σ2 24 14 = (s : Int) := by rw [m2.1 14 (by omega)]; exact hC.2.2.2.2.2.2.2.2.2.2.2.2.1.1
              have hcd : i / (s + 1) ^ j ≤ i := Nat.div_le_self _ _
              have edm : ((i / (s + 1) ^ j : Nat) : Int) % ((s : Int) + 1) = ((dg s g i k : Nat) : Int) := by
                unfold dg
                rw [show g - 1 - k = j by omega]
                rfl
              have edd : ((i / (s + 1) ^ j : Nat) : Int) / ((s : Int) + 1) = ((i / (s + 1) ^ (j + 1) : Nat) : Int) := by
                rw [Nat.pow_succ, ← Nat.div_div_eq_div_mul]
                rfl
              have nx2 := ihj (j + 1) (by omega) (by omega)
              rw [← edd, show (g : Int) - 1 - ((j + 1 : Nat) : Int) = (k : Int) + -1 by omega] at nx2
              rw [show (g : Int) - 1 - (j : Int) = (k : Int) by omega]
              generalize i / (s + 1) ^ j = L at *
              refine jr_aload_n (pc' := 159) gM dX8_matches_158 rfl rfl ?_
              refine jr_gfr (pc' := 162) gM dX8_matches_159 rfl fX8_57 rfl rfl ?_
              refine jr_iload (pc' := 164) gM dX8_matches_162 rfl rfl ?_
              refine jr_iload (pc' := 166) gM dX8_matches_164 rfl rfl ?_
              refine jr_aload_n (pc' := 167) gM dX8_matches_166 rfl rfl ?_
              refine jr_gfi (pc' := 170) gM dX8_matches_167 rfl fX8_136 rfl rfl ?_
              rw [hs2]
              refine jr_iconst (pc' := 171) gM dX8_matches_170 rfl ?_
              refine jr_iadd (pc' := 172) gM dX8_matches_171 rfl ?_
              refine jr_irem (pc' := 173) gM dX8_matches_172 rfl (by omega) (by omega) ?_
              rw [edm]
              refine jr_iast (pc' := 174) (k) gM dX8_matches_173 rfl rfl (rfl) (by omega) (by decide) ?_
              refine jr_iload (pc' := 176) gM dX8_matches_174 rfl rfl ?_
              refine jr_aload_n (pc' := 177) gM dX8_matches_176 rfl rfl ?_
              refine jr_gfi (pc' := 180) gM dX8_matches_177 rfl fX8_136 rfl rfl ?_
              rw [jup_row (show (24 : Nat) ≠ 36 by omega), hs2]
              refine jr_iconst (pc' := 181) gM dX8_matches_180 rfl ?_
              refine jr_iadd (pc' := 182) gM dX8_matches_181 rfl ?_
              refine jr_idiv (pc' := 183) gM dX8_matches_182 rfl (by omega) (by omega) ?_
              refine jr_istore (pc' := 185) (lv' := [_, _, _, _, _, _, _, _]) gM dX8_matches_183 rfl rfl (Nat.le_of_ble_eq_true rfl) ?_
              refine jr_iinc (pc' := 188) (lv' := [_, _, _, _, _, _, _, _]) gM dX8_matches_185 rfl rfl rfl ?_
              refine jr_goto (tgt := 153) gM dX8_matches_188 rfl ?_
              refine nx2 _ ⟨fun j hj => by rw [jup_row (by omega)]; exact m2.1 j hj, fun c q1 q2 q3 => by rw [jup_row q3]; exact m2.2 c q1 q2 q3⟩ (by rw [jup_row (by omega)]; exact w35) (by rw [jup_row (by omega)]; exact w20) (fun p h1 h2 => ?_)
              by_cases e : p = k
              · subst e
                rw [jup_at]
              · rw [jup_ne (Or.inr e)]
                exact w36 p (by omega) h2
          have st := wr 0 (by omega) (jup σ1 24 20 v) ⟨fun j hj => by rw [jup_ne (Or.inr hj)]; exact m1.1 j hj, fun c q1 q2 q3 => by rw [jup_row q1]; exact m1.2 c q1 q2 q3⟩ (by rw [jup_row (by omega)]; exact e35) (by rw [jup_at]) (fun p h1 h2 => absurd h1 (by omega))
          rw [Nat.pow_zero, Nat.div_one, show (g : Int) - 1 - ((0 : Nat) : Int) = (g : Int) - 1 by omega] at st
          exact st
        have ntk : ¬ smF s (diF n nb wt hp se) (dg s (jn (grT n hp) n) i) (jn (grT n hp) n) < acc.1 → mvF s (diF n nb wt hp se) (jn (grT n hp) n) i acc = acc := fun q => if_neg (fun z => q z.2.2)
        dsimp only [Option.toList, List.cons_append, List.nil_append]
        change jV (jP mX8_matches (d + 6) K) 110 [_, _, _, _, _, _, _, _] [.int (jI (smF s (diF n nb wt hp se) (dg s (jn (grT n hp) n) i) (jn (grT n hp) n)))] σ1
        refine jr_istore (pc' := 112) (lv' := [_, _, _, _, _, _, _, _]) gM dX8_matches_110 rfl rfl (Nat.le_of_ble_eq_true rfl) ?_
        refine jr_iload (pc' := 114) gM dX8_matches_112 rfl rfl ?_
        refine jr_iconst (pc' := 115) gM dX8_matches_114 rfl ?_
        refine jr_icmp_eq (tgt := 191) (pc' := 118) gM dX8_matches_115 rfl rfl ⟨by omega, by omega⟩ ⟨by omega, by omega⟩ (fun cc => absurd cc (by omega)) (fun _ => ?_)
        refine jr_aload_n (pc' := 119) gM dX8_matches_118 rfl rfl ?_
        refine jr_gfi (pc' := 122) gM dX8_matches_119 rfl fX8_142 rfl rfl ?_
        rw [e20]
        refine jr_iconst (pc' := 123) gM dX8_matches_122 rfl ?_
        refine jr_icmp_eq (tgt := 138) (pc' := 126) gM dX8_matches_123 rfl rfl ⟨by omega, by omega⟩ ⟨by omega, by omega⟩ (fun c123 => ?_) (fun c123 => ?_)
        · refine take ?_
          rw [hbe] at c123
          split at c123 <;> omega
        · have hb2 : beF acc.1 = acc.1 := by
            rw [hbe] at c123 ⊢
            split at c123
            · omega
            · rw [if_neg (by assumption)]
          refine jr_iload (pc' := 128) gM dX8_matches_126 rfl rfl ?_
          refine jr_aload_n (pc' := 129) gM dX8_matches_128 rfl rfl ?_
          refine jr_gfi (pc' := 132) gM dX8_matches_129 rfl fX8_142 rfl rfl ?_
          rw [e20, hb2]
          refine jr_icmp_lt (tgt := 138) (pc' := 135) gM dX8_matches_132 rfl rfl ⟨by omega, by omega⟩ ⟨by omega, by omega⟩ (fun c132 => ?_) (fun c132 => ?_)
          · exact take (by omega)
          · refine jr_goto (tgt := 191) gM dX8_matches_135 rfl ?_
            exact skip (ntk (by omega)) _
  -- the great ones
  have alls : ∀ σ0 : jMem, mOf σ σ0 → (∀ i, i < jn (grT n hp) n → σ0 35 i = (glF (grT n hp) n i : Int)) → ∀ i, i ≤ jn (grT n hp) n → ∀ q4 q5 q6 q7 : Option Value, jV (jP mX8_matches (d + 6) K) 51 [some (.ref 24), some (.int (jI (jn (grT n hp) n : Int))), some (.int (jI (((s + 1) ^ i : Nat) : Int))), some (.int (jI (i : Int))), q4, q5, q6, q7] [] σ0 := by
    intro σ0 m0 h35
    have hs0 : σ0 24 14 = (s : Int) := by rw [m0.1 14 (by omega)]; exact hC.2.2.2.2.2.2.2.2.2.2.2.2.1.1
    refine jdown (jn (grT n hp) n) ?_
    intro i hi ih q4 q5 q6 q7
    refine jr_iload_n (pc' := 52) gM dX8_matches_51 rfl rfl ?_
    refine jr_iload_n (pc' := 53) gM dX8_matches_52 rfl rfl ?_
    refine jr_icmp_ge (tgt := 71) (pc' := 56) gM dX8_matches_53 rfl rfl ⟨by omega, by omega⟩ ⟨by omega, by omega⟩ (fun c53 => ?_) (fun c53 => ?_)
    · have e : i = jn (grT n hp) n := by omega
      have fin : jV (jP mX8_matches (d + 6) K) 87 [some (.ref 24), some (.int (jI (jn (grT n hp) n : Int))), some (.int (jI (((s + 1) ^ i : Nat) : Int))), some (.int (jI (i : Int))), q4, q5, q6, q7] [.int (jI ((min (jn (grT n hp) n) s : Nat) : Int))] σ0 := by
        rw [e]
        refine jr_istore_n (pc' := 88) (lv' := [_, _, _, _, _, _, _, _]) gM dX8_matches_87 rfl rfl (Nat.le_of_ble_eq_true rfl) ?_
        refine jr_aload_n (pc' := 89) gM dX8_matches_88 rfl rfl ?_
        refine jr_iconst (pc' := 90) gM dX8_matches_89 rfl ?_
        refine jr_pf (pc' := 93) gM dX8_matches_90 rfl fX8_142 rfl rfl ⟨rfl, by decide +kernel⟩ ?_
        refine jr_iconst (pc' := 94) gM dX8_matches_93 rfl ?_
        refine jr_istore (pc' := 96) (lv' := [_, _, _, _, _, _, _, _]) gM dX8_matches_94 rfl rfl (Nat.le_of_ble_eq_true rfl) ?_
        refine codes σ0 m0 h35 0 (by omega) _ _ _ _ ⟨fun j hj => by rw [jup_ne (Or.inr hj)]; exact m0.1 j hj, fun c q1 q2 q3 => by rw [jup_row q1]; exact m0.2 c q1 q2 q3⟩ (by rw [jup_row (by omega)]) (by rw [jup_at]; rfl) ⟨show (0 : Int) ≤ 1000000000 by omega, Int.le_refl _⟩ (Or.inl rfl)
      refine jr_iload_n (pc' := 72) gM dX8_matches_71 rfl rfl ?_
      refine jr_aload_n (pc' := 73) gM dX8_matches_72 rfl rfl ?_
      refine jr_gfi (pc' := 76) gM dX8_matches_73 rfl fX8_136 rfl rfl ?_
      rw [hs0]
      refine jr_icmp_ge (tgt := 83) (pc' := 79) gM dX8_matches_76 rfl rfl ⟨by omega, by omega⟩ ⟨by omega, by omega⟩ (fun c76 => ?_) (fun c76 => ?_)
      · refine jr_aload_n (pc' := 84) gM dX8_matches_83 rfl rfl ?_
        refine jr_gfi (pc' := 87) gM dX8_matches_84 rfl fX8_136 rfl rfl ?_
        rw [hs0]
        rw [show min (jn (grT n hp) n) s = s by omega] at fin
        exact fin
      · refine jr_iload_n (pc' := 80) gM dX8_matches_79 rfl rfl ?_
        refine jr_goto (tgt := 87) gM dX8_matches_80 rfl ?_
        rw [show min (jn (grT n hp) n) s = jn (grT n hp) n by omega] at fin
        exact fin
    · have nxt := ih (i + 1) (by omega) (by omega) q4 q5 q6 q7
      rw [Nat.pow_succ, Int.natCast_mul] at nxt
      refine jr_iload_n (pc' := 57) gM dX8_matches_56 rfl rfl ?_
      refine jr_aload_n (pc' := 58) gM dX8_matches_57 rfl rfl ?_
      refine jr_gfi (pc' := 61) gM dX8_matches_58 rfl fX8_136 rfl rfl ?_
      rw [hs0]
      refine jr_iconst (pc' := 62) gM dX8_matches_61 rfl ?_
      refine jr_iadd (pc' := 63) gM dX8_matches_62 rfl ?_
      refine jr_imul (pc' := 64) gM dX8_matches_63 rfl ?_
      refine jr_istore_n (pc' := 65) (lv' := [_, _, _, _, _, _, _, _]) gM dX8_matches_64 rfl rfl (Nat.le_of_ble_eq_true rfl) ?_
      refine jr_iinc (pc' := 68) (lv' := [_, _, _, _, _, _, _, _]) gM dX8_matches_65 rfl rfl rfl ?_
      refine jr_goto (tgt := 51) gM dX8_matches_68 rfl ?_
      exact nxt
  refine jenter (lv := [_, _, _, _, _, _, _, _]) rfl rfl (Nat.le_of_ble_eq_true rfl) ?_
  refine jr_iconst (pc' := 1) gM dX8_matches_0 rfl ?_
  refine jr_istore_n (pc' := 2) (lv' := [_, _, _, _, _, _, _, _]) gM dX8_matches_1 rfl rfl (Nat.le_of_ble_eq_true rfl) ?_
  refine jr_iconst (pc' := 3) gM dX8_matches_2 rfl ?_
  refine jr_istore_n (pc' := 4) (lv' := [_, _, _, _, _, _, _, _]) gM dX8_matches_3 rfl rfl (Nat.le_of_ble_eq_true rfl) ?_
  have lp : ∀ i, i ≤ n → ∀ σ1 : jMem, mOf σ σ1 → (∀ p, p < jn (grT n hp) i → σ1 35 p = (glF (grT n hp) n p : Int)) → jV (jP mX8_matches (d + 6) K) 4 [some (.ref 24), some (.int (jI (jn (grT n hp) i : Int))), some (.int (jI (i : Int))), none, none, none, none, none] [] σ1 := by
    refine jdown n ?_
    intro i hi ih σ1 m1 h35
    have hC1 := hC.mat m1
    have hji := jn_le_of (p := grT n hp) hi
    refine jr_iload_n (pc' := 5) gM dX8_matches_4 rfl rfl ?_
    refine jr_aload_n (pc' := 6) gM dX8_matches_5 rfl rfl ?_
    refine jr_gfi (pc' := 9) gM dX8_matches_6 rfl fX8_60 rfl rfl ?_
    rw [hC1.1.1]
    refine jr_icmp_ge (tgt := 47) (pc' := 12) gM dX8_matches_9 rfl rfl ⟨by omega, by omega⟩ ⟨by omega, by omega⟩ (fun c9 => ?_) (fun c9 => ?_)
    · have e : i = n := by omega
      subst e
      refine jr_iconst (pc' := 48) gM dX8_matches_47 rfl ?_
      refine jr_istore_n (pc' := 49) (lv' := [_, _, _, _, _, _, _, _]) gM dX8_matches_48 rfl rfl (Nat.le_of_ble_eq_true rfl) ?_
      refine jr_iconst (pc' := 50) gM dX8_matches_49 rfl ?_
      refine jr_istore_n (pc' := 51) (lv' := [_, _, _, _, _, _, _, _]) gM dX8_matches_50 rfl rfl (Nat.le_of_ble_eq_true rfl) ?_
      exact alls σ1 m1 h35 0 (by omega) _ _ _ _
    · have nxt := fun (σ2 : jMem) => ih (i + 1) (by omega) (by omega) σ2
      rw [show jn (grT n hp) (i + 1) = jn (grT n hp) i + (if grT n hp i = true then 1 else 0) from rfl] at nxt
      have hle1 : jn (grT n hp) (i + 1) ≤ jn (grT n hp) n := jn_le_of (by omega)
      have hgr : grT n hp i = true ↔ hp i = (i : Int) ∧ jn (fun o => decide (hp o = (o : Int)) && decide (szF hp i < szF hp o ∨ (szF hp o = szF hp i ∧ o < i))) n < 5 := by
        unfold grT
        rw [Bool.and_eq_true, decide_eq_true_eq, decide_eq_true_eq]
      have no : ¬ grT n hp i = true → jV (jP mX8_matches (d + 6) K) 41 [some (.ref 24), some (.int (jI (jn (grT n hp) i : Int))), some (.int (jI (i : Int))), none, none, none, none, none] [] σ1 := by
        intro q
        rw [if_neg q, Nat.add_zero] at nxt
        refine jr_iinc (pc' := 44) (lv' := [_, _, _, _, _, _, _, _]) gM dX8_matches_41 rfl rfl rfl ?_
        refine jr_goto (tgt := 4) gM dX8_matches_44 rfl ?_
        exact nxt σ1 m1 h35
      refine jr_aload_n (pc' := 13) gM dX8_matches_12 rfl rfl ?_
      refine jr_iload_n (pc' := 14) gM dX8_matches_13 rfl rfl ?_
      refine jr_inv (pc' := 17) (as := [_]) gM dX8_matches_14 rfl kX8_123 rfl rfl rfl (Nat.le_of_ble_eq_true rfl) ?_
      refine misHeap_ok hC1.1.1 hn hV hC1.2.2.2.2.2.1 ⟨by omega, by omega⟩ ?_
      dsimp only [Option.toList, List.cons_append, List.nil_append]
      refine jr_pb_eq (tgt := 41) (pc' := 20) gM dX8_matches_17 rfl rfl (fun c17 => ?_) (fun c17 => ?_)
      · exact no (fun q => c17 ⟨by omega, by omega, (hgr.mp q).1⟩)
      · refine jr_aload_n (pc' := 21) gM dX8_matches_20 rfl rfl ?_
        refine jr_iload_n (pc' := 22) gM dX8_matches_21 rfl rfl ?_
        refine jr_inv (pc' := 25) (as := [_]) gM dX8_matches_22 rfl kX8_139 rfl rfl rfl (Nat.le_of_ble_eq_true rfl) ?_
        refine isGreat_ok hC1.1.1 hn hV hC1.2.2.2.2.2.1 (by omega) ?_
        dsimp only [Option.toList, List.cons_append, List.nil_append]
        refine jr_pb_ne (tgt := 31) (pc' := 28) gM dX8_matches_25 rfl rfl (fun c25 => ?_) (fun c25 => ?_)
        · have hT : grT n hp i = true := hgr.mpr ⟨c17.2.2, c25⟩
          rw [show jn (grT n hp) (i + 1) = jn (grT n hp) i + (if grT n hp i = true then 1 else 0) from rfl, if_pos hT] at hle1
          rw [if_pos hT] at nxt
          refine jr_aload_n (pc' := 32) gM dX8_matches_31 rfl rfl ?_
          refine jr_gfr (pc' := 35) gM dX8_matches_32 rfl fX8_54 rfl rfl ?_
          refine jr_iload_n (pc' := 36) gM dX8_matches_35 rfl rfl ?_
          refine jr_iload_n (pc' := 37) gM dX8_matches_36 rfl rfl ?_
          refine jr_iast (pc' := 38) ((jn (grT n hp) i)) gM dX8_matches_37 rfl rfl (rfl) (by omega) (by decide) ?_
          refine jr_iinc (pc' := 41) (lv' := [_, _, _, _, _, _, _, _]) gM dX8_matches_38 rfl rfl rfl ?_
          refine jr_iinc (pc' := 44) (lv' := [_, _, _, _, _, _, _, _]) gM dX8_matches_41 rfl rfl rfl ?_
          refine jr_goto (tgt := 4) gM dX8_matches_44 rfl ?_
          refine nxt _ ⟨fun j hj => by rw [jup_row (by omega)]; exact m1.1 j hj, fun c q1 q2 q3 => by rw [jup_row q2]; exact m1.2 c q1 q2 q3⟩ (fun p hp2 => ?_)
          by_cases e : p = jn (grT n hp) i
          · subst e
            rw [jup_at, glF_at (by omega) hT]
          · rw [jup_ne (Or.inr e)]
            exact h35 p (by omega)
        · refine jr_goto (tgt := 41) gM dX8_matches_28 rfl ?_
          exact no (fun q => c25 (hgr.mp q).2)
  exact lp 0 (by omega) σ ⟨fun _ _ => rfl, fun _ _ _ _ => rfl⟩ (fun p hp => absurd hp (by simp [jn]))
set_option maxRecDepth 100000 in
theorem m_sum (f0 : Nat → Int) (hC : MI n nb yr wt hp pr ga sh fe m ba bb bm s se sp σ)
    (hK : ∀ σ' : jMem, MI n nb yr wt hp pr ga sh fe m ba bb bm s se sp σ' → (∀ c, c < 24 → σ' c = σ c) → K (some (.int (jI (maF n nb wt hp s se f0).1))) σ') : jRun (d + 9) mX8_sum [.ref 24] σ K := by
  refine jenter (lv := [_]) rfl rfl (Nat.le_of_ble_eq_true rfl) ?_
  refine jr_aload_n (pc' := 1) gM dX8_sum_0 rfl rfl ?_
  refine jr_inv (pc' := 4) (as := []) gM dX8_sum_1 rfl kX8_152 rfl rfl rfl (Nat.le_of_ble_eq_true rfl) ?_
  refine matches_ok f0 hC (fun σ' k1 k2 k3 k4 => ?_)
  dsimp only [Option.toList, List.cons_append, List.nil_append]
  refine jr_pop (pc' := 5) gM dX8_sum_4 rfl rfl ?_
  refine jr_aload_n (pc' := 6) gM dX8_sum_5 rfl rfl ?_
  refine jr_gfi (pc' := 9) gM dX8_sum_6 rfl fX8_142 rfl rfl ?_
  rw [k2]
  refine jr_ireturn dX8_sum_9 rfl ?_
  exact hK σ' (hC.mat k1) (fun c hc => k1.2 c (by omega) (by omega) (by omega))
set_option maxRecDepth 100000 in
theorem m_matched {x : Int} (f0 : Nat → Int) (hC : MI n nb yr wt hp pr ga sh fe m ba bb bm s se sp σ) (h1 : jR x)
    (hK0 : ¬ isH n hp x → K (some (.int (jI (-1)))) σ) (hK1 : isH n hp x → ∀ σ' : jMem, MI n nb yr wt hp pr ga sh fe m ba bb bm s se sp σ' → (∀ c, c < 24 → σ' c = σ c) → K (some (.int (jI (if grT n hp x.toNat then (maF n nb wt hp s se f0).2 (jn (grT n hp) x.toNat) else -1)))) σ') : jRun (d + 9) mX8_matched [.ref 24, .int (jI x)] σ K := by
  have hn := hC.1.2
  have hV := hC.2.2.2.2.1
  have hs5 := hC.2.2.2.2.2.2.2.2.2.2.2.2.1.2.1
  have hg5 := grT_le hV hn
  refine jenter (lv := [_, _, _, _]) rfl rfl (Nat.le_of_ble_eq_true rfl) ?_
  refine jr_aload_n (pc' := 1) gM dX8_matched_0 rfl rfl ?_
  refine jr_iload_n (pc' := 2) gM dX8_matched_1 rfl rfl ?_
  refine jr_inv (pc' := 5) (as := [_]) gM dX8_matched_2 rfl kX8_123 rfl rfl rfl (Nat.le_of_ble_eq_true rfl) ?_
  refine misHeap_ok hC.1.1 hn hV hC.2.2.2.2.2.1 h1 ?_
  dsimp only [Option.toList, List.cons_append, List.nil_append]
  refine jr_pb_ne (tgt := 10) (pc' := 8) gM dX8_matched_5 rfl rfl (fun c5 => ?_) (fun c5 => ?_)
  · have hk := hK1 c5
    obtain ⟨k, rfl⟩ := Int.eq_ofNat_of_zero_le c5.1
    rw [show ((k : Int)).toNat = k from rfl] at hk
    refine jr_aload_n (pc' := 11) gM dX8_matched_10 rfl rfl ?_
    refine jr_inv (pc' := 14) (as := []) gM dX8_matched_11 rfl kX8_152 rfl rfl rfl (Nat.le_of_ble_eq_true rfl) ?_
    refine matches_ok f0 hC (fun σ' k1 k2 k3 k4 => ?_)
    have hC' := hC.mat k1
    have hk2 := hk σ' hC' (fun c hc => k1.2 c (by omega) (by omega) (by omega))
    have hs' := hC'.2.2.2.2.2.2.2.2.2.2.2.2.1.1
    dsimp only [Option.toList, List.cons_append, List.nil_append]
    refine jr_istore_n (pc' := 15) (lv' := [_, _, _, _]) gM dX8_matched_14 rfl rfl (Nat.le_of_ble_eq_true rfl) ?_
    refine jr_iconst (pc' := 16) gM dX8_matched_15 rfl ?_
    refine jr_istore_n (pc' := 17) (lv' := [_, _, _, _]) gM dX8_matched_16 rfl rfl (Nat.le_of_ble_eq_true rfl) ?_
    have lp : ∀ i, i ≤ jn (grT n hp) n → (∀ p, p < i → glF (grT n hp) n p ≠ k) → jV (jP mX8_matched (d + 9) K) 17 [some (.ref 24), some (.int (jI (k : Int))), some (.int (jI (jn (grT n hp) n : Int))), some (.int (jI (i : Int)))] [] σ' := by
      refine jdown (jn (grT n hp) n) ?_
      intro i hi ih hno
      refine jr_iload_n (pc' := 18) gM dX8_matched_17 rfl rfl ?_
      refine jr_iload_n (pc' := 19) gM dX8_matched_18 rfl rfl ?_
      refine jr_icmp_ge (tgt := 62) (pc' := 22) gM dX8_matched_19 rfl rfl ⟨by omega, by omega⟩ ⟨by omega, by omega⟩ (fun c19 => ?_) (fun c19 => ?_)
      · refine jr_iconst (pc' := 63) gM dX8_matched_62 rfl ?_
        refine jr_ireturn dX8_matched_63 rfl ?_
        have hT : ¬ grT n hp k = true := by
          intro q
          have h2 : jn (grT n hp) (k + 1) ≤ jn (grT n hp) n := jn_le_of (by omega)
          rw [show jn (grT n hp) (k + 1) = jn (grT n hp) k + (if grT n hp k = true then 1 else 0) from rfl, if_pos q] at h2
          exact hno (jn (grT n hp) k) (by omega) (glF_at (by omega) q)
        rw [if_neg hT] at hk2
        exact hk2
      · obtain ⟨w1, w2, w3⟩ := glF_spec (T := grT n hp) (n := n) (i := i) (by omega)
        refine jr_aload_n (pc' := 23) gM dX8_matched_22 rfl rfl ?_
        refine jr_gfr (pc' := 26) gM dX8_matched_23 rfl fX8_54 rfl rfl ?_
        refine jr_iload_n (pc' := 27) gM dX8_matched_26 rfl rfl ?_
        refine jr_iald (pc' := 28) (i) gM dX8_matched_27 rfl rfl (rfl) (by omega) (by decide) ?_
        rw [k3 i (by omega)]
        refine jr_iload_n (pc' := 29) gM dX8_matched_28 rfl rfl ?_
        refine jr_icmp_ne (tgt := 56) (pc' := 32) gM dX8_matched_29 rfl rfl ⟨by omega, by omega⟩ ⟨by omega, by omega⟩ (fun c29 => ?_) (fun c29 => ?_)
        · refine jr_iinc (pc' := 59) (lv' := [_, _, _, _]) gM dX8_matched_56 rfl rfl rfl ?_
          refine jr_goto (tgt := 17) gM dX8_matched_59 rfl ?_
          refine ih (i + 1) (by omega) (by omega) (fun p hp2 => ?_)
          by_cases e : p = i
          · subst e
            omega
          · exact hno p (by omega)
        · have e : glF (grT n hp) n i = k := by omega
          rw [e] at w2 w3
          rw [if_pos w2, w3] at hk2
          obtain ⟨q, q1, q2, q3⟩ := k4 i (by omega)
          rw [q3] at hk2
          unfold cvS at hk2
          refine jr_aload_n (pc' := 33) gM dX8_matched_32 rfl rfl ?_
          refine jr_gfr (pc' := 36) gM dX8_matched_33 rfl fX8_57 rfl rfl ?_
          refine jr_iload_n (pc' := 37) gM dX8_matched_36 rfl rfl ?_
          refine jr_iald (pc' := 38) (i) gM dX8_matched_37 rfl rfl (rfl) (by omega) (by decide) ?_
          rw [q2]
          refine jr_aload_n (pc' := 39) gM dX8_matched_38 rfl rfl ?_
          refine jr_gfi (pc' := 42) gM dX8_matched_39 rfl fX8_136 rfl rfl ?_
          rw [hs']
          refine jr_icmp_ne (tgt := 49) (pc' := 45) gM dX8_matched_42 rfl rfl ⟨by omega, by omega⟩ ⟨by omega, by omega⟩ (fun c42 => ?_) (fun c42 => ?_)
          · rw [if_neg (by omega)] at hk2
            refine jr_aload_n (pc' := 50) gM dX8_matched_49 rfl rfl ?_
            refine jr_gfr (pc' := 53) gM dX8_matched_50 rfl fX8_57 rfl rfl ?_
            refine jr_iload_n (pc' := 54) gM dX8_matched_53 rfl rfl ?_
            refine jr_iald (pc' := 55) (i) gM dX8_matched_54 rfl rfl (rfl) (by omega) (by decide) ?_
            rw [q2]
            refine jr_ireturn dX8_matched_55 rfl ?_
            exact hk2
          · rw [if_pos (by omega)] at hk2
            refine jr_iconst (pc' := 46) gM dX8_matched_45 rfl ?_
            refine jr_goto (tgt := 55) gM dX8_matched_46 rfl ?_
            refine jr_ireturn dX8_matched_55 rfl ?_
            exact hk2
    exact lp 0 (by omega) (fun p hp => absurd hp (by omega))
  · refine jr_iconst (pc' := 9) gM dX8_matched_8 rfl ?_
    refine jr_ireturn dX8_matched_9 rfl ?_
    exact hK0 c5
end jNa
