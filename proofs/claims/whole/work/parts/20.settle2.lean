/-! ===== Settling: the steps ===== -/
def lfR (n : Nat) (fr bd : Nat → Nat → Int) (price : Int) (hp : Nat → Int) : Option (Nat → Int) := frs (fun u => if hp u = -1 then loR n fr bd price hp u else none) 0 n
theorem loR_HV {n : Nat} {fr bd : Nat → Nat → Int} {price : Int} {hp hp' : Nat → Int} {u : Nat} (hV : HV n hp) (hu : u < n) (h : loR n fr bd price hp u = some hp') : HV n hp' := by
  unfold loR at h
  split at h
  · cases h
    exact alF_HV hV hu
  · split at h
    · cases h
    · cases h
      exact inF_HV hV hu
set_option maxRecDepth 100000 in
theorem layFirst_ok {d : Nat} {σ : jMem} {K : Option Value → jMem → Prop} {n : Nat} {hp : Nat → Int} {fr bd : Nat → Nat → Int} {m : Nat} {price : Int} (hS : SI n hp fr bd m price σ)
    (hK0 : lfR n fr bd price hp = none → ∀ σ' : jMem, (∀ c, c ≠ 13 → σ' c = σ c) → K (some (.int (jI 0))) σ')
    (hK1 : ∀ hp', lfR n fr bd price hp = some hp' → HV n hp' → ∀ σ' : jMem, HI hp' σ' → (∀ c, c ≠ 11 → c ≠ 12 → c ≠ 13 → σ' c = σ c) → K (some (.int (jI 1))) σ') : jRun (d + 5) mX5_layFirst [.ref 14] σ K := by
  have hn := hS.2.1
  refine jenter (lv := [_, _]) rfl rfl (Nat.le_of_ble_eq_true rfl) ?_
  refine jr_iconst (pc' := 1) gM dX5_layFirst_0 rfl ?_
  refine jr_istore_n (pc' := 2) (lv' := [_, _]) gM dX5_layFirst_1 rfl rfl (Nat.le_of_ble_eq_true rfl) ?_
  have lp : ∀ i, i ≤ n → ∀ σ1 : jMem, (∀ c, c ≠ 13 → σ1 c = σ c) → lfR n fr bd price hp = frs (fun u => if hp u = -1 then loR n fr bd price hp u else none) i (n - i) → jV (jP mX5_layFirst (d + 5) K) 2 [some (.ref 14), some (.int (jI (i : Int)))] [] σ1 := by
    refine jdown n ?_
    intro i hi ih σ1 g1 g2
    have hS1 : SI n hp fr bd m price σ1 := hS.of hS.2.2.1 (hS.2.2.2.1.of (g1 11 (by omega)) (g1 12 (by omega))) (fun c _ _ q => g1 c q)
    have o1 := hS1.1
    refine jr_iload_n (pc' := 3) gM dX5_layFirst_2 rfl rfl ?_
    refine jr_aload_n (pc' := 4) gM dX5_layFirst_3 rfl rfl ?_
    refine jr_gfr (pc' := 7) gM dX5_layFirst_4 rfl fX5_9 rfl rfl ?_
    refine jr_gfi (pc' := 10) gM dX5_layFirst_7 rfl fX5_37 rfl rfl ?_
    refine jr_icmp_ge (tgt := 40) (pc' := 13) gM dX5_layFirst_10 rfl rfl ⟨by omega, by omega⟩ ⟨by omega, by omega⟩ (fun c10 => ?_) (fun c10 => ?_)
    · refine jr_iconst (pc' := 41) gM dX5_layFirst_40 rfl ?_
      refine jr_zreturn dX5_layFirst_41 rfl (by first | omega | exact bI_01 _) ?_
      refine hK0 ?_ σ1 g1
      rw [g2, show n - i = 0 by omega]
      rfl
    · rw [show n - i = (n - (i + 1)) + 1 by omega] at g2
      refine jr_aload_n (pc' := 14) gM dX5_layFirst_13 rfl rfl ?_
      refine jr_gfr (pc' := 17) gM dX5_layFirst_14 rfl fX5_19 rfl rfl ?_
      refine jr_iload_n (pc' := 18) gM dX5_layFirst_17 rfl rfl ?_
      refine jr_inv (pc' := 21) (as := [_]) gM dX5_layFirst_18 rfl kX5_42 rfl rfl rfl (Nat.le_of_ble_eq_true rfl) ?_
      refine isOpen_ok hn hS1.2.2.1 hS1.2.2.2.1 (by omega) ?_
      dsimp only [Option.toList, List.cons_append, List.nil_append]
      refine jr_pb_eq (tgt := 34) (pc' := 24) gM dX5_layFirst_21 rfl rfl (fun c21 => ?_) (fun c21 => ?_)
      · refine jr_iinc (pc' := 37) (lv' := [_, _]) gM dX5_layFirst_34 rfl rfl rfl ?_
        refine jr_goto (tgt := 2) gM dX5_layFirst_37 rfl ?_
        refine ih (i + 1) (by omega) (by omega) σ1 g1 ?_
        rw [g2, frs_n (by rw [if_neg c21])]
      · refine jr_aload_n (pc' := 25) gM dX5_layFirst_24 rfl rfl ?_
        refine jr_iload_n (pc' := 26) gM dX5_layFirst_25 rfl rfl ?_
        refine jr_inv (pc' := 29) (as := [_]) gM dX5_layFirst_26 rfl kX5_48 rfl rfl rfl (Nat.le_of_ble_eq_true rfl) ?_
        refine layOpen_ok hS1 (by omega) (fun h0 σ2 k1 => ?_) (fun hp' h1 hV' σ2 k1 k2 => ?_)
        · dsimp only [Option.toList, List.cons_append, List.nil_append]
          refine jr_if_eq (tgt := 34) (pc' := 32) gM dX5_layFirst_29 rfl rfl ⟨by omega, by omega⟩ (fun _ => ?_) (fun cc => absurd cc (by omega))
          refine jr_iinc (pc' := 37) (lv' := [_, _]) gM dX5_layFirst_34 rfl rfl rfl ?_
          refine jr_goto (tgt := 2) gM dX5_layFirst_37 rfl ?_
          refine ih (i + 1) (by omega) (by omega) σ2 (fun c q => by rw [k1 c q]; exact g1 c q) ?_
          rw [g2, frs_n (by rw [if_pos c21]; exact h0)]
        · dsimp only [Option.toList, List.cons_append, List.nil_append]
          refine jr_if_eq (tgt := 34) (pc' := 32) gM dX5_layFirst_29 rfl rfl ⟨by omega, by omega⟩ (fun cc => absurd cc (by omega)) (fun _ => ?_)
          refine jr_iconst (pc' := 33) gM dX5_layFirst_32 rfl ?_
          refine jr_zreturn dX5_layFirst_33 rfl (by first | omega | exact bI_01 _) ?_
          refine hK1 hp' ?_ hV' σ2 k1 (fun c a b q => by rw [k2 c a b q]; exact g1 c q)
          rw [g2, frs_s (by rw [if_pos c21]; exact h1)]
  exact lp 0 (by omega) σ (fun c _ => rfl) rfl
/-- a move's cost now: what the heap costs it, or the price if it is by itself -/
def mvC (n : Nat) (fr : Nat → Nat → Int) (price : Int) (hp : Nat → Int) (u : Nat) : Int := if ∀ v, v < n → v ≠ u → hp v ≠ hp u then price else jbs (fr u) hp n (hp u)
def mvT (n : Nat) (fr bd : Nat → Nat → Int) (price : Int) (hp : Nat → Int) (u h : Nat) : Option (Nat → Int) :=
  if (h : Int) ≠ hp u ∧ hp h = (h : Int) ∧ ((bkF bd hp u h : Int) < bkF bd hp u (hp u) ∨ ((bkF bd hp u h : Int) = bkF bd hp u (hp u) ∧ jbs (fr u) hp n h < mvC n fr price hp u)) then some (inF n hp u h) else none
def mvA (n : Nat) (fr bd : Nat → Nat → Int) (price : Int) (hp : Nat → Int) (u : Nat) : Option (Nat → Int) :=
  if ¬ (∀ v, v < n → v ≠ u → hp v ≠ hp u) ∧ ((bkF bd hp u (-2) : Int) < bkF bd hp u (hp u) ∨ ((bkF bd hp u (-2) : Int) = bkF bd hp u (hp u) ∧ price < mvC n fr price hp u)) then some (alF n hp u) else none
def mvR (n : Nat) (fr bd : Nat → Nat → Int) (price : Int) (hp : Nat → Int) (u : Nat) : Option (Nat → Int) := (frs (mvT n fr bd price hp u) 0 n).or (mvA n fr bd price hp u)
set_option maxRecDepth 100000 in
theorem moveUse_ok {d : Nat} {σ : jMem} {K : Option Value → jMem → Prop} {n : Nat} {hp : Nat → Int} {fr bd : Nat → Nat → Int} {m : Nat} {price : Int} {u : Nat} (hS : SI n hp fr bd m price σ) (hu : u < n) (hop : hp u ≠ -1) (hbd : bd u u = 0)
    (hK0 : mvR n fr bd price hp u = none → ∀ σ' : jMem, (∀ c, c ≠ 13 → σ' c = σ c) → K (some (.int (jI 0))) σ')
    (hK1 : ∀ hp', mvR n fr bd price hp u = some hp' → HV n hp' → ∀ σ' : jMem, HI hp' σ' → (∀ c, c ≠ 11 → c ≠ 12 → c ≠ 13 → σ' c = σ c) → K (some (.int (jI 1))) σ') : jRun (d + 4) mX5_moveUse [.ref 14, .int (jI (u : Int))] σ K := by
  have hbs := fun k => hS.bs hu k
  have hbr := fun k => hS.bsr hu k
  obtain ⟨s1, s2, s3, s4, s5, s6, s7, s8, s9⟩ := hS
  have hbk := fun h => bkF_le bd hp u h
  obtain ⟨k, ek⟩ : ∃ k : Nat, hp u = (k : Int) := by
    rcases s3.cases u with e | e
    · exact absurd e hop
    · exact e
  obtain ⟨l1, l2, l3, l4⟩ := s3.lead ek
  refine jenter (lv := [_, _, _, _, _, _, _, _, _, _, _]) rfl rfl (Nat.le_of_ble_eq_true rfl) ?_
  refine jr_aload_n (pc' := 1) gM dX5_moveUse_0 rfl rfl ?_
  refine jr_gfr (pc' := 4) gM dX5_moveUse_1 rfl fX5_19 rfl rfl ?_
  refine jr_gfr (pc' := 7) gM dX5_moveUse_4 rfl fX5_95 rfl rfl ?_
  refine jr_iload_n (pc' := 8) gM dX5_moveUse_7 rfl rfl ?_
  refine jr_iald (pc' := 9) _ gM dX5_moveUse_8 rfl rfl rfl (by omega) (by decide) ?_
  rw [s4.1 u (by omega), ek]
  refine jr_istore_n (pc' := 10) (lv' := [_, _, _, _, _, _, _, _, _, _, _]) gM dX5_moveUse_9 rfl rfl (Nat.le_of_ble_eq_true rfl) ?_
  refine jr_aload_n (pc' := 11) gM dX5_moveUse_10 rfl rfl ?_
  refine jr_gfr (pc' := 14) gM dX5_moveUse_11 rfl fX5_19 rfl rfl ?_
  refine jr_iload_n (pc' := 15) gM dX5_moveUse_14 rfl rfl ?_
  refine jr_inv (pc' := 18) (as := [_]) gM dX5_moveUse_15 rfl kX5_98 rfl rfl rfl (Nat.le_of_ble_eq_true rfl) ?_
  refine around_ok s2 s3 s4 (by omega) ?_
  dsimp only [Option.toList, List.cons_append, List.nil_append]
  refine jr_iload_n (pc' := 19) gM dX5_moveUse_18 rfl rfl ?_
  refine jr_inn (pc' := 22) (as := [_]) gM dX5_moveUse_19 rfl kX5_55 rfl rfl (Nat.le_of_ble_eq_true rfl) ?_
  refine bit_ok (by omega) ?_
  dsimp only [Option.toList, List.cons_append, List.nil_append]
  refine jr_ldc2 (pc' := 25) gM dX5_moveUse_22 rfl qX5_101 ?_
  refine jr_lxor (pc' := 26) (-1 - jk (fun i => decide (i = u))) gM dX5_moveUse_25 rfl (jL_not _) ?_
  refine jr_land (pc' := 27) (jk (fun v => decide (v ≠ u ∧ hp v = (k : Int)))) gM dX5_moveUse_26 rfl ((jk_andn _ _).trans (congrArg jL (jk_congr (fun v _ => by rw [ek]; by_cases a : v = u <;> by_cases b : hp v = (k : Int) <;> simp [a, b])))) ?_
  refine jr_lstore_n (pc' := 28) (lv' := [_, _, _, _, _, _, _, _, _, _, _]) gM dX5_moveUse_27 rfl rfl (Nat.le_of_ble_eq_true rfl) ?_
  refine jr_aload_n (pc' := 29) gM dX5_moveUse_28 rfl rfl ?_
  refine jr_gfr (pc' := 32) gM dX5_moveUse_29 rfl fX5_19 rfl rfl ?_
  refine jr_inv (pc' := 35) (as := []) gM dX5_moveUse_32 rfl kX5_51 rfl rfl rfl (Nat.le_of_ble_eq_true rfl) ?_
  refine allLaid_ok s1 s2 s3 s4 ?_
  dsimp only [Option.toList, List.cons_append, List.nil_append]
  refine jr_lstore (pc' := 37) (lv' := [_, _, _, _, _, _, _, _, _, _, _]) gM dX5_moveUse_35 rfl rfl (Nat.le_of_ble_eq_true rfl) ?_
  refine jr_aload_n (pc' := 38) gM dX5_moveUse_37 rfl rfl ?_
  refine jr_gfr (pc' := 41) gM dX5_moveUse_38 rfl fX5_19 rfl rfl ?_
  refine jr_iload_n (pc' := 42) gM dX5_moveUse_41 rfl rfl ?_
  refine jr_inn (pc' := 45) (as := [_]) gM dX5_moveUse_42 rfl kX5_55 rfl rfl (Nat.le_of_ble_eq_true rfl) ?_
  refine bit_ok (by omega) ?_
  dsimp only [Option.toList, List.cons_append, List.nil_append]
  refine jr_inv (pc' := 48) (as := [_]) gM dX5_moveUse_45 rfl kX5_59 rfl rfl rfl (Nat.le_of_ble_eq_true rfl) ?_
  refine measure_ok s1 s2 s3 s4 (fun σ1 m1 m2 => ?_)
  dsimp only [Option.toList, List.cons_append, List.nil_append]
  have m3 : ∀ h : Nat, h < 40 → σ1 13 h = jbs (fr u) hp n h := by
    intro h hh
    rw [m2 h hh, js_single (by omega), hbs]
  have o1 : σ1 1 = σ 1 := m1 1 (by omega)
  have o10 : σ1 10 = σ 10 := m1 10 (by omega)
  have hI1 : HI hp σ1 := s4.of (m1 11 (by omega)) (m1 12 (by omega))
  have hB1 : BI bd m σ1 := s5.of (fun c _ _ => m1 c (by omega))
  have hc1 : σ1 1 5 = (n : Int) := by rw [o1]; exact s1
  refine jr_aload_n (pc' := 49) gM dX5_moveUse_48 rfl rfl ?_
  refine jr_gfr (pc' := 52) gM dX5_moveUse_49 rfl fX5_15 rfl rfl ?_
  refine jr_iload_n (pc' := 53) gM dX5_moveUse_52 rfl rfl ?_
  refine jr_lload_n (pc' := 54) gM dX5_moveUse_53 rfl rfl ?_
  refine jr_lload (pc' := 56) gM dX5_moveUse_54 rfl rfl ?_
  refine jr_inv (pc' := 59) (as := [_, _, _]) gM dX5_moveUse_56 rfl kX5_75 rfl rfl rfl (Nat.le_of_ble_eq_true rfl) ?_
  refine brokenBy_ok hB1 (by omega) ?_
  dsimp only [Option.toList, List.cons_append, List.nil_append]
  have eb0 : (jn (fun v => decide (bd u v = 1) && decide (hp v ≠ -1) && !decide (v ≠ u ∧ hp v = (k : Int))) 40 + jn (fun v => decide (bd u v = 2) && decide (v ≠ u ∧ hp v = (k : Int))) 40) = bkF bd hp u (hp u) := by
    unfold bkF
    rw [ek]
    congr 1
    · apply jn_congr
      intro v _
      by_cases a : v = u
      · subst a
        simp [hbd]
      · simp [a]
    · apply jn_congr
      intro v _
      by_cases a : v = u
      · subst a
        simp [hbd]
      · simp [a]
  rw [eb0]
  have hbk0 := hbk (hp u)
  have hrest : jk (fun v => decide (v ≠ u ∧ hp v = (k : Int))) = 0 ↔ ∀ v, v < n → v ≠ u → hp v ≠ hp u := by
    rw [jk_zero, ek]
    constructor
    · intro h v hv hne e
      have := h v (by omega)
      simp [hne, e] at this
    · intro h v hv
      simp only [decide_eq_false_iff_not]
      intro q
      exact h v (s3.lead q.2).2.2.1 q.1 q.2
  have hkr := jk_r (fun v => decide (v ≠ u ∧ hp v = (k : Int)))
  have hmc : 0 ≤ mvC n fr price hp u ∧ mvC n fr price hp u ≤ 7200 := by
    unfold mvC
    have := hbr (hp u)
    split <;> omega
  have main : jV (jP mX5_moveUse (d + 4) K) 88 [some (.ref 14), some (.int (jI (u : Int))), some (.int (jI (k : Int))), some (.long (jL (jk (fun v => decide (v ≠ u ∧ hp v = (k : Int)))))), none, some (.long (jL (jk (fun v => decide (hp v ≠ -1))))), none, some (.int (jI ((bkF bd hp u (hp u) : Nat) : Int))), some (.int (jI (mvC n fr price hp u))), none, none] [] σ1 := by
    refine jr_iconst (pc' := 89) gM dX5_moveUse_88 rfl ?_
    refine jr_istore (pc' := 91) (lv' := [_, _, _, _, _, _, _, _, _, _, _]) gM dX5_moveUse_89 rfl rfl (Nat.le_of_ble_eq_true rfl) ?_
    have lp : ∀ i, i ≤ n → ∀ q10 : Option Value, frs (mvT n fr bd price hp u) 0 n = frs (mvT n fr bd price hp u) i (n - i) → jV (jP mX5_moveUse (d + 4) K) 91 [some (.ref 14), some (.int (jI (u : Int))), some (.int (jI (k : Int))), some (.long (jL (jk (fun v => decide (v ≠ u ∧ hp v = (k : Int)))))), none, some (.long (jL (jk (fun v => decide (hp v ≠ -1))))), none, some (.int (jI ((bkF bd hp u (hp u) : Nat) : Int))), some (.int (jI (mvC n fr price hp u))), some (.int (jI (i : Int))), q10] [] σ1 := by
      refine jdown n ?_
      intro i hi ih q10 g2
      refine jr_iload (pc' := 93) gM dX5_moveUse_91 rfl rfl ?_
      refine jr_aload_n (pc' := 94) gM dX5_moveUse_93 rfl rfl ?_
      refine jr_gfr (pc' := 97) gM dX5_moveUse_94 rfl fX5_9 rfl rfl ?_
      refine jr_gfi (pc' := 100) gM dX5_moveUse_97 rfl fX5_37 rfl rfl ?_
      rw [o1]
      refine jr_icmp_ge (tgt := 185) (pc' := 103) gM dX5_moveUse_100 rfl rfl ⟨by omega, by omega⟩ ⟨by omega, by omega⟩ (fun c100 => ?_) (fun c100 => ?_)
      · have hz : frs (mvT n fr bd price hp u) 0 n = none := by
          rw [g2, show n - i = 0 by omega]
          rfl
        have fin : mvA n fr bd price hp u = none → jV (jP mX5_moveUse (d + 4) K) 231 [some (.ref 14), some (.int (jI (u : Int))), some (.int (jI (k : Int))), some (.long (jL (jk (fun v => decide (v ≠ u ∧ hp v = (k : Int)))))), none, some (.long (jL (jk (fun v => decide (hp v ≠ -1))))), none, some (.int (jI ((bkF bd hp u (hp u) : Nat) : Int))), some (.int (jI (mvC n fr price hp u))), some (.int (jI (i : Int))), q10] [] σ1 := by
          intro hA
          refine jr_iconst (pc' := 232) gM dX5_moveUse_231 rfl ?_
          refine jr_zreturn dX5_moveUse_232 rfl (by first | omega | exact bI_01 _) ?_
          refine hK0 ?_ σ1 m1
          unfold mvR
          rw [hz, hA]
          rfl
        refine jr_lload_n (pc' := 186) gM dX5_moveUse_185 rfl rfl ?_
        refine jr_lconst (pc' := 187) (x := 0) gM dX5_moveUse_186 rfl rfl ?_
        refine jr_lcmp (pc' := 188) gM dX5_moveUse_187 rfl (by omega) (by omega) ?_
        refine jr_cb_eq (tgt := 231) (pc' := 191) gM dX5_moveUse_188 rfl rfl (fun c188 => ?_) (fun c188 => ?_)
        · refine fin ?_
          unfold mvA
          rw [if_neg (fun q => q.1 (hrest.mp c188))]
        · have hne : ¬ (∀ v, v < n → v ≠ u → hp v ≠ hp u) := fun q => c188 (hrest.mpr q)
          refine jr_aload_n (pc' := 192) gM dX5_moveUse_191 rfl rfl ?_
          refine jr_gfr (pc' := 195) gM dX5_moveUse_192 rfl fX5_15 rfl rfl ?_
          refine jr_iload_n (pc' := 196) gM dX5_moveUse_195 rfl rfl ?_
          refine jr_lconst (pc' := 197) (x := jk (fun _ => false)) gM dX5_moveUse_196 rfl (by rw [← jk_none]; rfl) ?_
          refine jr_lload (pc' := 199) gM dX5_moveUse_197 rfl rfl ?_
          refine jr_inv (pc' := 202) (as := [_, _, _]) gM dX5_moveUse_199 rfl kX5_75 rfl rfl rfl (Nat.le_of_ble_eq_true rfl) ?_
          refine brokenBy_ok hB1 (by omega) ?_
          dsimp only [Option.toList, List.cons_append, List.nil_append]
          rw [← bkF_own s3]
          have hb2 := hbk (-2)
          refine jr_iload (pc' := 204) gM dX5_moveUse_202 rfl rfl ?_
          refine jr_isub (pc' := 205) gM dX5_moveUse_204 rfl ?_
          refine jr_aload_n (pc' := 206) gM dX5_moveUse_205 rfl rfl ?_
          refine jr_gfr (pc' := 209) gM dX5_moveUse_206 rfl fX5_19 rfl rfl ?_
          refine jr_gfi (pc' := 212) gM dX5_moveUse_209 rfl fX5_81 rfl rfl ?_
          refine jr_iload (pc' := 214) gM dX5_moveUse_212 rfl rfl ?_
          refine jr_isub (pc' := 215) gM dX5_moveUse_214 rfl ?_
          rw [o10, s8]
          refine jr_ins (pc' := 218) (as := [_, _]) gM dX5_moveUse_215 rfl kX5_103 rfl rfl (Nat.le_of_ble_eq_true rfl) ?_
          refine betters_ok ⟨by omega, by omega⟩ ⟨by omega, by omega⟩ (fun hbt => ?_) (fun hbt => ?_)
          · dsimp only [Option.toList, List.cons_append, List.nil_append]
            refine jr_if_eq (tgt := 231) (pc' := 221) gM dX5_moveUse_218 rfl rfl ⟨by omega, by omega⟩ (fun cc => absurd cc (by omega)) (fun _ => ?_)
            refine jr_aload_n (pc' := 222) gM dX5_moveUse_221 rfl rfl ?_
            refine jr_gfr (pc' := 225) gM dX5_moveUse_222 rfl fX5_19 rfl rfl ?_
            refine jr_iload_n (pc' := 226) gM dX5_moveUse_225 rfl rfl ?_
            refine jr_inv (pc' := 229) (as := [_]) gM dX5_moveUse_226 rfl kX5_84 rfl rfl rfl (Nat.le_of_ble_eq_true rfl) ?_
            refine putAlone_ok hc1 s2 s3 hI1 hu (fun σ2 k1 k2 => ?_)
            dsimp only [Option.toList, List.cons_append, List.nil_append]
            refine jr_iconst (pc' := 230) gM dX5_moveUse_229 rfl ?_
            refine jr_zreturn dX5_moveUse_230 rfl (by first | omega | exact bI_01 _) ?_
            refine hK1 (alF n hp u) ?_ (alF_HV s3 hu) σ2 k1 (fun c a b e => by rw [k2 c a b, m1 c e])
            unfold mvR
            rw [hz]
            show mvA n fr bd price hp u = _
            unfold mvA
            unfold btF at hbt
            rw [if_pos ⟨hne, by omega⟩]
          · dsimp only [Option.toList, List.cons_append, List.nil_append]
            refine jr_if_eq (tgt := 231) (pc' := 221) gM dX5_moveUse_218 rfl rfl ⟨by omega, by omega⟩ (fun _ => ?_) (fun cc => absurd cc (by omega))
            refine fin ?_
            unfold mvA
            unfold btF at hbt
            rw [if_neg (fun q => by have := q.2; omega)]
      · rw [show n - i = (n - (i + 1)) + 1 by omega] at g2
        refine jr_iload (pc' := 105) gM dX5_moveUse_103 rfl rfl ?_
        refine jr_iload_n (pc' := 106) gM dX5_moveUse_105 rfl rfl ?_
        refine jr_icmp_eq (tgt := 179) (pc' := 109) gM dX5_moveUse_106 rfl rfl ⟨by omega, by omega⟩ ⟨by omega, by omega⟩ (fun c106 => ?_) (fun c106 => ?_)
        · refine jr_iinc (pc' := 182) (lv' := [_, _, _, _, _, _, _, _, _, _, _]) gM dX5_moveUse_179 rfl rfl rfl ?_
          refine jr_goto (tgt := 91) gM dX5_moveUse_182 rfl ?_
          refine ih (i + 1) (by omega) (by omega) _ ?_
          rw [g2, frs_n (by unfold mvT; rw [if_neg (by omega)])]
        · refine jr_aload_n (pc' := 110) gM dX5_moveUse_109 rfl rfl ?_
          refine jr_gfr (pc' := 113) gM dX5_moveUse_110 rfl fX5_19 rfl rfl ?_
          refine jr_iload (pc' := 115) gM dX5_moveUse_113 rfl rfl ?_
          refine jr_inv (pc' := 118) (as := [_]) gM dX5_moveUse_115 rfl kX5_64 rfl rfl rfl (Nat.le_of_ble_eq_true rfl) ?_
          refine isHeap_ok s2 s3 hI1 (by omega) ?_
          dsimp only [Option.toList, List.cons_append, List.nil_append]
          refine jr_pb_eq (tgt := 179) (pc' := 121) gM dX5_moveUse_118 rfl rfl (fun c118 => ?_) (fun c118 => ?_)
          · refine jr_iinc (pc' := 182) (lv' := [_, _, _, _, _, _, _, _, _, _, _]) gM dX5_moveUse_179 rfl rfl rfl ?_
            refine jr_goto (tgt := 91) gM dX5_moveUse_182 rfl ?_
            refine ih (i + 1) (by omega) (by omega) _ ?_
            rw [g2, frs_n (by unfold mvT; rw [if_neg (fun q => c118 q.2.1)])]
          · refine jr_aload_n (pc' := 122) gM dX5_moveUse_121 rfl rfl ?_
            refine jr_gfr (pc' := 125) gM dX5_moveUse_122 rfl fX5_15 rfl rfl ?_
            refine jr_iload_n (pc' := 126) gM dX5_moveUse_125 rfl rfl ?_
            refine jr_aload_n (pc' := 127) gM dX5_moveUse_126 rfl rfl ?_
            refine jr_gfr (pc' := 130) gM dX5_moveUse_127 rfl fX5_19 rfl rfl ?_
            refine jr_gfr (pc' := 133) gM dX5_moveUse_130 rfl fX5_71 rfl rfl ?_
            refine jr_iload (pc' := 135) gM dX5_moveUse_133 rfl rfl ?_
            refine jr_lald (pc' := 136) _ gM dX5_moveUse_135 rfl rfl rfl (by omega) (by decide) ?_
            rw [hI1.2 i (by omega)]
            refine jr_lload (pc' := 138) gM dX5_moveUse_136 rfl rfl ?_
            refine jr_inv (pc' := 141) (as := [_, _, _]) gM dX5_moveUse_138 rfl kX5_75 rfl rfl rfl (Nat.le_of_ble_eq_true rfl) ?_
            refine brokenBy_ok hB1 (by omega) ?_
            dsimp only [Option.toList, List.cons_append, List.nil_append]
            have hbi := hbk i
            have hci := hbr i
            have eb : (jn (fun v => decide (bd u v = 1) && decide (hp v ≠ -1) && !decide (hp v = (i : Int))) 40 + jn (fun v => decide (bd u v = 2) && decide (hp v = (i : Int))) 40) = bkF bd hp u i := rfl
            rw [eb]
            refine jr_iload (pc' := 143) gM dX5_moveUse_141 rfl rfl ?_
            refine jr_isub (pc' := 144) gM dX5_moveUse_143 rfl ?_
            refine jr_istore (pc' := 146) (lv' := [_, _, _, _, _, _, _, _, _, _, _]) gM dX5_moveUse_144 rfl rfl (Nat.le_of_ble_eq_true rfl) ?_
            refine jr_iload (pc' := 148) gM dX5_moveUse_146 rfl rfl ?_
            refine jr_aload_n (pc' := 149) gM dX5_moveUse_148 rfl rfl ?_
            refine jr_gfr (pc' := 152) gM dX5_moveUse_149 rfl fX5_19 rfl rfl ?_
            refine jr_gfr (pc' := 155) gM dX5_moveUse_152 rfl fX5_67 rfl rfl ?_
            refine jr_iload (pc' := 157) gM dX5_moveUse_155 rfl rfl ?_
            refine jr_iald (pc' := 158) _ gM dX5_moveUse_157 rfl rfl rfl (by omega) (by decide) ?_
            rw [m3 i (by omega)]
            refine jr_iload (pc' := 160) gM dX5_moveUse_158 rfl rfl ?_
            refine jr_isub (pc' := 161) gM dX5_moveUse_160 rfl ?_
            refine jr_ins (pc' := 164) (as := [_, _]) gM dX5_moveUse_161 rfl kX5_103 rfl rfl (Nat.le_of_ble_eq_true rfl) ?_
            refine betters_ok ⟨by omega, by omega⟩ ⟨by omega, by omega⟩ (fun hbt => ?_) (fun hbt => ?_)
            · dsimp only [Option.toList, List.cons_append, List.nil_append]
              refine jr_if_eq (tgt := 179) (pc' := 167) gM dX5_moveUse_164 rfl rfl ⟨by omega, by omega⟩ (fun cc => absurd cc (by omega)) (fun _ => ?_)
              refine jr_aload_n (pc' := 168) gM dX5_moveUse_167 rfl rfl ?_
              refine jr_gfr (pc' := 171) gM dX5_moveUse_168 rfl fX5_19 rfl rfl ?_
              refine jr_iload_n (pc' := 172) gM dX5_moveUse_171 rfl rfl ?_
              refine jr_iload (pc' := 174) gM dX5_moveUse_172 rfl rfl ?_
              refine jr_inv (pc' := 177) (as := [_, _]) gM dX5_moveUse_174 rfl kX5_88 rfl rfl rfl (Nat.le_of_ble_eq_true rfl) ?_
              refine putInto_ok hc1 s2 s3 hI1 hu c118 (by omega) (fun σ2 k1 k2 => ?_)
              dsimp only [Option.toList, List.cons_append, List.nil_append]
              refine jr_iconst (pc' := 178) gM dX5_moveUse_177 rfl ?_
              refine jr_zreturn dX5_moveUse_178 rfl (by first | omega | exact bI_01 _) ?_
              refine hK1 (inF n hp u i) ?_ (inF_HV s3 hu) σ2 k1 (fun c a b e => by rw [k2 c a b, m1 c e])
              unfold mvR
              unfold btF at hbt
              rw [g2, frs_s (x := inF n hp u i) (by unfold mvT; rw [if_pos ⟨by omega, c118, by omega⟩])]
              rfl
            · dsimp only [Option.toList, List.cons_append, List.nil_append]
              refine jr_if_eq (tgt := 179) (pc' := 167) gM dX5_moveUse_164 rfl rfl ⟨by omega, by omega⟩ (fun _ => ?_) (fun cc => absurd cc (by omega))
              refine jr_iinc (pc' := 182) (lv' := [_, _, _, _, _, _, _, _, _, _, _]) gM dX5_moveUse_179 rfl rfl rfl ?_
              refine jr_goto (tgt := 91) gM dX5_moveUse_182 rfl ?_
              refine ih (i + 1) (by omega) (by omega) _ ?_
              unfold btF at hbt
              rw [g2, frs_n (by unfold mvT; rw [if_neg (fun q => by have := q.2.2; omega)])]
    exact lp 0 (by omega) _ rfl
  refine jr_istore (pc' := 61) (lv' := [_, _, _, _, _, _, _, _, _, _, _]) gM dX5_moveUse_59 rfl rfl (Nat.le_of_ble_eq_true rfl) ?_
  refine jr_lload_n (pc' := 62) gM dX5_moveUse_61 rfl rfl ?_
  refine jr_lconst (pc' := 63) (x := 0) gM dX5_moveUse_62 rfl rfl ?_
  refine jr_lcmp (pc' := 64) gM dX5_moveUse_63 rfl (by omega) (by omega) ?_
  refine jr_cb_ne (tgt := 77) (pc' := 67) gM dX5_moveUse_64 rfl rfl (fun c64 => ?_) (fun c64 => ?_)
  · refine jr_aload_n (pc' := 78) gM dX5_moveUse_77 rfl rfl ?_
    refine jr_gfr (pc' := 81) gM dX5_moveUse_78 rfl fX5_19 rfl rfl ?_
    refine jr_gfr (pc' := 84) gM dX5_moveUse_81 rfl fX5_67 rfl rfl ?_
    refine jr_iload_n (pc' := 85) gM dX5_moveUse_84 rfl rfl ?_
    have hrk : hp u < 40 := by omega
    refine jr_iald (pc' := 86) (k) gM dX5_moveUse_85 rfl rfl (rfl) (by omega) (by decide) ?_
    rw [m3 k (by omega), ← ek]
    rw [show jbs (fr u) hp n (hp u) = mvC n fr price hp u by unfold mvC; rw [if_neg (fun q => c64 (hrest.mpr q))]]
    rw [ek] at main ⊢
    refine jr_istore (pc' := 88) (lv' := [_, _, _, _, _, _, _, _, _, _, _]) gM dX5_moveUse_86 rfl rfl (Nat.le_of_ble_eq_true rfl) ?_
    exact main
  · refine jr_aload_n (pc' := 68) gM dX5_moveUse_67 rfl rfl ?_
    refine jr_gfr (pc' := 71) gM dX5_moveUse_68 rfl fX5_19 rfl rfl ?_
    refine jr_gfi (pc' := 74) gM dX5_moveUse_71 rfl fX5_81 rfl rfl ?_
    rw [o10, s8]
    have ep : mvC n fr price hp u = price := by unfold mvC; rw [if_pos (hrest.mp c64)]
    refine jr_goto (tgt := 86) gM dX5_moveUse_74 rfl ?_
    refine jr_istore (pc' := 88) (lv' := [_, _, _, _, _, _, _, _, _, _, _]) gM dX5_moveUse_86 rfl rfl (Nat.le_of_ble_eq_true rfl) ?_
    rw [ep] at main
    exact main

def mfR (n : Nat) (fr bd : Nat → Nat → Int) (price : Int) (hp : Nat → Int) : Option (Nat → Int) := frs (fun u => if hp u = -1 then none else mvR n fr bd price hp u) 0 n
set_option maxRecDepth 100000 in
theorem moveFirst_ok {d : Nat} {σ : jMem} {K : Option Value → jMem → Prop} {n : Nat} {hp : Nat → Int} {fr bd : Nat → Nat → Int} {m : Nat} {price : Int} (hS : SI n hp fr bd m price σ) (hbd : ∀ u, bd u u = 0)
    (hK0 : mfR n fr bd price hp = none → ∀ σ' : jMem, (∀ c, c ≠ 13 → σ' c = σ c) → K (some (.int (jI 0))) σ')
    (hK1 : ∀ hp', mfR n fr bd price hp = some hp' → HV n hp' → ∀ σ' : jMem, HI hp' σ' → (∀ c, c ≠ 11 → c ≠ 12 → c ≠ 13 → σ' c = σ c) → K (some (.int (jI 1))) σ') : jRun (d + 5) mX5_moveFirst [.ref 14] σ K := by
  have hn := hS.2.1
  refine jenter (lv := [_, _]) rfl rfl (Nat.le_of_ble_eq_true rfl) ?_
  refine jr_iconst (pc' := 1) gM dX5_moveFirst_0 rfl ?_
  refine jr_istore_n (pc' := 2) (lv' := [_, _]) gM dX5_moveFirst_1 rfl rfl (Nat.le_of_ble_eq_true rfl) ?_
  have lp : ∀ i, i ≤ n → ∀ σ1 : jMem, (∀ c, c ≠ 13 → σ1 c = σ c) → mfR n fr bd price hp = frs (fun u => if hp u = -1 then none else mvR n fr bd price hp u) i (n - i) → jV (jP mX5_moveFirst (d + 5) K) 2 [some (.ref 14), some (.int (jI (i : Int)))] [] σ1 := by
    refine jdown n ?_
    intro i hi ih σ1 g1 g2
    have hS1 : SI n hp fr bd m price σ1 := hS.of hS.2.2.1 (hS.2.2.2.1.of (g1 11 (by omega)) (g1 12 (by omega))) (fun c _ _ q => g1 c q)
    have o1 := hS1.1
    refine jr_iload_n (pc' := 3) gM dX5_moveFirst_2 rfl rfl ?_
    refine jr_aload_n (pc' := 4) gM dX5_moveFirst_3 rfl rfl ?_
    refine jr_gfr (pc' := 7) gM dX5_moveFirst_4 rfl fX5_9 rfl rfl ?_
    refine jr_gfi (pc' := 10) gM dX5_moveFirst_7 rfl fX5_37 rfl rfl ?_
    refine jr_icmp_ge (tgt := 40) (pc' := 13) gM dX5_moveFirst_10 rfl rfl ⟨by omega, by omega⟩ ⟨by omega, by omega⟩ (fun c10 => ?_) (fun c10 => ?_)
    · refine jr_iconst (pc' := 41) gM dX5_moveFirst_40 rfl ?_
      refine jr_zreturn dX5_moveFirst_41 rfl (by first | omega | exact bI_01 _) ?_
      refine hK0 ?_ σ1 g1
      rw [g2, show n - i = 0 by omega]
      rfl
    · rw [show n - i = (n - (i + 1)) + 1 by omega] at g2
      refine jr_aload_n (pc' := 14) gM dX5_moveFirst_13 rfl rfl ?_
      refine jr_gfr (pc' := 17) gM dX5_moveFirst_14 rfl fX5_19 rfl rfl ?_
      refine jr_iload_n (pc' := 18) gM dX5_moveFirst_17 rfl rfl ?_
      refine jr_inv (pc' := 21) (as := [_]) gM dX5_moveFirst_18 rfl kX5_42 rfl rfl rfl (Nat.le_of_ble_eq_true rfl) ?_
      refine isOpen_ok hn hS1.2.2.1 hS1.2.2.2.1 (by omega) ?_
      dsimp only [Option.toList, List.cons_append, List.nil_append]
      refine jr_pb_ne (tgt := 34) (pc' := 24) gM dX5_moveFirst_21 rfl rfl (fun c21 => ?_) (fun c21 => ?_)
      · refine jr_iinc (pc' := 37) (lv' := [_, _]) gM dX5_moveFirst_34 rfl rfl rfl ?_
        refine jr_goto (tgt := 2) gM dX5_moveFirst_37 rfl ?_
        refine ih (i + 1) (by omega) (by omega) σ1 g1 ?_
        rw [g2, frs_n (by rw [if_pos c21])]
      · refine jr_aload_n (pc' := 25) gM dX5_moveFirst_24 rfl rfl ?_
        refine jr_iload_n (pc' := 26) gM dX5_moveFirst_25 rfl rfl ?_
        refine jr_inv (pc' := 29) (as := [_]) gM dX5_moveFirst_26 rfl kX5_92 rfl rfl rfl (Nat.le_of_ble_eq_true rfl) ?_
        refine moveUse_ok hS1 (by omega) c21 (hbd i) (fun h0 σ2 k1 => ?_) (fun hp' h1 hV' σ2 k1 k2 => ?_)
        · dsimp only [Option.toList, List.cons_append, List.nil_append]
          refine jr_if_eq (tgt := 34) (pc' := 32) gM dX5_moveFirst_29 rfl rfl ⟨by omega, by omega⟩ (fun _ => ?_) (fun cc => absurd cc (by omega))
          refine jr_iinc (pc' := 37) (lv' := [_, _]) gM dX5_moveFirst_34 rfl rfl rfl ?_
          refine jr_goto (tgt := 2) gM dX5_moveFirst_37 rfl ?_
          refine ih (i + 1) (by omega) (by omega) σ2 (fun c q => by rw [k1 c q]; exact g1 c q) ?_
          rw [g2, frs_n (by rw [if_neg c21]; exact h0)]
        · dsimp only [Option.toList, List.cons_append, List.nil_append]
          refine jr_if_eq (tgt := 34) (pc' := 32) gM dX5_moveFirst_29 rfl rfl ⟨by omega, by omega⟩ (fun cc => absurd cc (by omega)) (fun _ => ?_)
          refine jr_iconst (pc' := 33) gM dX5_moveFirst_32 rfl ?_
          refine jr_zreturn dX5_moveFirst_33 rfl (by first | omega | exact bI_01 _) ?_
          refine hK1 hp' ?_ hV' σ2 k1 (fun c a b q => by rw [k2 c a b q]; exact g1 c q)
          rw [g2, frs_s (by rw [if_neg c21]; exact h1)]
  exact lp 0 (by omega) σ (fun c _ => rfl) rfl
/-- what a melt costs, and how many more bonds it breaks -/
def meC (n : Nat) (fr : Nat → Nat → Int) (hp : Nat → Int) (a b : Nat) : Int := js (fun u => if decide (hp u = (a : Int)) then jbs (fr u) hp n b else 0) n
def meB (bd : Nat → Nat → Int) (hp : Nat → Int) (a b : Nat) : Int := js (fun u => if decide (hp u = (a : Int)) then ((jn (fun v => decide (bd u v = 2) && decide (hp v = (b : Int))) 40 : Nat) : Int) - ((jn (fun v => decide (bd u v = 1) && decide (hp v = (b : Int))) 40 : Nat) : Int) else 0) 40
theorem meB_r (bd : Nat → Nat → Int) (hp : Nat → Int) (a b : Nat) : -1600 ≤ meB bd hp a b ∧ meB bd hp a b ≤ 1600 := by
  have key : ∀ (f : Nat → Int) (k : Nat), (∀ i, -40 ≤ f i ∧ f i ≤ 40) → -((k : Int) * 40) ≤ js f k ∧ js f k ≤ (k : Int) * 40 := by
    intro f k hf
    induction k with
    | zero => simp [js]
    | succ k ih =>
      have := hf k
      simp only [js]
      omega
  have := key (fun u => if decide (hp u = (a : Int)) then ((jn (fun v => decide (bd u v = 2) && decide (hp v = (b : Int))) 40 : Nat) : Int) - ((jn (fun v => decide (bd u v = 1) && decide (hp v = (b : Int))) 40 : Nat) : Int) else 0) 40 (fun u => by
    have q1 := jn_le (fun v => decide (bd u v = 2) && decide (hp v = (b : Int))) 40
    have q2 := jn_le (fun v => decide (bd u v = 1) && decide (hp v = (b : Int))) 40
    split <;> omega)
  unfold meB
  omega
def meT (n : Nat) (fr bd : Nat → Nat → Int) (price : Int) (hp : Nat → Int) (a b : Nat) : Option (Nat → Int) :=
  if hp b = (b : Int) ∧ (meB bd hp a b < 0 ∨ (meB bd hp a b = 0 ∧ meC n fr hp a b < price)) then some (meF n hp a b) else none
def meR (n : Nat) (fr bd : Nat → Nat → Int) (price : Int) (hp : Nat → Int) (a : Nat) : Option (Nat → Int) := frs (meT n fr bd price hp a) (a + 1) (n - (a + 1))
set_option maxRecDepth 100000 in
theorem meltInto_ok {d : Nat} {σ : jMem} {K : Option Value → jMem → Prop} {n : Nat} {hp : Nat → Int} {fr bd : Nat → Nat → Int} {m : Nat} {price : Int} {a : Nat} (hS : SI n hp fr bd m price σ) (ha : a < n)
    (hK0 : meR n fr bd price hp a = none → ∀ σ' : jMem, (∀ c, c ≠ 13 → σ' c = σ c) → K (some (.int (jI 0))) σ')
    (hK1 : ∀ hp', meR n fr bd price hp a = some hp' → HV n hp' → ∀ σ' : jMem, HI hp' σ' → (∀ c, c ≠ 11 → c ≠ 12 → c ≠ 13 → σ' c = σ c) → K (some (.int (jI 1))) σ') : jRun (d + 3) mX5_meltInto [.ref 14, .int (jI (a : Int))] σ K := by
  have hSS := hS
  obtain ⟨s1, s2, s3, s4, s5, s6, s7, s8, s9⟩ := hS
  refine jenter (lv := [_, _, _, _]) rfl rfl (Nat.le_of_ble_eq_true rfl) ?_
  refine jr_aload_n (pc' := 1) gM dX5_meltInto_0 rfl rfl ?_
  refine jr_gfr (pc' := 4) gM dX5_meltInto_1 rfl fX5_19 rfl rfl ?_
  refine jr_aload_n (pc' := 5) gM dX5_meltInto_4 rfl rfl ?_
  refine jr_gfr (pc' := 8) gM dX5_meltInto_5 rfl fX5_19 rfl rfl ?_
  refine jr_gfr (pc' := 11) gM dX5_meltInto_8 rfl fX5_71 rfl rfl ?_
  refine jr_iload_n (pc' := 12) gM dX5_meltInto_11 rfl rfl ?_
  refine jr_lald (pc' := 13) _ gM dX5_meltInto_12 rfl rfl rfl (by omega) (by decide) ?_
  rw [s4.2 a (by omega)]
  refine jr_inv (pc' := 16) (as := [_]) gM dX5_meltInto_13 rfl kX5_59 rfl rfl rfl (Nat.le_of_ble_eq_true rfl) ?_
  refine measure_ok s1 s2 s3 s4 (fun σ1 m1 m2 => ?_)
  dsimp only [Option.toList, List.cons_append, List.nil_append]
  have m3 : ∀ h : Nat, h < 40 → σ1 13 h = meC n fr hp a h := by
    intro h hh
    rw [m2 h hh]
    unfold meC
    apply js_congr
    intro u hu
    rw [hSS.bs hu]
  have hcr : ∀ h : Nat, 0 ≤ meC n fr hp a h ∧ meC n fr hp a h ≤ 288000 := by
    intro h
    have := js_le (f := fun u => if decide (hp u = (a : Int)) then jbs (fr u) hp n h else 0) (n := n) (b := 7200) (fun u hu => by
      have := hSS.bsr hu h
      split <;> omega)
    unfold meC
    omega
  have o1 : σ1 1 = σ 1 := m1 1 (by omega)
  have o10 : σ1 10 = σ 10 := m1 10 (by omega)
  have hI1 : HI hp σ1 := s4.of (m1 11 (by omega)) (m1 12 (by omega))
  have hB1 : BI bd m σ1 := s5.of (fun c _ _ => m1 c (by omega))
  have hc1 : σ1 1 5 = (n : Int) := by rw [o1]; exact s1
  refine jr_iload_n (pc' := 17) gM dX5_meltInto_16 rfl rfl ?_
  refine jr_iconst (pc' := 18) gM dX5_meltInto_17 rfl ?_
  refine jr_iadd (pc' := 19) gM dX5_meltInto_18 rfl ?_
  refine jr_istore_n (pc' := 20) (lv' := [_, _, _, _]) gM dX5_meltInto_19 rfl rfl (Nat.le_of_ble_eq_true rfl) ?_
  have lp : ∀ i, i ≤ n → ∀ q3 : Option Value, a < i → meR n fr bd price hp a = frs (meT n fr bd price hp a) i (n - i) → jV (jP mX5_meltInto (d + 3) K) 20 [some (.ref 14), some (.int (jI (a : Int))), some (.int (jI (i : Int))), q3] [] σ1 := by
    refine jdown n ?_
    intro i hi ih q3 hai g2
    refine jr_iload_n (pc' := 21) gM dX5_meltInto_20 rfl rfl ?_
    refine jr_aload_n (pc' := 22) gM dX5_meltInto_21 rfl rfl ?_
    refine jr_gfr (pc' := 25) gM dX5_meltInto_22 rfl fX5_9 rfl rfl ?_
    refine jr_gfi (pc' := 28) gM dX5_meltInto_25 rfl fX5_37 rfl rfl ?_
    rw [o1]
    refine jr_icmp_ge (tgt := 109) (pc' := 31) gM dX5_meltInto_28 rfl rfl ⟨by omega, by omega⟩ ⟨by omega, by omega⟩ (fun c28 => ?_) (fun c28 => ?_)
    · refine jr_iconst (pc' := 110) gM dX5_meltInto_109 rfl ?_
      refine jr_zreturn dX5_meltInto_110 rfl (by first | omega | exact bI_01 _) ?_
      refine hK0 ?_ σ1 m1
      rw [g2, show n - i = 0 by omega]
      rfl
    · rw [show n - i = (n - (i + 1)) + 1 by omega] at g2
      refine jr_aload_n (pc' := 32) gM dX5_meltInto_31 rfl rfl ?_
      refine jr_gfr (pc' := 35) gM dX5_meltInto_32 rfl fX5_19 rfl rfl ?_
      refine jr_iload_n (pc' := 36) gM dX5_meltInto_35 rfl rfl ?_
      refine jr_inv (pc' := 39) (as := [_]) gM dX5_meltInto_36 rfl kX5_64 rfl rfl rfl (Nat.le_of_ble_eq_true rfl) ?_
      refine isHeap_ok s2 s3 hI1 (by omega) ?_
      dsimp only [Option.toList, List.cons_append, List.nil_append]
      refine jr_pb_eq (tgt := 103) (pc' := 42) gM dX5_meltInto_39 rfl rfl (fun c39 => ?_) (fun c39 => ?_)
      · refine jr_iinc (pc' := 106) (lv' := [_, _, _, _]) gM dX5_meltInto_103 rfl rfl rfl ?_
        refine jr_goto (tgt := 20) gM dX5_meltInto_106 rfl ?_
        refine ih (i + 1) (by omega) (by omega) _ (by omega) ?_
        rw [g2, frs_n (by unfold meT; rw [if_neg (fun q => c39 q.1)])]
      · refine jr_aload_n (pc' := 43) gM dX5_meltInto_42 rfl rfl ?_
        refine jr_gfr (pc' := 46) gM dX5_meltInto_43 rfl fX5_15 rfl rfl ?_
        refine jr_aload_n (pc' := 47) gM dX5_meltInto_46 rfl rfl ?_
        refine jr_gfr (pc' := 50) gM dX5_meltInto_47 rfl fX5_19 rfl rfl ?_
        refine jr_gfr (pc' := 53) gM dX5_meltInto_50 rfl fX5_71 rfl rfl ?_
        refine jr_iload_n (pc' := 54) gM dX5_meltInto_53 rfl rfl ?_
        refine jr_lald (pc' := 55) _ gM dX5_meltInto_54 rfl rfl rfl (by omega) (by decide) ?_
        refine jr_aload_n (pc' := 56) gM dX5_meltInto_55 rfl rfl ?_
        refine jr_gfr (pc' := 59) gM dX5_meltInto_56 rfl fX5_19 rfl rfl ?_
        refine jr_gfr (pc' := 62) gM dX5_meltInto_59 rfl fX5_71 rfl rfl ?_
        refine jr_iload_n (pc' := 63) gM dX5_meltInto_62 rfl rfl ?_
        refine jr_lald (pc' := 64) _ gM dX5_meltInto_63 rfl rfl rfl (by omega) (by decide) ?_
        rw [hI1.2 a (by omega), hI1.2 i (by omega)]
        refine jr_inv (pc' := 67) (as := [_, _]) gM dX5_meltInto_64 rfl kX5_110 rfl rfl rfl (Nat.le_of_ble_eq_true rfl) ?_
        refine brokenByMelt_ok hB1 ?_
        dsimp only [Option.toList, List.cons_append, List.nil_append]
        have hmb := meB_r bd hp a i
        have hci := hcr i
        have eb : js (fun u => if decide (hp u = (a : Int)) then ((jn (fun v => decide (bd u v = 2) && decide (hp v = (i : Int))) 40 : Nat) : Int) - ((jn (fun v => decide (bd u v = 1) && decide (hp v = (i : Int))) 40 : Nat) : Int) else 0) 40 = meB bd hp a i := rfl
        rw [eb]
        refine jr_istore_n (pc' := 68) (lv' := [_, _, _, _]) gM dX5_meltInto_67 rfl rfl (Nat.le_of_ble_eq_true rfl) ?_
        refine jr_iload_n (pc' := 69) gM dX5_meltInto_68 rfl rfl ?_
        refine jr_aload_n (pc' := 70) gM dX5_meltInto_69 rfl rfl ?_
        refine jr_gfr (pc' := 73) gM dX5_meltInto_70 rfl fX5_19 rfl rfl ?_
        refine jr_gfr (pc' := 76) gM dX5_meltInto_73 rfl fX5_67 rfl rfl ?_
        refine jr_iload_n (pc' := 77) gM dX5_meltInto_76 rfl rfl ?_
        refine jr_iald (pc' := 78) _ gM dX5_meltInto_77 rfl rfl rfl (by omega) (by decide) ?_
        refine jr_aload_n (pc' := 79) gM dX5_meltInto_78 rfl rfl ?_
        refine jr_gfr (pc' := 82) gM dX5_meltInto_79 rfl fX5_19 rfl rfl ?_
        refine jr_gfi (pc' := 85) gM dX5_meltInto_82 rfl fX5_81 rfl rfl ?_
        refine jr_isub (pc' := 86) gM dX5_meltInto_85 rfl ?_
        rw [m3 i (by omega), o10, s8]
        refine jr_ins (pc' := 89) (as := [_, _]) gM dX5_meltInto_86 rfl kX5_103 rfl rfl (Nat.le_of_ble_eq_true rfl) ?_
        refine betters_ok ⟨by omega, by omega⟩ ⟨by omega, by omega⟩ (fun hbt => ?_) (fun hbt => ?_)
        · dsimp only [Option.toList, List.cons_append, List.nil_append]
          refine jr_if_eq (tgt := 103) (pc' := 92) gM dX5_meltInto_89 rfl rfl ⟨by omega, by omega⟩ (fun cc => absurd cc (by omega)) (fun _ => ?_)
          refine jr_aload_n (pc' := 93) gM dX5_meltInto_92 rfl rfl ?_
          refine jr_gfr (pc' := 96) gM dX5_meltInto_93 rfl fX5_19 rfl rfl ?_
          refine jr_iload_n (pc' := 97) gM dX5_meltInto_96 rfl rfl ?_
          refine jr_iload_n (pc' := 98) gM dX5_meltInto_97 rfl rfl ?_
          refine jr_inv (pc' := 101) (as := [_, _]) gM dX5_meltInto_98 rfl kX5_114 rfl rfl rfl (Nat.le_of_ble_eq_true rfl) ?_
          refine melt_ok hc1 s2 s3 hI1 ha (by omega) (fun σ2 k1 k2 => ?_)
          dsimp only [Option.toList, List.cons_append, List.nil_append]
          refine jr_iconst (pc' := 102) gM dX5_meltInto_101 rfl ?_
          refine jr_zreturn dX5_meltInto_102 rfl (by first | omega | exact bI_01 _) ?_
          refine hK1 (meF n hp a i) ?_ (meF_HV s3) σ2 k1 (fun c a b e => by rw [k2 c a b, m1 c e])
          unfold btF at hbt
          rw [g2, frs_s (x := meF n hp a i) (by unfold meT; rw [if_pos ⟨c39, by omega⟩])]
        · dsimp only [Option.toList, List.cons_append, List.nil_append]
          refine jr_if_eq (tgt := 103) (pc' := 92) gM dX5_meltInto_89 rfl rfl ⟨by omega, by omega⟩ (fun _ => ?_) (fun cc => absurd cc (by omega))
          refine jr_iinc (pc' := 106) (lv' := [_, _, _, _]) gM dX5_meltInto_103 rfl rfl rfl ?_
          refine jr_goto (tgt := 20) gM dX5_meltInto_106 rfl ?_
          refine ih (i + 1) (by omega) (by omega) _ (by omega) ?_
          unfold btF at hbt
          rw [g2, frs_n (by unfold meT; rw [if_neg (fun q => by have := q.2; omega)])]
  exact lp (a + 1) (by omega) _ (by omega) rfl
def mlR (n : Nat) (fr bd : Nat → Nat → Int) (price : Int) (hp : Nat → Int) : Option (Nat → Int) := frs (fun a => if hp a = (a : Int) then meR n fr bd price hp a else none) 0 n
set_option maxRecDepth 100000 in
theorem meltFirst_ok {d : Nat} {σ : jMem} {K : Option Value → jMem → Prop} {n : Nat} {hp : Nat → Int} {fr bd : Nat → Nat → Int} {m : Nat} {price : Int} (hS : SI n hp fr bd m price σ)
    (hK0 : mlR n fr bd price hp = none → ∀ σ' : jMem, (∀ c, c ≠ 13 → σ' c = σ c) → K (some (.int (jI 0))) σ')
    (hK1 : ∀ hp', mlR n fr bd price hp = some hp' → HV n hp' → ∀ σ' : jMem, HI hp' σ' → (∀ c, c ≠ 11 → c ≠ 12 → c ≠ 13 → σ' c = σ c) → K (some (.int (jI 1))) σ') : jRun (d + 4) mX5_meltFirst [.ref 14] σ K := by
  have hn := hS.2.1
  refine jenter (lv := [_, _]) rfl rfl (Nat.le_of_ble_eq_true rfl) ?_
  refine jr_iconst (pc' := 1) gM dX5_meltFirst_0 rfl ?_
  refine jr_istore_n (pc' := 2) (lv' := [_, _]) gM dX5_meltFirst_1 rfl rfl (Nat.le_of_ble_eq_true rfl) ?_
  have lp : ∀ i, i ≤ n → ∀ σ1 : jMem, (∀ c, c ≠ 13 → σ1 c = σ c) → mlR n fr bd price hp = frs (fun a => if hp a = (a : Int) then meR n fr bd price hp a else none) i (n - i) → jV (jP mX5_meltFirst (d + 4) K) 2 [some (.ref 14), some (.int (jI (i : Int)))] [] σ1 := by
    refine jdown n ?_
    intro i hi ih σ1 g1 g2
    have hS1 : SI n hp fr bd m price σ1 := hS.of hS.2.2.1 (hS.2.2.2.1.of (g1 11 (by omega)) (g1 12 (by omega))) (fun c _ _ q => g1 c q)
    have o1 := hS1.1
    refine jr_iload_n (pc' := 3) gM dX5_meltFirst_2 rfl rfl ?_
    refine jr_aload_n (pc' := 4) gM dX5_meltFirst_3 rfl rfl ?_
    refine jr_gfr (pc' := 7) gM dX5_meltFirst_4 rfl fX5_9 rfl rfl ?_
    refine jr_gfi (pc' := 10) gM dX5_meltFirst_7 rfl fX5_37 rfl rfl ?_
    refine jr_icmp_ge (tgt := 40) (pc' := 13) gM dX5_meltFirst_10 rfl rfl ⟨by omega, by omega⟩ ⟨by omega, by omega⟩ (fun c10 => ?_) (fun c10 => ?_)
    · refine jr_iconst (pc' := 41) gM dX5_meltFirst_40 rfl ?_
      refine jr_zreturn dX5_meltFirst_41 rfl (by first | omega | exact bI_01 _) ?_
      refine hK0 ?_ σ1 g1
      rw [g2, show n - i = 0 by omega]
      rfl
    · rw [show n - i = (n - (i + 1)) + 1 by omega] at g2
      refine jr_aload_n (pc' := 14) gM dX5_meltFirst_13 rfl rfl ?_
      refine jr_gfr (pc' := 17) gM dX5_meltFirst_14 rfl fX5_19 rfl rfl ?_
      refine jr_iload_n (pc' := 18) gM dX5_meltFirst_17 rfl rfl ?_
      refine jr_inv (pc' := 21) (as := [_]) gM dX5_meltFirst_18 rfl kX5_64 rfl rfl rfl (Nat.le_of_ble_eq_true rfl) ?_
      refine isHeap_ok hn hS1.2.2.1 hS1.2.2.2.1 (by omega) ?_
      dsimp only [Option.toList, List.cons_append, List.nil_append]
      refine jr_pb_eq (tgt := 34) (pc' := 24) gM dX5_meltFirst_21 rfl rfl (fun c21 => ?_) (fun c21 => ?_)
      · refine jr_iinc (pc' := 37) (lv' := [_, _]) gM dX5_meltFirst_34 rfl rfl rfl ?_
        refine jr_goto (tgt := 2) gM dX5_meltFirst_37 rfl ?_
        refine ih (i + 1) (by omega) (by omega) σ1 g1 ?_
        rw [g2, frs_n (by rw [if_neg c21])]
      · refine jr_aload_n (pc' := 25) gM dX5_meltFirst_24 rfl rfl ?_
        refine jr_iload_n (pc' := 26) gM dX5_meltFirst_25 rfl rfl ?_
        refine jr_inv (pc' := 29) (as := [_]) gM dX5_meltFirst_26 rfl kX5_107 rfl rfl rfl (Nat.le_of_ble_eq_true rfl) ?_
        refine meltInto_ok hS1 (by omega) (fun h0 σ2 k1 => ?_) (fun hp' h1 hV' σ2 k1 k2 => ?_)
        · dsimp only [Option.toList, List.cons_append, List.nil_append]
          refine jr_if_eq (tgt := 34) (pc' := 32) gM dX5_meltFirst_29 rfl rfl ⟨by omega, by omega⟩ (fun _ => ?_) (fun cc => absurd cc (by omega))
          refine jr_iinc (pc' := 37) (lv' := [_, _]) gM dX5_meltFirst_34 rfl rfl rfl ?_
          refine jr_goto (tgt := 2) gM dX5_meltFirst_37 rfl ?_
          refine ih (i + 1) (by omega) (by omega) σ2 (fun c q => by rw [k1 c q]; exact g1 c q) ?_
          rw [g2, frs_n (by rw [if_pos c21]; exact h0)]
        · dsimp only [Option.toList, List.cons_append, List.nil_append]
          refine jr_if_eq (tgt := 34) (pc' := 32) gM dX5_meltFirst_29 rfl rfl ⟨by omega, by omega⟩ (fun cc => absurd cc (by omega)) (fun _ => ?_)
          refine jr_iconst (pc' := 33) gM dX5_meltFirst_32 rfl ?_
          refine jr_zreturn dX5_meltFirst_33 rfl (by first | omega | exact bI_01 _) ?_
          refine hK1 hp' ?_ hV' σ2 k1 (fun c a b q => by rw [k2 c a b q]; exact g1 c q)
          rw [g2, frs_s (by rw [if_pos c21]; exact h1)]
  exact lp 0 (by omega) σ (fun c _ => rfl) rfl
/-- a step; steps, k at most: how many, and the heaps behind them -/
def stR (n : Nat) (fr bd : Nat → Nat → Int) (price : Int) (hp : Nat → Int) : Option (Nat → Int) := ((lfR n fr bd price hp).or (mfR n fr bd price hp)).or (mlR n fr bd price hp)
def stN (f : (Nat → Int) → Option (Nat → Int)) : Nat → (Nat → Int) → Nat × (Nat → Int)
  | 0, hp => (0, hp)
  | k + 1, hp => match f hp with
    | none => (0, hp)
    | some hp' => ((stN f k hp').1 + 1, (stN f k hp').2)
theorem stN_n {f : (Nat → Int) → Option (Nat → Int)} {k : Nat} {hp : Nat → Int} (h : f hp = none) : stN f (k + 1) hp = (0, hp) := by simp [stN, h]
theorem stN_s {f : (Nat → Int) → Option (Nat → Int)} {k : Nat} {hp hp' : Nat → Int} (h : f hp = some hp') : stN f (k + 1) hp = ((stN f k hp').1 + 1, (stN f k hp').2) := by simp [stN, h]
set_option maxRecDepth 100000 in
theorem makeSteps_ok {d : Nat} {σ : jMem} {K : Option Value → jMem → Prop} {n : Nat} {hp : Nat → Int} {fr bd : Nat → Nat → Int} {m : Nat} {price : Int} {t : Nat} (hS : SI n hp fr bd m price σ) (hbd : ∀ u, bd u u = 0) (ht : t ≤ 100)
    (hK : HV n (stN (stR n fr bd price) t hp).2 → ∀ σ' : jMem, HI (stN (stR n fr bd price) t hp).2 σ' → σ' 14 3 = σ 14 3 + ((stN (stR n fr bd price) t hp).1 : Int) → (∀ c, c ≠ 11 → c ≠ 12 → c ≠ 13 → c ≠ 14 → σ' c = σ c) → K (some (.int (jI ((stN (stR n fr bd price) t hp).1 : Int)))) σ') : jRun (d + 6) mX5_makeSteps [.ref 14, .int (jI (t : Int))] σ K := by
  refine jenter (lv := [_, _, _]) rfl rfl (Nat.le_of_ble_eq_true rfl) ?_
  refine jr_iconst (pc' := 1) gM dX5_makeSteps_0 rfl ?_
  refine jr_istore_n (pc' := 2) (lv' := [_, _, _]) gM dX5_makeSteps_1 rfl rfl (Nat.le_of_ble_eq_true rfl) ?_
  have lp : ∀ i, i ≤ t → ∀ (hp1 : Nat → Int) (σ1 : jMem), SI n hp1 fr bd m price σ1 → (∀ c, c ≠ 11 → c ≠ 12 → c ≠ 13 → σ1 c = σ c) → (stN (stR n fr bd price) t hp) = (i + (stN (stR n fr bd price) (t - i) hp1).1, (stN (stR n fr bd price) (t - i) hp1).2) → jV (jP mX5_makeSteps (d + 6) K) 2 [some (.ref 14), some (.int (jI (t : Int))), some (.int (jI (i : Int)))] [] σ1 := by
    refine jdown t ?_
    intro i hi ih hp1 σ1 hS1 g1 g2
    have fin : ∀ σ2 : jMem, (∀ c, c ≠ 13 → σ2 c = σ1 c) → stN (stR n fr bd price) t hp = (i, hp1) → jV (jP mX5_makeSteps (d + 6) K) 34 [some (.ref 14), some (.int (jI (t : Int))), some (.int (jI (i : Int)))] [] σ2 := by
      intro σ2 e2 e
      rw [e] at hK
      refine jr_aload_n (pc' := 35) gM dX5_makeSteps_34 rfl rfl ?_
      refine jr_dup (pc' := 36) gM dX5_makeSteps_35 rfl rfl ?_
      refine jr_gfi (pc' := 39) gM dX5_makeSteps_36 rfl fX5_33 rfl rfl ?_
      refine jr_iload_n (pc' := 40) gM dX5_makeSteps_39 rfl rfl ?_
      refine jr_iadd (pc' := 41) gM dX5_makeSteps_40 rfl ?_
      refine jr_pf (pc' := 44) gM dX5_makeSteps_41 rfl fX5_33 rfl rfl ⟨rfl, by decide +kernel⟩ ?_
      refine jr_iload_n (pc' := 45) gM dX5_makeSteps_44 rfl rfl ?_
      refine jr_ireturn dX5_makeSteps_45 rfl ?_
      refine hK hS1.2.2.1 _ ?_ ?_ (fun c q1 q2 q3 q4 => ?_)
      · exact hS1.2.2.2.1.of (by rw [jup_row (by omega), e2 11 (by omega)]) (by rw [jup_row (by omega), e2 12 (by omega)])
      · rw [jup_at, e2 14 (by omega), g1 14 (by omega) (by omega) (by omega)]
      · rw [jup_row q4, e2 c q3, g1 c q1 q2 q3]
    refine jr_iload_n (pc' := 3) gM dX5_makeSteps_2 rfl rfl ?_
    refine jr_iload_n (pc' := 4) gM dX5_makeSteps_3 rfl rfl ?_
    refine jr_icmp_ge (tgt := 34) (pc' := 7) gM dX5_makeSteps_4 rfl rfl ⟨by omega, by omega⟩ ⟨by omega, by omega⟩ (fun c4 => ?_) (fun c4 => ?_)
    · refine fin σ1 (fun c _ => rfl) ?_
      rw [g2, show t - i = 0 by omega]
      rfl
    · rw [show t - i = (t - (i + 1)) + 1 by omega] at g2
      have go : ∀ (hp' : Nat → Int), stR n fr bd price hp1 = some hp' → HV n hp' → ∀ σ' : jMem, HI hp' σ' → (∀ c, c ≠ 11 → c ≠ 12 → c ≠ 13 → σ' c = σ1 c) → jV (jP mX5_makeSteps (d + 6) K) 28 [some (.ref 14), some (.int (jI (t : Int))), some (.int (jI (i : Int)))] [] σ' := by
        intro hp' e hV' σ' hI' he
        refine jr_iinc (pc' := 31) (lv' := [_, _, _]) gM dX5_makeSteps_28 rfl rfl rfl ?_
        refine jr_goto (tgt := 2) gM dX5_makeSteps_31 rfl ?_
        refine ih (i + 1) (by omega) (by omega) hp' σ' (hS1.of hV' hI' he) (fun c q1 q2 q3 => by rw [he c q1 q2 q3]; exact g1 c q1 q2 q3) ?_
        rw [g2, stN_s e]
        simp only [Prod.mk.injEq, and_true]
        omega
      refine jr_aload_n (pc' := 8) gM dX5_makeSteps_7 rfl rfl ?_
      refine jr_inv (pc' := 11) (as := []) gM dX5_makeSteps_8 rfl kX5_23 rfl rfl rfl (Nat.le_of_ble_eq_true rfl) ?_
      refine layFirst_ok hS1 (fun z1 σ2 k1 => ?_) (fun hp' z1 hV' σ2 k1 k2 => ?_)
      · dsimp only [Option.toList, List.cons_append, List.nil_append]
        refine jr_if_ne (tgt := 28) (pc' := 14) gM dX5_makeSteps_11 rfl rfl ⟨by omega, by omega⟩ (fun cc => absurd cc (by omega)) (fun _ => ?_)
        have hS2 : SI n hp1 fr bd m price σ2 := hS1.of hS1.2.2.1 (hS1.2.2.2.1.of (k1 11 (by omega)) (k1 12 (by omega))) (fun c _ _ q => k1 c q)
        refine jr_aload_n (pc' := 15) gM dX5_makeSteps_14 rfl rfl ?_
        refine jr_inv (pc' := 18) (as := []) gM dX5_makeSteps_15 rfl kX5_27 rfl rfl rfl (Nat.le_of_ble_eq_true rfl) ?_
        refine moveFirst_ok hS2 hbd (fun z2 σ3 k2 => ?_) (fun hp' z2 hV' σ3 k2 k3 => ?_)
        · dsimp only [Option.toList, List.cons_append, List.nil_append]
          refine jr_if_ne (tgt := 28) (pc' := 21) gM dX5_makeSteps_18 rfl rfl ⟨by omega, by omega⟩ (fun cc => absurd cc (by omega)) (fun _ => ?_)
          have hS3 : SI n hp1 fr bd m price σ3 := hS2.of hS2.2.2.1 (hS2.2.2.2.1.of (k2 11 (by omega)) (k2 12 (by omega))) (fun c _ _ q => k2 c q)
          refine jr_aload_n (pc' := 22) gM dX5_makeSteps_21 rfl rfl ?_
          refine jr_inv (pc' := 25) (as := []) gM dX5_makeSteps_22 rfl kX5_30 rfl rfl rfl (Nat.le_of_ble_eq_true rfl) ?_
          refine meltFirst_ok hS3 (fun z3 σ4 k3 => ?_) (fun hp' z3 hV' σ4 k3 k4 => ?_)
          · dsimp only [Option.toList, List.cons_append, List.nil_append]
            refine jr_if_eq (tgt := 34) (pc' := 28) gM dX5_makeSteps_25 rfl rfl ⟨by omega, by omega⟩ (fun _ => ?_) (fun cc => absurd cc (by omega))
            refine fin σ4 (fun c q => by rw [k3 c q, k2 c q, k1 c q]) ?_
            rw [g2, stN_n (by unfold stR; rw [z1, z2, z3]; rfl)]
            rfl
          · dsimp only [Option.toList, List.cons_append, List.nil_append]
            refine jr_if_eq (tgt := 34) (pc' := 28) gM dX5_makeSteps_25 rfl rfl ⟨by omega, by omega⟩ (fun cc => absurd cc (by omega)) (fun _ => ?_)
            exact go hp' (by unfold stR; rw [z1, z2, z3]; rfl) hV' σ4 k3 (fun c q1 q2 q3 => by rw [k4 c q1 q2 q3, k2 c q3, k1 c q3])
        · dsimp only [Option.toList, List.cons_append, List.nil_append]
          refine jr_if_ne (tgt := 28) (pc' := 21) gM dX5_makeSteps_18 rfl rfl ⟨by omega, by omega⟩ (fun _ => ?_) (fun cc => absurd cc (by omega))
          exact go hp' (by unfold stR; rw [z1, z2]; rfl) hV' σ3 k2 (fun c q1 q2 q3 => by rw [k3 c q1 q2 q3, k1 c q3])
      · dsimp only [Option.toList, List.cons_append, List.nil_append]
        refine jr_if_ne (tgt := 28) (pc' := 14) gM dX5_makeSteps_11 rfl rfl ⟨by omega, by omega⟩ (fun _ => ?_) (fun cc => absurd cc (by omega))
        exact go hp' (by unfold stR; rw [z1]; rfl) hV' σ2 k1 k2
  refine lp 0 (by omega) hp σ hS (fun c _ _ _ => rfl) ?_
  rw [Nat.sub_zero, Nat.zero_add]
