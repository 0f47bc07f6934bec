/-! ===== the reference: name ===== -/
theorem jx_and (a b : Nat) : jI (a : Int) &&& jI (b : Int) = jI ((a &&& b : Nat) : Int) := by
  show nI a &&& nI b = nI (a &&& b)
  apply Int32.toBitVec_inj.1
  show BitVec.ofNat 32 a &&& BitVec.ofNat 32 b = BitVec.ofNat 32 (a &&& b)
  apply BitVec.eq_of_getLsbD_eq
  intro i hi
  simp [hi]
theorem and_sub {x S : Nat} : x &&& S = S ↔ ∀ i, S.testBit i = true → x.testBit i = true := by
  constructor
  · intro h i hi
    have := congrArg (fun y => y.testBit i) h
    simp only [Nat.testBit_and, hi, Bool.and_true] at this
    exact this
  · intro h
    apply Nat.eq_of_testBit_eq
    intro i
    rw [Nat.testBit_and]
    cases e : S.testBit i with
    | false => simp
    | true => simp [h i e]
theorem tb_pow {a i : Nat} : (2 ^ a).testBit i = true ↔ i = a := by
  rw [Nat.testBit_two_pow, decide_eq_true_eq]
  exact eq_comm
theorem and1 {x a : Nat} : x &&& 2 ^ a = 2 ^ a ↔ x.testBit a = true := by
  rw [and_sub]
  constructor
  · intro h
    exact h a (tb_pow.mpr rfl)
  · intro h i hi
    rw [tb_pow.mp hi]
    exact h
theorem and2 {x a b : Nat} : x &&& (2 ^ b ||| 2 ^ a) = 2 ^ b ||| 2 ^ a ↔ (x.testBit b && x.testBit a) = true := by
  rw [and_sub, Bool.and_eq_true]
  constructor
  · intro h
    exact ⟨h b (by rw [Nat.testBit_or, tb_pow.mpr rfl, Bool.true_or]), h a (by rw [Nat.testBit_or, tb_pow.mpr rfl, Bool.or_true])⟩
  · intro h i hi
    rw [Nat.testBit_or, Bool.or_eq_true, tb_pow, tb_pow] at hi
    rcases hi with rfl | rfl
    · exact h.1
    · exact h.2
theorem and3 {x a b c : Nat} : x &&& (2 ^ c ||| 2 ^ b ||| 2 ^ a) = 2 ^ c ||| 2 ^ b ||| 2 ^ a ↔ ((x.testBit c && x.testBit b) && x.testBit a) = true := by
  rw [and_sub, Bool.and_eq_true, Bool.and_eq_true]
  constructor
  · intro h
    exact ⟨⟨h c (by rw [Nat.testBit_or, Nat.testBit_or, tb_pow.mpr rfl, Bool.true_or, Bool.true_or]), h b (by rw [Nat.testBit_or, Nat.testBit_or, (tb_pow (a := b)).mpr rfl, Bool.or_true, Bool.true_or])⟩, h a (by rw [Nat.testBit_or, (tb_pow (a := a)).mpr rfl, Bool.or_true])⟩
  · intro h i hi
    rw [Nat.testBit_or, Nat.testBit_or, Bool.or_eq_true, Bool.or_eq_true, tb_pow, tb_pow, tb_pow] at hi
    rcases hi with (rfl | rfl) | rfl
    · exact h.1.1
    · exact h.1.2
    · exact h.2
section jMw
variable {n : Nat} {nb : Nat → Nat} {yr wt hp : Nat → Int} {pr ga sh fe : Int} {m : Nat} {ba bb : Nat → Nat} {bm : Nat → Int} {s : Nat} {se : Nat → Nat} {sp : Int} {σ : jMem} {K : Option Value → jMem → Prop} {d : Nat}
set_option maxRecDepth 100000 in
theorem isName_ok {x : Int} {S : Nat} {p : Nat → Bool} (hC : MI n nb yr wt hp pr ga sh fe m ba bb bm s se sp σ) (h1 : jR x) (hx : 0 ≤ x) (hS : S < 2 ^ 20) (hp1 : ∀ u, u < n → (nb u &&& S = S ↔ p u = true)) (hp2 : ∀ u, n ≤ u → p u = false)
    (hK1 : ndF sh fe p (fun v => decide (0 ≤ x ∧ hp v = x)) → K (some (.int (jI 1))) σ) (hK0 : ¬ ndF sh fe p (fun v => decide (0 ≤ x ∧ hp v = x)) → K (some (.int (jI 0))) σ) : jRun (d + 5) mX8_isName [.ref 24, .int (jI x), .int (jI (S : Int))] σ K := by
  obtain ⟨a1, a2, a3, a4, a5, a6, a7, a8, a9, a10, a11, a12, -⟩ := hC
  have hn := a1.2
  generalize hq : (fun v => decide (0 ≤ x ∧ hp v = x)) = q at *
  have hqv : ∀ v, q v = true ↔ hp v = x := fun v => by rw [← hq]; rw [decide_eq_true_iff]; exact ⟨fun z => z.2, fun z => ⟨hx, z⟩⟩
  have hq4 := jn_le q 40
  refine jenter (lv := [_, _, _, _, _, _, _]) rfl rfl (Nat.le_of_ble_eq_true rfl) ?_
  refine jr_aload_n (pc' := 1) gM dX8_isName_0 rfl rfl ?_
  refine jr_iload_n (pc' := 2) gM dX8_isName_1 rfl rfl ?_
  refine jr_inv (pc' := 5) (as := [_]) gM dX8_isName_2 rfl kX8_102 rfl rfl rfl (Nat.le_of_ble_eq_true rfl) ?_
  refine msize_ok a1.1 hn a5 a6 h1 ?_
  rw [hq]
  dsimp only [Option.toList, List.cons_append, List.nil_append]
  refine jr_istore_n (pc' := 6) (lv' := [_, _, _, _, _, _, _]) gM dX8_isName_5 rfl rfl (Nat.le_of_ble_eq_true rfl) ?_
  refine jr_iconst (pc' := 7) gM dX8_isName_6 rfl ?_
  refine jr_istore (pc' := 9) (lv' := [_, _, _, _, _, _, _]) gM dX8_isName_7 rfl rfl (Nat.le_of_ble_eq_true rfl) ?_
  refine jr_iconst (pc' := 10) gM dX8_isName_9 rfl ?_
  refine jr_istore (pc' := 12) (lv' := [_, _, _, _, _, _, _]) gM dX8_isName_10 rfl rfl (Nat.le_of_ble_eq_true rfl) ?_
  refine jr_iconst (pc' := 13) gM dX8_isName_12 rfl ?_
  refine jr_istore (pc' := 15) (lv' := [_, _, _, _, _, _, _]) gM dX8_isName_13 rfl rfl (Nat.le_of_ble_eq_true rfl) ?_
  have lp : ∀ i, i ≤ n → jV (jP mX8_isName (d + 5) K) 15 [some (.ref 24), some (.int (jI x)), some (.int (jI (S : Int))), some (.int (jI ((jn q 40 : Nat) : Int))), some (.int (jI ((jn (fun u => p u && q u) i : Nat) : Int))), some (.int (jI ((jn (fun u => p u && !q u) i : Nat) : Int))), some (.int (jI (i : Int)))] [] σ := by
    refine jdown n ?_
    intro i hi ih
    have b1 := jn_le (fun u => p u && q u) i
    have b2 := jn_le (fun u => p u && !q u) i
    refine jr_iload (pc' := 17) gM dX8_isName_15 rfl rfl ?_
    refine jr_aload_n (pc' := 18) gM dX8_isName_17 rfl rfl ?_
    refine jr_gfi (pc' := 21) gM dX8_isName_18 rfl fX8_60 rfl rfl ?_
    rw [a1.1]
    refine jr_icmp_ge (tgt := 66) (pc' := 24) gM dX8_isName_21 rfl rfl ⟨by omega, by omega⟩ ⟨by omega, by omega⟩ (fun c21 => ?_) (fun c21 => ?_)
    · have e : i = n := by omega
      subst e
      have e1 : jn (fun u => p u && q u) 40 = jn (fun u => p u && q u) i := jn_cut hn (fun v w _ => by rw [hp2 v w]; rfl)
      have e2 : jn (fun u => p u && !q u) 40 = jn (fun u => p u && !q u) i := jn_cut hn (fun v w _ => by rw [hp2 v w]; rfl)
      unfold ndF at hK1 hK0
      rw [e1, e2] at hK1 hK0
      have q4 : 0 ≤ sh * (jn q 40 : Int) ∧ sh * (jn q 40 : Int) ≤ 4000 := by
        constructor
        · exact Int.mul_nonneg (by omega) (by omega)
        · exact Int.le_trans (Int.mul_le_mul (show sh ≤ 100 by omega) (show (jn q 40 : Int) ≤ 40 by omega) (by omega) (by omega)) (by omega)
      refine jr_bipush (pc' := 68) gM dX8_isName_66 rfl rfl ?_
      refine jr_iload (pc' := 70) gM dX8_isName_68 rfl rfl ?_
      refine jr_imul (pc' := 71) gM dX8_isName_70 rfl ?_
      refine jr_aload_n (pc' := 72) gM dX8_isName_71 rfl rfl ?_
      refine jr_gfi (pc' := 75) gM dX8_isName_72 rfl fX8_20 rfl rfl ?_
      rw [a11.1]
      refine jr_iload_n (pc' := 76) gM dX8_isName_75 rfl rfl ?_
      refine jr_imul (pc' := 77) gM dX8_isName_76 rfl ?_
      refine jr_icmp_lt (tgt := 93) (pc' := 80) gM dX8_isName_77 rfl rfl ⟨by omega, by omega⟩ ⟨by omega, by omega⟩ (fun c77 => ?_) (fun c77 => ?_)
      · refine jr_iconst (pc' := 94) gM dX8_isName_93 rfl ?_
        refine jr_zreturn dX8_isName_94 rfl (by first | omega | exact bI_01 _) ?_
        exact hK0 (by omega)
      · refine jr_iload (pc' := 82) gM dX8_isName_80 rfl rfl ?_
        refine jr_aload_n (pc' := 83) gM dX8_isName_82 rfl rfl ?_
        refine jr_gfi (pc' := 86) gM dX8_isName_83 rfl fX8_23 rfl rfl ?_
        rw [a12.1]
        refine jr_icmp_gt (tgt := 93) (pc' := 89) gM dX8_isName_86 rfl rfl ⟨by omega, by omega⟩ ⟨by omega, by omega⟩ (fun c86 => ?_) (fun c86 => ?_)
        · refine jr_iconst (pc' := 94) gM dX8_isName_93 rfl ?_
          refine jr_zreturn dX8_isName_94 rfl (by first | omega | exact bI_01 _) ?_
          exact hK0 (by omega)
        · refine jr_iconst (pc' := 90) gM dX8_isName_89 rfl ?_
          refine jr_goto (tgt := 94) gM dX8_isName_90 rfl ?_
          refine jr_zreturn dX8_isName_94 rfl (by first | omega | exact bI_01 _) ?_
          exact hK1 (by omega)
    · obtain ⟨n1, n2⟩ := a2 i (by omega)
      have hri := a5.r hn i
      have nxt := ih (i + 1) (by omega) (by omega)
      rw [show jn (fun u => p u && q u) (i + 1) = jn (fun u => p u && q u) i + (if (p i && q i) = true then 1 else 0) from rfl, show jn (fun u => p u && !q u) (i + 1) = jn (fun u => p u && !q u) i + (if (p i && !q i) = true then 1 else 0) from rfl] at nxt
      have hand : nb i &&& S < 2 ^ 20 := Nat.lt_of_le_of_lt Nat.and_le_left n2
      refine jr_aload_n (pc' := 25) gM dX8_isName_24 rfl rfl ?_
      refine jr_gfr (pc' := 28) gM dX8_isName_25 rfl fX8_26 rfl rfl ?_
      refine jr_iload (pc' := 30) gM dX8_isName_28 rfl rfl ?_
      refine jr_iald (pc' := 31) (i) gM dX8_isName_30 rfl rfl (rfl) (by omega) (by decide) ?_
      rw [n1]
      refine jr_iload_n (pc' := 32) gM dX8_isName_31 rfl rfl ?_
      refine jr_iand (pc' := 33) (((nb i &&& S : Nat) : Int)) gM dX8_isName_32 rfl (jx_and _ _) ?_
      refine jr_iload_n (pc' := 34) gM dX8_isName_33 rfl rfl ?_
      refine jr_icmp_eq (tgt := 40) (pc' := 37) gM dX8_isName_34 rfl rfl ⟨by omega, by omega⟩ ⟨by omega, by omega⟩ (fun c34 => ?_) (fun c34 => ?_)
      · have hpi : p i = true := (hp1 i (by omega)).mp (by omega)
        rw [hpi, Bool.true_and, Bool.true_and] at nxt
        refine jr_aload_n (pc' := 41) gM dX8_isName_40 rfl rfl ?_
        refine jr_gfr (pc' := 44) gM dX8_isName_41 rfl fX8_32 rfl rfl ?_
        refine jr_iload (pc' := 46) gM dX8_isName_44 rfl rfl ?_
        refine jr_iald (pc' := 47) (i) gM dX8_isName_46 rfl rfl (rfl) (by omega) (by decide) ?_
        rw [a6 i (by omega)]
        refine jr_iload_n (pc' := 48) gM dX8_isName_47 rfl rfl ?_
        refine jr_icmp_ne (tgt := 57) (pc' := 51) gM dX8_isName_48 rfl rfl ⟨by omega, by omega⟩ ⟨by omega, by omega⟩ (fun c48 => ?_) (fun c48 => ?_)
        · have hqi : q i = false := by
            cases e : q i with
            | false => rfl
            | true => exact absurd ((hqv i).mp e) c48
          rw [hqi, if_neg (by decide), if_pos (by decide)] at nxt
          refine jr_iinc (pc' := 60) (lv' := [_, _, _, _, _, _, _]) gM dX8_isName_57 rfl rfl rfl ?_
          refine jr_iinc (pc' := 63) (lv' := [_, _, _, _, _, _, _]) gM dX8_isName_60 rfl rfl rfl ?_
          refine jr_goto (tgt := 15) gM dX8_isName_63 rfl ?_
          exact nxt
        · have hqi : q i = true := (hqv i).mpr (by omega)
          rw [hqi, if_pos rfl, if_neg (by decide)] at nxt
          refine jr_iinc (pc' := 54) (lv' := [_, _, _, _, _, _, _]) gM dX8_isName_51 rfl rfl rfl ?_
          refine jr_goto (tgt := 60) gM dX8_isName_54 rfl ?_
          refine jr_iinc (pc' := 63) (lv' := [_, _, _, _, _, _, _]) gM dX8_isName_60 rfl rfl rfl ?_
          refine jr_goto (tgt := 15) gM dX8_isName_63 rfl ?_
          exact nxt
      · have hpi : p i = false := by
          cases e : p i with
          | false => rfl
          | true => exact absurd ((hp1 i (by omega)).mpr e) (by omega)
        rw [hpi, Bool.false_and, Bool.false_and, if_neg (by decide)] at nxt
        refine jr_goto (tgt := 60) gM dX8_isName_37 rfl ?_
        refine jr_iinc (pc' := 63) (lv' := [_, _, _, _, _, _, _]) gM dX8_isName_60 rfl rfl rfl ?_
        refine jr_goto (tgt := 15) gM dX8_isName_63 rfl ?_
        exact nxt
  exact lp 0 (by omega)
theorem hvF_in {k u : Nat} (h : u < n) : hvF n nb k u = (nb u).testBit k := by
  unfold hvF
  rw [decide_eq_true h]
  rfl
theorem hvF_out {k u : Nat} (h : n ≤ u) : hvF n nb k u = false := by
  unfold hvF
  rw [decide_eq_false (by omega)]
  rfl
theorem pow20 {a : Nat} (h : a < 20) : 2 ^ a < 2 ^ 20 := wb_lt2 (by omega)
/-- what a search that goes on behind its find holds -/
def fdP (F : Nat → Option Nat) (i N b : Nat) : Prop := (b = 0 ∧ frs F 0 N = frs F i (N - i)) ∨ (0 < b ∧ frs F 0 N = some b)
theorem fdP_end {F : Nat → Option Nat} {N b : Nat} (h : fdP F N N b) : b = (frs F 0 N).getD 0 := by
  rcases h with ⟨h1, h2⟩ | ⟨h1, h2⟩
  · rw [h2, Nat.sub_self, h1]
    rfl
  · rw [h2]
    rfl
theorem fdP_keep {F : Nat → Option Nat} {i j N b : Nat} (h : fdP F i N b) (hb : 0 < b) : fdP F j N b := by
  rcases h with ⟨h1, h2⟩ | h
  · omega
  · exact Or.inr h
theorem fdP_skip {F : Nat → Option Nat} {i N : Nat} (h : fdP F i N 0) (hi : i < N) (e : F i = none) : fdP F (i + 1) N 0 := by
  rcases h with ⟨h1, h2⟩ | h
  · refine Or.inl ⟨rfl, ?_⟩
    rw [h2, show N - i = (N - (i + 1)) + 1 by omega, frs_n e]
  · omega
theorem fdP_find {F : Nat → Option Nat} {i j N v : Nat} (h : fdP F i N 0) (hi : i < N) (e : F i = some v) (hv : 0 < v) : fdP F j N v := by
  rcases h with ⟨h1, h2⟩ | h
  · refine Or.inr ⟨hv, ?_⟩
    rw [h2, show N - i = (N - (i + 1)) + 1 by omega, frs_s e]
  · omega
theorem fdP_start {F : Nat → Option Nat} {N : Nat} : fdP F 0 N 0 := Or.inl ⟨rfl, rfl⟩
/-- one inner search done: the outer one goes a step on -/
theorem fdP_in {F : Nat → Option Nat} {G : Nat → Option Nat} {i N M b : Nat} (hG : frs G 0 M = F i) (h : fdP F i N b) (hi : i < N) (h2 : (b = 0 ∧ fdP G M M 0) ∨ 0 < b) : fdP F (i + 1) N b := by
  rcases h2 with ⟨rfl, h2⟩ | h2
  · refine fdP_skip h hi ?_
    rw [← hG]
    rcases h2 with ⟨-, e⟩ | e
    · rw [e, Nat.sub_self]
      rfl
    · omega
  · exact fdP_keep h h2
set_option maxRecDepth 100000 in
theorem m_name {x : Int} (hC : MI n nb yr wt hp pr ga sh fe m ba bb bm s se sp σ) (h1 : jR x)
    (hK0 : ¬ isH n hp x → K (some (.int (jI 0))) σ) (hK1 : isH n hp x → K (some (.int (jI ((nmF n nb sh fe (fun v => decide (0 ≤ x ∧ hp v = x)) : Nat) : Int)))) σ) : jRun (d + 9) mX8_name [.ref 24, .int (jI x)] σ K := by
  refine jenter (lv := [_, _, _, _, _, _]) rfl rfl (Nat.le_of_ble_eq_true rfl) ?_
  refine jr_aload_n (pc' := 1) gM dX8_name_0 rfl rfl ?_
  refine jr_iload_n (pc' := 2) gM dX8_name_1 rfl rfl ?_
  refine jr_inv (pc' := 5) (as := [_]) gM dX8_name_2 rfl kX8_123 rfl rfl rfl (Nat.le_of_ble_eq_true rfl) ?_
  refine misHeap_ok hC.1.1 hC.1.2 hC.2.2.2.2.1 hC.2.2.2.2.2.1 h1 ?_
  dsimp only [Option.toList, List.cons_append, List.nil_append]
  refine jr_pb_ne (tgt := 10) (pc' := 8) gM dX8_name_5 rfl rfl (fun c5 => ?_) (fun c5 => ?_)
  · have hx0 := c5.1
    have hk := hK1 c5
    have l1 := n1_lt (n := n) (nb := nb) (share := sh) (few := fe) (q := fun v => decide (0 ≤ x ∧ hp v = x))
    have l2 := n2_lt (n := n) (nb := nb) (share := sh) (few := fe) (q := fun v => decide (0 ≤ x ∧ hp v = x))
    have isN := fun (S : Nat) (p : Nat → Bool) (K' : Option Value → jMem → Prop) => isName_ok (d := d + 3) (K := K') (S := S) (p := p) hC h1 hx0
    generalize hq : (fun v => decide (0 ≤ x ∧ hp v = x)) = q at *
    unfold nmF at hk
    have pos2 : ∀ a b : Nat, 0 < 2 ^ a ||| 2 ^ b := fun a b => Nat.lt_of_lt_of_le (Nat.two_pow_pos a) Nat.left_le_or
    have pos3 : ∀ a b c : Nat, 0 < 2 ^ a ||| 2 ^ b ||| 2 ^ c := fun a b c => Nat.lt_of_lt_of_le (pos2 a b) Nat.left_le_or
    -- the third
    have third : (frs (n1F n nb sh fe q) 0 20).getD 0 = 0 → (frs (fun b => frs (n2F n nb sh fe q b) 0 b) 0 20).getD 0 = 0 → ∀ q3 q4 q5 : Option Value, jV (jP mX8_name (d + 9) K) 115 [some (.ref 24), some (.int (jI x)), some (.int (jI 0)), q3, q4, q5] [] σ := by
      intro z1 z2 q3 q4 q5
      rw [if_pos z1, if_pos z2] at hk
      refine jr_iconst (pc' := 116) gM dX8_name_115 rfl ?_
      refine jr_istore_n (pc' := 117) (lv' := [_, _, _, _, _, _]) gM dX8_name_116 rfl rfl (Nat.le_of_ble_eq_true rfl) ?_
      have lp : ∀ i, i ≤ 20 → ∀ (b : Nat) (q4 q5 : Option Value), b < 2 ^ 20 → fdP (fun c => frs (fun b => frs (n3F n nb sh fe q c b) 0 b) 0 c) i 20 b → jV (jP mX8_name (d + 9) K) 117 [some (.ref 24), some (.int (jI x)), some (.int (jI (b : Int))), some (.int (jI (i : Int))), q4, q5] [] σ := by
        refine jdown 20 ?_
        intro i hi ih b q4 q5 hb g
        refine jr_iload_n (pc' := 118) gM dX8_name_117 rfl rfl ?_
        refine jr_bipush (pc' := 120) gM dX8_name_118 rfl rfl ?_
        refine jr_icmp_ge (tgt := 199) (pc' := 123) gM dX8_name_120 rfl rfl ⟨by omega, by omega⟩ ⟨by omega, by omega⟩ (fun c120 => ?_) (fun c120 => ?_)
        · have e : i = 20 := by omega
          subst e
          refine jr_iload_n (pc' := 200) gM dX8_name_199 rfl rfl ?_
          refine jr_ireturn dX8_name_200 rfl ?_
          rw [fdP_end g]
          exact hk
        · refine jr_iconst (pc' := 124) gM dX8_name_123 rfl ?_
          refine jr_istore (pc' := 126) (lv' := [_, _, _, _, _, _]) gM dX8_name_124 rfl rfl (Nat.le_of_ble_eq_true rfl) ?_
          have lp2 : ∀ j, j ≤ i → ∀ (b : Nat) (q5 : Option Value), b < 2 ^ 20 → fdP (fun c => frs (fun b => frs (n3F n nb sh fe q c b) 0 b) 0 c) i 20 b → ((b = 0 ∧ fdP (fun b => frs (n3F n nb sh fe q i b) 0 b) j i 0) ∨ 0 < b) → jV (jP mX8_name (d + 9) K) 126 [some (.ref 24), some (.int (jI x)), some (.int (jI (b : Int))), some (.int (jI (i : Int))), some (.int (jI (j : Int))), q5] [] σ := by
            refine jdown i ?_
            intro j hj ihj b q5 hb g gj
            refine jr_iload (pc' := 128) gM dX8_name_126 rfl rfl ?_
            refine jr_iload_n (pc' := 129) gM dX8_name_128 rfl rfl ?_
            refine jr_icmp_ge (tgt := 193) (pc' := 132) gM dX8_name_129 rfl rfl ⟨by omega, by omega⟩ ⟨by omega, by omega⟩ (fun c129 => ?_) (fun c129 => ?_)
            · have e : j = i := by omega
              subst e
              refine jr_iinc (pc' := 196) (lv' := [_, _, _, _, _, _]) gM dX8_name_193 rfl rfl rfl ?_
              refine jr_goto (tgt := 117) gM dX8_name_196 rfl ?_
              exact ih (j + 1) (by omega) (by omega) b _ _ hb (fdP_in (G := fun b => frs (n3F n nb sh fe q j b) 0 b) (M := j) rfl g (by omega) gj)
            · refine jr_iconst (pc' := 133) gM dX8_name_132 rfl ?_
              refine jr_istore (pc' := 135) (lv' := [_, _, _, _, _, _]) gM dX8_name_133 rfl rfl (Nat.le_of_ble_eq_true rfl) ?_
              have lp3 : ∀ k, k ≤ j → ∀ b : Nat, b < 2 ^ 20 → fdP (fun c => frs (fun b => frs (n3F n nb sh fe q c b) 0 b) 0 c) i 20 b → ((b = 0 ∧ fdP (fun b => frs (n3F n nb sh fe q i b) 0 b) j i 0) ∨ 0 < b) → ((b = 0 ∧ fdP (n3F n nb sh fe q i j) k j 0) ∨ 0 < b) → jV (jP mX8_name (d + 9) K) 135 [some (.ref 24), some (.int (jI x)), some (.int (jI (b : Int))), some (.int (jI (i : Int))), some (.int (jI (j : Int))), some (.int (jI (k : Int)))] [] σ := by
                refine jdown j ?_
                intro k hk3 ihk b hb g gj gk
                refine jr_iload (pc' := 137) gM dX8_name_135 rfl rfl ?_
                refine jr_iload (pc' := 139) gM dX8_name_137 rfl rfl ?_
                refine jr_icmp_ge (tgt := 187) (pc' := 142) gM dX8_name_139 rfl rfl ⟨by omega, by omega⟩ ⟨by omega, by omega⟩ (fun c139 => ?_) (fun c139 => ?_)
                · have e : k = j := by omega
                  subst e
                  refine jr_iinc (pc' := 190) (lv' := [_, _, _, _, _, _]) gM dX8_name_187 rfl rfl rfl ?_
                  refine jr_goto (tgt := 126) gM dX8_name_190 rfl ?_
                  refine ihj (k + 1) (by omega) (by omega) b _ hb g ?_
                  rcases gk with ⟨rfl, gk⟩ | gk
                  · rcases gj with ⟨-, gj⟩ | gj
                    · exact Or.inl ⟨rfl, fdP_in (G := n3F n nb sh fe q i k) (M := k) rfl gj (by omega) (Or.inl ⟨rfl, gk⟩)⟩
                    · omega
                  · exact Or.inr gk
                · refine jr_iload_n (pc' := 143) gM dX8_name_142 rfl rfl ?_
                  refine jr_if_ne (tgt := 181) (pc' := 146) gM dX8_name_143 rfl rfl ⟨by omega, by omega⟩ (fun c143 => ?_) (fun c143 => ?_)
                  rotate_left
                  · rcases gk with ⟨rfl, gk⟩ | gk
                    · rcases gj with ⟨-, gj⟩ | gj
                      · have hS : 2 ^ i ||| 2 ^ j ||| 2 ^ k < 2 ^ 20 := Nat.or_lt_two_pow (Nat.or_lt_two_pow (pow20 (by omega)) (pow20 (by omega))) (pow20 (by omega))
                        refine jr_aload_n (pc' := 147) gM dX8_name_146 rfl rfl ?_
                        refine jr_iload_n (pc' := 148) gM dX8_name_147 rfl rfl ?_
                        refine jr_iconst (pc' := 149) gM dX8_name_148 rfl ?_
                        refine jr_iload_n (pc' := 150) gM dX8_name_149 rfl rfl ?_
                        refine jr_ishl (pc' := 151) (((2 ^ i : Nat) : Int)) gM dX8_name_150 rfl (jx_shl (by omega)) ?_
                        refine jr_iconst (pc' := 152) gM dX8_name_151 rfl ?_
                        refine jr_iload (pc' := 154) gM dX8_name_152 rfl rfl ?_
                        refine jr_ishl (pc' := 155) (((2 ^ j : Nat) : Int)) gM dX8_name_154 rfl (jx_shl (by omega)) ?_
                        refine jr_ior (pc' := 156) (((2 ^ i ||| 2 ^ j : Nat) : Int)) gM dX8_name_155 rfl (jx_or _ _) ?_
                        refine jr_iconst (pc' := 157) gM dX8_name_156 rfl ?_
                        refine jr_iload (pc' := 159) gM dX8_name_157 rfl rfl ?_
                        refine jr_ishl (pc' := 160) (((2 ^ k : Nat) : Int)) gM dX8_name_159 rfl (jx_shl (by omega)) ?_
                        refine jr_ior (pc' := 161) (((2 ^ i ||| 2 ^ j ||| 2 ^ k : Nat) : Int)) gM dX8_name_160 rfl (jx_or _ _) ?_
                        refine jr_inv (pc' := 164) (as := [_, _]) gM dX8_name_161 rfl kX8_133 rfl rfl rfl (Nat.le_of_ble_eq_true rfl) ?_
                        refine isN (2 ^ i ||| 2 ^ j ||| 2 ^ k) (fun u => (hvF n nb i u && hvF n nb j u) && hvF n nb k u) _ hS (fun u hu => by rw [hvF_in hu, hvF_in hu, hvF_in hu]; exact and3) (fun u hu => by rw [hvF_out hu]; rfl) (fun h => ?_) (fun h => ?_)
                        · dsimp only [Option.toList, List.cons_append, List.nil_append]
                          refine jr_if_eq (tgt := 181) (pc' := 167) gM dX8_name_164 rfl rfl ⟨by omega, by omega⟩ (fun cc => absurd cc (by omega)) (fun _ => ?_)
                          refine jr_iconst (pc' := 168) gM dX8_name_167 rfl ?_
                          refine jr_iload_n (pc' := 169) gM dX8_name_168 rfl rfl ?_
                          refine jr_ishl (pc' := 170) (((2 ^ i : Nat) : Int)) gM dX8_name_169 rfl (jx_shl (by omega)) ?_
                          refine jr_iconst (pc' := 171) gM dX8_name_170 rfl ?_
                          refine jr_iload (pc' := 173) gM dX8_name_171 rfl rfl ?_
                          refine jr_ishl (pc' := 174) (((2 ^ j : Nat) : Int)) gM dX8_name_173 rfl (jx_shl (by omega)) ?_
                          refine jr_ior (pc' := 175) (((2 ^ i ||| 2 ^ j : Nat) : Int)) gM dX8_name_174 rfl (jx_or _ _) ?_
                          refine jr_iconst (pc' := 176) gM dX8_name_175 rfl ?_
                          refine jr_iload (pc' := 178) gM dX8_name_176 rfl rfl ?_
                          refine jr_ishl (pc' := 179) (((2 ^ k : Nat) : Int)) gM dX8_name_178 rfl (jx_shl (by omega)) ?_
                          refine jr_ior (pc' := 180) (((2 ^ i ||| 2 ^ j ||| 2 ^ k : Nat) : Int)) gM dX8_name_179 rfl (jx_or _ _) ?_
                          refine jr_istore_n (pc' := 181) (lv' := [_, _, _, _, _, _]) gM dX8_name_180 rfl rfl (Nat.le_of_ble_eq_true rfl) ?_
                          refine jr_iinc (pc' := 184) (lv' := [_, _, _, _, _, _]) gM dX8_name_181 rfl rfl rfl ?_
                          refine jr_goto (tgt := 135) gM dX8_name_184 rfl ?_
                          have f3 : n3F n nb sh fe q i j k = some (2 ^ i ||| 2 ^ j ||| 2 ^ k) := by unfold n3F; exact if_pos h
                          have f2 : frs (n3F n nb sh fe q i j) 0 j = some (2 ^ i ||| 2 ^ j ||| 2 ^ k) := by
                            rcases fdP_find (j := j) gk (by omega) f3 (pos3 _ _ _) with ⟨z, -⟩ | z
                            · exact absurd z (Nat.pos_iff_ne_zero.mp (pos3 i j k))
                            · exact z.2
                          have f1 : frs (fun b => frs (n3F n nb sh fe q i b) 0 b) 0 i = some (2 ^ i ||| 2 ^ j ||| 2 ^ k) := by
                            rcases fdP_find (j := i) gj (by omega) f2 (pos3 _ _ _) with ⟨z, -⟩ | z
                            · exact absurd z (Nat.pos_iff_ne_zero.mp (pos3 i j k))
                            · exact z.2
                          exact ihk (k + 1) (by omega) (by omega) (2 ^ i ||| 2 ^ j ||| 2 ^ k) hS (fdP_find g (by omega) f1 (pos3 _ _ _)) (Or.inr (pos3 _ _ _)) (Or.inr (pos3 _ _ _))
                        · dsimp only [Option.toList, List.cons_append, List.nil_append]
                          refine jr_if_eq (tgt := 181) (pc' := 167) gM dX8_name_164 rfl rfl ⟨by omega, by omega⟩ (fun _ => ?_) (fun cc => absurd cc (by omega))
                          refine jr_iinc (pc' := 184) (lv' := [_, _, _, _, _, _]) gM dX8_name_181 rfl rfl rfl ?_
                          refine jr_goto (tgt := 135) gM dX8_name_184 rfl ?_
                          exact ihk (k + 1) (by omega) (by omega) 0 hb g (Or.inl ⟨rfl, gj⟩) (Or.inl ⟨rfl, fdP_skip gk (by omega) (by unfold n3F; exact if_neg h)⟩)
                      · omega
                    · omega
                  · have hb0 : 0 < b := by omega
                    refine jr_iinc (pc' := 184) (lv' := [_, _, _, _, _, _]) gM dX8_name_181 rfl rfl rfl ?_
                    refine jr_goto (tgt := 135) gM dX8_name_184 rfl ?_
                    exact ihk (k + 1) (by omega) (by omega) b hb g (Or.inr hb0) (Or.inr hb0)
              refine lp3 0 (by omega) b hb g gj ?_
              rcases gj with ⟨rfl, -⟩ | gj
              · exact Or.inl ⟨rfl, fdP_start⟩
              · exact Or.inr gj
          refine lp2 0 (by omega) b _ hb g ?_
          rcases Nat.eq_zero_or_pos b with rfl | hb0
          · exact Or.inl ⟨rfl, fdP_start⟩
          · exact Or.inr hb0
      exact lp 0 (by omega) 0 _ _ (by decide) fdP_start
    -- the second
    have second : (frs (n1F n nb sh fe q) 0 20).getD 0 = 0 → ∀ q3 q4 q5 : Option Value, jV (jP mX8_name (d + 9) K) 51 [some (.ref 24), some (.int (jI x)), some (.int (jI 0)), q3, q4, q5] [] σ := by
      intro z1 q3 q4 q5
      refine jr_iconst (pc' := 52) gM dX8_name_51 rfl ?_
      refine jr_istore_n (pc' := 53) (lv' := [_, _, _, _, _, _]) gM dX8_name_52 rfl rfl (Nat.le_of_ble_eq_true rfl) ?_
      have lp : ∀ i, i ≤ 20 → ∀ (b : Nat) (q4 : Option Value), b < 2 ^ 20 → fdP (fun b => frs (n2F n nb sh fe q b) 0 b) i 20 b → jV (jP mX8_name (d + 9) K) 53 [some (.ref 24), some (.int (jI x)), some (.int (jI (b : Int))), some (.int (jI (i : Int))), q4, q5] [] σ := by
        refine jdown 20 ?_
        intro i hi ih b q4 hb g
        refine jr_iload_n (pc' := 54) gM dX8_name_53 rfl rfl ?_
        refine jr_bipush (pc' := 56) gM dX8_name_54 rfl rfl ?_
        refine jr_icmp_ge (tgt := 109) (pc' := 59) gM dX8_name_56 rfl rfl ⟨by omega, by omega⟩ ⟨by omega, by omega⟩ (fun c56 => ?_) (fun c56 => ?_)
        · have e : i = 20 := by omega
          subst e
          have ge := fdP_end g
          refine jr_iload_n (pc' := 110) gM dX8_name_109 rfl rfl ?_
          refine jr_if_le (tgt := 115) (pc' := 113) gM dX8_name_110 rfl rfl ⟨by omega, by omega⟩ (fun c110 => ?_) (fun c110 => ?_)
          · have hb0 : b = 0 := by omega
            rw [hb0]
            exact third z1 (by rw [← ge, hb0]) _ _ _
          · refine jr_iload_n (pc' := 114) gM dX8_name_113 rfl rfl ?_
            refine jr_ireturn dX8_name_114 rfl ?_
            rw [if_pos z1, if_neg (by rw [← ge]; omega), ← ge] at hk
            exact hk
        · refine jr_iconst (pc' := 60) gM dX8_name_59 rfl ?_
          refine jr_istore (pc' := 62) (lv' := [_, _, _, _, _, _]) gM dX8_name_60 rfl rfl (Nat.le_of_ble_eq_true rfl) ?_
          have lp2 : ∀ j, j ≤ i → ∀ b : Nat, b < 2 ^ 20 → fdP (fun b => frs (n2F n nb sh fe q b) 0 b) i 20 b → ((b = 0 ∧ fdP (n2F n nb sh fe q i) j i 0) ∨ 0 < b) → jV (jP mX8_name (d + 9) K) 62 [some (.ref 24), some (.int (jI x)), some (.int (jI (b : Int))), some (.int (jI (i : Int))), some (.int (jI (j : Int))), q5] [] σ := by
            refine jdown i ?_
            intro j hj ihj b hb g gj
            refine jr_iload (pc' := 64) gM dX8_name_62 rfl rfl ?_
            refine jr_iload_n (pc' := 65) gM dX8_name_64 rfl rfl ?_
            refine jr_icmp_ge (tgt := 103) (pc' := 68) gM dX8_name_65 rfl rfl ⟨by omega, by omega⟩ ⟨by omega, by omega⟩ (fun c65 => ?_) (fun c65 => ?_)
            · have e : j = i := by omega
              subst e
              refine jr_iinc (pc' := 106) (lv' := [_, _, _, _, _, _]) gM dX8_name_103 rfl rfl rfl ?_
              refine jr_goto (tgt := 53) gM dX8_name_106 rfl ?_
              exact ih (j + 1) (by omega) (by omega) b _ hb (fdP_in (G := n2F n nb sh fe q j) (M := j) rfl g (by omega) gj)
            · refine jr_iload_n (pc' := 69) gM dX8_name_68 rfl rfl ?_
              refine jr_if_ne (tgt := 97) (pc' := 72) gM dX8_name_69 rfl rfl ⟨by omega, by omega⟩ (fun c69 => ?_) (fun c69 => ?_)
              rotate_left
              · rcases gj with ⟨rfl, gj⟩ | gj
                · have hS : 2 ^ i ||| 2 ^ j < 2 ^ 20 := Nat.or_lt_two_pow (pow20 (by omega)) (pow20 (by omega))
                  refine jr_aload_n (pc' := 73) gM dX8_name_72 rfl rfl ?_
                  refine jr_iload_n (pc' := 74) gM dX8_name_73 rfl rfl ?_
                  refine jr_iconst (pc' := 75) gM dX8_name_74 rfl ?_
                  refine jr_iload_n (pc' := 76) gM dX8_name_75 rfl rfl ?_
                  refine jr_ishl (pc' := 77) (((2 ^ i : Nat) : Int)) gM dX8_name_76 rfl (jx_shl (by omega)) ?_
                  refine jr_iconst (pc' := 78) gM dX8_name_77 rfl ?_
                  refine jr_iload (pc' := 80) gM dX8_name_78 rfl rfl ?_
                  refine jr_ishl (pc' := 81) (((2 ^ j : Nat) : Int)) gM dX8_name_80 rfl (jx_shl (by omega)) ?_
                  refine jr_ior (pc' := 82) (((2 ^ i ||| 2 ^ j : Nat) : Int)) gM dX8_name_81 rfl (jx_or _ _) ?_
                  refine jr_inv (pc' := 85) (as := [_, _]) gM dX8_name_82 rfl kX8_133 rfl rfl rfl (Nat.le_of_ble_eq_true rfl) ?_
                  refine isN (2 ^ i ||| 2 ^ j) (fun u => hvF n nb i u && hvF n nb j u) _ hS (fun u hu => by rw [hvF_in hu, hvF_in hu]; exact and2) (fun u hu => by rw [hvF_out hu]; rfl) (fun h => ?_) (fun h => ?_)
                  · dsimp only [Option.toList, List.cons_append, List.nil_append]
                    refine jr_if_eq (tgt := 97) (pc' := 88) gM dX8_name_85 rfl rfl ⟨by omega, by omega⟩ (fun cc => absurd cc (by omega)) (fun _ => ?_)
                    refine jr_iconst (pc' := 89) gM dX8_name_88 rfl ?_
                    refine jr_iload_n (pc' := 90) gM dX8_name_89 rfl rfl ?_
                    refine jr_ishl (pc' := 91) (((2 ^ i : Nat) : Int)) gM dX8_name_90 rfl (jx_shl (by omega)) ?_
                    refine jr_iconst (pc' := 92) gM dX8_name_91 rfl ?_
                    refine jr_iload (pc' := 94) gM dX8_name_92 rfl rfl ?_
                    refine jr_ishl (pc' := 95) (((2 ^ j : Nat) : Int)) gM dX8_name_94 rfl (jx_shl (by omega)) ?_
                    refine jr_ior (pc' := 96) (((2 ^ i ||| 2 ^ j : Nat) : Int)) gM dX8_name_95 rfl (jx_or _ _) ?_
                    refine jr_istore_n (pc' := 97) (lv' := [_, _, _, _, _, _]) gM dX8_name_96 rfl rfl (Nat.le_of_ble_eq_true rfl) ?_
                    refine jr_iinc (pc' := 100) (lv' := [_, _, _, _, _, _]) gM dX8_name_97 rfl rfl rfl ?_
                    refine jr_goto (tgt := 62) gM dX8_name_100 rfl ?_
                    have f2 : n2F n nb sh fe q i j = some (2 ^ i ||| 2 ^ j) := by unfold n2F; exact if_pos h
                    have f1 : frs (n2F n nb sh fe q i) 0 i = some (2 ^ i ||| 2 ^ j) := by
                      rcases fdP_find (j := i) gj (by omega) f2 (pos2 _ _) with ⟨z, -⟩ | z
                      · exact absurd z (Nat.pos_iff_ne_zero.mp (pos2 i j))
                      · exact z.2
                    exact ihj (j + 1) (by omega) (by omega) (2 ^ i ||| 2 ^ j) hS (fdP_find g (by omega) f1 (pos2 _ _)) (Or.inr (pos2 _ _))
                  · dsimp only [Option.toList, List.cons_append, List.nil_append]
                    refine jr_if_eq (tgt := 97) (pc' := 88) gM dX8_name_85 rfl rfl ⟨by omega, by omega⟩ (fun _ => ?_) (fun cc => absurd cc (by omega))
                    refine jr_iinc (pc' := 100) (lv' := [_, _, _, _, _, _]) gM dX8_name_97 rfl rfl rfl ?_
                    refine jr_goto (tgt := 62) gM dX8_name_100 rfl ?_
                    exact ihj (j + 1) (by omega) (by omega) 0 hb g (Or.inl ⟨rfl, fdP_skip gj (by omega) (by unfold n2F; exact if_neg h)⟩)
                · omega
              · have hb0 : 0 < b := by omega
                refine jr_iinc (pc' := 100) (lv' := [_, _, _, _, _, _]) gM dX8_name_97 rfl rfl rfl ?_
                refine jr_goto (tgt := 62) gM dX8_name_100 rfl ?_
                exact ihj (j + 1) (by omega) (by omega) b hb g (Or.inr hb0)
          refine lp2 0 (by omega) b hb g ?_
          rcases Nat.eq_zero_or_pos b with rfl | hb0
          · exact Or.inl ⟨rfl, fdP_start⟩
          · exact Or.inr hb0
      exact lp 0 (by omega) 0 _ (by decide) fdP_start
    -- the first
    refine jr_iconst (pc' := 11) gM dX8_name_10 rfl ?_
    refine jr_istore_n (pc' := 12) (lv' := [_, _, _, _, _, _]) gM dX8_name_11 rfl rfl (Nat.le_of_ble_eq_true rfl) ?_
    refine jr_iconst (pc' := 13) gM dX8_name_12 rfl ?_
    refine jr_istore_n (pc' := 14) (lv' := [_, _, _, _, _, _]) gM dX8_name_13 rfl rfl (Nat.le_of_ble_eq_true rfl) ?_
    have lp : ∀ i, i ≤ 20 → ∀ b : Nat, b < 2 ^ 20 → fdP (n1F n nb sh fe q) i 20 b → jV (jP mX8_name (d + 9) K) 14 [some (.ref 24), some (.int (jI x)), some (.int (jI (b : Int))), some (.int (jI (i : Int))), none, none] [] σ := by
      refine jdown 20 ?_
      intro i hi ih b hb g
      refine jr_iload_n (pc' := 15) gM dX8_name_14 rfl rfl ?_
      refine jr_bipush (pc' := 17) gM dX8_name_15 rfl rfl ?_
      refine jr_icmp_ge (tgt := 45) (pc' := 20) gM dX8_name_17 rfl rfl ⟨by omega, by omega⟩ ⟨by omega, by omega⟩ (fun c17 => ?_) (fun c17 => ?_)
      · have e : i = 20 := by omega
        subst e
        have ge := fdP_end g
        refine jr_iload_n (pc' := 46) gM dX8_name_45 rfl rfl ?_
        refine jr_if_le (tgt := 51) (pc' := 49) gM dX8_name_46 rfl rfl ⟨by omega, by omega⟩ (fun c46 => ?_) (fun c46 => ?_)
        · have hb0 : b = 0 := by omega
          rw [hb0]
          exact second (by rw [← ge, hb0]) _ _ _
        · refine jr_iload_n (pc' := 50) gM dX8_name_49 rfl rfl ?_
          refine jr_ireturn dX8_name_50 rfl ?_
          rw [if_neg (by rw [← ge]; omega), ← ge] at hk
          exact hk
      · refine jr_iload_n (pc' := 21) gM dX8_name_20 rfl rfl ?_
        refine jr_if_ne (tgt := 39) (pc' := 24) gM dX8_name_21 rfl rfl ⟨by omega, by omega⟩ (fun c21 => ?_) (fun c21 => ?_)
        rotate_left
        · have hb0 : b = 0 := by omega
          subst hb0
          refine jr_aload_n (pc' := 25) gM dX8_name_24 rfl rfl ?_
          refine jr_iload_n (pc' := 26) gM dX8_name_25 rfl rfl ?_
          refine jr_iconst (pc' := 27) gM dX8_name_26 rfl ?_
          refine jr_iload_n (pc' := 28) gM dX8_name_27 rfl rfl ?_
          refine jr_ishl (pc' := 29) (((2 ^ i : Nat) : Int)) gM dX8_name_28 rfl (jx_shl (by omega)) ?_
          refine jr_inv (pc' := 32) (as := [_, _]) gM dX8_name_29 rfl kX8_133 rfl rfl rfl (Nat.le_of_ble_eq_true rfl) ?_
          refine isN (2 ^ i) (fun u => hvF n nb i u) _ (pow20 (by omega)) (fun u hu => by rw [hvF_in hu]; exact and1) (fun u hu => hvF_out hu) (fun h => ?_) (fun h => ?_)
          · dsimp only [Option.toList, List.cons_append, List.nil_append]
            refine jr_if_eq (tgt := 39) (pc' := 35) gM dX8_name_32 rfl rfl ⟨by omega, by omega⟩ (fun cc => absurd cc (by omega)) (fun _ => ?_)
            refine jr_iconst (pc' := 36) gM dX8_name_35 rfl ?_
            refine jr_iload_n (pc' := 37) gM dX8_name_36 rfl rfl ?_
            refine jr_ishl (pc' := 38) (((2 ^ i : Nat) : Int)) gM dX8_name_37 rfl (jx_shl (by omega)) ?_
            refine jr_istore_n (pc' := 39) (lv' := [_, _, _, _, _, _]) gM dX8_name_38 rfl rfl (Nat.le_of_ble_eq_true rfl) ?_
            refine jr_iinc (pc' := 42) (lv' := [_, _, _, _, _, _]) gM dX8_name_39 rfl rfl rfl ?_
            refine jr_goto (tgt := 14) gM dX8_name_42 rfl ?_
            exact ih (i + 1) (by omega) (by omega) (2 ^ i) (pow20 (by omega)) (fdP_find g (by omega) (by unfold n1F; exact if_pos h) (Nat.two_pow_pos i))
          · dsimp only [Option.toList, List.cons_append, List.nil_append]
            refine jr_if_eq (tgt := 39) (pc' := 35) gM dX8_name_32 rfl rfl ⟨by omega, by omega⟩ (fun _ => ?_) (fun cc => absurd cc (by omega))
            refine jr_iinc (pc' := 42) (lv' := [_, _, _, _, _, _]) gM dX8_name_39 rfl rfl rfl ?_
            refine jr_goto (tgt := 14) gM dX8_name_42 rfl ?_
            exact ih (i + 1) (by omega) (by omega) 0 hb (fdP_skip g (by omega) (by unfold n1F; exact if_neg h))
        · have hb0 : 0 < b := by omega
          refine jr_iinc (pc' := 42) (lv' := [_, _, _, _, _, _]) gM dX8_name_39 rfl rfl rfl ?_
          refine jr_goto (tgt := 14) gM dX8_name_42 rfl ?_
          exact ih (i + 1) (by omega) (by omega) b hb (fdP_keep g hb0)
    exact lp 0 (by omega) 0 (by decide) fdP_start
  · refine jr_iconst (pc' := 9) gM dX8_name_8 rfl ?_
    refine jr_ireturn dX8_name_9 rfl ?_
    exact hK0 c5
end jMw
