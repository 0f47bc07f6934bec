/-! ===== the reference: best ===== -/
/-- how many groups the first u have, laid by P -/
def hps (P : Nat → Nat) : Nat → Nat
  | 0 => 0
  | u + 1 => max (hps P u) (P u + 1)
theorem hps_congr {P Q : Nat → Nat} {u : Nat} (h : ∀ v, v < u → P v = Q v) : hps P u = hps Q u := by
  induction u with
  | zero => rfl
  | succ u ih =>
    simp only [hps]
    rw [ih (fun v hv => h v (by omega)), h u (by omega)]
theorem hps_gt {P : Nat → Nat} {u v : Nat} (h : v < u) : P v < hps P u := by
  induction u with
  | zero => omega
  | succ u ih =>
    simp only [hps]
    by_cases e : v = u
    · subst e
      omega
    · have := ih (by omega)
      omega
abbrev grP (P : Nat → Nat) (u : Nat) : Prop := ∀ v, v < u → P v ≤ hps P v
theorem hps_le {P : Nat → Nat} {u : Nat} (h : grP P u) : hps P u ≤ u := by
  induction u with
  | zero => exact Nat.le_refl _
  | succ u ih =>
    have h1 := ih (fun v hv => h v (by omega))
    have h2 := h u (by omega)
    simp only [hps]
    omega
def pcS (fr : Nat → Nat → Int) (price : Int) (P : Nat → Nat) : Nat → Int
  | 0 => 0
  | u + 1 => pcS fr price P u + mrF fr price u (hps P u) (P u) P
abbrev pcO (bd : Nat → Nat → Int) (P : Nat → Nat) (u : Nat) : Prop := ∀ w, w < u → ∀ v, v < w → (bd w v = 1 → P v = P w) ∧ (bd w v = 2 → P v ≠ P w)
def vlF (fr bd : Nat → Nat → Int) (price : Int) (k u : Nat) (P : Nat → Nat) : Int := if ∀ w, w < u → ∀ v, v < w → (bd w v = 1 → P v = P w) ∧ (bd w v = 2 → P v ≠ P w) then mcF fr bd price k u (hps P u) P (pcS fr price P u) else 1000000000
theorem mrF_congr {fr : Nat → Nat → Int} {price : Int} {P Q : Nat → Nat} {u made j : Nat} (h : ∀ v, v < u → P v = Q v) : mrF fr price u made j P = mrF fr price u made j Q := by
  unfold mrF
  rw [js_congr (fun v hv => by rw [h v hv])]
theorem pcS_congr {fr : Nat → Nat → Int} {price : Int} {P Q : Nat → Nat} {u : Nat} (h : ∀ v, v < u → P v = Q v) : pcS fr price P u = pcS fr price Q u := by
  induction u with
  | zero => rfl
  | succ u ih =>
    simp only [pcS]
    rw [ih (fun v hv => h v (by omega)), h u (by omega), hps_congr (fun v hv => h v (by omega)), mrF_congr (fun v hv => h v (by omega))]
theorem jmn_congr {f g : Nat → Int} {m : Nat} (h : ∀ j, j < m → f j = g j) : jmn f m = jmn g m := by
  induction m with
  | zero => rfl
  | succ m ih =>
    simp only [jmn]
    rw [ih (fun j hj => h j (by omega)), h m (by omega)]
theorem jmn_big {m : Nat} : jmn (fun _ => 1000000000) m = 1000000000 := by
  induction m with
  | zero => rfl
  | succ m ih =>
    simp only [jmn]
    rw [ih]
    omega
theorem pcO_jset {bd : Nat → Nat → Int} {P : Nat → Nat} {u j : Nat} : pcO bd (jset P u j) (u + 1) ↔ pcO bd P u ∧ ∀ v, v < u → (bd u v = 1 → P v = j) ∧ (bd u v = 2 → P v ≠ j) := by
  constructor
  · intro h
    refine ⟨fun w hw v hv => ?_, fun v hv => ?_⟩
    · have := h w (by omega) v hv
      rw [jset_ne (show v ≠ u by omega), jset_ne (show w ≠ u by omega)] at this
      exact this
    · have := h u (by omega) v hv
      rw [jset_ne (show v ≠ u by omega), jset_at] at this
      exact this
  · rintro ⟨h1, h2⟩ w hw v hv
    by_cases e : w = u
    · subst e
      rw [jset_ne (show v ≠ w by omega), jset_at]
      exact h2 v hv
    · rw [jset_ne (show v ≠ u by omega), jset_ne e]
      exact h1 w (by omega) v hv
theorem hps_jset {P : Nat → Nat} {u j : Nat} : hps (jset P u j) (u + 1) = max (hps P u) (j + 1) := by
  simp only [hps]
  rw [jset_at, hps_congr (Q := P) (fun v hv => jset_ne (by omega))]
theorem vlF_succ {fr bd : Nat → Nat → Int} {price : Int} {k u : Nat} {P : Nat → Nat} : vlF fr bd price (k + 1) u P = jmn (fun j => vlF fr bd price k (u + 1) (jset P u j)) (hps P u + 1) := by
  unfold vlF
  by_cases h : pcO bd P u
  · rw [if_pos h]
    simp only [mcF]
    refine jmn_congr (fun j _ => ?_)
    have e := pcO_jset (bd := bd) (P := P) (u := u) (j := j)
    have es : pcS fr price (jset P u j) (u + 1) = pcS fr price P u + mrF fr price u (hps P u) j P := by
      simp only [pcS]
      rw [jset_at, pcS_congr (Q := P) (fun v hv => jset_ne (by omega)), hps_congr (Q := P) (fun v hv => jset_ne (by omega)), mrF_congr (Q := P) (fun v hv => jset_ne (by omega))]
    by_cases z : ∀ v, v < u → (bd u v = 1 → P v = j) ∧ (bd u v = 2 → P v ≠ j)
    · rw [if_pos z, if_pos (e.mpr ⟨h, z⟩), hps_jset, es]
    · rw [if_neg z, if_neg (fun q => z (e.mp q).2)]
  · rw [if_neg h, jmn_congr (g := fun _ => 1000000000) (fun j _ => if_neg (fun q => h (pcO_jset.mp q).1)), jmn_big]
theorem pcS_eq {fr : Nat → Nat → Int} {price : Int} {P : Nat → Nat} {n : Nat} (h : grP P n) : js (fun u => js (fun v => if P u = P v then fr u v else 0) u) n + hps P n * price = pcS fr price P n := by
  induction n with
  | zero => simp [js, hps, pcS]
  | succ n ih =>
    have h1 := ih (fun v hv => h v (by omega))
    have h2 := h n (by omega)
    simp only [js, pcS]
    rw [← h1]
    unfold mrF
    by_cases e : P n < hps P n
    · rw [if_pos e, show hps P (n + 1) = hps P n by simp only [hps]; omega, js_congr (g := fun v => if P n = P v then fr n v else 0) (fun v _ => ite_congr (propext eq_comm) (fun _ => rfl) (fun _ => rfl))]
      omega
    · rw [if_neg e, show hps P (n + 1) = hps P n + 1 by simp only [hps]; omega, js_cut (u := 0) (Nat.zero_le _) (fun v _ hv => if_neg (by have := hps_gt (P := P) hv; omega))]
      simp only [js]
      rw [Int.natCast_add, Int.add_mul]
      omega
theorem pcS_r {n : Nat} {fr : Nat → Nat → Int} {price : Int} {P : Nat → Nat} (hf : ∀ a b, a < n → b < n → 0 ≤ fr a b ∧ fr a b ≤ 180) (hp : 0 ≤ price ∧ price ≤ 200) (hn : n ≤ 7) : ∀ u, u ≤ n → 0 ≤ pcS fr price P u ∧ pcS fr price P u ≤ u * 1500 := by
  intro u
  induction u with
  | zero =>
    intro _
    simp [pcS]
  | succ u ih =>
    intro hu
    have h1 := ih (by omega)
    have h2 := mrF_r (u := u) (made := hps P u) (j := P u) (P := P) hf hp (by omega) hn
    simp only [pcS]
    omega
section jMx
variable {n : Nat} {hp : Nat → Int} {fr : Nat → Nat → Int} {pr : Int} {m : Nat} {ba bb : Nat → Nat} {bm : Nat → Int} {σ : jMem} {K : Option Value → jMem → Prop} {d : Nat} {P : Nat → Nat}
theorem pcO_of (hB : BL n m ba bb bm) (h : ∀ k, k < m → ¬ ((bm k = 1 ∧ P (ba k) ≠ P (bb k)) ∨ (bm k = 0 ∧ P (ba k) = P (bb k)))) : pcO (bdL ba bb bm m) P n := by
  intro w hw v hv
  rcases bdL_cases hB w v with ⟨e, -⟩ | ⟨k, hk, hs, e⟩
  · exact ⟨fun q => absurd (e.symm.trans q) (by decide), fun q => absurd (e.symm.trans q) (by decide)⟩
  · have h1 := h k hk
    have h2 := (hB.2.1 k hk).2.2.2
    rw [e]
    rcases hs with ⟨rfl, rfl⟩ | ⟨rfl, rfl⟩
    · constructor <;> intro q <;> omega
    · constructor <;> intro q <;> omega
theorem pcO_not (hB : BL n m ba bb bm) {k : Nat} (hk : k < m) (h : (bm k = 1 ∧ P (ba k) ≠ P (bb k)) ∨ (bm k = 0 ∧ P (ba k) = P (bb k))) : ¬ pcO (bdL ba bb bm m) P n := by
  intro q
  have h2 := hB.2.1 k hk
  rcases Nat.lt_or_ge (ba k) (bb k) with z | z
  · have h3 := q (bb k) (by omega) (ba k) z
    rw [bdL_at hB hk (u := bb k) (v := ba k) (Or.inr ⟨rfl, rfl⟩)] at h3
    omega
  · have h3 := q (ba k) (by omega) (bb k) (by omega)
    rw [bdL_at hB hk (u := ba k) (v := bb k) (Or.inl ⟨rfl, rfl⟩)] at h3
    omega
set_option maxRecDepth 100000 in
theorem parted_ok (hS : SM n hp fr m ba bb bm pr σ) (hn7 : n ≤ 7) (hP : ∀ v, v < n → σ 34 v = (P v : Int)) (hg : grP P n)
    (hK0 : ¬ pcO (bdL ba bb bm m) P n → K (some (.int (jI (-1)))) σ) (hK1 : pcO (bdL ba bb bm m) P n → K (some (.int (jI (pcS fr pr P n)))) σ) : jRun (d + 1) mX8_parted [.ref 24] σ K := by
  obtain ⟨c1, hn, hV, hh, hf, hfr, hf0, hL, hB, hp1, hp2⟩ := hS
  have hm := hB.1
  have hPv : ∀ v, v < n → P v ≤ v := fun v hv => Nat.le_trans (hg v hv) (hps_le (fun w hw => hg w (by omega)))
  have hsum := pcS_eq (fr := fr) (price := pr) hg
  have hhl := hps_le hg
  -- the bonds
  have bl : ∀ i, i ≤ m → ∀ q4 : Option Value, (∀ k, k < i → ¬ ((bm k = 1 ∧ P (ba k) ≠ P (bb k)) ∨ (bm k = 0 ∧ P (ba k) = P (bb k)))) → jV (jP mX8_parted (d + 1) K) 91 [some (.ref 24), some (.int (jI (js (fun u => js (fun v => if P u = P v then fr u v else 0) u) n))), some (.int (jI (hps P n : Int))), some (.int (jI (i : Int))), q4] [] σ := by
    refine jdown m ?_
    intro i hi ih q4 hno
    refine jr_iload_n (pc' := 92) gM dX8_parted_91 rfl rfl ?_
    refine jr_aload_n (pc' := 93) gM dX8_parted_92 rfl rfl ?_
    refine jr_gfi (pc' := 96) gM dX8_parted_93 rfl fX8_90 rfl rfl ?_
    rw [hL.1]
    refine jr_icmp_ge (tgt := 137) (pc' := 99) gM dX8_parted_96 rfl rfl ⟨by omega, by omega⟩ ⟨by omega, by omega⟩ (fun c96 => ?_) (fun c96 => ?_)
    · have e : i = m := by omega
      subst e
      refine jr_iload_n (pc' := 138) gM dX8_parted_137 rfl rfl ?_
      refine jr_iload_n (pc' := 139) gM dX8_parted_138 rfl rfl ?_
      refine jr_aload_n (pc' := 140) gM dX8_parted_139 rfl rfl ?_
      refine jr_gfi (pc' := 143) gM dX8_parted_140 rfl fX8_13 rfl rfl ?_
      rw [hp1]
      refine jr_imul (pc' := 144) gM dX8_parted_143 rfl ?_
      refine jr_iadd (pc' := 145) gM dX8_parted_144 rfl ?_
      refine jr_ireturn dX8_parted_145 rfl ?_
      rw [hsum]
      exact hK1 (pcO_of hB hno)
    · have hb := hB.2.1 i (by omega)
      have p1 := hPv (ba i) hb.1
      have p2 := hPv (bb i) hb.2.1
      obtain ⟨l1, l2, l3⟩ := hL.2 i (by omega)
      refine jr_aload_n (pc' := 100) gM dX8_parted_99 rfl rfl ?_
      refine jr_iload_n (pc' := 101) gM dX8_parted_100 rfl rfl ?_
      refine jr_aload_n (pc' := 102) gM dX8_parted_101 rfl rfl ?_
      refine jr_gfr (pc' := 105) gM dX8_parted_102 rfl fX8_51 rfl rfl ?_
      refine jr_aload_n (pc' := 106) gM dX8_parted_105 rfl rfl ?_
      refine jr_gfr (pc' := 109) gM dX8_parted_106 rfl fX8_38 rfl rfl ?_
      refine jr_iload_n (pc' := 110) gM dX8_parted_109 rfl rfl ?_
      refine jr_iald (pc' := 111) (i) gM dX8_parted_110 rfl rfl (rfl) (by omega) (by decide) ?_
      rw [l1]
      refine jr_iald (pc' := 112) ((ba i)) gM dX8_parted_111 rfl rfl (rfl) (by omega) (by decide) ?_
      rw [hP _ hb.1]
      refine jr_aload_n (pc' := 113) gM dX8_parted_112 rfl rfl ?_
      refine jr_gfr (pc' := 116) gM dX8_parted_113 rfl fX8_51 rfl rfl ?_
      refine jr_aload_n (pc' := 117) gM dX8_parted_116 rfl rfl ?_
      refine jr_gfr (pc' := 120) gM dX8_parted_117 rfl fX8_41 rfl rfl ?_
      refine jr_iload_n (pc' := 121) gM dX8_parted_120 rfl rfl ?_
      refine jr_iald (pc' := 122) (i) gM dX8_parted_121 rfl rfl (rfl) (by omega) (by decide) ?_
      rw [l2]
      refine jr_iald (pc' := 123) ((bb i)) gM dX8_parted_122 rfl rfl (rfl) (by omega) (by decide) ?_
      rw [hP _ hb.2.1]
      refine jr_inv (pc' := 126) (as := [_, _, _]) gM dX8_parted_123 rfl kX8_96 rfl rfl rfl (Nat.le_of_ble_eq_true rfl) ?_
      refine isBroken_ok hL hB (by omega) ⟨by omega, by omega⟩ ⟨by omega, by omega⟩ ?_
      dsimp only [Option.toList, List.cons_append, List.nil_append]
      refine jr_pb_eq (tgt := 131) (pc' := 129) gM dX8_parted_126 rfl rfl (fun c126 => ?_) (fun c126 => ?_)
      · refine jr_iinc (pc' := 134) (lv' := [_, _, _, _, _]) gM dX8_parted_131 rfl rfl rfl ?_
        refine jr_goto (tgt := 91) gM dX8_parted_134 rfl ?_
        refine ih (i + 1) (by omega) (by omega) _ (fun k hk => ?_)
        by_cases e : k = i
        · subst e
          omega
        · exact hno k (by omega)
      · refine jr_iconst (pc' := 130) gM dX8_parted_129 rfl ?_
        refine jr_ireturn dX8_parted_130 rfl ?_
        exact hK0 (pcO_not hB (k := i) (by omega) (by omega))
  refine jenter (lv := [_, _, _, _, _]) rfl rfl (Nat.le_of_ble_eq_true rfl) ?_
  refine jr_iconst (pc' := 1) gM dX8_parted_0 rfl ?_
  refine jr_istore_n (pc' := 2) (lv' := [_, _, _, _, _]) gM dX8_parted_1 rfl rfl (Nat.le_of_ble_eq_true rfl) ?_
  refine jr_iconst (pc' := 3) gM dX8_parted_2 rfl ?_
  refine jr_istore_n (pc' := 4) (lv' := [_, _, _, _, _]) gM dX8_parted_3 rfl rfl (Nat.le_of_ble_eq_true rfl) ?_
  refine jr_iconst (pc' := 5) gM dX8_parted_4 rfl ?_
  refine jr_istore_n (pc' := 6) (lv' := [_, _, _, _, _]) gM dX8_parted_5 rfl rfl (Nat.le_of_ble_eq_true rfl) ?_
  have lp : ∀ i, i ≤ n → ∀ q4 : Option Value, jV (jP mX8_parted (d + 1) K) 6 [some (.ref 24), some (.int (jI (js (fun u => js (fun v => if P u = P v then fr u v else 0) u) i))), some (.int (jI (hps P i : Int))), some (.int (jI (i : Int))), q4] [] σ := by
    refine jdown n ?_
    intro i hi ih q4
    have hil := hps_le (P := P) (u := i) (fun w hw => hg w (by omega))
    refine jr_iload_n (pc' := 7) gM dX8_parted_6 rfl rfl ?_
    refine jr_aload_n (pc' := 8) gM dX8_parted_7 rfl rfl ?_
    refine jr_gfi (pc' := 11) gM dX8_parted_8 rfl fX8_60 rfl rfl ?_
    rw [c1]
    refine jr_icmp_ge (tgt := 89) (pc' := 14) gM dX8_parted_11 rfl rfl ⟨by omega, by omega⟩ ⟨by omega, by omega⟩ (fun c11 => ?_) (fun c11 => ?_)
    · have e : i = n := by omega
      subst e
      refine jr_iconst (pc' := 90) gM dX8_parted_89 rfl ?_
      refine jr_istore_n (pc' := 91) (lv' := [_, _, _, _, _]) gM dX8_parted_90 rfl rfl (Nat.le_of_ble_eq_true rfl) ?_
      exact bl 0 (by omega) _ (fun k hk => absurd hk (by omega))
    · have pi := hPv i (by omega)
      have inner : ∀ j, j ≤ i → jV (jP mX8_parted (d + 1) K) 36 [some (.ref 24), some (.int (jI (js (fun u => js (fun v => if P u = P v then fr u v else 0) u) i + js (fun v => if P i = P v then fr i v else 0) j))), some (.int (jI (hps P (i + 1) : Int))), some (.int (jI (i : Int))), some (.int (jI (j : Int)))] [] σ := by
        refine jdown i ?_
        intro j hj ihj
        refine jr_iload (pc' := 38) gM dX8_parted_36 rfl rfl ?_
        refine jr_iload_n (pc' := 39) gM dX8_parted_38 rfl rfl ?_
        refine jr_icmp_ge (tgt := 83) (pc' := 42) gM dX8_parted_39 rfl rfl ⟨by omega, by omega⟩ ⟨by omega, by omega⟩ (fun c39 => ?_) (fun c39 => ?_)
        · have e : j = i := by omega
          subst e
          refine jr_iinc (pc' := 86) (lv' := [_, _, _, _, _]) gM dX8_parted_83 rfl rfl rfl ?_
          refine jr_goto (tgt := 6) gM dX8_parted_86 rfl ?_
          have := ih (j + 1) (by omega) (by omega) (some (.int (jI (j : Int))))
          exact this
        · have pj := hPv j (by omega)
          have nxt := ihj (j + 1) (by omega) (by omega)
          rw [show js (fun v => if P i = P v then fr i v else 0) (j + 1) = js (fun v => if P i = P v then fr i v else 0) j + (if P i = P j then fr i j else 0) from rfl, ← Int.add_assoc] at nxt
          refine jr_iload_n (pc' := 43) gM dX8_parted_42 rfl rfl ?_
          refine jr_aload_n (pc' := 44) gM dX8_parted_43 rfl rfl ?_
          refine jr_gfr (pc' := 47) gM dX8_parted_44 rfl fX8_51 rfl rfl ?_
          refine jr_iload_n (pc' := 48) gM dX8_parted_47 rfl rfl ?_
          refine jr_iald (pc' := 49) (i) gM dX8_parted_48 rfl rfl (rfl) (by omega) (by decide) ?_
          rw [hP i (by omega)]
          refine jr_aload_n (pc' := 50) gM dX8_parted_49 rfl rfl ?_
          refine jr_gfr (pc' := 53) gM dX8_parted_50 rfl fX8_51 rfl rfl ?_
          refine jr_iload (pc' := 55) gM dX8_parted_53 rfl rfl ?_
          refine jr_iald (pc' := 56) (j) gM dX8_parted_55 rfl rfl (rfl) (by omega) (by decide) ?_
          rw [hP j (by omega)]
          refine jr_icmp_ne (tgt := 74) (pc' := 59) gM dX8_parted_56 rfl rfl ⟨by omega, by omega⟩ ⟨by omega, by omega⟩ (fun c56 => ?_) (fun c56 => ?_)
          · rw [if_neg (by omega)] at nxt
            refine jr_iconst (pc' := 75) gM dX8_parted_74 rfl ?_
            refine jr_iadd (pc' := 76) gM dX8_parted_75 rfl ?_
            refine jr_istore_n (pc' := 77) (lv' := [_, _, _, _, _]) gM dX8_parted_76 rfl rfl (Nat.le_of_ble_eq_true rfl) ?_
            refine jr_iinc (pc' := 80) (lv' := [_, _, _, _, _]) gM dX8_parted_77 rfl rfl rfl ?_
            refine jr_goto (tgt := 36) gM dX8_parted_80 rfl ?_
            exact nxt
          · rw [if_pos (by omega)] at nxt
            refine jr_aload_n (pc' := 60) gM dX8_parted_59 rfl rfl ?_
            refine jr_gfr (pc' := 63) gM dX8_parted_60 rfl fX8_35 rfl rfl ?_
            refine jr_bipush (pc' := 65) gM dX8_parted_63 rfl rfl ?_
            refine jr_iload_n (pc' := 66) gM dX8_parted_65 rfl rfl ?_
            refine jr_imul (pc' := 67) gM dX8_parted_66 rfl ?_
            refine jr_iload (pc' := 69) gM dX8_parted_67 rfl rfl ?_
            refine jr_iadd (pc' := 70) gM dX8_parted_69 rfl ?_
            refine jr_iald (pc' := 71) ((40 * i + j)) gM dX8_parted_70 rfl rfl (by push_cast; omega) (by omega) (by decide) ?_
            rw [hf i j (by omega) (by omega)]
            refine jr_goto (tgt := 75) gM dX8_parted_71 rfl ?_
            refine jr_iadd (pc' := 76) gM dX8_parted_75 rfl ?_
            refine jr_istore_n (pc' := 77) (lv' := [_, _, _, _, _]) gM dX8_parted_76 rfl rfl (Nat.le_of_ble_eq_true rfl) ?_
            refine jr_iinc (pc' := 80) (lv' := [_, _, _, _, _]) gM dX8_parted_77 rfl rfl rfl ?_
            refine jr_goto (tgt := 36) gM dX8_parted_80 rfl ?_
            exact nxt
      have st := inner 0 (by omega)
      simp only [js, hps] at st
      rw [Int.add_zero] at st
      refine jr_aload_n (pc' := 15) gM dX8_parted_14 rfl rfl ?_
      refine jr_gfr (pc' := 18) gM dX8_parted_15 rfl fX8_51 rfl rfl ?_
      refine jr_iload_n (pc' := 19) gM dX8_parted_18 rfl rfl ?_
      refine jr_iald (pc' := 20) (i) gM dX8_parted_19 rfl rfl (rfl) (by omega) (by decide) ?_
      rw [hP i (by omega)]
      refine jr_iload_n (pc' := 21) gM dX8_parted_20 rfl rfl ?_
      refine jr_icmp_lt (tgt := 33) (pc' := 24) gM dX8_parted_21 rfl rfl ⟨by omega, by omega⟩ ⟨by omega, by omega⟩ (fun c21 => ?_) (fun c21 => ?_)
      · rw [show max (hps P i) (P i + 1) = hps P i by omega] at st
        refine jr_iconst (pc' := 34) gM dX8_parted_33 rfl ?_
        refine jr_istore (pc' := 36) (lv' := [_, _, _, _, _]) gM dX8_parted_34 rfl rfl (Nat.le_of_ble_eq_true rfl) ?_
        exact st
      · rw [show max (hps P i) (P i + 1) = P i + 1 by omega] at st
        refine jr_aload_n (pc' := 25) gM dX8_parted_24 rfl rfl ?_
        refine jr_gfr (pc' := 28) gM dX8_parted_25 rfl fX8_51 rfl rfl ?_
        refine jr_iload_n (pc' := 29) gM dX8_parted_28 rfl rfl ?_
        refine jr_iald (pc' := 30) (i) gM dX8_parted_29 rfl rfl (rfl) (by omega) (by decide) ?_
        rw [hP i (by omega)]
        refine jr_iconst (pc' := 31) gM dX8_parted_30 rfl ?_
        refine jr_iadd (pc' := 32) gM dX8_parted_31 rfl ?_
        refine jr_istore_n (pc' := 33) (lv' := [_, _, _, _, _]) gM dX8_parted_32 rfl rfl (Nat.le_of_ble_eq_true rfl) ?_
        refine jr_iconst (pc' := 34) gM dX8_parted_33 rfl ?_
        refine jr_istore (pc' := 36) (lv' := [_, _, _, _, _]) gM dX8_parted_34 rfl rfl (Nat.le_of_ble_eq_true rfl) ?_
        exact st
  exact lp 0 (by omega) _
set_option maxRecDepth 100000 in
theorem nexts_ok (hc1 : σ 24 5 = (n : Int)) (hn7 : n ≤ 7) (hn1 : 1 ≤ n) (hP : ∀ v, v < n → σ 34 v = (P v : Int)) (hg : grP P n)
    (hK0 : (∀ v, 1 ≤ v → v < n → P v = hps P v) → K (some (.int (jI 0))) σ) (hK1 : ∀ u, 1 ≤ u → u < n → P u < hps P u → (∀ v, u < v → v < n → P v = hps P v) → ∀ σ' : jMem, (∀ v, v < u → σ' 34 v = (P v : Int)) → σ' 34 u = ((P u + 1 : Nat) : Int) → (∀ v, u < v → v < n → σ' 34 v = 0) → (∀ c, c ≠ 34 → σ' c = σ c) → K (some (.int (jI 1))) σ') : jRun d mX8_nexts [.ref 24] σ K := by
  have hPv : ∀ v, v < n → P v ≤ v := fun v hv => Nat.le_trans (hg v hv) (hps_le (fun w hw => hg w (by omega)))
  refine jenter (lv := [_, _, _, _]) rfl rfl (Nat.le_of_ble_eq_true rfl) ?_
  refine jr_aload_n (pc' := 1) gM dX8_nexts_0 rfl rfl ?_
  refine jr_gfi (pc' := 4) gM dX8_nexts_1 rfl fX8_60 rfl rfl ?_
  rw [hc1]
  refine jr_iconst (pc' := 5) gM dX8_nexts_4 rfl ?_
  refine jr_isub (pc' := 6) gM dX8_nexts_5 rfl ?_
  refine jr_istore_n (pc' := 7) (lv' := [_, _, _, _]) gM dX8_nexts_6 rfl rfl (Nat.le_of_ble_eq_true rfl) ?_
  have lp : ∀ i, i ≤ n - 1 → ∀ q2 q3 : Option Value, (∀ v, n - 1 - i < v → v < n → P v = hps P v) → jV (jP mX8_nexts d K) 7 [some (.ref 24), some (.int (jI ((n - 1 - i : Nat) : Int))), q2, q3] [] σ := by
    refine jdown (n - 1) ?_
    intro i hi ih q2 q3 hz
    generalize hu : n - 1 - i = u at *
    refine jr_iload_n (pc' := 8) gM dX8_nexts_7 rfl rfl ?_
    refine jr_if_le (tgt := 99) (pc' := 11) gM dX8_nexts_8 rfl rfl ⟨by omega, by omega⟩ (fun c8 => ?_) (fun c8 => ?_)
    · refine jr_iconst (pc' := 100) gM dX8_nexts_99 rfl ?_
      refine jr_zreturn dX8_nexts_100 rfl (by first | omega | exact bI_01 _) ?_
      exact hK0 (fun v h1 h2 => hz v (by omega) h2)
    · refine jr_iconst (pc' := 12) gM dX8_nexts_11 rfl ?_
      refine jr_istore_n (pc' := 13) (lv' := [_, _, _, _]) gM dX8_nexts_12 rfl rfl (Nat.le_of_ble_eq_true rfl) ?_
      refine jr_iconst (pc' := 14) gM dX8_nexts_13 rfl ?_
      refine jr_istore_n (pc' := 15) (lv' := [_, _, _, _]) gM dX8_nexts_14 rfl rfl (Nat.le_of_ble_eq_true rfl) ?_
      have l1 : ∀ j, j ≤ u → jV (jP mX8_nexts d K) 15 [some (.ref 24), some (.int (jI (u : Int))), some (.int (jI ((hps P j - 1 : Nat) : Int))), some (.int (jI (j : Int)))] [] σ := by
        refine jdown u ?_
        intro j hj ihj
        have hjl := hps_le (P := P) (u := j) (fun w hw => hg w (by omega))
        refine jr_iload_n (pc' := 16) gM dX8_nexts_15 rfl rfl ?_
        refine jr_iload_n (pc' := 17) gM dX8_nexts_16 rfl rfl ?_
        refine jr_icmp_ge (tgt := 43) (pc' := 20) gM dX8_nexts_17 rfl rfl ⟨by omega, by omega⟩ ⟨by omega, by omega⟩ (fun c17 => ?_) (fun c17 => ?_)
        · have e : j = u := by omega
          subst e
          have pj := hPv j (by omega)
          have gj := hg j (by omega)
          have hj0 := hps_gt (P := P) (u := j) (v := 0) (by omega)
          refine jr_aload_n (pc' := 44) gM dX8_nexts_43 rfl rfl ?_
          refine jr_gfr (pc' := 47) gM dX8_nexts_44 rfl fX8_51 rfl rfl ?_
          refine jr_iload_n (pc' := 48) gM dX8_nexts_47 rfl rfl ?_
          refine jr_iald (pc' := 49) (j) gM dX8_nexts_48 rfl rfl (rfl) (by omega) (by decide) ?_
          rw [hP j (by omega)]
          refine jr_iload_n (pc' := 50) gM dX8_nexts_49 rfl rfl ?_
          refine jr_icmp_le (tgt := 56) (pc' := 53) gM dX8_nexts_50 rfl rfl ⟨by omega, by omega⟩ ⟨by omega, by omega⟩ (fun c50 => ?_) (fun c50 => ?_)
          · refine jr_aload_n (pc' := 57) gM dX8_nexts_56 rfl rfl ?_
            refine jr_gfr (pc' := 60) gM dX8_nexts_57 rfl fX8_51 rfl rfl ?_
            refine jr_iload_n (pc' := 61) gM dX8_nexts_60 rfl rfl ?_
            refine jr_dup2 (pc' := 62) gM dX8_nexts_61 rfl rfl rfl ?_
            refine jr_iald (pc' := 63) (j) gM dX8_nexts_62 rfl rfl (rfl) (by omega) (by decide) ?_
            rw [hP j (by omega)]
            refine jr_iconst (pc' := 64) gM dX8_nexts_63 rfl ?_
            refine jr_iadd (pc' := 65) gM dX8_nexts_64 rfl ?_
            refine jr_iast (pc' := 66) (j) gM dX8_nexts_65 rfl rfl (rfl) (by omega) (by decide) ?_
            refine jr_iload_n (pc' := 67) gM dX8_nexts_66 rfl rfl ?_
            refine jr_iconst (pc' := 68) gM dX8_nexts_67 rfl ?_
            refine jr_iadd (pc' := 69) gM dX8_nexts_68 rfl ?_
            refine jr_istore_n (pc' := 70) (lv' := [_, _, _, _]) gM dX8_nexts_69 rfl rfl (Nat.le_of_ble_eq_true rfl) ?_
            have l2 : ∀ w, w ≤ n → j < w → ∀ σ1 : jMem, (∀ v, v < j → σ1 34 v = (P v : Int)) → σ1 34 j = ((P j + 1 : Nat) : Int) → (∀ v, j < v → v < w → σ1 34 v = 0) → (∀ c, c ≠ 34 → σ1 c = σ c) → jV (jP mX8_nexts d K) 70 [some (.ref 24), some (.int (jI (j : Int))), some (.int (jI ((hps P j - 1 : Nat) : Int))), some (.int (jI (w : Int)))] [] σ1 := by
              refine jdown n ?_
              intro w hw ihw hjw σ1 g1 g2 g3 g4
              refine jr_iload_n (pc' := 71) gM dX8_nexts_70 rfl rfl ?_
              refine jr_aload_n (pc' := 72) gM dX8_nexts_71 rfl rfl ?_
              refine jr_gfi (pc' := 75) gM dX8_nexts_72 rfl fX8_60 rfl rfl ?_
              rw [g4 24 (by omega), hc1]
              refine jr_icmp_ge (tgt := 91) (pc' := 78) gM dX8_nexts_75 rfl rfl ⟨by omega, by omega⟩ ⟨by omega, by omega⟩ (fun c75 => ?_) (fun c75 => ?_)
              · have e : w = n := by omega
                subst e
                refine jr_iconst (pc' := 92) gM dX8_nexts_91 rfl ?_
                refine jr_zreturn dX8_nexts_92 rfl (by first | omega | exact bI_01 _) ?_
                exact hK1 j (by omega) (by omega) (by omega) hz σ1 g1 g2 g3 g4
              · refine jr_aload_n (pc' := 79) gM dX8_nexts_78 rfl rfl ?_
                refine jr_gfr (pc' := 82) gM dX8_nexts_79 rfl fX8_51 rfl rfl ?_
                refine jr_iload_n (pc' := 83) gM dX8_nexts_82 rfl rfl ?_
                refine jr_iconst (pc' := 84) gM dX8_nexts_83 rfl ?_
                refine jr_iast (pc' := 85) (w) gM dX8_nexts_84 rfl rfl (rfl) (by omega) (by decide) ?_
                refine jr_iinc (pc' := 88) (lv' := [_, _, _, _]) gM dX8_nexts_85 rfl rfl rfl ?_
                refine jr_goto (tgt := 70) gM dX8_nexts_88 rfl ?_
                refine ihw (w + 1) (by omega) (by omega) (by omega) _ (fun v hv => ?_) ?_ (fun v h1 h2 => ?_) (fun c hc => ?_)
                · rw [jup_ne (Or.inr (by omega))]
                  exact g1 v hv
                · rw [jup_ne (Or.inr (by omega))]
                  exact g2
                · by_cases e : v = w
                  · subst e
                    rw [jup_at]
                  · rw [jup_ne (Or.inr e)]
                    exact g3 v h1 (by omega)
                · rw [jup_row hc]
                  exact g4 c hc
            refine l2 (j + 1) (by omega) (by omega) _ (fun v hv => ?_) ?_ (fun v h1 h2 => absurd h1 (by omega)) (fun c hc => jup_row hc)
            · rw [jup_ne (Or.inr (by omega))]
              exact hP v (by omega)
            · rw [jup_at]
              rfl
          · refine jr_goto (tgt := 93) gM dX8_nexts_53 rfl ?_
            refine jr_iinc (pc' := 96) (lv' := [_, _, _, _]) gM dX8_nexts_93 rfl rfl rfl ?_
            refine jr_goto (tgt := 7) gM dX8_nexts_96 rfl ?_
            have hnx := ih (i + 1) (by omega) (by omega) (some (.int (jI ((hps P j - 1 : Nat) : Int)))) (some (.int (jI (j : Int)))) (fun v h1 h2 => by
              by_cases e : v = j
              · subst e
                omega
              · exact hz v (by omega) h2)
            rw [show ((n - 1 - (i + 1) : Nat) : Int) = (j : Int) + (-1) by omega] at hnx
            exact hnx
        · have pj := hPv j (by omega)
          have nxt := ihj (j + 1) (by omega) (by omega)
          simp only [hps] at nxt
          refine jr_aload_n (pc' := 21) gM dX8_nexts_20 rfl rfl ?_
          refine jr_gfr (pc' := 24) gM dX8_nexts_21 rfl fX8_51 rfl rfl ?_
          refine jr_iload_n (pc' := 25) gM dX8_nexts_24 rfl rfl ?_
          refine jr_iald (pc' := 26) (j) gM dX8_nexts_25 rfl rfl (rfl) (by omega) (by decide) ?_
          rw [hP j (by omega)]
          refine jr_iload_n (pc' := 27) gM dX8_nexts_26 rfl rfl ?_
          refine jr_icmp_le (tgt := 37) (pc' := 30) gM dX8_nexts_27 rfl rfl ⟨by omega, by omega⟩ ⟨by omega, by omega⟩ (fun c27 => ?_) (fun c27 => ?_)
          · rw [show max (hps P j) (P j + 1) - 1 = hps P j - 1 by omega] at nxt
            refine jr_iinc (pc' := 40) (lv' := [_, _, _, _]) gM dX8_nexts_37 rfl rfl rfl ?_
            refine jr_goto (tgt := 15) gM dX8_nexts_40 rfl ?_
            exact nxt
          · rw [show max (hps P j) (P j + 1) - 1 = P j by omega] at nxt
            refine jr_aload_n (pc' := 31) gM dX8_nexts_30 rfl rfl ?_
            refine jr_gfr (pc' := 34) gM dX8_nexts_31 rfl fX8_51 rfl rfl ?_
            refine jr_iload_n (pc' := 35) gM dX8_nexts_34 rfl rfl ?_
            refine jr_iald (pc' := 36) (j) gM dX8_nexts_35 rfl rfl (rfl) (by omega) (by decide) ?_
            rw [hP j (by omega)]
            refine jr_istore_n (pc' := 37) (lv' := [_, _, _, _]) gM dX8_nexts_36 rfl rfl (Nat.le_of_ble_eq_true rfl) ?_
            refine jr_iinc (pc' := 40) (lv' := [_, _, _, _]) gM dX8_nexts_37 rfl rfl rfl ?_
            refine jr_goto (tgt := 15) gM dX8_nexts_40 rfl ?_
            exact nxt
      exact l1 0 (by omega)
  have := lp 0 (by omega) none none (fun v h1 h2 => absurd h1 (by omega))
  rw [show ((n - 1 - 0 : Nat) : Int) = (n : Int) - 1 by omega] at this
  exact this
end jMx
