/-! ===== the reference: use ===== -/
section jMq
variable {n : Nat} {nb : Nat → Nat} {yr wt hp : Nat → Int} {pr ga sh fe : Int} {m : Nat} {ba bb : Nat → Nat} {bm : Nat → Int} {s : Nat} {se : Nat → Nat} {sp : Int} {σ : jMem} {K : Option Value → jMem → Prop} {d : Nat}
def cvF (x : Int) : Int := if x = 1000000000 then 1048575 else x
theorem BL.grow (h : BL n m ba bb bm) : BL (n + 1) m ba bb bm := ⟨h.1, fun k hk => by have := h.2.1 k hk; omega, h.2.2⟩
set_option maxRecDepth 100000 in
theorem m_use {x y : Int} (hC : MI n nb yr wt hp pr ga sh fe m ba bb bm s se sp σ) (h1 : jR x) (h2 : jR y)
    (hK0 : ¬ ((0 ≤ x ∧ x ≤ 1048575) ∧ (1800 ≤ y ∧ y ≤ 1999) ∧ n < 40) → K (some (.int (jI (-1)))) σ)
    (hK1 : ∀ a : Nat, x = (a : Int) → a < 2 ^ 20 → 1800 ≤ y ∧ y ≤ 1999 → n < 40 → ∀ σ' : jMem, MI (n + 1) (jset nb n a) (jset yr n y) wt (lnR (n + 1) (fun h => jbs (fun o => jfar wt (jset nb n a n) (jset nb n a o)) hp (n + 1) h) hp pr ga n) pr ga sh fe m ba bb bm s se sp σ' → (∀ c, c < 24 → σ' c = σ c) → K (some (.int (jI (n : Int)))) σ') : jRun (d + 9) mX8_use [.ref 24, .int (jI x), .int (jI y)] σ K := by
  have hn := hC.1.2
  have no : ¬ ((0 ≤ x ∧ x ≤ 1048575) ∧ (1800 ≤ y ∧ y ≤ 1999) ∧ n < 40) → jV (jP mX8_use (d + 9) K) 32 [some (.ref 24), some (.int (jI x)), some (.int (jI y)), none, none, none, none, none, none] [] σ := by
    intro q
    refine jr_iconst (pc' := 33) gM dX8_use_32 rfl ?_
    refine jr_ireturn dX8_use_33 rfl ?_
    exact hK0 q
  refine jenter (lv := [_, _, _, _, _, _, _, _, _]) rfl rfl (Nat.le_of_ble_eq_true rfl) ?_
  refine jr_iload_n (pc' := 1) gM dX8_use_0 rfl rfl ?_
  refine jr_iconst (pc' := 2) gM dX8_use_1 rfl ?_
  refine jr_ldc (pc' := 4) gM dX8_use_2 rfl qX8_78 ?_
  refine jr_ins (pc' := 7) (as := [_, _, _]) gM dX8_use_4 rfl kX8_63 rfl rfl (Nat.le_of_ble_eq_true rfl) ?_
  refine in_ok h1 ⟨by omega, by omega⟩ ⟨by omega, by omega⟩ ?_
  dsimp only [Option.toList, List.cons_append, List.nil_append]
  refine jr_pb_eq (tgt := 32) (pc' := 10) gM dX8_use_7 rfl rfl (fun c7 => ?_) (fun c7 => ?_)
  · exact no (fun q => c7 q.1)
  · refine jr_iload_n (pc' := 11) gM dX8_use_10 rfl rfl ?_
    refine jr_sipush (pc' := 14) gM dX8_use_11 rfl rfl ?_
    refine jr_sipush (pc' := 17) gM dX8_use_14 rfl rfl ?_
    refine jr_ins (pc' := 20) (as := [_, _, _]) gM dX8_use_17 rfl kX8_63 rfl rfl (Nat.le_of_ble_eq_true rfl) ?_
    refine in_ok h2 ⟨by omega, by omega⟩ ⟨by omega, by omega⟩ ?_
    dsimp only [Option.toList, List.cons_append, List.nil_append]
    refine jr_pb_eq (tgt := 32) (pc' := 23) gM dX8_use_20 rfl rfl (fun c20 => ?_) (fun c20 => ?_)
    · exact no (fun q => c20 q.2.1)
    · refine jr_aload_n (pc' := 24) gM dX8_use_23 rfl rfl ?_
      refine jr_gfi (pc' := 27) gM dX8_use_24 rfl fX8_60 rfl rfl ?_
      refine jr_bipush (pc' := 29) gM dX8_use_27 rfl rfl ?_
      rw [hC.1.1]
      refine jr_icmp_ne (tgt := 34) (pc' := 32) gM dX8_use_29 rfl rfl ⟨by omega, by omega⟩ ⟨by omega, by omega⟩ (fun c29 => ?_) (fun c29 => ?_)
      · obtain ⟨a, rfl⟩ := Int.eq_ofNat_of_zero_le c7.1
        obtain ⟨a1, a2, a3, a4, a5, a6, a7, ⟨a8, a8'⟩, a9, a10, a11⟩ := hC
        have hV := a5.grow
        refine jr_aload_n (pc' := 35) gM dX8_use_34 rfl rfl ?_
        refine jr_gfi (pc' := 38) gM dX8_use_35 rfl fX8_60 rfl rfl ?_
        rw [a1.1]
        refine jr_istore_n (pc' := 39) (lv' := [_, _, _, _, _, _, _, _, _]) gM dX8_use_38 rfl rfl (Nat.le_of_ble_eq_true rfl) ?_
        refine jr_aload_n (pc' := 40) gM dX8_use_39 rfl rfl ?_
        refine jr_gfr (pc' := 43) gM dX8_use_40 rfl fX8_26 rfl rfl ?_
        refine jr_iload_n (pc' := 44) gM dX8_use_43 rfl rfl ?_
        refine jr_iload_n (pc' := 45) gM dX8_use_44 rfl rfl ?_
        refine jr_iast (pc' := 46) (n) gM dX8_use_45 rfl rfl (rfl) (by omega) (by decide) ?_
        refine jr_aload_n (pc' := 47) gM dX8_use_46 rfl rfl ?_
        refine jr_gfr (pc' := 50) gM dX8_use_47 rfl fX8_29 rfl rfl ?_
        refine jr_iload_n (pc' := 51) gM dX8_use_50 rfl rfl ?_
        refine jr_iload_n (pc' := 52) gM dX8_use_51 rfl rfl ?_
        refine jr_iast (pc' := 53) (n) gM dX8_use_52 rfl rfl (rfl) (by omega) (by decide) ?_
        refine jr_aload_n (pc' := 54) gM dX8_use_53 rfl rfl ?_
        refine jr_gfr (pc' := 57) gM dX8_use_54 rfl fX8_32 rfl rfl ?_
        refine jr_iload_n (pc' := 58) gM dX8_use_57 rfl rfl ?_
        refine jr_iconst (pc' := 59) gM dX8_use_58 rfl ?_
        refine jr_iast (pc' := 60) (n) gM dX8_use_59 rfl rfl (rfl) (by omega) (by decide) ?_
        refine jr_aload_n (pc' := 61) gM dX8_use_60 rfl rfl ?_
        refine jr_dup (pc' := 62) gM dX8_use_61 rfl rfl ?_
        refine jr_gfi (pc' := 65) gM dX8_use_62 rfl fX8_60 rfl rfl ?_
        refine jr_iconst (pc' := 66) gM dX8_use_65 rfl ?_
        refine jr_iadd (pc' := 67) gM dX8_use_66 rfl ?_
        refine jr_pf (pc' := 70) gM dX8_use_67 rfl fX8_60 rfl rfl ⟨rfl, by decide +kernel⟩ ?_
        refine jr_aload_n (pc' := 71) gM dX8_use_70 rfl rfl ?_
        have e245 : jup (jup (jup σ 26 n a) 27 n y) 28 n (-1) 24 5 = (n : Int) := by rw [jup_row (by omega), jup_row (by omega), jup_row (by omega)]; exact a1.1
        rw [e245]
        generalize hs0 : jup (jup (jup (jup σ 26 n a) 27 n y) 28 n (-1)) 24 5 ((n : Int) + 1) = σ0
        have o24 : ∀ j, j ≠ 5 → σ0 24 j = σ 24 j := fun j hj => by rw [← hs0, jup_ne (Or.inr hj), jup_row (by omega), jup_row (by omega), jup_row (by omega)]
        have o5 : σ0 24 5 = ((n + 1 : Nat) : Int) := by rw [← hs0, jup_at]; rfl
        have o26 : ∀ u, σ0 26 u = jset (σ 26) n (a : Int) u := fun u => by
          rw [← hs0, jup_row (by omega), jup_row (by omega), jup_row (by omega)]
          unfold jup jset
          simp
        have o27 : ∀ u, σ0 27 u = jset (σ 27) n y u := fun u => by
          rw [← hs0, jup_row (by omega), jup_row (by omega)]
          unfold jup jset
          simp
        have o28 : ∀ u, σ0 28 u = jset (σ 28) n (-1) u := fun u => by
          rw [← hs0, jup_row (by omega)]
          unfold jup jset
          simp
        have oc : ∀ c, c ≠ 24 → c ≠ 26 → c ≠ 27 → c ≠ 28 → σ0 c = σ c := fun c q1 q2 q3 q4 => by rw [← hs0, jup_row q1, jup_row q4, jup_row q3, jup_row q2]
        have nb0 : ∀ u, u < n + 1 → σ0 26 u = ((jset nb n a u : Nat) : Int) ∧ jset nb n a u < 2 ^ 20 := by
          intro u hu
          rw [o26]
          by_cases e : u = n
          · subst e
            rw [jset_at, jset_at]
            exact ⟨rfl, by omega⟩
          · rw [jset_ne e, jset_ne e]
            exact a2 u (by omega)
        have hp0 : ∀ u, u < n + 1 → σ0 28 u = hp u := by
          intro u hu
          rw [o28]
          by_cases e : u = n
          · subst e
            rw [jset_at, a5.1 u (by omega)]
          · rw [jset_ne e]
            exact a6 u (by omega)
        refine jr_inv (pc' := 74) (as := []) gM dX8_use_71 rfl kX8_71 rfl rfl rfl (Nat.le_of_ble_eq_true rfl) ?_
        refine reckons_ok (n := n + 1) (nb := jset nb n a) o5 (by omega) nb0 (fun σ1 k1 k2 => ?_)
        dsimp only [Option.toList, List.cons_append, List.nil_append]
        have hwt : ∀ k, k < 20 → σ1 25 k = wt k ∧ 1 ≤ wt k ∧ wt k ≤ 9 := fun k hk => by rw [k1 25 (by omega), oc 25 (by omega) (by omega) (by omega) (by omega)]; exact a4 k hk
        have hfr : ∀ p q, p < n + 1 → q < n + 1 → σ1 29 (40 * p + q) = jfar wt (jset nb n a p) (jset nb n a q) := fun p q hp hq => by
          rw [k2 p q hp hq]
          exact jfar_congr (fun k hk => by rw [← k1 25 (by omega)]; exact (hwt k hk).1)
        have hh1 : ∀ u, u < n + 1 → σ1 28 u = hp u := fun u hu => by rw [k1 28 (by omega)]; exact hp0 u hu
        have e5 : σ1 24 5 = ((n + 1 : Nat) : Int) := by rw [k1 24 (by omega)]; exact o5
        generalize hcc : (fun h : Nat => jbs (fun o => jfar wt (jset nb n a n) (jset nb n a o)) hp (n + 1) h) = c
        have hce : ∀ h : Nat, jbs (fun o => jfar wt (jset nb n a n) (jset nb n a o)) hp (n + 1) h = c h := fun h => by rw [← hcc]
        have hcb : ∀ h : Nat, 0 ≤ c h ∧ c h ≤ 7200 := by
          intro h
          have := jbs_le (f := fun o => jfar wt (jset nb n a n) (jset nb n a o)) (hp := hp) (n := n + 1) (h := h) (fun o _ => jfar_le (fun k hk => (hwt k hk).2))
          rw [hce] at this
          omega
        have spec := fun i => lnF_spec (c := c) (hp := hp) (i := i) (fun h _ => hcb h)
        -- the memory at the end
        have done : ∀ (σ2 : jMem), (∀ v, v < n + 1 → σ2 28 v = lnR (n + 1) c hp pr ga n v) → (∀ c, c ≠ 28 → σ2 c = σ1 c) → K (some (.int (jI (n : Int)))) σ2 := by
          intro σ2 w1 w2
          rw [← hcc] at w1
          have q24 : ∀ j, j ≠ 5 → σ2 24 j = σ 24 j := fun j hj => by rw [w2 24 (by omega), k1 24 (by omega)]; exact o24 j hj
          have qc : ∀ c, c ≠ 24 → c ≠ 26 → c ≠ 27 → c ≠ 28 → c ≠ 29 → σ2 c = σ c := fun c q1 q2 q3 q4 q5 => by rw [w2 c q4, k1 c q5]; exact oc c q1 q2 q3 q4
          refine hK1 a rfl (by omega) c20 (by omega) σ2 ⟨⟨by rw [w2 24 (by omega)]; exact e5, by omega⟩, fun u hu => by rw [w2 26 (by omega), k1 26 (by omega)]; exact nb0 u hu, fun u hu => ?_, fun k hk => by rw [w2 25 (by omega)]; exact hwt k hk, lnR_HV hV (by omega), w1, fun p q hp hq => by rw [w2 29 (by omega)]; exact hfr p q hp hq, ⟨a8.of (q24 10 (by omega)) (fun c q1 q2 => qc c (by omega) (by omega) (by omega) (by omega) (by omega)), a8'.grow⟩, ?_⟩ (fun c hc => qc c (by omega) (by omega) (by omega) (by omega) (by omega))
          · rw [w2 27 (by omega), k1 27 (by omega), o27]
            by_cases e : u = n
            · subst e
              rw [jset_at, jset_at]
              exact ⟨rfl, c20⟩
            · rw [jset_ne e, jset_ne e]
              exact a3 u (by omega)
          · rw [q24 1 (by omega), q24 2 (by omega), q24 3 (by omega), q24 4 (by omega), q24 14 (by omega), q24 16 (by omega), qc 33 (by omega) (by omega) (by omega) (by omega) (by omega)]
            exact ⟨a9, a10, a11⟩
        have p1 : σ1 24 1 = pr := by rw [k1 24 (by omega), o24 1 (by omega)]; exact a9.1
        have p2 : σ1 24 2 = ga := by rw [k1 24 (by omega), o24 2 (by omega)]; exact a10.1
        have hpn : hp n = -1 := a5.1 n (by omega)
        -- the end of the loop
        have fin : ∀ (best least next : Int) (q7 q8 : Option Value), (((lnF c hp n).1 = -1 ∨ pr < (lnF c hp n).2.1) ∧ best = (n : Int) ∧ least = pr ∧ next = cvF (lnF c hp n).2.1) ∨ (¬ ((lnF c hp n).1 = -1 ∨ pr < (lnF c hp n).2.1) ∧ best = (lnF c hp n).1 ∧ least = (lnF c hp n).2.1 ∧ next = min (cvF (lnF c hp n).2.2) pr) → jV (jP mX8_use (d + 9) K) 193 [some (.ref 24), some (.int (jI (a : Int))), some (.int (jI y)), some (.int (jI (n : Int))), some (.int (jI best)), some (.int (jI least)), some (.int (jI next)), q7, q8] [] σ1 := by
          intro best least next q7 q8 hh
          have lay : ¬ (lnR (n + 1) c hp pr ga n = hp ∧ False) → (∀ v, v < n + 1 → (if v = n then best else hp v) = lnR (n + 1) c hp pr ga n v) → jV (jP mX8_use (d + 9) K) 212 [some (.ref 24), some (.int (jI (a : Int))), some (.int (jI y)), some (.int (jI (n : Int))), some (.int (jI best)), some (.int (jI least)), some (.int (jI next)), q7, q8] [] σ1 := by
            intro _ hv
            refine jr_aload_n (pc' := 213) gM dX8_use_212 rfl rfl ?_
            refine jr_gfr (pc' := 216) gM dX8_use_213 rfl fX8_32 rfl rfl ?_
            refine jr_iload_n (pc' := 217) gM dX8_use_216 rfl rfl ?_
            refine jr_iload (pc' := 219) gM dX8_use_217 rfl rfl ?_
            refine jr_iast (pc' := 220) (n) gM dX8_use_219 rfl rfl (rfl) (by omega) (by decide) ?_
            refine jr_iload_n (pc' := 221) gM dX8_use_220 rfl rfl ?_
            refine jr_ireturn dX8_use_221 rfl ?_
            refine done _ (fun v hv2 => ?_) (fun c hc => jup_row hc)
            rw [← hv v hv2]
            by_cases e : v = n
            · subst e
              rw [jup_at, if_pos rfl]
            · rw [jup_ne (Or.inr e), if_neg e]
              exact hh1 v hv2
          have stay : lnR (n + 1) c hp pr ga n = hp → jV (jP mX8_use (d + 9) K) 220 [some (.ref 24), some (.int (jI (a : Int))), some (.int (jI y)), some (.int (jI (n : Int))), some (.int (jI best)), some (.int (jI least)), some (.int (jI next)), q7, q8] [] σ1 := by
            intro e
            refine jr_iload_n (pc' := 221) gM dX8_use_220 rfl rfl ?_
            refine jr_ireturn dX8_use_221 rfl ?_
            refine done σ1 (fun v hv => ?_) (fun _ _ => rfl)
            rw [e]
            exact hh1 v hv
          have sn := spec n
          generalize hF : lnF c hp n = r at *
          have hln : lnR (n + 1) c hp pr ga n = if r.1 = -1 ∨ pr < r.2.1 then (if r.2.1 - pr < ga then hp else alF (n + 1) hp n) else (if min r.2.2 pr - r.2.1 < ga then hp else inF (n + 1) hp n r.1.toNat) := by
            unfold lnR
            rw [hF]
          have hal : ∀ v, (if v = n then (n : Int) else hp v) = alF (n + 1) hp n v := fun v => by
            rw [alF_at (by omega), opF_open hpn]
          rcases hh with ⟨z, z1, z2, z3⟩ | ⟨z, z1, z2, z3⟩ <;> subst best <;> subst least <;> subst next
          · rw [if_pos z] at hln
            have hr : 0 ≤ r.2.1 ∧ (r.2.1 ≤ 7200 ∨ r.2.1 = 1000000000) := by
              rcases sn with ⟨e, -⟩ | ⟨k, -, -, -, h4, -⟩
              · rw [e]
                decide
              · have := hcb k
                omega
            have hcv : cvF r.2.1 = if r.2.1 = 1000000000 then 1048575 else r.2.1 := rfl
            have hcr : 0 ≤ cvF r.2.1 ∧ cvF r.2.1 ≤ 1048575 := by
              rw [hcv]
              split <;> omega
            refine jr_iload (pc' := 195) gM dX8_use_193 rfl rfl ?_
            refine jr_ldc (pc' := 197) gM dX8_use_195 rfl qX8_78 ?_
            refine jr_icmp_eq (tgt := 212) (pc' := 200) gM dX8_use_197 rfl rfl ⟨by omega, by omega⟩ ⟨by omega, by omega⟩ (fun c197 => ?_) (fun c197 => ?_)
            · refine lay (fun q => q.2) (fun v _ => ?_)
              rw [hln, if_neg (show ¬ r.2.1 - pr < ga by rw [hcv] at c197; split at c197 <;> omega)]
              exact hal v
            · refine jr_iload (pc' := 202) gM dX8_use_200 rfl rfl ?_
              refine jr_iload (pc' := 204) gM dX8_use_202 rfl rfl ?_
              refine jr_isub (pc' := 205) gM dX8_use_204 rfl ?_
              refine jr_aload_n (pc' := 206) gM dX8_use_205 rfl rfl ?_
              refine jr_gfi (pc' := 209) gM dX8_use_206 rfl fX8_17 rfl rfl ?_
              rw [p2]
              refine jr_icmp_lt (tgt := 220) (pc' := 212) gM dX8_use_209 rfl rfl ⟨by omega, by omega⟩ ⟨by omega, by omega⟩ (fun c209 => ?_) (fun c209 => ?_)
              · refine stay ?_
                rw [hln, if_pos (by rw [hcv] at c209 c197; split at c209 <;> omega)]
              · refine lay (fun q => q.2) (fun v _ => ?_)
                rw [hln, if_neg (show ¬ r.2.1 - pr < ga by rw [hcv] at c209 c197; split at c209 <;> omega)]
                exact hal v
          · rw [if_neg z] at hln
            rcases sn with ⟨e, -⟩ | ⟨k, b1, b2, b3, b4, b5, b6, b7⟩
            · rw [e] at z
              exact absurd (Or.inl rfl) z
            · have hck := hcb k
              have hcv : cvF r.2.2 = if r.2.2 = 1000000000 then 1048575 else r.2.2 := rfl
              have hmm : min (cvF r.2.2) pr = min r.2.2 pr := by
                rw [hcv]
                split <;> omega
              rw [hmm, b3]
              have hin : ∀ v, (if v = n then (k : Int) else hp v) = inF (n + 1) hp n k v := fun v => by
                rw [inF_at hV (by omega) b2 (by omega) (by omega), opF_open hpn]
                by_cases e : v = n
                · subst e
                  rw [if_pos rfl, if_pos (Or.inl rfl), show min k v = k by omega]
                · rw [if_neg e]
                  by_cases w : hp v = (k : Int)
                  · rw [if_pos (Or.inr w), w, show min k n = k by omega]
                  · rw [if_neg (by rintro (q | q); exact e q; exact w q)]
              rw [b3, show ((k : Int)).toNat = k from rfl] at hln
              rw [b3] at lay stay
              rw [hmm] at lay stay
              refine jr_iload (pc' := 195) gM dX8_use_193 rfl rfl ?_
              refine jr_ldc (pc' := 197) gM dX8_use_195 rfl qX8_78 ?_
              refine jr_icmp_eq (tgt := 212) (pc' := 200) gM dX8_use_197 rfl rfl ⟨by omega, by omega⟩ ⟨by omega, by omega⟩ (fun cc => absurd cc (by omega)) (fun _ => ?_)
              refine jr_iload (pc' := 202) gM dX8_use_200 rfl rfl ?_
              refine jr_iload (pc' := 204) gM dX8_use_202 rfl rfl ?_
              refine jr_isub (pc' := 205) gM dX8_use_204 rfl ?_
              refine jr_aload_n (pc' := 206) gM dX8_use_205 rfl rfl ?_
              refine jr_gfi (pc' := 209) gM dX8_use_206 rfl fX8_17 rfl rfl ?_
              rw [p2]
              refine jr_icmp_lt (tgt := 220) (pc' := 212) gM dX8_use_209 rfl rfl ⟨by omega, by omega⟩ ⟨by omega, by omega⟩ (fun c209 => ?_) (fun c209 => ?_)
              · refine stay ?_
                rw [hln, if_pos (by omega)]
              · refine lay (fun q => q.2) (fun v _ => ?_)
                rw [hln, if_neg (show ¬ min r.2.2 pr - r.2.1 < ga by omega)]
                exact hin v
        refine jr_iconst (pc' := 75) gM dX8_use_74 rfl ?_
        refine jr_istore (pc' := 77) (lv' := [_, _, _, _, _, _, _, _, _]) gM dX8_use_75 rfl rfl (Nat.le_of_ble_eq_true rfl) ?_
        refine jr_ldc (pc' := 79) gM dX8_use_77 rfl qX8_78 ?_
        refine jr_istore (pc' := 81) (lv' := [_, _, _, _, _, _, _, _, _]) gM dX8_use_79 rfl rfl (Nat.le_of_ble_eq_true rfl) ?_
        refine jr_ldc (pc' := 83) gM dX8_use_81 rfl qX8_78 ?_
        refine jr_istore (pc' := 85) (lv' := [_, _, _, _, _, _, _, _, _]) gM dX8_use_83 rfl rfl (Nat.le_of_ble_eq_true rfl) ?_
        refine jr_iconst (pc' := 86) gM dX8_use_85 rfl ?_
        refine jr_istore (pc' := 88) (lv' := [_, _, _, _, _, _, _, _, _]) gM dX8_use_86 rfl rfl (Nat.le_of_ble_eq_true rfl) ?_
        have lp : ∀ i, i ≤ n → ∀ q8 : Option Value, jV (jP mX8_use (d + 9) K) 88 [some (.ref 24), some (.int (jI (a : Int))), some (.int (jI y)), some (.int (jI (n : Int))), some (.int (jI (lnF c hp i).1)), some (.int (jI (cvF (lnF c hp i).2.1))), some (.int (jI (cvF (lnF c hp i).2.2))), some (.int (jI (i : Int))), q8] [] σ1 := by
          refine jdown n ?_
          intro i hi ih q8
          have si := spec i
          have hci := hcb i
          have hr : -1 ≤ (lnF c hp i).1 ∧ (lnF c hp i).1 < 40 ∧ 0 ≤ (lnF c hp i).2.1 ∧ ((lnF c hp i).2.1 ≤ 7200 ∨ (lnF c hp i).2.1 = 1000000000) ∧ 0 ≤ (lnF c hp i).2.2 ∧ ((lnF c hp i).2.2 ≤ 7200 ∨ (lnF c hp i).2.2 = 1000000000) ∧ ((lnF c hp i).1 = -1 ↔ (lnF c hp i).2.1 = 1000000000) := by
            rcases si with ⟨e, -⟩ | ⟨k, b1, b2, b3, b4, b5, b6, b7⟩
            · rw [e]
              decide
            · have := hcb k
              omega
          have cv1 : cvF (lnF c hp i).2.1 = if (lnF c hp i).2.1 = 1000000000 then 1048575 else (lnF c hp i).2.1 := rfl
          have cv2 : cvF (lnF c hp i).2.2 = if (lnF c hp i).2.2 = 1000000000 then 1048575 else (lnF c hp i).2.2 := rfl
          have hcr : (0 ≤ cvF (lnF c hp i).2.1 ∧ cvF (lnF c hp i).2.1 ≤ 1048575) ∧ 0 ≤ cvF (lnF c hp i).2.2 ∧ cvF (lnF c hp i).2.2 ≤ 1048575 := by
            rw [cv1, cv2]
            constructor <;> split <;> omega
          refine jr_iload (pc' := 90) gM dX8_use_88 rfl rfl ?_
          refine jr_iload_n (pc' := 91) gM dX8_use_90 rfl rfl ?_
          refine jr_icmp_gt (tgt := 193) (pc' := 94) gM dX8_use_91 rfl rfl ⟨by omega, by omega⟩ ⟨by omega, by omega⟩ (fun cc => absurd cc (by omega)) (fun _ => ?_)
          refine jr_iload (pc' := 96) gM dX8_use_94 rfl rfl ?_
          refine jr_iload_n (pc' := 97) gM dX8_use_96 rfl rfl ?_
          refine jr_icmp_ge (tgt := 115) (pc' := 100) gM dX8_use_97 rfl rfl ⟨by omega, by omega⟩ ⟨by omega, by omega⟩ (fun c97 => ?_) (fun c97 => ?_)
          · -- by itself
            have ein : i = n := by omega
            subst ein
            have last : ∀ (best least next : Int), (((lnF c hp i).1 = -1 ∨ pr < (lnF c hp i).2.1) ∧ best = (i : Int) ∧ least = pr ∧ next = cvF (lnF c hp i).2.1) ∨ (¬ ((lnF c hp i).1 = -1 ∨ pr < (lnF c hp i).2.1) ∧ best = (lnF c hp i).1 ∧ least = (lnF c hp i).2.1 ∧ next = min (cvF (lnF c hp i).2.2) pr) → jV (jP mX8_use (d + 9) K) 187 [some (.ref 24), some (.int (jI (a : Int))), some (.int (jI y)), some (.int (jI (i : Int))), some (.int (jI best)), some (.int (jI least)), some (.int (jI next)), some (.int (jI (i : Int))), some (.int (jI pr))] [] σ1 := by
              intro best least next hh
              refine jr_iinc (pc' := 190) (lv' := [_, _, _, _, _, _, _, _, _]) gM dX8_use_187 rfl rfl rfl ?_
              refine jr_goto (tgt := 88) gM dX8_use_190 rfl ?_
              refine jr_iload (pc' := 90) gM dX8_use_88 rfl rfl ?_
              refine jr_iload_n (pc' := 91) gM dX8_use_90 rfl rfl ?_
              refine jr_icmp_gt (tgt := 193) (pc' := 94) gM dX8_use_91 rfl rfl ⟨by omega, by omega⟩ ⟨by omega, by omega⟩ (fun _ => ?_) (fun cc => absurd cc (by omega))
              exact fin best least next _ _ hh
            refine jr_iload (pc' := 117) gM dX8_use_115 rfl rfl ?_
            refine jr_iload_n (pc' := 118) gM dX8_use_117 rfl rfl ?_
            refine jr_icmp_ne (tgt := 128) (pc' := 121) gM dX8_use_118 rfl rfl ⟨by omega, by omega⟩ ⟨by omega, by omega⟩ (fun cc => absurd cc (by omega)) (fun _ => ?_)
            refine jr_aload_n (pc' := 122) gM dX8_use_121 rfl rfl ?_
            refine jr_gfi (pc' := 125) gM dX8_use_122 rfl fX8_13 rfl rfl ?_
            rw [p1]
            refine jr_goto (tgt := 135) gM dX8_use_125 rfl ?_
            refine jr_istore (pc' := 137) (lv' := [_, _, _, _, _, _, _, _, _]) gM dX8_use_135 rfl rfl (Nat.le_of_ble_eq_true rfl) ?_
            refine jr_iload (pc' := 139) gM dX8_use_137 rfl rfl ?_
            refine jr_iconst (pc' := 140) gM dX8_use_139 rfl ?_
            refine jr_icmp_eq (tgt := 150) (pc' := 143) gM dX8_use_140 rfl rfl ⟨by omega, by omega⟩ ⟨by omega, by omega⟩ (fun c140 => ?_) (fun c140 => ?_)
            · refine jr_iload (pc' := 152) gM dX8_use_150 rfl rfl ?_
              refine jr_iconst (pc' := 153) gM dX8_use_152 rfl ?_
              refine jr_icmp_ne (tgt := 161) (pc' := 156) gM dX8_use_153 rfl rfl ⟨by omega, by omega⟩ ⟨by omega, by omega⟩ (fun cc => absurd cc (by omega)) (fun _ => ?_)
              refine jr_ldc (pc' := 158) gM dX8_use_156 rfl qX8_78 ?_
              refine jr_goto (tgt := 163) gM dX8_use_158 rfl ?_
              refine jr_istore (pc' := 165) (lv' := [_, _, _, _, _, _, _, _, _]) gM dX8_use_163 rfl rfl (Nat.le_of_ble_eq_true rfl) ?_
              refine jr_iload (pc' := 167) gM dX8_use_165 rfl rfl ?_
              refine jr_istore (pc' := 169) (lv' := [_, _, _, _, _, _, _, _, _]) gM dX8_use_167 rfl rfl (Nat.le_of_ble_eq_true rfl) ?_
              refine jr_iload (pc' := 171) gM dX8_use_169 rfl rfl ?_
              refine jr_istore (pc' := 173) (lv' := [_, _, _, _, _, _, _, _, _]) gM dX8_use_171 rfl rfl (Nat.le_of_ble_eq_true rfl) ?_
              refine jr_goto (tgt := 187) gM dX8_use_173 rfl ?_
              refine last _ _ _ (Or.inl ⟨Or.inl c140, rfl, rfl, ?_⟩)
              rw [cv1, if_pos (hr.2.2.2.2.2.2.mp c140)]
            · have hne : ¬ (lnF c hp i).2.1 = 1000000000 := fun q => c140 (hr.2.2.2.2.2.2.mpr q)
              have cv1' : cvF (lnF c hp i).2.1 = (lnF c hp i).2.1 := by rw [cv1, if_neg hne]
              refine jr_iload (pc' := 145) gM dX8_use_143 rfl rfl ?_
              refine jr_iload (pc' := 147) gM dX8_use_145 rfl rfl ?_
              refine jr_icmp_ge (tgt := 176) (pc' := 150) gM dX8_use_147 rfl rfl ⟨by omega, by omega⟩ ⟨by omega, by omega⟩ (fun c147 => ?_) (fun c147 => ?_)
              · refine jr_iload (pc' := 178) gM dX8_use_176 rfl rfl ?_
                refine jr_iload (pc' := 180) gM dX8_use_178 rfl rfl ?_
                refine jr_icmp_ge (tgt := 187) (pc' := 183) gM dX8_use_180 rfl rfl ⟨by omega, by omega⟩ ⟨by omega, by omega⟩ (fun c180 => ?_) (fun c180 => ?_)
                · have := last (lnF c hp i).1 (lnF c hp i).2.1 (cvF (lnF c hp i).2.2) (Or.inr ⟨by omega, rfl, rfl, by omega⟩)
                  rw [cv1']
                  exact this
                · refine jr_iload (pc' := 185) gM dX8_use_183 rfl rfl ?_
                  refine jr_istore (pc' := 187) (lv' := [_, _, _, _, _, _, _, _, _]) gM dX8_use_185 rfl rfl (Nat.le_of_ble_eq_true rfl) ?_
                  have := last (lnF c hp i).1 (lnF c hp i).2.1 pr (Or.inr ⟨by omega, rfl, rfl, by omega⟩)
                  rw [cv1']
                  exact this
              · refine jr_iload (pc' := 152) gM dX8_use_150 rfl rfl ?_
                refine jr_iconst (pc' := 153) gM dX8_use_152 rfl ?_
                refine jr_icmp_ne (tgt := 161) (pc' := 156) gM dX8_use_153 rfl rfl ⟨by omega, by omega⟩ ⟨by omega, by omega⟩ (fun _ => ?_) (fun cc => absurd cc (by omega))
                refine jr_iload (pc' := 163) gM dX8_use_161 rfl rfl ?_
                refine jr_istore (pc' := 165) (lv' := [_, _, _, _, _, _, _, _, _]) gM dX8_use_163 rfl rfl (Nat.le_of_ble_eq_true rfl) ?_
                refine jr_iload (pc' := 167) gM dX8_use_165 rfl rfl ?_
                refine jr_istore (pc' := 169) (lv' := [_, _, _, _, _, _, _, _, _]) gM dX8_use_167 rfl rfl (Nat.le_of_ble_eq_true rfl) ?_
                refine jr_iload (pc' := 171) gM dX8_use_169 rfl rfl ?_
                refine jr_istore (pc' := 173) (lv' := [_, _, _, _, _, _, _, _, _]) gM dX8_use_171 rfl rfl (Nat.le_of_ble_eq_true rfl) ?_
                refine jr_goto (tgt := 187) gM dX8_use_173 rfl ?_
                exact last _ _ _ (Or.inl ⟨Or.inr (by omega), rfl, rfl, rfl⟩)
          · -- a heap, or none
            have hri := hV.r (by omega) i
            refine jr_aload_n (pc' := 101) gM dX8_use_100 rfl rfl ?_
            refine jr_gfr (pc' := 104) gM dX8_use_101 rfl fX8_32 rfl rfl ?_
            refine jr_iload (pc' := 106) gM dX8_use_104 rfl rfl ?_
            refine jr_iald (pc' := 107) _ gM dX8_use_106 rfl rfl rfl (by omega) (by decide) ?_
            rw [hh1 i (by omega)]
            refine jr_iload (pc' := 109) gM dX8_use_107 rfl rfl ?_
            have nxt := fun q => ih (i + 1) (by omega) (by omega) q
            simp only [lnF] at nxt
            refine jr_icmp_eq (tgt := 115) (pc' := 112) gM dX8_use_109 rfl rfl ⟨by omega, by omega⟩ ⟨by omega, by omega⟩ (fun c109 => ?_) (fun c109 => ?_)
            · rw [if_pos c109] at nxt
              refine jr_iload (pc' := 117) gM dX8_use_115 rfl rfl ?_
              refine jr_iload_n (pc' := 118) gM dX8_use_117 rfl rfl ?_
              refine jr_icmp_ne (tgt := 128) (pc' := 121) gM dX8_use_118 rfl rfl ⟨by omega, by omega⟩ ⟨by omega, by omega⟩ (fun _ => ?_) (fun cc => absurd cc (by omega))
              refine jr_aload_n (pc' := 129) gM dX8_use_128 rfl rfl ?_
              refine jr_iload_n (pc' := 130) gM dX8_use_129 rfl rfl ?_
              refine jr_iload (pc' := 132) gM dX8_use_130 rfl rfl ?_
              refine jr_inv (pc' := 135) (as := [_, _]) gM dX8_use_132 rfl kX8_79 rfl rfl rfl (Nat.le_of_ble_eq_true rfl) ?_
              refine beside_ok (fr := fun p q => jfar wt (jset nb n a p) (jset nb n a q)) (n := n + 1) (hp := hp) e5 (by omega) hV hh1 hfr (jfar_self _ _) (by omega) ⟨by omega, by omega⟩ ?_
              dsimp only [Option.toList, List.cons_append, List.nil_append]
              rw [hce]
              have take : c i < (lnF c hp i).2.1 → ∀ nx : Int, nx = cvF (lnF c hp i).2.1 → jV (jP mX8_use (d + 9) K) 163 [some (.ref 24), some (.int (jI (a : Int))), some (.int (jI y)), some (.int (jI (n : Int))), some (.int (jI (lnF c hp i).1)), some (.int (jI (cvF (lnF c hp i).2.1))), some (.int (jI (cvF (lnF c hp i).2.2))), some (.int (jI (i : Int))), some (.int (jI (c i)))] [.int (jI nx)] σ1 := by
                intro hlt nx hnx
                subst hnx
                refine jr_istore (pc' := 165) (lv' := [_, _, _, _, _, _, _, _, _]) gM dX8_use_163 rfl rfl (Nat.le_of_ble_eq_true rfl) ?_
                refine jr_iload (pc' := 167) gM dX8_use_165 rfl rfl ?_
                refine jr_istore (pc' := 169) (lv' := [_, _, _, _, _, _, _, _, _]) gM dX8_use_167 rfl rfl (Nat.le_of_ble_eq_true rfl) ?_
                refine jr_iload (pc' := 171) gM dX8_use_169 rfl rfl ?_
                refine jr_istore (pc' := 173) (lv' := [_, _, _, _, _, _, _, _, _]) gM dX8_use_171 rfl rfl (Nat.le_of_ble_eq_true rfl) ?_
                refine jr_goto (tgt := 187) gM dX8_use_173 rfl ?_
                refine jr_iinc (pc' := 190) (lv' := [_, _, _, _, _, _, _, _, _]) gM dX8_use_187 rfl rfl rfl ?_
                refine jr_goto (tgt := 88) gM dX8_use_190 rfl ?_
                have := nxt (some (.int (jI (c i))))
                rw [if_pos hlt] at this
                dsimp only at this
                rw [show cvF (c i) = c i by unfold cvF; rw [if_neg (by omega)]] at this
                exact this
              refine jr_istore (pc' := 137) (lv' := [_, _, _, _, _, _, _, _, _]) gM dX8_use_135 rfl rfl (Nat.le_of_ble_eq_true rfl) ?_
              refine jr_iload (pc' := 139) gM dX8_use_137 rfl rfl ?_
              refine jr_iconst (pc' := 140) gM dX8_use_139 rfl ?_
              refine jr_icmp_eq (tgt := 150) (pc' := 143) gM dX8_use_140 rfl rfl ⟨by omega, by omega⟩ ⟨by omega, by omega⟩ (fun c140 => ?_) (fun c140 => ?_)
              · have h9 := hr.2.2.2.2.2.2.mp c140
                refine jr_iload (pc' := 152) gM dX8_use_150 rfl rfl ?_
                refine jr_iconst (pc' := 153) gM dX8_use_152 rfl ?_
                refine jr_icmp_ne (tgt := 161) (pc' := 156) gM dX8_use_153 rfl rfl ⟨by omega, by omega⟩ ⟨by omega, by omega⟩ (fun cc => absurd cc (by omega)) (fun _ => ?_)
                refine jr_ldc (pc' := 158) gM dX8_use_156 rfl qX8_78 ?_
                refine jr_goto (tgt := 163) gM dX8_use_158 rfl ?_
                exact take (by omega) _ (by rw [cv1, if_pos h9])
              · have hne : ¬ (lnF c hp i).2.1 = 1000000000 := fun q => c140 (hr.2.2.2.2.2.2.mpr q)
                have cv1' : cvF (lnF c hp i).2.1 = (lnF c hp i).2.1 := by rw [cv1, if_neg hne]
                refine jr_iload (pc' := 145) gM dX8_use_143 rfl rfl ?_
                refine jr_iload (pc' := 147) gM dX8_use_145 rfl rfl ?_
                refine jr_icmp_ge (tgt := 176) (pc' := 150) gM dX8_use_147 rfl rfl ⟨by omega, by omega⟩ ⟨by omega, by omega⟩ (fun c147 => ?_) (fun c147 => ?_)
                · have this := nxt (some (.int (jI (c i))))
                  rw [if_neg (by omega)] at this
                  dsimp only at this
                  have cm : cvF (min (lnF c hp i).2.2 (c i)) = if c i < cvF (lnF c hp i).2.2 then c i else cvF (lnF c hp i).2.2 := by
                    rw [cv2]
                    unfold cvF
                    split <;> split <;> (try split) <;> omega
                  rw [cm] at this
                  refine jr_iload (pc' := 178) gM dX8_use_176 rfl rfl ?_
                  refine jr_iload (pc' := 180) gM dX8_use_178 rfl rfl ?_
                  refine jr_icmp_ge (tgt := 187) (pc' := 183) gM dX8_use_180 rfl rfl ⟨by omega, by omega⟩ ⟨by omega, by omega⟩ (fun c180 => ?_) (fun c180 => ?_)
                  · rw [if_neg (by omega)] at this
                    refine jr_iinc (pc' := 190) (lv' := [_, _, _, _, _, _, _, _, _]) gM dX8_use_187 rfl rfl rfl ?_
                    refine jr_goto (tgt := 88) gM dX8_use_190 rfl ?_
                    exact this
                  · rw [if_pos (by omega)] at this
                    refine jr_iload (pc' := 185) gM dX8_use_183 rfl rfl ?_
                    refine jr_istore (pc' := 187) (lv' := [_, _, _, _, _, _, _, _, _]) gM dX8_use_185 rfl rfl (Nat.le_of_ble_eq_true rfl) ?_
                    refine jr_iinc (pc' := 190) (lv' := [_, _, _, _, _, _, _, _, _]) gM dX8_use_187 rfl rfl rfl ?_
                    refine jr_goto (tgt := 88) gM dX8_use_190 rfl ?_
                    exact this
                · refine jr_iload (pc' := 152) gM dX8_use_150 rfl rfl ?_
                  refine jr_iconst (pc' := 153) gM dX8_use_152 rfl ?_
                  refine jr_icmp_ne (tgt := 161) (pc' := 156) gM dX8_use_153 rfl rfl ⟨by omega, by omega⟩ ⟨by omega, by omega⟩ (fun _ => ?_) (fun cc => absurd cc (by omega))
                  refine jr_iload (pc' := 163) gM dX8_use_161 rfl rfl ?_
                  exact take (by omega) _ rfl
            · rw [if_neg c109] at nxt
              refine jr_goto (tgt := 187) gM dX8_use_112 rfl ?_
              refine jr_iinc (pc' := 190) (lv' := [_, _, _, _, _, _, _, _, _]) gM dX8_use_187 rfl rfl rfl ?_
              refine jr_goto (tgt := 88) gM dX8_use_190 rfl ?_
              exact nxt _
        exact lp 0 (by omega) _
      · exact no (by omega)
end jMq
