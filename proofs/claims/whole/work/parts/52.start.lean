/-! ===== the law's start, and the claim ===== -/
theorem whole_world {D : va_G} {τ : ClassId × ClassId × ClassId} {A : Nat → Prop} {x0 m0 b : Nat} {u : (Nat → Nat) × (Nat → Int32) × (Nat → Int32)} {v : (Nat → Nat) × (Nat → Int32)} {H : Heap} (hP : va_P D vwCl (wW τ x0 m0 u v) H) (hD : va_D A (wW τ x0 m0 u v)) :
    va_P D vwCl (jWO (wO D τ x0 m0 b u v) (jS0 u.2.1 u.2.2 v.2)) H ∧ va_D A (jWO (wO D τ x0 m0 b u v) (jS0 u.2.1 u.2.2 v.2)) := by
  refine ⟨hP.by wpm wpm_at, hD.by wpm wpm_at (fun i j hi hj e => ?_)⟩
  have hlen : (jWO (wO D τ x0 m0 b u v) (jS0 u.2.1 u.2.2 v.2)).length = 37 := by
    unfold jWO
    rw [List.length_mapIdx, jsh_len]
  rw [hlen] at hi hj
  exact wpm_inj i hi j hj e
set_option maxHeartbeats 4000000 in
set_option maxRecDepth 100000 in
/-- from the entry, for every script of at most 2560 ints, the law comes to its end with true -/
theorem whole_start {p : Program} {e : Env} {s : State} {m : MethodId} {below : List Frame} {meth : Method} {c : Code} (l : Launch) {b L : Nat} {xs : Nat → Int32} (hL : L ≤ 2560) (C0 : lw_At p s m meth c b L xs) : W p l e room_1 s m #[Value.ref b] below meth c s.heap [] 0 0 (lw_Z below #[Value.ref b] s) (entryFrame m ([Value.ref b] : List Value).toArray 4) := by
  obtain ⟨hx, hb, hr, hml, hown, hts0, hX, hbl, hlocks, hgv⟩ := C0
  have hts : ∀ w ∈ jTB, w.before #[Value.ref b] s = true := fun w hw => hts0 w (List.mem_filter.mp hw).1
  have hnw : ∀ w ∈ jNL, va_Nw w s := fun w hw => by
    obtain ⟨_, _, _, _, rfl⟩ := jNL_is hw
    exact va_Nw.of rfl (hts0 _ (List.mem_filter.mp hw).1)
  obtain ⟨D, τ, hK⟩ := jK_start hts
  have hl := lv_entry [Value.ref b] (n := 4) (Nat.le_of_ble_eq_true rfl)
  rw [lg_entry_eq]
  generalize (lg_sl [Value.ref b] ++ List.replicate (4 - (lg_sl [Value.ref b]).length) Slot.unset).toArray = ls at hl ⊢
  have hl : lv_has ls 4 [(0, .ref b)] := hl
  have hA : ∀ q : Nat, s.heap.size ≤ q → (fun q : Nat => s.heap.size ≤ q) q := fun _ h => h
  have hP : va_P D vwCl [] s.heap := fun k q h => by simp at h
  have hD : va_D (fun q : Nat => s.heap.size ≤ q) [] := ⟨fun i j p q h => by simp at h, fun k q h => by simp at h⟩
  have hS : va_S (fun q : Nat => s.heap.size ≤ q) s.heap s.heap [] := va_S.rf
  have hown : s.vm.findClass RL = some m.cls := hown
  refine va_new (ci := 7) (fs := [.null, .null, .null, .null, .null, .null, .null]) (C := RX7) (T := TX7) (N := 7) hx hb hts jcl7.1 tyX7 tyX7_ok hown (hts _ knL_7) (hts _ ks7) (hts _ kz7) hK hP hD hS hA rfl (by decide +kernel) (Nat.le_of_ble_eq_true rfl) (Nat.le_of_ble_eq_true rfl) dL_law_0 (fun x0 H hP hD hS => ?_)
  refine lv_dup hx hb dL_law_3 rfl ?_
  refine jn_callI (d := 2) (mc := 23) (ms := 2010) (wc := [(x0, .inr (7, [.null, .null, .null, .null, .null, .null, .null]))]) (wr := []) (As := []) hx hb hml hl.1 hown hts hK (n_X7 D τ x0) kiL_9 rfl (Nat.le_of_ble_eq_true rfl) (Nat.le_of_ble_eq_true rfl) (Nat.le_of_ble_eq_true rfl) (Nat.le_of_ble_eq_true rfl) hP hD hS hA [0] [] rfl rfl rfl (by decide) (by decide) (by decide) (Nat.le_of_ble_eq_true rfl) dL_law_4 rfl (fun u H locs hu hP hD hS => ?_)
  refine lv_astore_n (lv' := [(1, .ref x0), (0, .ref b)]) hx hb dL_law_7 rfl hl (by decide) rfl (fun ls hl => ?_)
  have hP : va_P D vwCl [(x0, .inr (7, [.ref (u.1 0), .ref (u.1 6), .ref (u.1 9), .ref (u.1 13), .ref (u.1 14), .ref (u.1 16), .ref (u.1 17)])), ((u.1 0), .inr (6, [.ref (u.1 1), .ref (u.1 2), .ref (u.1 3), .ref (u.1 4), .ref (u.1 5), .int 0])), ((u.1 1), .inl (τ.1, 40, .inl (fun _ => 0))), ((u.1 2), .inl (τ.1, 40, .inl (fun _ => 0))), ((u.1 3), .inl (τ.2.1, 20, .inr (.inl (fun _ => 0)))), ((u.1 5), .inl (τ.1, 1600, .inl (fun _ => 0))), ((u.1 4), .inl (τ.1, 20, .inl (u.2.1))), ((u.1 6), .inr (0, [.ref (u.1 7), .ref (u.1 8), .int 0])), ((u.1 7), .inl (τ.2.1, 40, .inr (.inl (fun _ => 0)))), ((u.1 8), .inl (τ.2.1, 40, .inr (.inl (fun _ => 0)))), ((u.1 9), .inr (2, [.ref (u.1 0), .ref (u.1 10), .ref (u.1 11), .ref (u.1 12), .int 10, .int 1])), ((u.1 11), .inl (τ.2.1, 40, .inr (.inl (fun _ => 0)))), ((u.1 12), .inl (τ.1, 40, .inl (fun _ => 0))), ((u.1 10), .inl (τ.1, 40, .inl (u.2.2))), ((u.1 13), .inr (5, [.ref (u.1 0), .ref (u.1 6), .ref (u.1 9), .int 0])), ((u.1 14), .inr (4, [.ref (u.1 0), .ref (u.1 6), .ref (u.1 15), .int 0, .int 0])), ((u.1 15), .inl (τ.2.1, 7, .inr (.inl (fun _ => 0)))), ((u.1 16), .inr (3, [.ref (u.1 0), .int 60, .int 1])), ((u.1 17), .inr (1, [.ref (u.1 0), .ref (u.1 9), .ref (u.1 16), .ref (u.1 18), .int 0, .ref (u.1 19), .int 0, .ref (u.1 20), .ref (u.1 21), .ref (u.1 22), .int 0])), ((u.1 18), .inl (τ.1, 5, .inl (fun _ => 0))), ((u.1 19), .inl (τ.1, 5, .inl (fun _ => 0))), ((u.1 20), .inl (τ.1, 25, .inl (fun _ => 0))), ((u.1 21), .inl (τ.1, 5, .inl (fun _ => 0))), ((u.1 22), .inl (τ.1, 5, .inl (fun _ => 0)))] H := hP
  have hD : va_D (fun q : Nat => s.heap.size ≤ q) [(x0, .inr (7, [.ref (u.1 0), .ref (u.1 6), .ref (u.1 9), .ref (u.1 13), .ref (u.1 14), .ref (u.1 16), .ref (u.1 17)])), ((u.1 0), .inr (6, [.ref (u.1 1), .ref (u.1 2), .ref (u.1 3), .ref (u.1 4), .ref (u.1 5), .int 0])), ((u.1 1), .inl (τ.1, 40, .inl (fun _ => 0))), ((u.1 2), .inl (τ.1, 40, .inl (fun _ => 0))), ((u.1 3), .inl (τ.2.1, 20, .inr (.inl (fun _ => 0)))), ((u.1 5), .inl (τ.1, 1600, .inl (fun _ => 0))), ((u.1 4), .inl (τ.1, 20, .inl (u.2.1))), ((u.1 6), .inr (0, [.ref (u.1 7), .ref (u.1 8), .int 0])), ((u.1 7), .inl (τ.2.1, 40, .inr (.inl (fun _ => 0)))), ((u.1 8), .inl (τ.2.1, 40, .inr (.inl (fun _ => 0)))), ((u.1 9), .inr (2, [.ref (u.1 0), .ref (u.1 10), .ref (u.1 11), .ref (u.1 12), .int 10, .int 1])), ((u.1 11), .inl (τ.2.1, 40, .inr (.inl (fun _ => 0)))), ((u.1 12), .inl (τ.1, 40, .inl (fun _ => 0))), ((u.1 10), .inl (τ.1, 40, .inl (u.2.2))), ((u.1 13), .inr (5, [.ref (u.1 0), .ref (u.1 6), .ref (u.1 9), .int 0])), ((u.1 14), .inr (4, [.ref (u.1 0), .ref (u.1 6), .ref (u.1 15), .int 0, .int 0])), ((u.1 15), .inl (τ.2.1, 7, .inr (.inl (fun _ => 0)))), ((u.1 16), .inr (3, [.ref (u.1 0), .int 60, .int 1])), ((u.1 17), .inr (1, [.ref (u.1 0), .ref (u.1 9), .ref (u.1 16), .ref (u.1 18), .int 0, .ref (u.1 19), .int 0, .ref (u.1 20), .ref (u.1 21), .ref (u.1 22), .int 0])), ((u.1 18), .inl (τ.1, 5, .inl (fun _ => 0))), ((u.1 19), .inl (τ.1, 5, .inl (fun _ => 0))), ((u.1 20), .inl (τ.1, 25, .inl (fun _ => 0))), ((u.1 21), .inl (τ.1, 5, .inl (fun _ => 0))), ((u.1 22), .inl (τ.1, 5, .inl (fun _ => 0)))] := hD
  refine va_new (ci := 8) (fs := [.null, .int 0, .int 0, .int 0, .int 0, .int 0, .null, .null, .null, .null, .int 0, .null, .null, .null, .int 0, .null, .int 0, .null, .null, .null, .int 0]) (C := RX8) (T := TX8) (N := 21) hx hb hts jcl8.1 tyX8 tyX8_ok hown (hts _ knL_10) (hts _ ks8) (hts _ kz8) hK hP hD hS hA rfl (by decide +kernel) (Nat.le_of_ble_eq_true rfl) (Nat.le_of_ble_eq_true rfl) dL_law_8 (fun m0 H hP hD hS => ?_)
  refine lv_dup hx hb dL_law_11 rfl ?_
  refine jn_callI (d := 1) (mc := 12) (ms := 1942) (wc := [(m0, .inr (8, [.null, .int 0, .int 0, .int 0, .int 0, .int 0, .null, .null, .null, .null, .int 0, .null, .null, .null, .int 0, .null, .int 0, .null, .null, .null, .int 0]))]) (wr := [(x0, .inr (7, [.ref (u.1 0), .ref (u.1 6), .ref (u.1 9), .ref (u.1 13), .ref (u.1 14), .ref (u.1 16), .ref (u.1 17)])), ((u.1 0), .inr (6, [.ref (u.1 1), .ref (u.1 2), .ref (u.1 3), .ref (u.1 4), .ref (u.1 5), .int 0])), ((u.1 1), .inl (τ.1, 40, .inl (fun _ => 0))), ((u.1 2), .inl (τ.1, 40, .inl (fun _ => 0))), ((u.1 3), .inl (τ.2.1, 20, .inr (.inl (fun _ => 0)))), ((u.1 5), .inl (τ.1, 1600, .inl (fun _ => 0))), ((u.1 4), .inl (τ.1, 20, .inl (u.2.1))), ((u.1 6), .inr (0, [.ref (u.1 7), .ref (u.1 8), .int 0])), ((u.1 7), .inl (τ.2.1, 40, .inr (.inl (fun _ => 0)))), ((u.1 8), .inl (τ.2.1, 40, .inr (.inl (fun _ => 0)))), ((u.1 9), .inr (2, [.ref (u.1 0), .ref (u.1 10), .ref (u.1 11), .ref (u.1 12), .int 10, .int 1])), ((u.1 11), .inl (τ.2.1, 40, .inr (.inl (fun _ => 0)))), ((u.1 12), .inl (τ.1, 40, .inl (fun _ => 0))), ((u.1 10), .inl (τ.1, 40, .inl (u.2.2))), ((u.1 13), .inr (5, [.ref (u.1 0), .ref (u.1 6), .ref (u.1 9), .int 0])), ((u.1 14), .inr (4, [.ref (u.1 0), .ref (u.1 6), .ref (u.1 15), .int 0, .int 0])), ((u.1 15), .inl (τ.2.1, 7, .inr (.inl (fun _ => 0)))), ((u.1 16), .inr (3, [.ref (u.1 0), .int 60, .int 1])), ((u.1 17), .inr (1, [.ref (u.1 0), .ref (u.1 9), .ref (u.1 16), .ref (u.1 18), .int 0, .ref (u.1 19), .int 0, .ref (u.1 20), .ref (u.1 21), .ref (u.1 22), .int 0])), ((u.1 18), .inl (τ.1, 5, .inl (fun _ => 0))), ((u.1 19), .inl (τ.1, 5, .inl (fun _ => 0))), ((u.1 20), .inl (τ.1, 25, .inl (fun _ => 0))), ((u.1 21), .inl (τ.1, 5, .inl (fun _ => 0))), ((u.1 22), .inl (τ.1, 5, .inl (fun _ => 0)))]) (As := []) hx hb hml hl.1 hown hts hK (n_X8 D τ m0) kiL_12 rfl (Nat.le_of_ble_eq_true rfl) (Nat.le_of_ble_eq_true rfl) (Nat.le_of_ble_eq_true rfl) (Nat.le_of_ble_eq_true rfl) hP hD hS hA [24] [0, 1, 2, 3, 4, 5, 6, 7, 8, 9, 10, 11, 12, 13, 14, 15, 16, 17, 18, 19, 20, 21, 22, 23] rfl rfl rfl (by decide) (by decide) (by decide) (Nat.le_of_ble_eq_true rfl) dL_law_12 rfl (fun v H locs hv hP hD hS => ?_)
  refine lv_astore_n (lv' := [(2, .ref m0), (1, .ref x0), (0, .ref b)]) hx hb dL_law_15 rfl hl (by decide) rfl (fun ls hl => ?_)
  refine lv_iconst (v := 0) hx hb dL_law_16 (by decide) ?_
  refine lv_istore_n (lv' := [(3, .int 0), (2, .ref m0), (1, .ref x0), (0, .ref b)]) hx hb dL_law_17 rfl hl (by decide) rfl (fun ls hl => ?_)
  obtain ⟨hP2, hD2⟩ := whole_world (D := D) (τ := τ) (x0 := x0) (m0 := m0) (b := b) (u := u) (v := v) hP hD
  refine va_forget (fun q hq => hS.2.2 q hq) ?_
  refine W.widen (k := 600000) (n := 7302250) (Nat.le_of_ble_eq_true rfl) (Nat.le_of_ble_eq_true rfl) ?_
  obtain ⟨ω, hω⟩ : ∃ ω : jW, ω = wO D τ x0 m0 b u v := ⟨_, rfl⟩
  rw [← hω] at hP2 hD2
  have hat : ∀ k, k < 37 → ∃ q : va_E, (jWO ω (jS0 u.2.1 u.2.2 v.2))[k]? = some (jad ω k, q) := fun k hk => ⟨_, jWO_at (List.getElem?_eq_getElem (by rw [jsh_len]; exact hk))⟩
  have hI : jIn ω := fun i j hi hj h => by
    obtain ⟨q1, h1⟩ := hat i hi
    obtain ⟨q2, h2⟩ := hat j hj
    exact hD2.1 i j _ _ h1 h2 h
  have hge : ∀ k, k < 37 → s.heap.size ≤ jad ω k := fun k hk => by
    obtain ⟨q1, h1⟩ := hat k hk
    exact hD2.2 k _ h1
  have hKω : va_K (jD ω) vwCl (jty ω) s := by
    rw [hω]
    exact hK
  have hPω : va_P (jD ω) vwCl (jWO ω (jS0 u.2.1 u.2.2 v.2)) H := by
    have : jD ω = D := by rw [hω]; rfl
    rw [this]
    exact hP2
  refine law_loop (b := b) (xs := xs) hL 0 (by omega) (jS0 u.2.1 u.2.2 v.2) (jInv_start hu.1 hu.2 hv) p l e room_1 s m #[Value.ref b] below meth c 600000 7302250 _ ω ⟨hx, hb, hml, hr, hlocks, hown, hts, hnw, hKω, hI, rfl, rfl, rfl, rfl, rfl, hX, hbl, hge, by rw [hω]; rfl⟩ ls H [] ⟨by rw [hml]; exact hl.1, by rw [hml]; rfl, hl.2.1, fun i w hi => ?_⟩ hPω ⟨hS.1, fun q h1 _ => hS.2.1 q h1 (Nat.not_le.mpr h1), fun _ h => by cases h⟩
  match i, hi with
  | 0, hi =>
    cases hi
    have : jco ω (.ref 37) = .ref b := by rw [hω]; rfl
    rw [this]
    exact lv_at hl 3 rfl
  | 1, hi =>
    cases hi
    have : jco ω (.ref 0) = .ref x0 := by rw [hω]; rfl
    rw [this]
    exact lv_at hl 2 rfl
  | 2, hi =>
    cases hi
    have : jco ω (.ref 24) = .ref m0 := by rw [hω]; rfl
    rw [this]
    exact lv_at hl 1 rfl
  | 3, hi =>
    cases hi
    exact lv_at hl 0 rfl
  | k + 4, hi => simp at hi
set_option maxHeartbeats 4000000 in
theorem lw_walk (l : Launch) (b : Addr) (xs : List Int32) : MetFree l x (headSpec (Jvm.Cond.code x code maxLocals ret :: tables_1) room_1) (lw_P b xs) (fun _ _ _ _ _ => True) lw_Q := by
  refine MetFree.of_bodyS (code := code) (maxLocals := maxLocals) (ret := ret) (by decide) ?_ ?_
  · intro args s m h hn
    obtain ⟨meth, c, h1, h2, h3, h4, h5, h6, -, -⟩ := Cond.code_spec hn (atoms_spec (ws := Jvm.Cond.code x code maxLocals ret :: tables_1) h _ List.mem_cons_self)
    exact ⟨meth, c, h1, h2, h3, h4, h5, h6⟩
  · intro p e s m args below meth c s₁ B hml0 hP _
    obtain ⟨rfl, hx, hbd, hgv⟩ := hP
    obtain ⟨scr, harrAt, hlist, hof, hsmall⟩ := hx
    obtain ⟨hcb, hkn, -, -⟩ := State.arrayAt?_spec harrAt
    have hown : s.vm.findClass R_law = some m.cls := findClass_of_methodNamed B.named
    have hts0 : ∀ c ∈ (Jvm.Cond.code x code maxLocals ret :: tables_1), c.before #[Value.ref b] s = true := atoms_spec (ws := Jvm.Cond.code x code maxLocals ret :: tables_1) B.pre
    have hts : ∀ w ∈ lw_tbl, w.before #[Value.ref b] s = true := k2_hts_sels lw_privs (fun w hw => hts0 w (List.mem_cons_of_mem _ hw)) lw_privs_ok
    have hml : c.maxLocals = 4 := B.maxLocals_eq (hts0 _ List.mem_cons_self)
    have X₀ : Stand p l e room_1 s m #[Value.ref b] below meth c s₁ [] 0 0 := Stand.of_body B
    have hh0 : s₁.heap = s.heap := by rw [B.state]; rfl
    have hsz : scr.slots.size = xs.length := by rw [← Array.length_toList, hlist, List.length_map]
    have hval : ∀ j : Nat, j < xs.length → scr.slots[j]? = some (.int (xs.getD j 0)) := fun j hj => by
      rw [← Array.getElem?_toList, hlist]
      simp [hj]
    have hbl : b < s.heap.size := (Array.getElem?_eq_some_iff.mp hcb).1
    have hX : va_X b xs.length (fun j => xs.getD j 0) s s.heap := ⟨scr, hcb, hof, hkn, hsz, hval⟩
    have K : W p l e room_1 s m #[Value.ref b] below meth c s₁.heap [] 0 0 (lw_Z below #[Value.ref b] s) (entryFrame m ([Value.ref b] : List Value).toArray 4) := by
      rw [hh0]
      exact whole_start l hbd ⟨B.exec, B.bytes, B.returns, hml, hown, hts, hX, hbl, B.notSynchronized, hgv⟩
    obtain ⟨t, a1, o, b1, b2, b3⟩ := K s₁ rfl X₀
    exact ⟨t, o, a1, b1, b2, b3⟩
theorem lw_pre_spec {args : Array Value} {s : State} (h : (Jvm.Cond.and given_1 narrow_1).before args s = true) (hr : rest_1_c.before args s = true) : ∃ (b : Addr) (xs : List Int32), lw_P b xs args s := by
  have hs := flat_of_before _ h
  have hq := flat_of_before _ hr
  have hc : (Cond.count 1).before args s = true := hs _ (by decide +kernel)
  have harr : (Cond.arrayOf (.arg 0) .int).before args s = true := hs _ (by decide +kernel)
  have hle : (Cond.le (.length (.arg 0)) (.int 2560)).before args s = true := hs _ (by decide +kernel)
  have hlen : (Cond.isInt (.length (.arg 0))).before args s = true := hq _ (by decide +kernel)
  have hall : (Cond.all (.arg 0) (.isInt (.elem (.arg 0) (.index 0)))).before args s = true := hq _ (by decide +kernel)
  obtain ⟨b, xs, hb, hx⟩ := State.ints_of_pre rfl harr hlen hall
  have hsm : xs.length < 2 ^ 31 := hx.choose_spec.2.2.2
  have hev : (Term.length (.arg 0)).eval args s none [] s = some (.int xs.length.toInt32) := hx.length_eval hb
  have hv := Cond.le_ints hev (show (Term.int 2560).eval args s none [] s = some (.int 2560) from rfl)
  have hd : xs.length.toInt32 ≤ 2560 := by
    simpa [Cond.before, Cond.holds, hv] using hle
  have hN : xs.length ≤ 2560 := (Int32.ofNat_le_ofNat hsm (by decide)).mp (show Int32.ofNat xs.length ≤ Int32.ofNat 2560 from hd)
  exact ⟨b, xs, Cond.one_arg hc (show args[0]? = some (.ref b) from hb), hx, hN, h⟩
theorem lw_comes (l : Launch) : Comes l x (Jvm.Cond.code x code maxLocals ret :: tables_1) room_1 (fun tb e args s => Calls_1 tb e args s ∧ rest_1 tb e args s ∧ Pre_1 tb e args s)
    (fun _ _ args s o t => lw_Q args s o t) := by
  intro p e ha hc hk s m args below hf hfit hheap happ hpre
  obtain ⟨b, xs, hP⟩ := lw_pre_spec hpre.2.2 hpre.2.1
  obtain ⟨k, o, h1, h2, h3, hQ⟩ := lw_walk l b xs p e ha hc hk s m args below hf ((Spec.applies_iff_loose hf).mp happ).1 hP trivial
  exact ⟨k, o, h1, h2, h3, hQ⟩
theorem lw_frame {s t : State} {o : Outcome} {args : Array Value} (h : Framed s o t [] 600000 7302250) :
    Framed s o t (fieldLocs frame_1_writes args s ++ arrayLocs frame_1_arrays args s ++ staticLocs frame_1_statics s) 600000 7302250 := h
theorem lw_limb (L : Cond) (hL : ∀ (args : Array Value) (s t : State), L.after args s (.returned (some (.int 1))) t = true) :
    ArmFor flags0 classFile x code maxLocals ret World_1 tables_1 room_1 Calls_1 rest_1 Pre_1
      (fun tb e a s o t => postC L tb e a s o t ∧ Framed s o t (fieldLocs frame_1_writes a s ++ arrayLocs frame_1_arrays a s ++ staticLocs frame_1_statics s) 600000 7302250) := by
  intro l _ _ _ p e ha hc hk s m args below hf hfit hheap happ hpre
  obtain ⟨k, o, h1, h2, h3, rfl, hF⟩ := lw_comes l p e ha hc hk s m args below hf hfit hheap happ hpre
  exact ⟨k, _, h1, h2, h3, hL args s _, lw_frame hF⟩
theorem i_vc : Claimed_1_1 ∧ Claimed_1_2 := ⟨lw_limb limb_1_1 (fun args s t => by simp [limb_1_1, Cond.after, Cond.holds, Cond.value]), lw_limb limb_1_2 (fun args s t => Cond.after_iff.mpr (by
  first | (rw [show limb_1_2 = Cond.eq .result (.int 1) from rfl, Cond.eq_ints (x := 1) (y := 1) rfl rfl]; simp; done) | (simp [limb_1_2, Cond.value, Term.eval]; done)))⟩
