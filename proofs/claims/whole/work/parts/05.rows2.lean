/-! ===== rows of fields, arrays, ends and calls ===== -/
/-- a class of the worlds: its words, types, names -/
def jcl (r : vw_C) : Prop := (∀ w ∈ u_ws r.1 r.2.1 r.2.2, w ∈ jTB) ∧ ∃ ty : Nat → FieldType, (∀ k, k < r.2.2 → parseFieldDescriptor (r.2.1 k).2.2.1 = some (ty k)) ∧ ∀ a, a < r.2.2 → ∀ b, b < r.2.2 → a ≠ b → (r.2.1 a).2.1 ≠ (r.2.1 b).2.1
theorem jcl0 : jcl (RX0, TX0, 3) := ⟨fun w h => jTB_mem ((by decide +kernel : ∀ w ∈ u_ws RX0 TX0 3, w ∈ lw_tbl) w h) ((by decide +kernel : ∀ w ∈ u_ws RX0 TX0 3, goodWord w = true) w h), tyX0, tyX0_ok, nmX0⟩
theorem jcl1 : jcl (RX1, TX1, 11) := ⟨fun w h => jTB_mem ((by decide +kernel : ∀ w ∈ u_ws RX1 TX1 11, w ∈ lw_tbl) w h) ((by decide +kernel : ∀ w ∈ u_ws RX1 TX1 11, goodWord w = true) w h), tyX1, tyX1_ok, nmX1⟩
theorem jcl2 : jcl (RX2, TX2, 6) := ⟨fun w h => jTB_mem ((by decide +kernel : ∀ w ∈ u_ws RX2 TX2 6, w ∈ lw_tbl) w h) ((by decide +kernel : ∀ w ∈ u_ws RX2 TX2 6, goodWord w = true) w h), tyX2, tyX2_ok, nmX2⟩
theorem jcl3 : jcl (RX3, TX3, 3) := ⟨fun w h => jTB_mem ((by decide +kernel : ∀ w ∈ u_ws RX3 TX3 3, w ∈ lw_tbl) w h) ((by decide +kernel : ∀ w ∈ u_ws RX3 TX3 3, goodWord w = true) w h), tyX3, tyX3_ok, nmX3⟩
theorem jcl4 : jcl (RX4, TX4, 5) := ⟨fun w h => jTB_mem ((by decide +kernel : ∀ w ∈ u_ws RX4 TX4 5, w ∈ lw_tbl) w h) ((by decide +kernel : ∀ w ∈ u_ws RX4 TX4 5, goodWord w = true) w h), tyX4, tyX4_ok, nmX4⟩
theorem jcl5 : jcl (RX5, TX5, 4) := ⟨fun w h => jTB_mem ((by decide +kernel : ∀ w ∈ u_ws RX5 TX5 4, w ∈ lw_tbl) w h) ((by decide +kernel : ∀ w ∈ u_ws RX5 TX5 4, goodWord w = true) w h), tyX5, tyX5_ok, nmX5⟩
theorem jcl6 : jcl (RX6, TX6, 6) := ⟨fun w h => jTB_mem ((by decide +kernel : ∀ w ∈ u_ws RX6 TX6 6, w ∈ lw_tbl) w h) ((by decide +kernel : ∀ w ∈ u_ws RX6 TX6 6, goodWord w = true) w h), tyX6, tyX6_ok, nmX6⟩
theorem jcl7 : jcl (RX7, TX7, 7) := ⟨fun w h => jTB_mem ((by decide +kernel : ∀ w ∈ u_ws RX7 TX7 7, w ∈ lw_tbl) w h) ((by decide +kernel : ∀ w ∈ u_ws RX7 TX7 7, goodWord w = true) w h), tyX7, tyX7_ok, nmX7⟩
theorem jcl8 : jcl (RX8, TX8, 21) := ⟨fun w h => jTB_mem ((by decide +kernel : ∀ w ∈ u_ws RX8 TX8 21, w ∈ lw_tbl) w h) ((by decide +kernel : ∀ w ∈ u_ws RX8 TX8 21, goodWord w = true) w h), tyX8, tyX8_ok, nmX8⟩
theorem jcl_all : ∀ (ci : Nat) (r : vw_C), vwCl[ci]? = some r → jcl r := by
  intro ci r h
  match ci, h with
  | 0, h => cases h; exact jcl0
  | 1, h => cases h; exact jcl1
  | 2, h => cases h; exact jcl2
  | 3, h => cases h; exact jcl3
  | 4, h => cases h; exact jcl4
  | 5, h => cases h; exact jcl5
  | 6, h => cases h; exact jcl6
  | 7, h => cases h; exact jcl7
  | 8, h => cases h; exact jcl8
  | k + 9, h => simp [vwCl] at h
/-- the field k of the class ci, at an entry of a class's pool -/
def jFL (own : String) (idx ci k : Nat) : Prop := ∃ r : vw_C, vwCl[ci]? = some r ∧ k < r.2.2 ∧ Cond.fieldLink own idx (r.2.1 k).1 (r.2.1 k).2.1 (r.2.1 k).2.2.1 ∈ jTB
theorem jfs_at {ad : Nat → Nat} {σ : Nat → Int} {tm : List (Option Nat)} {k : Nat} {t : Option Nat} (h : tm[k]? = some t) : (jfs ad σ tm)[k]? = some (jfv ad σ k t) := by
  unfold jfs
  rw [List.getElem?_mapIdx, h]
  rfl
theorem jfs_set {ad : Nat → Nat} {σ : Nat → Int} {tm : List (Option Nat)} {k : Nat} {v : Int} (h : tm[k]? = some none) : jfs ad (fun j => if j = k then v else σ j) tm = (jfs ad σ tm).set k (.int (jI v)) := by
  apply List.ext_getElem?
  intro i
  have hk : k < (jfs ad σ tm).length := by unfold jfs; rw [List.length_mapIdx]; exact (List.getElem?_eq_some_iff.mp h).1
  by_cases hi : k = i
  · subst hi
    rw [List.getElem?_set_self hk, jfs_at h]
    simp [jfv]
  · rw [List.getElem?_set_ne hi]
    unfold jfs
    rw [List.getElem?_mapIdx, List.getElem?_mapIdx]
    cases tm[i]? with
    | none => rfl
    | some t =>
      cases t with
      | none => simp [jfv, show ¬ i = k from fun q => hi q.symm]
      | some c => rfl
theorem jup_self (σ : jMem) (c i : Nat) (v : Int) : jup σ c i v c = fun j => if j = i then v else σ c j := by
  funext j
  simp [jup]
section jRows2
variable {Ψ : jX → Prop} {B : ByteArray} {own : String} {d pc pc' : Nat} {lv : List (Option Value)} {st : List Value} {σ : jMem}
theorem jr_gfi {index ci k0 c0 : Nat} {tm : List (Option Nat)} (G : jG Ψ B own d) (hd : decode B pc = .ok (.getfield index, 3)) (hp : pc + 3 = pc') (hf : jFL own index ci k0) (hs : jsh[c0]? = some (.inr (ci, tm))) (ht : tm[k0]? = some none) (k : jV Ψ pc' lv (.int (jI (σ c0 k0)) :: st) σ) : jV Ψ pc lv (.ref c0 :: st) σ := by
  subst hp
  intro p l e R s m args below meth c cells slots Q ω hΨ ls H locs hl hP hS
  obtain ⟨hx, hb, hown, hts, hnw, hK, hI, hfr, hlo, hce, hsl⟩ := G p l e R s m args below meth c cells slots Q ω hΨ
  obtain ⟨⟨C, T, N⟩, h1, h2, h3⟩ := hf
  obtain ⟨j1, ty, j2, j3⟩ := jcl_all _ _ h1
  refine va_get (D := jD ω) (ci := ci) (v := .int (jI (σ c0 k0))) (C := C) (T := T) (N := N) hx hb hts j1 hown hK hP c0 (jWO_at hs) h1 k0 h2 (hts _ h3) (fun _ h9 => h9) (jfs_at ht) hd ?_
  exact k p l e R s m args below meth c cells slots Q ω hΨ ls H locs hl hP hS
theorem jr_gfr {index ci k0 c0 c1 : Nat} {tm : List (Option Nat)} (G : jG Ψ B own d) (hd : decode B pc = .ok (.getfield index, 3)) (hp : pc + 3 = pc') (hf : jFL own index ci k0) (hs : jsh[c0]? = some (.inr (ci, tm))) (ht : tm[k0]? = some (some c1)) (k : jV Ψ pc' lv (.ref c1 :: st) σ) : jV Ψ pc lv (.ref c0 :: st) σ := by
  subst hp
  intro p l e R s m args below meth c cells slots Q ω hΨ ls H locs hl hP hS
  obtain ⟨hx, hb, hown, hts, hnw, hK, hI, hfr, hlo, hce, hsl⟩ := G p l e R s m args below meth c cells slots Q ω hΨ
  obtain ⟨⟨C, T, N⟩, h1, h2, h3⟩ := hf
  obtain ⟨j1, ty, j2, j3⟩ := jcl_all _ _ h1
  refine va_get (D := jD ω) (ci := ci) (v := .ref (jad ω c1)) (C := C) (T := T) (N := N) hx hb hts j1 hown hK hP c0 (jWO_at hs) h1 k0 h2 (hts _ h3) (fun _ h9 => h9) (jfs_at ht) hd ?_
  exact k p l e R s m args below meth c cells slots Q ω hΨ ls H locs hl hP hS
theorem jr_pf {index ci k0 c0 : Nat} {tm : List (Option Nat)} {x : Int} (G : jG Ψ B own d) (hd : decode B pc = .ok (.putfield index, 3)) (hp : pc + 3 = pc') (hf : jFL own index ci k0) (hs : jsh[c0]? = some (.inr (ci, tm))) (ht : tm[k0]? = some none) (hfin : (match vwCl[ci]? with | some r => (r.2.1 k0).2.2.2 = false ∧ parseFieldDescriptor (r.2.1 k0).2.2.1 = some .int | none => False)) (k : jV Ψ pc' lv st (jup σ c0 k0 x)) : jV Ψ pc lv (.int (jI x) :: .ref c0 :: st) σ := by
  subst hp
  intro p l e R s m args below meth c cells slots Q ω hΨ ls H locs hl hP hS
  obtain ⟨hx, hb, hown, hts, hnw, hK, hI, hfr, hlo, hce, hsl⟩ := G p l e R s m args below meth c cells slots Q ω hΨ
  obtain ⟨⟨C, T, N⟩, h1, h2, h3⟩ := hf
  obtain ⟨j1, ty, j2, j3⟩ := jcl_all _ _ h1
  rw [h1] at hfin
  have hlen : k0 < (jfs (jad ω) (σ c0) tm).length := by unfold jfs; rw [List.length_mapIdx]; exact (List.getElem?_eq_some_iff.mp ht).1
  refine va_put (D := jD ω) (ci := ci) (v := .int (jI x)) (ty := .int) (C := C) (T := T) (N := N) hx hb hts j1 ty j2 j3 hown hK hP (jWO_D hI σ) hS c0 (jWO_at hs) h1 k0 h2 (hts _ h3) (fun _ h9 => h9) hfin.1 hfin.2 rfl rfl hlen hd (fun H1 locs1 hP1 hD1 hS1 => ?_)
  rw [jWO_set (i := k0) (v := x) hs (by rw [jup_self]; show (Sum.inr (ci, _) : va_E) = _; rw [jfs_set ht])] at hP1
  exact k p l e R s m args below meth c cells slots Q ω hΨ ls H1 locs1 hl hP1 hS1
theorem jr_iald {c0 n : Nat} {x : Int} (j : Nat) (G : jG Ψ B own d) (hd : decode B pc = .ok (.iaload, 1)) (hp : pc + 1 = pc') (hs : jsh[c0]? = some (.inl (0, n))) (hj : x = (j : Int)) (hi : j < n) (hn : n < 2147483648) (k : jV Ψ pc' lv (.int (jI (σ c0 j)) :: st) σ) : jV Ψ pc lv (.int (jI x) :: .ref c0 :: st) σ := by
  subst hp
  intro p l e R s m args below meth c cells slots Q ω hΨ ls H locs hl hP hS
  obtain ⟨hx, hb, hown, hts, hnw, hK, hI, hfr, hlo, hce, hsl⟩ := G p l e R s m args below meth c cells slots Q ω hΨ
  subst hj
  refine va_iald hx hb hK hP c0 0 (jWO_at hs) rfl (jI_in hi hn) hd ?_
  rw [jI_clamp (by omega)]
  exact k p l e R s m args below meth c cells slots Q ω hΨ ls H locs hl hP hS
theorem jr_zald {c0 n : Nat} {x : Int} (j : Nat) (G : jG Ψ B own d) (hd : decode B pc = .ok (.baload, 1)) (hp : pc + 1 = pc') (hs : jsh[c0]? = some (.inl (2, n))) (hj : x = (j : Int)) (hi : j < n) (hn : n < 2147483648) (k : jV Ψ pc' lv (.int (jI (σ c0 j)) :: st) σ) : jV Ψ pc lv (.int (jI x) :: .ref c0 :: st) σ := by
  subst hp
  intro p l e R s m args below meth c cells slots Q ω hΨ ls H locs hl hP hS
  obtain ⟨hx, hb, hown, hts, hnw, hK, hI, hfr, hlo, hce, hsl⟩ := G p l e R s m args below meth c cells slots Q ω hΨ
  subst hj
  refine va_zald hx hb hK hP c0 2 (jWO_at hs) rfl (jI_in hi hn) hd ?_
  rw [jI_clamp (by omega)]
  exact k p l e R s m args below meth c cells slots Q ω hΨ ls H locs hl hP hS
theorem jr_lald {c0 n : Nat} {x : Int} (j : Nat) (G : jG Ψ B own d) (hd : decode B pc = .ok (.laload, 1)) (hp : pc + 1 = pc') (hs : jsh[c0]? = some (.inl (1, n))) (hj : x = (j : Int)) (hi : j < n) (hn : n < 2147483648) (k : jV Ψ pc' lv (.long (jL (σ c0 j)) :: st) σ) : jV Ψ pc lv (.int (jI x) :: .ref c0 :: st) σ := by
  subst hp
  intro p l e R s m args below meth c cells slots Q ω hΨ ls H locs hl hP hS
  obtain ⟨hx, hb, hown, hts, hnw, hK, hI, hfr, hlo, hce, hsl⟩ := G p l e R s m args below meth c cells slots Q ω hΨ
  subst hj
  refine va_lald hx hb hK hP c0 1 (jWO_at hs) rfl (jI_in hi hn) hd ?_
  rw [jI_clamp (by omega)]
  exact k p l e R s m args below meth c cells slots Q ω hΨ ls H locs hl hP hS
theorem jr_iast {c0 n : Nat} {x y : Int} (j : Nat) (G : jG Ψ B own d) (hd : decode B pc = .ok (.iastore, 1)) (hp : pc + 1 = pc') (hs : jsh[c0]? = some (.inl (0, n))) (hj : x = (j : Int)) (hi : j < n) (hn : n < 2147483648) (k : jV Ψ pc' lv st (jup σ c0 j y)) : jV Ψ pc lv (.int (jI y) :: .int (jI x) :: .ref c0 :: st) σ := by
  subst hp
  intro p l e R s m args below meth c cells slots Q ω hΨ ls H locs hl hP hS
  obtain ⟨hx, hb, hown, hts, hnw, hK, hI, hfr, hlo, hce, hsl⟩ := G p l e R s m args below meth c cells slots Q ω hΨ
  subst hj
  refine va_iast hx hb hK hP (jWO_D hI σ) hS c0 0 (jWO_at hs) rfl (jI_in hi hn) hd (fun H1 locs1 hP1 hD1 hS1 => ?_)
  rw [jI_clamp (by omega), jWO_set (i := j) (v := y) hs (by
    rw [jup_self]
    show (Sum.inl (_, n, Sum.inl _) : va_E) = _
    congr 3
    congr 1
    funext q
    unfold upd
    show jI (if q = j then y else σ c0 q) = if q = j then jI y else jI (σ c0 q)
    split <;> rfl)] at hP1
  exact k p l e R s m args below meth c cells slots Q ω hΨ ls H1 locs1 hl hP1 hS1
theorem jr_last {c0 n : Nat} {x y : Int} (j : Nat) (G : jG Ψ B own d) (hd : decode B pc = .ok (.lastore, 1)) (hp : pc + 1 = pc') (hs : jsh[c0]? = some (.inl (1, n))) (hj : x = (j : Int)) (hi : j < n) (hn : n < 2147483648) (k : jV Ψ pc' lv st (jup σ c0 j y)) : jV Ψ pc lv (.long (jL y) :: .int (jI x) :: .ref c0 :: st) σ := by
  subst hp
  intro p l e R s m args below meth c cells slots Q ω hΨ ls H locs hl hP hS
  obtain ⟨hx, hb, hown, hts, hnw, hK, hI, hfr, hlo, hce, hsl⟩ := G p l e R s m args below meth c cells slots Q ω hΨ
  subst hj
  refine va_last hx hb hK hP (jWO_D hI σ) hS c0 1 (jWO_at hs) rfl (jI_in hi hn) hd (fun H1 locs1 hP1 hD1 hS1 => ?_)
  rw [jI_clamp (by omega), jWO_set (i := j) (v := y) hs (by
    rw [jup_self]
    show (Sum.inl (_, n, Sum.inr (Sum.inl _)) : va_E) = _
    congr 4
    congr 1
    funext q
    unfold vp_updL
    show jL (if q = j then y else σ c0 q) = if q = j then jL y else jL (σ c0 q)
    split <;> rfl)] at hP1
  exact k p l e R s m args below meth c cells slots Q ω hΨ ls H1 locs1 hl hP1 hS1
theorem jr_zast {c0 n : Nat} {x y : Int} (j : Nat) (G : jG Ψ B own d) (hd : decode B pc = .ok (.bastore, 1)) (hp : pc + 1 = pc') (hs : jsh[c0]? = some (.inl (2, n))) (hj : x = (j : Int)) (hi : j < n) (hn : n < 2147483648) (hy : y = 0 ∨ y = 1) (k : jV Ψ pc' lv st (jup σ c0 j y)) : jV Ψ pc lv (.int (jI y) :: .int (jI x) :: .ref c0 :: st) σ := by
  subst hp
  intro p l e R s m args below meth c cells slots Q ω hΨ ls H locs hl hP hS
  obtain ⟨hx, hb, hown, hts, hnw, hK, hI, hfr, hlo, hce, hsl⟩ := G p l e R s m args below meth c cells slots Q ω hΨ
  subst hj
  have hnr : vp_nar .boolean (jI y) = jI y := by rcases hy with rfl | rfl <;> rfl
  refine va_zast hx hb hK hP (jWO_D hI σ) hS c0 2 (jWO_at hs) rfl (jI_in hi hn) hd (fun H1 locs1 hP1 hD1 hS1 => ?_)
  rw [jI_clamp (by omega), hnr, jWO_set (i := j) (v := y) hs (by
    rw [jup_self]
    show (Sum.inl (_, n, Sum.inl _) : va_E) = _
    congr 3
    congr 1
    funext q
    unfold upd
    show jI (if q = j then y else σ c0 q) = if q = j then jI y else jI (σ c0 q)
    split <;> rfl)] at hP1
  exact k p l e R s m args below meth c cells slots Q ω hΨ ls H1 locs1 hl hP1 hS1
theorem jr_alen {c0 n : Nat} (G : jG Ψ B own d) (hd : decode B pc = .ok (.arraylength, 1)) (hp : pc + 1 = pc') (hs : jsh[c0]? = some (.inl (0, n))) (k : jV Ψ pc' lv (.int (jI (n : Int)) :: st) σ) : jV Ψ pc lv (.ref c0 :: st) σ := by
  subst hp
  intro p l e R s m args below meth c cells slots Q ω hΨ ls H locs hl hP hS
  obtain ⟨hx, hb, hown, hts, hnw, hK, hI, hfr, hlo, hce, hsl⟩ := G p l e R s m args below meth c cells slots Q ω hΨ
  refine va_alen (ty := .int) (v := jI (n : Int)) hx hb hK hP c0 0 (jWO_at hs) rfl rfl hd ?_
  exact k p l e R s m args below meth c cells slots Q ω hΨ ls H locs hl hP hS
end jRows2
section jEnds
variable {M : jM} {d pc : Nat} {K : Option Value → jMem → Prop} {lv : List (Option Value)} {σ : jMem}
theorem jr_ireturn {x : Int} (hd : decode M.2.1 pc = .ok (.ireturn, 1)) (hr : M.2.2.2 = some .int) (k : K (some (.int (jI x))) σ) : jV (jP M d K) pc lv [.int (jI x)] σ := by
  intro p l e R s m args below meth c cells slots Q ω hΨ ls H locs hl hP hS
  obtain ⟨h1, h2, h3, h4, h5, h6, h7, h8, h9, h10, h11, h12, h13, h14⟩ := hΨ
  subst h12; subst h13; subst h14
  exact W.iret (v := jI x) h1 h2 (h4.trans hr) (fun t ht hW => ⟨some (.int (jI x)), σ, rfl, k, by rw [ht]; exact hP, hS.F ht⟩) hS.2.2 hd
theorem jr_zreturn {x : Int} (hd : decode M.2.1 pc = .ok (.ireturn, 1)) (hr : M.2.2.2 = some .boolean) (hx : x = 0 ∨ x = 1) (k : K (some (.int (jI x))) σ) : jV (jP M d K) pc lv [.int (jI x)] σ := by
  intro p l e R s m args below meth c cells slots Q ω hΨ ls H locs hl hP hS
  obtain ⟨h1, h2, h3, h4, h5, h6, h7, h8, h9, h10, h11, h12, h13, h14⟩ := hΨ
  subst h12; subst h13; subst h14
  exact W.zret (v := jI x) (ty := .boolean) h1 h2 (h4.trans hr) (by rcases hx with rfl | rfl <;> rfl) (fun t ht hW => ⟨some (.int (jI x)), σ, rfl, k, by rw [ht]; exact hP, hS.F ht⟩) hS.2.2 hd
theorem jr_lreturn {x : Int} (hd : decode M.2.1 pc = .ok (.lreturn, 1)) (hr : M.2.2.2 = some .long) (k : K (some (.long (jL x))) σ) : jV (jP M d K) pc lv [.long (jL x)] σ := by
  intro p l e R s m args below meth c cells slots Q ω hΨ ls H locs hl hP hS
  obtain ⟨h1, h2, h3, h4, h5, h6, h7, h8, h9, h10, h11, h12, h13, h14⟩ := hΨ
  subst h12; subst h13; subst h14
  exact W.lret (v := jL x) h1 h2 (h4.trans hr) (fun t ht hW => ⟨some (.long (jL x)), σ, rfl, k, by rw [ht]; exact hP, hS.F ht⟩) hS.2.2 hd
theorem jr_vreturn (hd : decode M.2.1 pc = .ok (.return_, 1)) (hr : M.2.2.2 = none) (k : K none σ) : jV (jP M d K) pc lv [] σ := by
  intro p l e R s m args below meth c cells slots Q ω hΨ ls H locs hl hP hS
  obtain ⟨h1, h2, h3, h4, h5, h6, h7, h8, h9, h10, h11, h12, h13, h14⟩ := hΨ
  subst h12; subst h13; subst h14
  exact W.vret h1 h2 (h4.trans hr) (fun t ht hW => ⟨none, σ, rfl, k, by rw [ht]; exact hP, hS.F ht⟩) hS.2.2 hd
end jEnds
