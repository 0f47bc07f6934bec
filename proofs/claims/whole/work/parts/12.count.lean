/-! ===== Long.bitCount ===== -/
theorem ct_and {a b y z : Nat} (ha : a < 256) (hb : b < 256) : (a + 256 * y) &&& (b + 256 * z) = (a &&& b) + 256 * (y &&& z) := by
  have h3 : a &&& b < 2 ^ 8 := Nat.and_lt_two_pow _ (by omega)
  apply Nat.eq_of_testBit_eq
  intro i
  rw [Nat.testBit_and, show a + 256 * y = 2 ^ 8 * y + a by omega, show b + 256 * z = 2 ^ 8 * z + b by omega, show (a &&& b) + 256 * (y &&& z) = 2 ^ 8 * (y &&& z) + (a &&& b) by omega, Nat.testBit_two_pow_mul_add _ (show a < 2 ^ 8 by omega), Nat.testBit_two_pow_mul_add _ (show b < 2 ^ 8 by omega), Nat.testBit_two_pow_mul_add _ h3]
  split
  · rw [Nat.testBit_and]
  · rw [Nat.testBit_and]
def ctm (b : Nat) : Nat → Nat
  | 0 => 0
  | n + 1 => b + 256 * ctm b n
def ct1 (n x : Nat) : Nat := x - (x / 2 &&& ctm 0x55 n)
def ct2 (n x : Nat) : Nat := (x &&& ctm 0x33 n) + (x / 4 &&& ctm 0x33 n)
def ct3 (n x : Nat) : Nat := (x + x / 16) &&& ctm 0x0f n
def cb1 (a : Nat) : Nat := a - (a / 2 &&& 0x55)
def cb2 (a : Nat) : Nat := (a &&& 0x33) + (a / 4 &&& 0x33)
def cb3 (a : Nat) : Nat := (a + a / 16) &&& 0x0f
theorem cb1_d : ∀ a, a < 256 → (a / 2 &&& 0x55) ≤ a ∧ cb1 a < 256 ∧ ∀ e, e < 2 → (a / 2 + 128 * e) &&& 0x55 = (a / 2 &&& 0x55) := by decide +kernel
theorem cb2_d : ∀ a, a < 256 → cb2 a < 256 ∧ cb2 a ≤ 0x66 ∧ ∀ e, e < 4 → (a / 4 + 64 * e) &&& 0x33 = (a / 4 &&& 0x33) := by decide +kernel
theorem cb12_d : ∀ a, a < 256 → cb2 (cb1 a) ≤ 0x44 ∧ cb2 (cb1 a) % 16 ≤ 4 := by decide +kernel
theorem cb3_d : ∀ a, a < 0x45 → ∀ e, e < 5 → (a + a / 16 + 16 * e) &&& 0x0f = cb3 a ∧ a + a / 16 + 16 * e < 256 := by decide +kernel
theorem cb_pop : ∀ a, a < 256 → cb3 (cb2 (cb1 a)) = jn (fun i => a.testBit i) 8 := by decide +kernel
theorem ct1_s {a y n : Nat} (ha : a < 256) : ct1 (n + 1) (a + 256 * y) = cb1 a + 256 * ct1 n y := by
  obtain ⟨h1, h2, h3⟩ := cb1_d a ha
  have h4 := h3 (y % 2) (by omega)
  have h5 : y / 2 &&& ctm 0x55 n ≤ y / 2 := Nat.and_le_left
  unfold ct1 cb1
  simp only [ctm]
  rw [show (a + 256 * y) / 2 = (a / 2 + 128 * (y % 2)) + 256 * (y / 2) by omega, ct_and (by omega) (by omega), h4]
  omega
theorem ct2_s {a y n : Nat} (ha : a < 256) : ct2 (n + 1) (a + 256 * y) = cb2 a + 256 * ct2 n y := by
  obtain ⟨h1, h2, h3⟩ := cb2_d a ha
  have h4 := h3 (y % 4) (by omega)
  unfold ct2 cb2
  simp only [ctm]
  rw [show (a + 256 * y) / 4 = (a / 4 + 64 * (y % 4)) + 256 * (y / 4) by omega, ct_and (by omega) (by omega), ct_and (by omega) (by omega), h4]
  omega
theorem ct3_s {a y n : Nat} (ha : a < 0x45) (hy : y % 16 ≤ 4) : ct3 (n + 1) (a + 256 * y) = cb3 a + 256 * ct3 n y := by
  obtain ⟨h3, h4⟩ := cb3_d a ha (y % 16) (by omega)
  unfold ct3
  simp only [ctm]
  rw [show (a + 256 * y) + (a + 256 * y) / 16 = (a + a / 16 + 16 * (y % 16)) + 256 * (y + y / 16) by omega, ct_and h4 (by omega), h3]
theorem ct12_lo {n y : Nat} (hy : y < 256 ^ n) : ct2 n (ct1 n y) % 16 ≤ 4 := by
  cases n with
  | zero =>
    have : y = 0 := by simpa using hy
    subst this
    decide
  | succ n =>
    have ha : y % 256 < 256 := Nat.mod_lt _ (by omega)
    have := cb12_d (y % 256) ha
    obtain ⟨h1, h2, h3⟩ := cb1_d (y % 256) ha
    rw [show y = y % 256 + 256 * (y / 256) by omega, ct1_s ha, ct2_s h2]
    omega
theorem jn_add (p : Nat → Bool) (k m : Nat) : jn p (k + m) = jn p k + jn (fun i => p (k + i)) m := by
  induction m with
  | zero => rfl
  | succ m ih =>
    show jn p (k + m + 1) = _
    simp only [jn]
    rw [ih]
    omega
/-- the bytes' counts -/
def ctb : Nat → Nat → Nat
  | 0, _ => 0
  | n + 1, x => jn (fun i => (x % 256).testBit i) 8 + 256 * ctb n (x / 256)
theorem ct_all {n : Nat} : ∀ {x : Nat}, x < 256 ^ n → ct3 n (ct2 n (ct1 n x)) = ctb n x := by
  induction n with
  | zero =>
    intro x h
    have : x = 0 := by simpa using h
    subst this
    decide
  | succ n ih =>
    intro x h
    have ha : x % 256 < 256 := Nat.mod_lt _ (by omega)
    have hy : x / 256 < 256 ^ n := by
      rw [Nat.pow_succ] at h
      exact Nat.div_lt_of_lt_mul (by omega)
    obtain ⟨h1, h2, h3⟩ := cb1_d (x % 256) ha
    obtain ⟨h4, h5⟩ := cb12_d (x % 256) ha
    have h6 := ct12_lo hy
    conv => lhs; rw [show x = x % 256 + 256 * (x / 256) by omega]
    rw [ct1_s ha, ct2_s h2, ct3_s (by omega) h6, ih hy, cb_pop _ ha]
    rfl
theorem jn_byte (x m : Nat) : jn (fun i => x.testBit i) (8 + m) = jn (fun i => (x % 256).testBit i) 8 + jn (fun i => (x / 256).testBit i) m := by
  rw [jn_add]
  congr 1
  · apply jn_congr
    intro i hi
    rw [show (256 : Nat) = 2 ^ 8 from rfl, Nat.testBit_mod_two_pow]
    simp [hi]
  · apply jn_congr
    intro i _
    rw [show (256 : Nat) = 2 ^ 8 from rfl, Nat.testBit_div_two_pow, Nat.add_comm]
theorem ct_sum {x : Nat} (hx : x < 256 ^ 5) : ∃ b0 b1 b2 b3 b4, b0 ≤ 8 ∧ b1 ≤ 8 ∧ b2 ≤ 8 ∧ b3 ≤ 8 ∧ b4 ≤ 8 ∧ ctb 8 x = b0 + 256 * (b1 + 256 * (b2 + 256 * (b3 + 256 * b4))) ∧ jn (fun i => x.testBit i) 40 = b0 + b1 + b2 + b3 + b4 := by
  refine ⟨jn (fun i => (x % 256).testBit i) 8, jn (fun i => (x / 256 % 256).testBit i) 8, jn (fun i => (x / 256 / 256 % 256).testBit i) 8, jn (fun i => (x / 256 / 256 / 256 % 256).testBit i) 8, jn (fun i => (x / 256 / 256 / 256 / 256 % 256).testBit i) 8, jn_le _ _, jn_le _ _, jn_le _ _, jn_le _ _, jn_le _ _, ?_, ?_⟩
  · have h0 : x / 256 / 256 / 256 / 256 / 256 = 0 := by omega
    have hz : jn (fun i => (0 : Nat).testBit i) 8 = 0 := by decide
    simp only [ctb, h0, Nat.zero_mod, Nat.zero_div, hz, Nat.mul_zero, Nat.add_zero]
  · rw [show (40 : Nat) = 8 + (8 + (8 + (8 + 8))) from rfl, jn_byte, jn_byte, jn_byte, jn_byte, show jn (fun i => (x / 256 / 256 / 256 / 256).testBit i) 8 = jn (fun i => (x / 256 / 256 / 256 / 256).testBit i) (8 + 0) from rfl, jn_byte]
    simp only [jn]
    omega
theorem ct_m5 : ctm 0x55 8 = 6148914691236517205 := by decide
theorem ct_m3 : ctm 0x33 8 = 3689348814741910323 := by decide
theorem ct_mf : ctm 0x0f 8 = 1085102592571150095 := by decide
set_option maxRecDepth 100000 in
theorem bitCount_ok {d : Nat} {σ : jMem} {K : Option Value → jMem → Prop} {p : Nat → Bool} (hK : K (some (.int (jI ((jn p 40 : Nat) : Int)))) σ) : jRun d mJ13_bitCount_95d88 [.long (jL (jk p))] σ K := by
  have hx := jm_lt p 40
  have hx8 : jm p 40 < 256 ^ 8 := by omega
  obtain ⟨b0, b1, b2, b3, b4, q0, q1, q2, q3, q4, e1, e2⟩ := ct_sum (x := jm p 40) (by omega)
  have e3 : jn p 40 = b0 + b1 + b2 + b3 + b4 := by
    rw [← e2]
    apply jn_congr
    intro i hi
    rw [jm_tb]
    simp [hi]
  have e4 := ct_all hx8
  have l1 : jm p 40 / 2 &&& ctm 0x55 8 ≤ jm p 40 / 2 := Nat.and_le_left
  generalize hg : jm p 40 = x at *
  have hk0 : jk p = (x : Int) := by unfold jk; rw [hg]
  rw [hk0]
  refine jenter (lv := [_, _]) rfl rfl (Nat.le_of_ble_eq_true rfl) ?_
  refine jr_lload_n gM dJ13_bitCount_95d88_0 rfl rfl ?_
  refine jr_lload_n gM dJ13_bitCount_95d88_1 rfl rfl ?_
  refine jr_iconst gM dJ13_bitCount_95d88_2 rfl ?_
  refine jr_lushr (((x / 2 : Nat) : Int)) gM dJ13_bitCount_95d88_3 rfl (wb_shr (k := 1) (by omega) (by omega)) ?_
  refine jr_ldc2 gM dJ13_bitCount_95d88_4 rfl qJ13_314 ?_
  refine jr_land (((x / 2 &&& ctm 0x55 8 : Nat) : Int)) gM dJ13_bitCount_95d88_7 rfl (by rw [ct_m5]; exact wb_and (a := x / 2) (b := 6148914691236517205) (by omega) (by omega)) ?_
  refine jr_lsub gM dJ13_bitCount_95d88_8 rfl ?_
  have f1 : (x : Int) - ((x / 2 &&& ctm 0x55 8 : Nat) : Int) = ((ct1 8 x : Nat) : Int) := by unfold ct1; omega
  have g1 : ct1 8 x ≤ x := by unfold ct1; omega
  rw [f1]
  generalize hx1 : ct1 8 x = x1 at *
  refine jr_lstore_n (lv' := [_, _]) gM dJ13_bitCount_95d88_9 rfl rfl (Nat.le_of_ble_eq_true rfl) ?_
  refine jr_lload_n gM dJ13_bitCount_95d88_10 rfl rfl ?_
  refine jr_ldc2 gM dJ13_bitCount_95d88_11 rfl qJ13_316 ?_
  refine jr_land (((x1 &&& ctm 0x33 8 : Nat) : Int)) gM dJ13_bitCount_95d88_14 rfl (by rw [ct_m3]; exact wb_and (a := x1) (b := 3689348814741910323) (by omega) (by omega)) ?_
  refine jr_lload_n gM dJ13_bitCount_95d88_15 rfl rfl ?_
  refine jr_iconst gM dJ13_bitCount_95d88_16 rfl ?_
  refine jr_lushr (((x1 / 4 : Nat) : Int)) gM dJ13_bitCount_95d88_17 rfl (wb_shr (k := 2) (by omega) (by omega)) ?_
  refine jr_ldc2 gM dJ13_bitCount_95d88_18 rfl qJ13_316 ?_
  refine jr_land (((x1 / 4 &&& ctm 0x33 8 : Nat) : Int)) gM dJ13_bitCount_95d88_21 rfl (by rw [ct_m3]; exact wb_and (a := x1 / 4) (b := 3689348814741910323) (by omega) (by omega)) ?_
  refine jr_ladd gM dJ13_bitCount_95d88_22 rfl ?_
  have f2 : ((x1 &&& ctm 0x33 8 : Nat) : Int) + ((x1 / 4 &&& ctm 0x33 8 : Nat) : Int) = ((ct2 8 x1 : Nat) : Int) := by unfold ct2; omega
  have g2 : ct2 8 x1 ≤ 2 * x1 := by
    have : x1 &&& ctm 0x33 8 ≤ x1 := Nat.and_le_left
    have : x1 / 4 &&& ctm 0x33 8 ≤ x1 / 4 := Nat.and_le_left
    unfold ct2
    omega
  rw [f2]
  generalize hx2 : ct2 8 x1 = x2 at *
  refine jr_lstore_n (lv' := [_, _]) gM dJ13_bitCount_95d88_23 rfl rfl (Nat.le_of_ble_eq_true rfl) ?_
  refine jr_lload_n gM dJ13_bitCount_95d88_24 rfl rfl ?_
  refine jr_lload_n gM dJ13_bitCount_95d88_25 rfl rfl ?_
  refine jr_iconst gM dJ13_bitCount_95d88_26 rfl ?_
  refine jr_lushr (((x2 / 16 : Nat) : Int)) gM dJ13_bitCount_95d88_27 rfl (wb_shr (k := 4) (by omega) (by omega)) ?_
  refine jr_ladd gM dJ13_bitCount_95d88_28 rfl ?_
  have f3 : (x2 : Int) + ((x2 / 16 : Nat) : Int) = ((x2 + x2 / 16 : Nat) : Int) := by omega
  rw [f3]
  refine jr_ldc2 gM dJ13_bitCount_95d88_29 rfl qJ13_318 ?_
  refine jr_land (((ct3 8 x2 : Nat) : Int)) gM dJ13_bitCount_95d88_32 rfl (by unfold ct3; rw [ct_mf]; exact wb_and (a := x2 + x2 / 16) (b := 1085102592571150095) (by omega) (by omega)) ?_
  rw [e4, e1]
  generalize hx3 : b0 + 256 * (b1 + 256 * (b2 + 256 * (b3 + 256 * b4))) = x3
  refine jr_lstore_n (lv' := [_, _]) gM dJ13_bitCount_95d88_33 rfl rfl (Nat.le_of_ble_eq_true rfl) ?_
  refine jr_lload_n gM dJ13_bitCount_95d88_34 rfl rfl ?_
  refine jr_lload_n gM dJ13_bitCount_95d88_35 rfl rfl ?_
  refine jr_bipush gM dJ13_bitCount_95d88_36 rfl rfl ?_
  refine jr_lushr (((x3 / 256 : Nat) : Int)) gM dJ13_bitCount_95d88_38 rfl (wb_shr (k := 8) (by omega) (by omega)) ?_
  refine jr_ladd gM dJ13_bitCount_95d88_39 rfl ?_
  have f4 : (x3 : Int) + ((x3 / 256 : Nat) : Int) = ((x3 + x3 / 256 : Nat) : Int) := by omega
  rw [f4]
  generalize hx4 : x3 + x3 / 256 = x4
  refine jr_lstore_n (lv' := [_, _]) gM dJ13_bitCount_95d88_40 rfl rfl (Nat.le_of_ble_eq_true rfl) ?_
  refine jr_lload_n gM dJ13_bitCount_95d88_41 rfl rfl ?_
  refine jr_lload_n gM dJ13_bitCount_95d88_42 rfl rfl ?_
  refine jr_bipush gM dJ13_bitCount_95d88_43 rfl rfl ?_
  refine jr_lushr (((x4 / 65536 : Nat) : Int)) gM dJ13_bitCount_95d88_45 rfl (wb_shr (k := 16) (by omega) (by omega)) ?_
  refine jr_ladd gM dJ13_bitCount_95d88_46 rfl ?_
  have f5 : (x4 : Int) + ((x4 / 65536 : Nat) : Int) = ((x4 + x4 / 65536 : Nat) : Int) := by omega
  rw [f5]
  generalize hx5 : x4 + x4 / 65536 = x5
  refine jr_lstore_n (lv' := [_, _]) gM dJ13_bitCount_95d88_47 rfl rfl (Nat.le_of_ble_eq_true rfl) ?_
  refine jr_lload_n gM dJ13_bitCount_95d88_48 rfl rfl ?_
  refine jr_lload_n gM dJ13_bitCount_95d88_49 rfl rfl ?_
  refine jr_bipush gM dJ13_bitCount_95d88_50 rfl rfl ?_
  refine jr_lushr (((x5 / 4294967296 : Nat) : Int)) gM dJ13_bitCount_95d88_52 rfl (wb_shr (k := 32) (by omega) (by omega)) ?_
  refine jr_ladd gM dJ13_bitCount_95d88_53 rfl ?_
  have f6 : (x5 : Int) + ((x5 / 4294967296 : Nat) : Int) = ((x5 + x5 / 4294967296 : Nat) : Int) := by omega
  rw [f6]
  generalize hx6 : x5 + x5 / 4294967296 = x6
  refine jr_lstore_n (lv' := [_, _]) gM dJ13_bitCount_95d88_54 rfl rfl (Nat.le_of_ble_eq_true rfl) ?_
  refine jr_lload_n gM dJ13_bitCount_95d88_55 rfl rfl ?_
  refine jr_l2i ((x6 : Int)) gM dJ13_bitCount_95d88_56 rfl (lN_i x6) ?_
  refine jr_bipush gM dJ13_bitCount_95d88_57 rfl rfl ?_
  have f7 : x6 % 128 = jn p 40 := by
    clear f1 f2 f3 f4 f5 f6 g1 g2 l1 hK hx8 e4 e2 hg hk0 hx1 hx2 hx
    have d1 : x3 / 256 = b1 + 256 * (b2 + 256 * (b3 + 256 * b4)) := by omega
    have d2 : x4 / 65536 = (b2 + b3) + 256 * ((b3 + b4) + 256 * b4) := by omega
    have d3 : x5 / 4294967296 = b4 := by omega
    have d4 : x6 = (b0 + b1 + b2 + b3 + b4) + 128 * (2 * (b1 + b2 + b3 + b4) + 512 * (b2 + b3 + b4) + 131072 * (b3 + b4) + 33554432 * b4) := by omega
    rw [d4, e3]
    omega
  have f8 : jI (x6 : Int) &&& jI 127 = jI ((jn p 40 : Nat) : Int) := by
    have h : nI (x6 % 2 ^ 32) &&& (127 : Int32) = nI (x6 % 2 ^ 32 % 2 ^ 7) := pk_andN (by omega) 7 (by decide)
    have a1 : nI (x6 % 2 ^ 32) = nI x6 := Int32.toBitVec_inj.mp (by
      show BitVec.ofNat 32 _ = BitVec.ofNat 32 _
      apply BitVec.eq_of_toNat_eq
      simp)
    rw [a1, show x6 % 2 ^ 32 % 2 ^ 7 = x6 % 128 by omega, f7] at h
    exact h
  refine jr_iand (((jn p 40 : Nat) : Int)) gM dJ13_bitCount_95d88_59 rfl (f8) ?_
  refine jr_ireturn dJ13_bitCount_95d88_60 rfl ?_
  exact hK
