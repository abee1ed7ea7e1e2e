/-! Long.bitCount, Term.differentFree -/
def sj (x : Int64) : Nat := x.toBitVec.toNat
theorem sj_lt (x : Int64) : sj x < 18446744073709551616 := x.toBitVec.isLt
theorem sj_and (x y : Int64) : sj (x &&& y) = sj x &&& sj y := by unfold sj; rw [Int64.toBitVec_and, BitVec.toNat_and]
theorem sj_or (x y : Int64) : sj (x ||| y) = sj x ||| sj y := by unfold sj; rw [Int64.toBitVec_or, BitVec.toNat_or]
theorem sj_add (x y : Int64) : sj (x + y) = (sj x + sj y) % 18446744073709551616 := by unfold sj; rw [Int64.toBitVec_add, BitVec.toNat_add]
theorem sj_sub {x y : Int64} (h : sj y ≤ sj x) : sj (x - y) = sj x - sj y := by unfold sj at h ⊢; rw [Int64.toBitVec_sub, BitVec.toNat_sub_of_le h]
theorem sj_shr (x : Int64) {y : Int32} {k : Nat} (hk : ((y.toInt64.toUInt64 &&& Int64.toUInt64 63).toBitVec % 64).toNat = k) : sj ((x.toUInt64 >>> (y.toInt64.toUInt64 &&& Int64.toUInt64 63)).toInt64) = sj x >>> k := by
  show (x.toUInt64 >>> (y.toInt64.toUInt64 &&& Int64.toUInt64 63)).toBitVec.toNat = x.toUInt64.toBitVec.toNat >>> k
  rw [UInt64.toBitVec_shiftRight]
  show (x.toUInt64.toBitVec >>> ((y.toInt64.toUInt64 &&& Int64.toUInt64 63).toBitVec % 64).toNat).toNat = _
  rw [hk, BitVec.toNat_ushiftRight]
theorem sj_127 (x : Int64) : x.toInt32 &&& 127 = nI (sj x % 128) := by
  apply Int32.toBitVec_inj.mp
  apply BitVec.eq_of_toNat_eq
  rw [Int32.toBitVec_and, BitVec.toNat_and]
  have h1 : (x.toInt32).toBitVec.toNat = sj x % 4294967296 := by
    rw [Int64.toBitVec_toInt32, BitVec.signExtend_eq_setWidth_of_le _ (by decide), BitVec.toNat_setWidth]
    rfl
  have h2 : (127 : Int32).toBitVec.toNat = 2 ^ 7 - 1 := by decide
  have h3 : (nI (sj x % 128)).toBitVec.toNat = sj x % 128 := by
    have : sj x % 128 < 128 := Nat.mod_lt _ (by decide)
    exact (by decide +kernel : ∀ n, n < 128 → (nI n).toBitVec.toNat = n) _ this
  rw [h1, h2, Nat.and_two_pow_sub_one_eq_mod, h3]
  omega
theorem sj_one : ∀ c, c < 64 → sj ((1 : Int64) <<< ((nI c).toInt64 &&& 63)) = 2 ^ c := by decide +kernel
section KJ
variable {l : Launch} {n0 : Nat} {D : va_G} {K : Nat → ClassId} {w : mp_W}
theorem dj_0 : decode cJ_bitCount 0 = .ok (.lload_n 0, 1) := by decide +kernel
theorem dj_1 : decode cJ_bitCount 1 = .ok (.lload_n 0, 1) := by decide +kernel
theorem dj_2 : decode cJ_bitCount 2 = .ok (.iconst 1, 1) := by decide +kernel
theorem dj_3 : decode cJ_bitCount 3 = .ok (.lushr, 1) := by decide +kernel
theorem dj_4 : decode cJ_bitCount 4 = .ok (.ldc2_w 314, 3) := by decide +kernel
theorem dj_7 : decode cJ_bitCount 7 = .ok (.land, 1) := by decide +kernel
theorem dj_8 : decode cJ_bitCount 8 = .ok (.lsub, 1) := by decide +kernel
theorem dj_9 : decode cJ_bitCount 9 = .ok (.lstore_n 0, 1) := by decide +kernel
theorem dj_10 : decode cJ_bitCount 10 = .ok (.lload_n 0, 1) := by decide +kernel
theorem dj_11 : decode cJ_bitCount 11 = .ok (.ldc2_w 316, 3) := by decide +kernel
theorem dj_14 : decode cJ_bitCount 14 = .ok (.land, 1) := by decide +kernel
theorem dj_15 : decode cJ_bitCount 15 = .ok (.lload_n 0, 1) := by decide +kernel
theorem dj_16 : decode cJ_bitCount 16 = .ok (.iconst 2, 1) := by decide +kernel
theorem dj_17 : decode cJ_bitCount 17 = .ok (.lushr, 1) := by decide +kernel
theorem dj_18 : decode cJ_bitCount 18 = .ok (.ldc2_w 316, 3) := by decide +kernel
theorem dj_21 : decode cJ_bitCount 21 = .ok (.land, 1) := by decide +kernel
theorem dj_22 : decode cJ_bitCount 22 = .ok (.ladd, 1) := by decide +kernel
theorem dj_23 : decode cJ_bitCount 23 = .ok (.lstore_n 0, 1) := by decide +kernel
theorem dj_24 : decode cJ_bitCount 24 = .ok (.lload_n 0, 1) := by decide +kernel
theorem dj_25 : decode cJ_bitCount 25 = .ok (.lload_n 0, 1) := by decide +kernel
theorem dj_26 : decode cJ_bitCount 26 = .ok (.iconst 4, 1) := by decide +kernel
theorem dj_27 : decode cJ_bitCount 27 = .ok (.lushr, 1) := by decide +kernel
theorem dj_28 : decode cJ_bitCount 28 = .ok (.ladd, 1) := by decide +kernel
theorem dj_29 : decode cJ_bitCount 29 = .ok (.ldc2_w 318, 3) := by decide +kernel
theorem dj_32 : decode cJ_bitCount 32 = .ok (.land, 1) := by decide +kernel
theorem dj_33 : decode cJ_bitCount 33 = .ok (.lstore_n 0, 1) := by decide +kernel
theorem dj_34 : decode cJ_bitCount 34 = .ok (.lload_n 0, 1) := by decide +kernel
theorem dj_35 : decode cJ_bitCount 35 = .ok (.lload_n 0, 1) := by decide +kernel
theorem dj_36 : decode cJ_bitCount 36 = .ok (.bipush 8, 2) := by decide +kernel
theorem dj_38 : decode cJ_bitCount 38 = .ok (.lushr, 1) := by decide +kernel
theorem dj_39 : decode cJ_bitCount 39 = .ok (.ladd, 1) := by decide +kernel
theorem dj_40 : decode cJ_bitCount 40 = .ok (.lstore_n 0, 1) := by decide +kernel
theorem dj_41 : decode cJ_bitCount 41 = .ok (.lload_n 0, 1) := by decide +kernel
theorem dj_42 : decode cJ_bitCount 42 = .ok (.lload_n 0, 1) := by decide +kernel
theorem dj_43 : decode cJ_bitCount 43 = .ok (.bipush 16, 2) := by decide +kernel
theorem dj_45 : decode cJ_bitCount 45 = .ok (.lushr, 1) := by decide +kernel
theorem dj_46 : decode cJ_bitCount 46 = .ok (.ladd, 1) := by decide +kernel
theorem dj_47 : decode cJ_bitCount 47 = .ok (.lstore_n 0, 1) := by decide +kernel
theorem dj_48 : decode cJ_bitCount 48 = .ok (.lload_n 0, 1) := by decide +kernel
theorem dj_49 : decode cJ_bitCount 49 = .ok (.lload_n 0, 1) := by decide +kernel
theorem dj_50 : decode cJ_bitCount 50 = .ok (.bipush 32, 2) := by decide +kernel
theorem dj_52 : decode cJ_bitCount 52 = .ok (.lushr, 1) := by decide +kernel
theorem dj_53 : decode cJ_bitCount 53 = .ok (.ladd, 1) := by decide +kernel
theorem dj_54 : decode cJ_bitCount 54 = .ok (.lstore_n 0, 1) := by decide +kernel
theorem dj_55 : decode cJ_bitCount 55 = .ok (.lload_n 0, 1) := by decide +kernel
theorem dj_56 : decode cJ_bitCount 56 = .ok (.l2i, 1) := by decide +kernel
theorem dj_57 : decode cJ_bitCount 57 = .ok (.bipush 127, 2) := by decide +kernel
theorem dj_59 : decode cJ_bitCount 59 = .ok (.iand, 1) := by decide +kernel
theorem dj_60 : decode cJ_bitCount 60 = .ok (.ireturn, 1) := by decide +kernel
/-- no sum on the way passes 2^64 -/
theorem sd_fit (n : Nat) (hn : n < 18446744073709551616) (a1 a2 a3 a4 a5 a6 : Nat) (h1 : a1 = n - ((n >>> 1) &&& 6148914691236517205)) (h2 : a2 = ((a1 &&& 3689348814741910323) + ((a1 >>> 2) &&& 3689348814741910323)) % 18446744073709551616) (h3 : a3 = ((a2 + (a2 >>> 4)) % 18446744073709551616) &&& 1085102592571150095) (h4 : a4 = (a3 + a3 >>> 8) % 18446744073709551616) (h5 : a5 = (a4 + a4 >>> 16) % 18446744073709551616) (h6 : a6 = (a5 + a5 >>> 32) % 18446744073709551616) : a6 % 128 = nc_n (fun i => n.testBit i) 64 := by
  rw [← sd_main n hn]
  unfold sd_w
  simp only []
  rw [← h1]
  have e : ∀ k x : Nat, x >>> k = x / 2 ^ k := fun k x => Nat.shiftRight_eq_div_pow x k
  have m2 : (a1 &&& 3689348814741910323) + ((a1 >>> 2) &&& 3689348814741910323) ≤ 7378697629483820646 := by
    have := @Nat.and_le_right a1 3689348814741910323
    have := @Nat.and_le_right (a1 >>> 2) 3689348814741910323
    omega
  rw [Nat.mod_eq_of_lt (by omega)] at h2
  rw [← h2]
  have m3 : a2 + a2 >>> 4 < 18446744073709551616 := by rw [e]; omega
  rw [Nat.mod_eq_of_lt m3] at h3
  rw [← h3]
  have m4 : a3 ≤ 1085102592571150095 := by rw [h3]; exact Nat.and_le_right
  have m5 : a3 + a3 >>> 8 < 2170205185142300191 := by rw [e]; omega
  rw [Nat.mod_eq_of_lt (by omega)] at h4
  rw [← h4]
  have m6 : a4 + a4 >>> 16 < 4340410370284600382 := by rw [e]; omega
  rw [Nat.mod_eq_of_lt (by omega)] at h5
  rw [← h5]
  have m7 : a5 + a5 >>> 32 < 18446744073709551616 := by rw [e]; omega
  rw [Nat.mod_eq_of_lt m7] at h6
  rw [← h6]
set_option maxRecDepth 100000 in
theorem kJ_bitCount (x : Int64) : ct_M l n0 D K yJ_bitCount (Cond.code yJ_bitCount cJ_bitCount 2 (some .int)) 0 0 0 0 [.long x] w (fun v w' => w' = w ∧ v = some (.int (nI (nc_n (fun i => (sj x).testBit i) 64)))) := by
  refine ct_go (own := "java/lang/Long") (by decide) rfl (Nat.le_of_ble_eq_true rfl) ?_
  intro p e s m below meth c ls hE hI hr hk hn hl
  have hx := hE.1.1.1
  have hb := hE.1.1.2.1
  have hown := hE.1.1.2.2.2.1
  have hl : lv_has ls 2 [(0, .long x)] := hl
  refine lv_lload_n hx hb dj_0 rfl (lv_at hl 0 rfl) ?_
  refine lv_lload_n hx hb dj_1 rfl (lv_at hl 0 rfl) ?_
  refine lv_iconst (v := 1) hx hb dj_2 (by decide) ?_
  refine lv_lushr hx hb dj_3 rfl ?_
  refine lv_ldc2 hx hb hown (ct_w hE gq_Jl314) dj_4 ?_
  refine lv_land hx hb dj_7 ?_
  refine lv_lsub hx hb dj_8 ?_
  obtain ⟨y1, hy1⟩ : ∃ z, x - ((x.toUInt64 >>> ((1 : Int32).toInt64.toUInt64 &&& Int64.toUInt64 63)).toInt64 &&& 6148914691236517205) = z := ⟨_, rfl⟩
  rw [hy1]
  have e1 : sj y1 = sj x - ((sj x >>> 1) &&& 6148914691236517205) := by
    have h0 : sj ((x.toUInt64 >>> ((1 : Int32).toInt64.toUInt64 &&& Int64.toUInt64 63)).toInt64 &&& 6148914691236517205) = (sj x >>> 1) &&& 6148914691236517205 := by
      rw [sj_and, sj_shr x (k := 1) (by decide)]
      rfl
    rw [← hy1, sj_sub, h0]
    rw [h0]
    refine Nat.le_trans Nat.and_le_left ?_
    rw [Nat.shiftRight_eq_div_pow]
    exact Nat.div_le_self ..
  refine lv_lstore_n hx hb dj_9 rfl hl (by decide) rfl (fun ls hl => ?_)
  refine lv_lload_n hx hb dj_10 rfl (lv_at hl 0 rfl) ?_
  refine lv_ldc2 hx hb hown (ct_w hE gq_Jl316) dj_11 ?_
  refine lv_land hx hb dj_14 ?_
  refine lv_lload_n hx hb dj_15 rfl (lv_at hl 0 rfl) ?_
  refine lv_iconst (v := 2) hx hb dj_16 (by decide) ?_
  refine lv_lushr hx hb dj_17 rfl ?_
  refine lv_ldc2 hx hb hown (ct_w hE gq_Jl316) dj_18 ?_
  refine lv_land hx hb dj_21 ?_
  refine lv_ladd hx hb dj_22 ?_
  obtain ⟨y2, hy2⟩ : ∃ z, (y1 &&& 3689348814741910323) + ((y1.toUInt64 >>> ((2 : Int32).toInt64.toUInt64 &&& Int64.toUInt64 63)).toInt64 &&& 3689348814741910323) = z := ⟨_, rfl⟩
  rw [hy2]
  have e2 : sj y2 = ((sj y1 &&& 3689348814741910323) + ((sj y1 >>> 2) &&& 3689348814741910323)) % 18446744073709551616 := by
    rw [← hy2, sj_add, sj_and, sj_and, sj_shr y1 (k := 2) (by decide)]
    rfl
  refine lv_lstore_n hx hb dj_23 rfl hl (by decide) rfl (fun ls hl => ?_)
  refine lv_lload_n hx hb dj_24 rfl (lv_at hl 0 rfl) ?_
  refine lv_lload_n hx hb dj_25 rfl (lv_at hl 0 rfl) ?_
  refine lv_iconst (v := 4) hx hb dj_26 (by decide) ?_
  refine lv_lushr hx hb dj_27 rfl ?_
  refine lv_ladd hx hb dj_28 ?_
  refine lv_ldc2 hx hb hown (ct_w hE gq_Jl318) dj_29 ?_
  refine lv_land hx hb dj_32 ?_
  obtain ⟨y3, hy3⟩ : ∃ z, (y2 + (y2.toUInt64 >>> ((4 : Int32).toInt64.toUInt64 &&& Int64.toUInt64 63)).toInt64) &&& 1085102592571150095 = z := ⟨_, rfl⟩
  rw [hy3]
  have e3 : sj y3 = ((sj y2 + (sj y2 >>> 4)) % 18446744073709551616) &&& 1085102592571150095 := by
    rw [← hy3, sj_and, sj_add, sj_shr y2 (k := 4) (by decide)]
    rfl
  refine lv_lstore_n hx hb dj_33 rfl hl (by decide) rfl (fun ls hl => ?_)
  refine lv_lload_n hx hb dj_34 rfl (lv_at hl 0 rfl) ?_
  refine lv_lload_n hx hb dj_35 rfl (lv_at hl 0 rfl) ?_
  refine lv_bipush (v := 8) hx hb dj_36 (by decide) ?_
  refine lv_lushr hx hb dj_38 rfl ?_
  refine lv_ladd hx hb dj_39 ?_
  obtain ⟨y4, hy4⟩ : ∃ z, y3 + (y3.toUInt64 >>> ((8 : Int32).toInt64.toUInt64 &&& Int64.toUInt64 63)).toInt64 = z := ⟨_, rfl⟩
  rw [hy4]
  have e4 : sj y4 = (sj y3 + (sj y3 >>> 8)) % 18446744073709551616 := by rw [← hy4, sj_add, sj_shr y3 (k := 8) (by decide)]
  refine lv_lstore_n hx hb dj_40 rfl hl (by decide) rfl (fun ls hl => ?_)
  refine lv_lload_n hx hb dj_41 rfl (lv_at hl 0 rfl) ?_
  refine lv_lload_n hx hb dj_42 rfl (lv_at hl 0 rfl) ?_
  refine lv_bipush (v := 16) hx hb dj_43 (by decide) ?_
  refine lv_lushr hx hb dj_45 rfl ?_
  refine lv_ladd hx hb dj_46 ?_
  obtain ⟨y5, hy5⟩ : ∃ z, y4 + (y4.toUInt64 >>> ((16 : Int32).toInt64.toUInt64 &&& Int64.toUInt64 63)).toInt64 = z := ⟨_, rfl⟩
  rw [hy5]
  have e5 : sj y5 = (sj y4 + (sj y4 >>> 16)) % 18446744073709551616 := by rw [← hy5, sj_add, sj_shr y4 (k := 16) (by decide)]
  refine lv_lstore_n hx hb dj_47 rfl hl (by decide) rfl (fun ls hl => ?_)
  refine lv_lload_n hx hb dj_48 rfl (lv_at hl 0 rfl) ?_
  refine lv_lload_n hx hb dj_49 rfl (lv_at hl 0 rfl) ?_
  refine lv_bipush (v := 32) hx hb dj_50 (by decide) ?_
  refine lv_lushr hx hb dj_52 rfl ?_
  refine lv_ladd hx hb dj_53 ?_
  obtain ⟨y6, hy6⟩ : ∃ z, y5 + (y5.toUInt64 >>> ((32 : Int32).toInt64.toUInt64 &&& Int64.toUInt64 63)).toInt64 = z := ⟨_, rfl⟩
  rw [hy6]
  have e6 : sj y6 = (sj y5 + (sj y5 >>> 32)) % 18446744073709551616 := by rw [← hy6, sj_add, sj_shr y5 (k := 32) (by decide)]
  refine lv_lstore_n hx hb dj_54 rfl hl (by decide) rfl (fun ls hl => ?_)
  refine lv_lload_n hx hb dj_55 rfl (lv_at hl 0 rfl) ?_
  refine lv_l2i hx hb dj_56 rfl ?_
  refine lv_bipush (v := 127) hx hb dj_57 (by decide) ?_
  refine lv_iand hx hb dj_59 ?_
  rw [sj_127, sd_fit (sj x) (sj_lt x) _ _ _ _ _ _ e1 e2 e3 e4 e5 e6]
  exact ct_iret hE hI hr hk ⟨rfl, rfl⟩ (by decide) (by decide) dj_60
/-- which numbers of 0 .. 63 and of 64 .. 99 stand in a row -/
theorem sj_mark (M : List Int) (x : Int64) (c n : Nat) (y : Int) (hc : c < 64) (hy : y = (n + c : Nat)) (h : ∀ i, i < 64 → (sj x).testBit i = decide (((n + i : Nat) : Int) ∈ M)) : ∀ i, i < 64 → (sj (x ||| (1 : Int64) <<< ((nI c).toInt64 &&& 63))).testBit i = decide (((n + i : Nat) : Int) ∈ M ++ [y]) := by
  intro i hi
  rw [sj_or, Nat.testBit_or, h i hi, sj_one c hc, Nat.testBit_two_pow]
  by_cases e : c = i
  · subst e
    simp [hy]
  · have : ((n + i : Nat) : Int) ≠ y := by omega
    rw [decide_eq_false e, Bool.or_false]
    exact decide_eq_decide.mpr (by rw [List.mem_append, List.mem_singleton]; exact (or_iff_left this).symm)
theorem sj_skip (M : List Int) (x : Int64) (n : Nat) (y : Int) (hy : ∀ i, i < 64 → y ≠ (n + i : Nat)) (h : ∀ i, i < 64 → (sj x).testBit i = decide (((n + i : Nat) : Int) ∈ M)) : ∀ i, i < 64 → (sj x).testBit i = decide (((n + i : Nat) : Int) ∈ M ++ [y]) := by
  intro i hi
  rw [h i hi]
  have : ((n + i : Nat) : Int) ≠ y := fun e => hy i hi e.symm
  exact decide_eq_decide.mpr (by rw [List.mem_append, List.mem_singleton]; exact (or_iff_left this).symm)
theorem nc_zero {f : Nat → Bool} : ∀ n, (∀ i, i < n → f i = false) → nc_n f n = 0 := by
  intro n
  induction n with
  | zero => intro _; rfl
  | succ n ih =>
    intro h
    rw [nc_f (h n (by omega))]
    exact ih (fun i hi => h i (by omega))
theorem sj_sum (L : List Int) (x y : Int64) (h1 : ∀ i, i < 64 → (sj x).testBit i = decide (((0 + i : Nat) : Int) ∈ L)) (h2 : ∀ i, i < 64 → (sj y).testBit i = decide (((64 + i : Nat) : Int) ∈ L.filter (fun x => decide (x ≤ 99)))) : nc_n (fun i => (sj x).testBit i) 64 + nc_n (fun i => (sj y).testBit i) 64 = nc_n (fun i => decide ((i : Int) ∈ L)) 100 := by
  rw [show (100 : Nat) = 64 + 36 from rfl, nc_add, show nc_n (fun i => (sj y).testBit i) 64 = nc_n (fun i => (sj y).testBit i) (36 + 28) from rfl, nc_add (fun i => (sj y).testBit i)]
  rw [nc_zero (f := fun i => (sj y).testBit (36 + i)) 28 (fun i hi => by
    rw [h2 (36 + i) (by omega)]
    refine decide_eq_false (fun hm => ?_)
    have := of_decide_eq_true (List.mem_filter.mp hm).2
    omega)]
  rw [nc_ext (f := fun i => (sj x).testBit i) (g := fun i => decide ((i : Int) ∈ L)) 64 (fun i hi => by rw [h1 i hi, Nat.zero_add])]
  rw [nc_ext (f := fun i => (sj y).testBit i) (g := fun i => decide (((64 + i : Nat) : Int) ∈ L)) 36 (fun i hi => by
    rw [h2 i (by omega)]
    refine decide_eq_decide.mpr ⟨fun h => (List.mem_filter.mp h).1, fun h => List.mem_filter.mpr ⟨h, decide_eq_true (by omega)⟩⟩)]
  rfl
set_option maxRecDepth 100000 in
theorem kT_differentFree {t ar cap : Nat} {L : List Int} (hp : pt_R K w t ar cap L) : ct_M l n0 D K yT_differentFree (Cond.code yT_differentFree cT_differentFree 7 (some .int)) 1 30 0 0 [.ref t] w (fun v w' => w' = w ∧ v = some (.int (nI (nc_n (fun i => decide ((i : Int) ∈ L)) 100)))) := by
  obtain ⟨g, kT, kA, kf, kc, kc2, kx⟩ := hp.out
  refine ct_go (own := nm_T) (by decide) rfl (Nat.le_of_ble_eq_true rfl) ?_
  intro p e s m below meth c ls hE hI hr hk hn hl
  have hx := hE.1.1.1
  have hb := hE.1.1.2.1
  have hl : lv_has ls 7 [(0, .ref t)] := hl
  refine lv_lconst (v := 0) hx hb dT_differentFree_0 (by decide) ?_
  refine lv_lstore_n hx hb dT_differentFree_1 rfl hl (by decide) rfl (fun ls hl => ?_)
  refine lv_lconst (v := 0) hx hb dT_differentFree_2 (by decide) ?_
  refine lv_lstore_n hx hb dT_differentFree_3 rfl hl (by decide) rfl (fun ls hl => ?_)
  refine lv_iconst (v := nI 0) hx hb dT_differentFree_4 (by decide) ?_
  refine lv_istore hx hb dT_differentFree_5 hl (by decide) rfl (fun ls hl => ?_)
  have loop : ∀ (k i : Nat) (b1 b2 : Int64) (ls : Array Slot), i + k = L.length → (∀ j, j < 64 → (sj b1).testBit j = decide (((0 + j : Nat) : Int) ∈ L.take i)) → (∀ j, j < 64 → (sj b2).testBit j = decide (((64 + j : Nat) : Int) ∈ (L.take i).filter (fun x => decide (x ≤ 99)))) → lv_has ls 7 [(5, .int (nI i)), (3, .long b2), (1, .long b1), (0, .ref t)] →
      W p l e { frames := 1, cells := 0, slots := 0, locals := 30 } s m ([Value.ref t] : List Value).toArray below meth c s.heap [] 0 0 (MQ below (ct_Q D w s.heap.size (fun v w' => w' = w ∧ v = some (.int (nI (nc_n (fun i => decide ((i : Int) ∈ L)) 100))))) ([Value.ref t] : List Value).toArray s 0 0 (mp_A w s.heap.size)) (F0 m 7 ls []) := by
    intro k
    induction k with
    | zero =>
      intro i b1 b2 ls hik h1 h2 hl
      have hiL : i = L.length := by omega
      subst hiL
      rw [List.take_length] at h1 h2
      refine lv_iload hx hb dT_differentFree_7 (lv_at hl 0 rfl) ?_
      refine lv_aload_n hx hb dT_differentFree_9 rfl (lv_at hl 3 rfl) ?_
      refine mp_get hE.1 hI kT rfl gx_T 1 (by decide) (List.mem_cons_of_mem _ gf_T15) rfl dT_differentFree_10 ?_
      refine lv_icmp_ge (tgt := 77) hx hb dT_differentFree_13 (by decide) (fun hq => ?_) (fun hq => ?_)
      · refine lv_lload_n hx hb dT_differentFree_77 rfl (lv_at hl 2 rfl) ?_
        refine ct_St (n := 1) hE hI (kJ_bitCount b1) gm_T45 gt_J_bitCount gz_Jl gc_J_bitCount (by decide +kernel) ⟨Nat.le_of_ble_eq_true rfl, Nat.le_of_ble_eq_true rfl⟩ rfl hl.1 rfl (Nat.le_of_ble_eq_true rfl) dT_differentFree_78 ⟨Nat.le_of_ble_eq_true rfl, Nat.le_of_ble_eq_true rfl⟩ (fun v w1 H locs hq hI => ?_)
        obtain ⟨hw, rfl⟩ := hq
        subst w1
        show W _ _ _ _ _ _ _ _ _ _ _ _ _ _ _ (F0 _ _ _ [.int _])
        refine lv_lload_n hx hb dT_differentFree_81 rfl (lv_at hl 1 rfl) ?_
        refine ct_St (n := 1) hE hI (kJ_bitCount b2) gm_T45 gt_J_bitCount gz_Jl gc_J_bitCount (by decide +kernel) ⟨Nat.le_of_ble_eq_true rfl, Nat.le_of_ble_eq_true rfl⟩ rfl hl.1 rfl (Nat.le_of_ble_eq_true rfl) dT_differentFree_82 ⟨Nat.le_of_ble_eq_true rfl, Nat.le_of_ble_eq_true rfl⟩ (fun v w1 H locs hq hI => ?_)
        obtain ⟨hw, rfl⟩ := hq
        subst w1
        show W _ _ _ _ _ _ _ _ _ _ _ _ _ _ _ (F0 _ _ _ [.int _, .int _])
        refine lv_iadd hx hb dT_differentFree_85 ?_
        rw [show ∀ a b : Nat, nI a + nI b = nI (a + b) from fun a b => (Int32.ofNat_add a b).symm, sj_sum L b1 b2 h1 h2]
        exact ct_iret hE hI hr hk ⟨rfl, rfl⟩ (by decide) (by decide) dT_differentFree_86
      · exact absurd (nI_le (Nat.le_refl _) (by omega)) hq
    | succ k ih =>
      intro i b1 b2 ls hik h1 h2 hl
      have hi : i < L.length := by omega
      obtain ⟨x, e1, m1⟩ := pt_at hi
      have hxx := kx x m1
      have htk : L.take (i + 1) = L.take i ++ [x] := by rw [List.take_add_one, e1]; rfl
      have next : ∀ (b1 b2 : Int64) (ls : Array Slot), (∀ j, j < 64 → (sj b1).testBit j = decide (((0 + j : Nat) : Int) ∈ L.take (i + 1))) → (∀ j, j < 64 → (sj b2).testBit j = decide (((64 + j : Nat) : Int) ∈ (L.take (i + 1)).filter (fun x => decide (x ≤ 99)))) → lv_has ls 7 [(5, .int (nI i)), (3, .long b2), (1, .long b1), (0, .ref t)] →
          W p l e { frames := 1, cells := 0, slots := 0, locals := 30 } s m ([Value.ref t] : List Value).toArray below meth c s.heap [] 0 0 (MQ below (ct_Q D w s.heap.size (fun v w' => w' = w ∧ v = some (.int (nI (nc_n (fun i => decide ((i : Int) ∈ L)) 100))))) ([Value.ref t] : List Value).toArray s 0 0 (mp_A w s.heap.size)) (F0 m 71 ls []) := by
        intro b1 b2 ls h1 h2 hl
        refine lv_iinc (k := 0) (v := nI (i + 1)) hx hb dT_differentFree_71 hl rfl (nI_1 i) (by decide) rfl (fun ls hl => ?_)
        refine lv_goto (tgt := 7) hx hb dT_differentFree_74 (by decide) ?_
        exact ih (i + 1) b1 b2 ls (by omega) h1 h2 hl
      refine lv_iload hx hb dT_differentFree_7 (lv_at hl 0 rfl) ?_
      refine lv_aload_n hx hb dT_differentFree_9 rfl (lv_at hl 3 rfl) ?_
      refine mp_get hE.1 hI kT rfl gx_T 1 (by decide) (List.mem_cons_of_mem _ gf_T15) rfl dT_differentFree_10 ?_
      refine lv_icmp_ge (tgt := 77) hx hb dT_differentFree_13 (by decide) (fun hq => ?_) (fun hq => ?_)
      · exact absurd ((nI_leI (by omega) (by omega)).mp hq) (by omega)
      · skip
        refine lv_aload_n hx hb dT_differentFree_16 rfl (lv_at hl 3 rfl) ?_
        refine mp_get hE.1 hI kT rfl gx_T 0 (by decide) (List.mem_cons_of_mem _ gf_T9) rfl dT_differentFree_17 ?_
        refine lv_iload hx hb dT_differentFree_20 (lv_at hl 0 rfl) ?_
        refine mp_ild hE.1 hI kA 0 rfl (vp_in_nI (by omega) (by omega)) dT_differentFree_22 ?_
        rw [nI_clamp (by omega), kf i x e1]
        refine lv_istore hx hb dT_differentFree_23 hl (by decide) rfl (fun ls hl => ?_)
        refine lv_iload hx hb dT_differentFree_25 (lv_at hl 0 rfl) ?_
        have skip1 : ¬ (0 ≤ x ∧ x < 64) → ∀ j, j < 64 → (sj b1).testBit j = decide (((0 + j : Nat) : Int) ∈ L.take (i + 1)) := fun hn => by
          rw [htk]
          exact sj_skip _ _ 0 x (fun j hj e => hn (by omega)) h1
        have fl : ∀ y : Int, y ≤ 99 → (L.take i ++ [y]).filter (fun x => decide (x ≤ 99)) = (L.take i).filter (fun x => decide (x ≤ 99)) ++ [y] := fun y hy => by
          rw [List.filter_append]
          congr 1
          simp [hy]
        have skip2 : ¬ (64 ≤ x ∧ x ≤ 99) → ∀ j, j < 64 → (sj b2).testBit j = decide (((64 + j : Nat) : Int) ∈ (L.take (i + 1)).filter (fun x => decide (x ≤ 99))) := fun hn => by
          rw [htk]
          by_cases hy : x ≤ 99
          · rw [fl x hy]
            exact sj_skip _ _ 64 x (fun j hj e => hn (by omega)) h2
          · rw [List.filter_append, show [x].filter (fun x => decide (x ≤ 99)) = [] by simp; omega, List.append_nil]
            exact h2
        have rest : ∀ (ls : Array Slot), ¬ (0 ≤ x ∧ x < 64) → lv_has ls 7 [(6, .int (ci_i x)), (5, .int (nI i)), (3, .long b2), (1, .long b1), (0, .ref t)] →
            W p l e { frames := 1, cells := 0, slots := 0, locals := 30 } s m ([Value.ref t] : List Value).toArray below meth c s.heap [] 0 0 (MQ below (ct_Q D w s.heap.size (fun v w' => w' = w ∧ v = some (.int (nI (nc_n (fun i => decide ((i : Int) ∈ L)) 100))))) ([Value.ref t] : List Value).toArray s 0 0 (mp_A w s.heap.size)) (F0 m 47 ls []) := by
          intro ls hn hl
          refine lv_iload hx hb dT_differentFree_47 (lv_at hl 0 rfl) ?_
          refine lv_bipush (v := ci_i 64) hx hb dT_differentFree_49 (by decide) ?_
          refine lv_icmp_lt (tgt := 71) hx hb dT_differentFree_51 (by decide) (fun hq => ?_) (fun hq => ?_)
          · rw [ci_lt (by omega) (by omega)] at hq
            exact next b1 b2 ls (skip1 hn) (skip2 (by omega)) (lv_sub hl [1, 2, 3, 4] rfl)
          · rw [ci_lt (by omega) (by omega)] at hq
            refine lv_iload hx hb dT_differentFree_54 (lv_at hl 0 rfl) ?_
            refine lv_bipush (v := ci_i 99) hx hb dT_differentFree_56 (by decide) ?_
            refine lv_icmp_gt (tgt := 71) hx hb dT_differentFree_58 (by decide) (fun hq2 => ?_) (fun hq2 => ?_)
            · rw [ci_lt (by omega) (by omega)] at hq2
              exact next b1 b2 ls (skip1 hn) (skip2 (by omega)) (lv_sub hl [1, 2, 3, 4] rfl)
            · rw [ci_lt (by omega) (by omega)] at hq2
              refine lv_lload_n hx hb dT_differentFree_61 rfl (lv_at hl 2 rfl) ?_
              refine lv_lconst (v := 1) hx hb dT_differentFree_62 (by decide) ?_
              refine lv_iload hx hb dT_differentFree_63 (lv_at hl 0 rfl) ?_
              refine lv_bipush (v := ci_i 64) hx hb dT_differentFree_65 (by decide) ?_
              refine lv_isub hx hb dT_differentFree_67 ?_
              obtain ⟨cc, hcc⟩ : ∃ cc : Nat, x = ((64 + cc : Nat) : Int) := ⟨(x - 64).toNat, by omega⟩
              have hcv : ci_i x - ci_i 64 = nI cc := by rw [ci_sub, ← ci_nat]; congr 1; omega
              rw [hcv]
              refine lv_lshl hx hb dT_differentFree_68 rfl ?_
              refine lv_lor hx hb dT_differentFree_69 ?_
              refine lv_lstore_n hx hb dT_differentFree_70 rfl hl (by decide) rfl (fun ls hl => ?_)
              refine next b1 _ ls (skip1 hn) ?_ (lv_sub hl [2, 0, 3, 4] rfl)
              rw [htk, fl x (by omega)]
              exact sj_mark _ _ cc 64 x (by omega) hcc h2
        refine lv_if_lt (tgt := 47) hx hb dT_differentFree_27 (by decide) (fun hq => ?_) (fun hq => ?_)
        · rw [ci_0, ci_lt (by omega) (by omega)] at hq
          exact rest ls (by omega) hl
        · rw [ci_0, ci_lt (by omega) (by omega)] at hq
          refine lv_iload hx hb dT_differentFree_30 (lv_at hl 0 rfl) ?_
          refine lv_bipush (v := ci_i 64) hx hb dT_differentFree_32 (by decide) ?_
          refine lv_icmp_ge (tgt := 47) hx hb dT_differentFree_34 (by decide) (fun hq2 => ?_) (fun hq2 => ?_)
          · rw [ci_le (by omega) (by omega)] at hq2
            exact rest ls (by omega) hl
          · rw [ci_le (by omega) (by omega)] at hq2
            obtain ⟨cc, hcc⟩ : ∃ cc : Nat, x = ((0 + cc : Nat) : Int) := ⟨x.toNat, by omega⟩
            have hcv : ci_i x = nI cc := by rw [← ci_nat]; congr 1; omega
            rw [hcv] at hl
            refine lv_lload_n hx hb dT_differentFree_37 rfl (lv_at hl 3 rfl) ?_
            refine lv_lconst (v := 1) hx hb dT_differentFree_38 (by decide) ?_
            refine lv_iload hx hb dT_differentFree_39 (lv_at hl 0 rfl) ?_
            refine lv_lshl hx hb dT_differentFree_41 rfl ?_
            refine lv_lor hx hb dT_differentFree_42 ?_
            refine lv_lstore_n hx hb dT_differentFree_43 rfl hl (by decide) rfl (fun ls hl => ?_)
            refine lv_goto (tgt := 71) hx hb dT_differentFree_44 (by decide) ?_
            refine next _ b2 ls ?_ (skip2 (by omega)) (lv_sub hl [2, 3, 0, 4] rfl)
            rw [htk]
            exact sj_mark _ _ cc 0 x (by omega) hcc h1
  exact loop L.length 0 0 0 ls (by omega) (fun j hj => by rw [show sj 0 = 0 from rfl, Nat.zero_testBit]; simp) (fun j hj => by rw [show sj 0 = 0 from rfl, Nat.zero_testBit]; simp) hl
end KJ
