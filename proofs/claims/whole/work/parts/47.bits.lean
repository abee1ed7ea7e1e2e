/-! counting the bits of a long: what Long.bitCount does, by bytes -/
def sd_V : List Nat → Nat
  | [] => 0
  | d :: ds => d + 256 * sd_V ds
theorem sd_bit {a : Nat} (ha : a < 256) (b i : Nat) : (a + 256 * b).testBit i = if i < 8 then a.testBit i else b.testBit (i - 8) := by
  have h := Nat.testBit_two_pow_mul_add b (i := 8) (b := a) ha i
  rw [show 2 ^ 8 * b + a = a + 256 * b by omega] at h
  exact h
theorem sd_and {a m : Nat} (ha : a < 256) (hm : m < 256) (b n : Nat) : (a + 256 * b) &&& (m + 256 * n) = (a &&& m) + 256 * (b &&& n) := by
  apply Nat.eq_of_testBit_eq
  intro i
  have h1 : a &&& m < 256 := Nat.lt_of_le_of_lt Nat.and_le_left ha
  rw [Nat.testBit_and, sd_bit ha, sd_bit hm, sd_bit h1]
  split
  · rw [Nat.testBit_and]
  · rw [Nat.testBit_and]
theorem sd_shr {a m k : Nat} (ha : a < 256) (hk : k ≤ 7) (hm : m < 2 ^ (8 - k)) (b n : Nat) : ((a + 256 * b) >>> k) &&& (m + 256 * n) = ((a >>> k) &&& m) + 256 * ((b >>> k) &&& n) := by
  have hm8 : m < 256 := Nat.lt_of_lt_of_le hm (Nat.pow_le_pow_right (by decide) (show 8 - k ≤ 8 by omega))
  apply Nat.eq_of_testBit_eq
  intro i
  have h1 : (a >>> k) &&& m < 256 := Nat.lt_of_le_of_lt Nat.and_le_right hm8
  rw [Nat.testBit_and, Nat.testBit_shiftRight, sd_bit ha, sd_bit hm8, sd_bit h1]
  by_cases hi : i < 8
  · rw [if_pos hi, if_pos hi, Nat.testBit_and, Nat.testBit_shiftRight]
    by_cases hki : k + i < 8
    · rw [if_pos hki]
    · have : m.testBit i = false := Nat.testBit_lt_two_pow (Nat.lt_of_lt_of_le hm (Nat.pow_le_pow_right (by decide) (by omega)))
      rw [this, Bool.and_false, Bool.and_false]
  · rw [if_neg hi, if_neg hi, if_neg (by omega), Nat.testBit_and, Nat.testBit_shiftRight, show k + i - 8 = k + (i - 8) by omega]
theorem sd_mand {m : Nat} (hm : m < 256) (ds : List Nat) (h : ∀ d ∈ ds, d < 256) : sd_V ds &&& sd_V (ds.map (fun _ => m)) = sd_V (ds.map (fun d => d &&& m)) := by
  induction ds with
  | nil => show 0 &&& 0 = 0; exact Nat.and_zero _
  | cons d ds ih =>
    show (d + 256 * sd_V ds) &&& (m + 256 * sd_V (ds.map (fun _ => m))) = (d &&& m) + 256 * sd_V (ds.map (fun d => d &&& m))
    rw [sd_and (h d (List.mem_cons_self ..)) hm, ih (fun x hx => h x (List.mem_cons_of_mem _ hx))]
theorem sd_mshr {m k : Nat} (hk : k ≤ 7) (hm : m < 2 ^ (8 - k)) (ds : List Nat) (h : ∀ d ∈ ds, d < 256) : (sd_V ds >>> k) &&& sd_V (ds.map (fun _ => m)) = sd_V (ds.map (fun d => (d >>> k) &&& m)) := by
  induction ds with
  | nil => show (0 >>> k) &&& 0 = 0; exact Nat.and_zero _
  | cons d ds ih =>
    show ((d + 256 * sd_V ds) >>> k) &&& (m + 256 * sd_V (ds.map (fun _ => m))) = ((d >>> k) &&& m) + 256 * sd_V (ds.map (fun d => (d >>> k) &&& m))
    rw [sd_shr (h d (List.mem_cons_self ..)) hk hm, ih (fun x hx => h x (List.mem_cons_of_mem _ hx))]
theorem sd_madd (f g : Nat → Nat) (ds : List Nat) : sd_V (ds.map f) + sd_V (ds.map g) = sd_V (ds.map (fun d => f d + g d)) := by
  induction ds with
  | nil => rfl
  | cons d ds ih =>
    show (f d + 256 * sd_V (ds.map f)) + (g d + 256 * sd_V (ds.map g)) = (f d + g d) + 256 * sd_V (ds.map (fun d => f d + g d))
    omega
def sd_1 (d : Nat) : Nat := d - ((d >>> 1) &&& 85)
def sd_2 (d : Nat) : Nat := (d &&& 51) + ((d >>> 2) &&& 51)
def sd_3 (d : Nat) : Nat := (d &&& 15) + ((d >>> 4) &&& 15)
theorem sd_b1 : ∀ d, d < 256 → ((d >>> 1) &&& 85) + sd_1 d = d ∧ sd_1 d < 256 := by decide +kernel
theorem sd_b2 : ∀ d, d < 256 → sd_2 (sd_1 d) < 256 := by decide +kernel
theorem sd_b3 : ∀ d, d < 256 → sd_2 (sd_1 d) % 16 < 8 ∧ sd_2 (sd_1 d) / 16 < 8 := by decide +kernel
theorem sd_b4 : ∀ d, d < 256 → sd_3 (sd_2 (sd_1 d)) = nc_n (fun i => d.testBit i) 8 := by decide +kernel
theorem sd_b5 : ∀ d, d < 256 → sd_3 (sd_2 (sd_1 d)) ≤ 8 := by decide +kernel
theorem sd_15 (a : Nat) : a &&& 15 = a % 16 := Nat.and_two_pow_sub_one_eq_mod a 4
theorem sd_m3 (ds : List Nat) (h : ∀ d ∈ ds, d % 16 < 8 ∧ d / 16 < 8) : (sd_V ds + (sd_V ds >>> 4)) &&& sd_V (ds.map (fun _ => 15)) = sd_V (ds.map sd_3) ∧ sd_V ds % 16 < 8 := by
  induction ds with
  | nil => exact ⟨Nat.and_zero _, by decide⟩
  | cons d ds ih =>
    obtain ⟨h1, h2⟩ := ih (fun x hx => h x (List.mem_cons_of_mem _ hx))
    obtain ⟨h3, h4⟩ := h d (List.mem_cons_self ..)
    have e4 : ∀ x : Nat, x >>> 4 = x / 16 := fun x => Nat.shiftRight_eq_div_pow x 4
    show ((d + 256 * sd_V ds) + ((d + 256 * sd_V ds) >>> 4)) &&& (15 + 256 * sd_V (ds.map (fun _ => 15))) = sd_3 d + 256 * sd_V (ds.map sd_3) ∧ (d + 256 * sd_V ds) % 16 < 8
    refine ⟨?_, by omega⟩
    have e : (d + 256 * sd_V ds) + ((d + 256 * sd_V ds) >>> 4) = (d + d / 16 + 16 * (sd_V ds % 16)) + 256 * (sd_V ds + (sd_V ds >>> 4)) := by
      rw [e4, e4]
      omega
    have h5 : sd_3 d = d % 16 + d / 16 := by
      unfold sd_3
      rw [sd_15, sd_15, e4]
      omega
    rw [e, sd_and (by omega) (by decide), h1, sd_15, h5]
    omega
def sd_w (n : Nat) : Nat :=
  let a := n - ((n >>> 1) &&& 6148914691236517205)
  let b := (a &&& 3689348814741910323) + ((a >>> 2) &&& 3689348814741910323)
  let c := (b + (b >>> 4)) &&& 1085102592571150095
  let d := c + (c >>> 8)
  let e := d + (d >>> 16)
  (e + (e >>> 32)) % 128
theorem nc_add (f : Nat → Bool) (a : Nat) : ∀ b, nc_n f (a + b) = nc_n f a + nc_n (fun i => f (a + i)) b := by
  intro b
  induction b with
  | zero => rfl
  | succ b ih =>
    show nc_n f (a + b) + (if f (a + b) = true then 1 else 0) = nc_n f a + (nc_n (fun i => f (a + i)) b + (if f (a + b) = true then 1 else 0))
    rw [ih]
    exact Nat.add_assoc ..
theorem nc_ext {f g : Nat → Bool} : ∀ n, (∀ i, i < n → f i = g i) → nc_n f n = nc_n g n := by
  intro n
  induction n with
  | zero => intro _; rfl
  | succ n ih =>
    intro h
    show nc_n f n + (if f n = true then 1 else 0) = nc_n g n + (if g n = true then 1 else 0)
    rw [ih (fun i hi => h i (by omega)), h n (by omega)]
theorem sd_dig (n k : Nat) : nc_n (fun i => (n / 2 ^ k % 256).testBit i) 8 = nc_n (fun i => n.testBit (k + i)) 8 := by
  refine nc_ext 8 (fun i hi => ?_)
  rw [show (256 : Nat) = 2 ^ 8 from rfl, Nat.testBit_mod_two_pow, Nat.testBit_div_two_pow, decide_eq_true hi, Bool.true_and, Nat.add_comm]
set_option maxRecDepth 10000 in
theorem sd_main (n : Nat) (hn : n < 18446744073709551616) : sd_w n = nc_n (fun i => n.testBit i) 64 := by
  obtain ⟨ds, hds⟩ : ∃ ds, ds = [n % 256, n / 256 % 256, n / 65536 % 256, n / 16777216 % 256, n / 4294967296 % 256, n / 1099511627776 % 256, n / 281474976710656 % 256, n / 72057594037927936 % 256] := ⟨_, rfl⟩
  have hb : ∀ d ∈ ds, d < 256 := by
    intro d hd
    rw [hds] at hd
    simp only [List.mem_cons, List.not_mem_nil, or_false] at hd
    omega
  have hV : n = sd_V ds := by
    rw [hds]
    show n = n % 256 + 256 * (n / 256 % 256 + 256 * (n / 65536 % 256 + 256 * (n / 16777216 % 256 + 256 * (n / 4294967296 % 256 + 256 * (n / 1099511627776 % 256 + 256 * (n / 281474976710656 % 256 + 256 * (n / 72057594037927936 % 256 + 256 * 0)))))))
    omega
  have hl : ds.length = 8 := by rw [hds]; rfl
  have mask : ∀ m M : Nat, sd_V [m, m, m, m, m, m, m, m] = M → ∀ f : Nat → Nat, sd_V ((ds.map f).map (fun _ => m)) = M := by
    intro m M h f
    rw [hds]
    exact h
  have mask0 : ∀ m M : Nat, sd_V [m, m, m, m, m, m, m, m] = M → sd_V (ds.map (fun _ => m)) = M := by
    intro m M h
    rw [hds]
    exact h
  have mm : ∀ (f : Nat → Nat) (P : Nat → Prop), (∀ d, d < 256 → P (f d)) → ∀ x ∈ ds.map f, P x := by
    intro f P h x hx
    obtain ⟨d, hd, rfl⟩ := List.mem_map.mp hx
    exact h d (hb d hd)
  have s1 : n - ((n >>> 1) &&& 6148914691236517205) = sd_V (ds.map sd_1) := by
    have h1 := sd_mshr (m := 85) (k := 1) (by decide) (by decide) ds hb
    rw [mask0 85 6148914691236517205 (by decide +kernel), ← hV] at h1
    have h2 := sd_madd (fun d => (d >>> 1) &&& 85) sd_1 ds
    have h3 : sd_V (ds.map (fun d => ((d >>> 1) &&& 85) + sd_1 d)) = n := by
      rw [show ds.map (fun d => ((d >>> 1) &&& 85) + sd_1 d) = ds.map id from List.map_congr_left (fun d hd => (sd_b1 d (hb d hd)).1), List.map_id, ← hV]
    rw [h1]
    omega
  have s2 : (sd_V (ds.map sd_1) &&& 3689348814741910323) + ((sd_V (ds.map sd_1) >>> 2) &&& 3689348814741910323) = sd_V (ds.map (fun d => sd_2 (sd_1 d))) := by
    have hb1 := mm sd_1 (fun x => x < 256) (fun d hd => (sd_b1 d hd).2)
    have h1 := sd_mand (m := 51) (by decide) (ds.map sd_1) hb1
    have h2 := sd_mshr (m := 51) (k := 2) (by decide) (by decide) (ds.map sd_1) hb1
    rw [mask 51 3689348814741910323 (by decide +kernel)] at h1 h2
    rw [h1, h2, sd_madd, List.map_map]
    rfl
  have s3 : (sd_V (ds.map (fun d => sd_2 (sd_1 d))) + (sd_V (ds.map (fun d => sd_2 (sd_1 d))) >>> 4)) &&& 1085102592571150095 = sd_V (ds.map (fun d => sd_3 (sd_2 (sd_1 d)))) := by
    have h1 := (sd_m3 (ds.map (fun d => sd_2 (sd_1 d))) (mm _ (fun x => x % 16 < 8 ∧ x / 16 < 8) (fun d hd => sd_b3 d hd))).1
    rw [mask 15 1085102592571150095 (by decide +kernel), List.map_map] at h1
    exact h1
  unfold sd_w
  rw [s1]
  simp only []
  rw [s2, s3]
  have hc : ∀ x ∈ ds.map (fun d => sd_3 (sd_2 (sd_1 d))), x ≤ 8 := mm _ (fun x => x ≤ 8) (fun d hd => sd_b5 d hd)
  have hsum : (ds.map (fun d => sd_3 (sd_2 (sd_1 d)))).sum = nc_n (fun i => n.testBit i) 64 := by
    rw [hds]
    have q : ∀ k, sd_3 (sd_2 (sd_1 (n / 2 ^ k % 256))) = nc_n (fun i => n.testBit (k + i)) 8 := fun k => by rw [sd_b4 _ (Nat.mod_lt _ (by decide)), sd_dig]
    have q0 := q 0
    have q1 := q 8
    have q2 := q 16
    have q3 := q 24
    have q4 := q 32
    have q5 := q 40
    have q6 := q 48
    have q7 := q 56
    rw [show n / 2 ^ 0 = n by simp] at q0
    have hs : nc_n (fun i => n.testBit i) (8 + (8 + (8 + (8 + (8 + (8 + (8 + 8))))))) = nc_n (fun i => n.testBit i) 64 := rfl
    rw [← hs]
    simp only [nc_add]
    simp only [List.map_cons, List.map_nil, List.sum_cons, List.sum_nil]
    simp only [Nat.zero_add] at q0
    rw [q0]
    have r : ∀ (k : Nat) (c : Nat), 2 ^ k = c → sd_3 (sd_2 (sd_1 (n / c % 256))) = nc_n (fun i => n.testBit (k + i)) 8 := fun k c h => by rw [← h]; exact q k
    rw [r 8 256 rfl, r 16 65536 rfl, r 24 16777216 rfl, r 32 4294967296 rfl, r 40 1099511627776 rfl, r 48 281474976710656 rfl, r 56 72057594037927936 rfl]
    simp only [← Nat.add_assoc]
    rfl
  rw [← hsum]
  obtain ⟨cs, hcs⟩ : ∃ cs, ds.map (fun d => sd_3 (sd_2 (sd_1 d))) = cs := ⟨_, rfl⟩
  have hl2 : cs.length = 8 := by rw [← hcs, List.length_map]; exact hl
  rw [hcs] at hc ⊢
  have e : ∀ k x : Nat, x >>> k = x / 2 ^ k := fun k x => Nat.shiftRight_eq_div_pow x k
  match cs, hl2 with
  | [c0, c1, c2, c3, c4, c5, c6, c7], _ =>
    have b0 := hc c0 (by simp)
    have b1 := hc c1 (by simp)
    have b2 := hc c2 (by simp)
    have b3 := hc c3 (by simp)
    have b4 := hc c4 (by simp)
    have b5 := hc c5 (by simp)
    have b6 := hc c6 (by simp)
    have b7 := hc c7 (by simp)
    have hs : [c0, c1, c2, c3, c4, c5, c6, c7].sum = c0 + c1 + c2 + c3 + c4 + c5 + c6 + c7 := by
      simp only [List.sum_cons, List.sum_nil]
      omega
    rw [hs]
    show ((sd_V [c0, c1, c2, c3, c4, c5, c6, c7] + sd_V [c0, c1, c2, c3, c4, c5, c6, c7] >>> 8) + (sd_V [c0, c1, c2, c3, c4, c5, c6, c7] + sd_V [c0, c1, c2, c3, c4, c5, c6, c7] >>> 8) >>> 16 + ((sd_V [c0, c1, c2, c3, c4, c5, c6, c7] + sd_V [c0, c1, c2, c3, c4, c5, c6, c7] >>> 8) + (sd_V [c0, c1, c2, c3, c4, c5, c6, c7] + sd_V [c0, c1, c2, c3, c4, c5, c6, c7] >>> 8) >>> 16) >>> 32) % 128 = _
    have v1 : sd_V [c0, c1, c2, c3, c4, c5, c6, c7] + sd_V [c0, c1, c2, c3, c4, c5, c6, c7] >>> 8 = (c0 + c1) + 256 * ((c1 + c2) + 256 * ((c2 + c3) + 256 * ((c3 + c4) + 256 * ((c4 + c5) + 256 * ((c5 + c6) + 256 * ((c6 + c7) + 256 * c7)))))) := by
      rw [e]
      simp only [sd_V]
      omega
    rw [v1]
    have v2 : ∀ d0 d1 d2 d3 d4 d5 d6 d7 : Nat, d0 ≤ 16 → d1 ≤ 16 → d2 ≤ 16 → d3 ≤ 16 → d4 ≤ 16 → d5 ≤ 16 → d6 ≤ 16 → d7 ≤ 16 → (d0 + 256 * (d1 + 256 * (d2 + 256 * (d3 + 256 * (d4 + 256 * (d5 + 256 * (d6 + 256 * d7))))))) + (d0 + 256 * (d1 + 256 * (d2 + 256 * (d3 + 256 * (d4 + 256 * (d5 + 256 * (d6 + 256 * d7))))))) >>> 16 = (d0 + d2) + 256 * ((d1 + d3) + 256 * ((d2 + d4) + 256 * ((d3 + d5) + 256 * ((d4 + d6) + 256 * ((d5 + d7) + 256 * (d6 + 256 * d7)))))) := by
      intro d0 d1 d2 d3 d4 d5 d6 d7 h0 h1 h2 h3 h4 h5 h6 h7
      rw [e]
      omega
    rw [v2 _ _ _ _ _ _ _ _ (by omega) (by omega) (by omega) (by omega) (by omega) (by omega) (by omega) (by omega)]
    have v3 : ∀ d0 d1 d2 d3 d4 d5 d6 d7 : Nat, d0 ≤ 32 → d1 ≤ 32 → d2 ≤ 32 → d3 ≤ 32 → d4 ≤ 32 → ((d0 + 256 * (d1 + 256 * (d2 + 256 * (d3 + 256 * (d4 + 256 * (d5 + 256 * (d6 + 256 * d7))))))) + (d0 + 256 * (d1 + 256 * (d2 + 256 * (d3 + 256 * (d4 + 256 * (d5 + 256 * (d6 + 256 * d7))))))) >>> 32) % 128 = d0 + d4 := by
      intro d0 d1 d2 d3 d4 d5 d6 d7 h0 h1 h2 h3 h4
      rw [e]
      have : (d0 + 256 * (d1 + 256 * (d2 + 256 * (d3 + 256 * (d4 + 256 * (d5 + 256 * (d6 + 256 * d7))))))) / 2 ^ 32 = d4 + 256 * (d5 + 256 * (d6 + 256 * d7)) := by omega
      rw [this]
      omega
    rw [v3 _ _ _ _ _ _ _ _ (by omega) (by omega) (by omega) (by omega) (by omega)]
    omega
