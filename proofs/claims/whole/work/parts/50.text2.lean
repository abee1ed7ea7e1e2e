/-! Text: addLeaf, show -/
theorem tx_b_app (ms : List Nat) : ∀ (ns : List Nat) bc len, tx_b bc len (ns ++ ms) = tx_b (tx_b bc len ns) (len + ns.sum) ms := by
  intro ns
  induction ns with
  | nil => intro bc len; rfl
  | cons n ns ih =>
    intro bc len
    show tx_b (tx_bc bc len n) (len + n) (ns ++ ms) = _
    rw [ih, List.sum_cons, Nat.add_assoc]
    rfl
theorem tx_c_app (ms : List Nat) : ∀ (ns : List Nat) bc len, tx_c bc len (ns ++ ms) = tx_c bc len ns + tx_c (tx_b bc len ns) (len + ns.sum) ms := by
  intro ns
  induction ns with
  | nil => intro bc len; exact (Nat.zero_add _).symm
  | cons n ns ih =>
    intro bc len
    show (if bc - len < n then 1 else 0) + tx_c (tx_bc bc len n) (len + n) (ns ++ ms) = ((if bc - len < n then 1 else 0) + tx_c (tx_bc bc len n) (len + n) ns) + tx_c (tx_b (tx_bc bc len n) (len + n) ns) (len + (n :: ns).sum) ms
    rw [ih, List.sum_cons, ← Nat.add_assoc len]
    omega
theorem tx_s_app (ms : List Nat) : ∀ (ns : List Nat) bc len, tx_s bc len (ns ++ ms) = tx_s bc len ns + tx_s (tx_b bc len ns) (len + ns.sum) ms := by
  intro ns
  induction ns with
  | nil => intro bc len; exact (Nat.zero_add _).symm
  | cons n ns ih =>
    intro bc len
    show (if bc - len < n then 2 * bc + n else 0) + tx_s (tx_bc bc len n) (len + n) (ns ++ ms) = ((if bc - len < n then 2 * bc + n else 0) + tx_s (tx_bc bc len n) (len + n) ns) + tx_s (tx_b (tx_bc bc len n) (len + n) ns) (len + (n :: ns).sum) ms
    rw [ih, List.sum_cons, ← Nat.add_assoc len]
    omega
theorem tx_b_le {T : Nat} : ∀ (ns : List Nat) bc len, len ≤ bc → len + ns.sum ≤ T → tx_b bc len ns ≤ max bc (3 * T) ∧ bc ≤ tx_b bc len ns ∧ len + ns.sum ≤ tx_b bc len ns := by
  intro ns
  induction ns with
  | nil => intro bc len h _; exact ⟨Nat.le_max_left .., Nat.le_refl _, by show len + 0 ≤ bc; omega⟩
  | cons n ns ih =>
    intro bc len h hT
    rw [List.sum_cons] at hT
    rw [List.sum_cons]
    show tx_b (tx_bc bc len n) (len + n) ns ≤ _ ∧ _ ≤ tx_b (tx_bc bc len n) (len + n) ns ∧ _ ≤ tx_b (tx_bc bc len n) (len + n) ns
    have h1 : tx_bc bc len n ≤ max bc (3 * T) ∧ bc ≤ tx_bc bc len n ∧ len + n ≤ tx_bc bc len n := by
      unfold tx_bc
      split <;> omega
    have := ih (tx_bc bc len n) (len + n) h1.2.2 (by omega)
    omega
theorem tx_pay : ∀ (ns : List Nat) bc len, 64 ≤ bc → tx_s bc len ns + 2 * bc ≤ 2 * tx_b bc len ns ∧ 65 * tx_c bc len ns + bc ≤ tx_b bc len ns := by
  intro ns
  induction ns with
  | nil => intro bc len _; exact ⟨by show 0 + 2 * bc ≤ 2 * bc; omega, by show 65 * 0 + bc ≤ bc; omega⟩
  | cons n ns ih =>
    intro bc len h
    show ((if bc - len < n then 2 * bc + n else 0) + tx_s (tx_bc bc len n) (len + n) ns) + 2 * bc ≤ 2 * tx_b (tx_bc bc len n) (len + n) ns ∧ 65 * ((if bc - len < n then 1 else 0) + tx_c (tx_bc bc len n) (len + n) ns) + bc ≤ tx_b (tx_bc bc len n) (len + n) ns
    by_cases hg : bc - len < n
    · rw [if_pos hg, if_pos hg]
      have e : tx_bc bc len n = 2 * bc + n := by unfold tx_bc; rw [if_pos hg]
      have := ih (tx_bc bc len n) (len + n) (by omega)
      omega
    · rw [if_neg hg, if_neg hg]
      have e : tx_bc bc len n = bc := by unfold tx_bc; rw [if_neg hg]
      have := ih (tx_bc bc len n) (len + n) (by omega)
      omega
/-- all cells but those of S are as they were, and none is gone -/
def kd (S : List Nat) (w w' : mp_W) : Prop := ke S w w' ∧ ∀ q, w q ≠ none → w' q ≠ none
theorem kd.rf (S : List Nat) (w : mp_W) : kd S w w := ⟨fun _ _ h _ => h, fun _ h => h⟩
theorem kd.non {S : List Nat} {w w' : mp_W} (h : kd S w w') {q : Nat} (hq : w' q = none) : w q = none := by
  cases e : w q with
  | none => rfl
  | some v => exact absurd hq (h.2 q (by rw [e]; simp))
theorem kd.tr {S : List Nat} {w w1 w2 : mp_W} (h : kd S w w1) (h2 : kd S w1 w2) : kd S w w2 := ⟨fun q x hq hS => h2.1 q x (h.1 q x hq hS) hS, fun q hq => h2.2 q (h.2 q hq)⟩
theorem kd.mono {S S' : List Nat} {w w1 : mp_W} (h : kd S w w1) (hs : ∀ q ∈ S, q ∈ S') : kd S' w w1 := ⟨fun q x hq hS => h.1 q x hq (fun z => hS (hs q z)), h.2⟩
theorem kd.of {S : List Nat} {w w' : mp_W} (h : mp_off S w w') (h2 : ∀ q ∈ S, w' q ≠ none) : kd S w w' := ⟨fun q x hq hS => by rw [h q hS]; exact hq, fun q hq => by
  by_cases e : q ∈ S
  · exact h2 q e
  · rw [h q e]; exact hq⟩
def po_Y (K : Nat → ClassId) (w : mp_W) (x ba k4 bc : Nat) (out : List Int) (w' : mp_W) : Prop := ∃ ba', (ba' = ba ∨ w ba' = none) ∧ kd [x, ba] w w' ∧ pt_Y K w' x ba' k4 bc out
theorem pt_Y.at {K : Nat → ClassId} {w : mp_W} {x ba k4 bc : Nat} {out : List Int} (h : pt_Y K w x ba k4 bc out) : w x ≠ none ∧ w ba ≠ none := by
  obtain ⟨g, h1, h2, -⟩ := h
  rw [h1, h2]
  exact ⟨by simp, by simp⟩
theorem po_Y.of {K : Nat → ClassId} {w w' : mp_W} {x ba ba' k4 bc : Nat} {out : List Int} (h1 : ba' = ba ∨ w ba' = none) (h2 : mp_off [x, ba'] w w') (h3 : pt_Y K w' x ba' k4 bc out) : po_Y K w x ba k4 bc out w' := by
  refine ⟨ba', h1, ⟨fun q v hq hn => ?_, fun q hq => ?_⟩, h3⟩
  · rw [h2 q]
    · exact hq
    · simp at hn ⊢
      refine ⟨hn.1, fun e => ?_⟩
      rcases h1 with h | h
      · exact hn.2 (by rw [e, h])
      · rw [e, h] at hq; cases hq
  · by_cases e : q ∈ [x, ba']
    · simp at e
      rcases e with rfl | rfl
      · exact h3.at.1
      · exact h3.at.2
    · rw [h2 q e]; exact hq
/-- one after the other -/
theorem po_Y.tr {K : Nat → ClassId} {w w1 w2 : mp_W} {x ba ba1 k4 bc2 : Nat} {o2 : List Int} (h1 : ba1 = ba ∨ w ba1 = none) (h2 : kd [x, ba] w w1) (h : po_Y K w1 x ba1 k4 bc2 o2 w2) : po_Y K w x ba k4 bc2 o2 w2 := by
  obtain ⟨ba2, a1, a2, a3⟩ := h
  refine ⟨ba2, ?_, ⟨fun q v hq hn => ?_, fun q hq => a2.2 q (h2.2 q hq)⟩, a3⟩
  · rcases a1 with rfl | a1
    · exact h1
    · exact Or.inr (h2.non a1)
  · refine a2.1 q v (h2.1 q v hq hn) (fun z => ?_)
    simp at z hn
    rcases z with rfl | rfl
    · exact hn.1 rfl
    · rcases h1 with h1 | h1
      · exact hn.2 h1
      · rw [h1] at hq; cases hq
def tx_lf (x : Int) : List Nat := if 99 < x then [(x - 99).toNat] else if 10 ≤ x then [1, 1] else [1]
theorem tx_lf_sum {x : Int} (h0 : 0 ≤ x) : (tm_lf x).length = (tx_lf x).sum := by
  unfold tm_lf tx_lf tm_dg
  split
  · simp
  · split <;> simp
theorem di_1 : ∀ c, c < 100 → ((48 + nI c / 10).toUInt32 % 65536).toInt32 = nI (48 + c / 10) := by decide +kernel
theorem di_2 : ∀ c, c < 100 → ((48 + (nI c - nI c / 10 * 10)).toUInt32 % 65536).toInt32 = nI (48 + c % 10) := by decide +kernel
section KX2
variable {l : Launch} {n0 : Nat} {D : va_G} {K : Nat → ClassId} {w : mp_W}
set_option maxRecDepth 100000 in
set_option maxHeartbeats 1000000 in
theorem kX_addLeaf {t ba k4 bc : Nat} {x : Int} {out : List Int} (hp : pt_Y K w t ba k4 bc out) (h0 : 0 ≤ x) (hxx : x ≤ 1000000) (hbc : bc ≤ 1000000) : ct_M l n0 D K yX_addLeaf (Cond.code yX_addLeaf cX_addLeaf 2 none) 3 120 (tx_c bc out.length (tx_lf x)) (tx_s bc out.length (tx_lf x)) [.ref t, .int (ci_i x)] w (fun v w' => v = none ∧ po_Y K w t ba k4 (tx_b bc out.length (tx_lf x)) (out ++ tm_lf x) w') := by
  obtain ⟨g, hX, -⟩ := id hp
  refine ct_go (own := nm_X) (by decide) rfl (Nat.le_of_ble_eq_true rfl) ?_
  intro p e s m below meth c ls hE hI hr hk hn hl
  have hx := hE.1.1.1
  have hb := hE.1.1.2.1
  have hl : lv_has ls 2 [(0, .ref t), (1, .int (ci_i x))] := hl
  refine lv_iload_n hx hb dX_addLeaf_0 rfl (lv_at hl 1 rfl) ?_
  refine lv_bipush (v := ci_i 99) hx hb dX_addLeaf_1 (by decide) ?_
  refine lv_icmp_le (tgt := 17) hx hb dX_addLeaf_3 (by decide) (fun hq => ?_) (fun hq => ?_)
  · rw [ci_le (by omega) (by omega)] at hq
    obtain ⟨cc, hcc⟩ : ∃ cc : Nat, x = (cc : Int) := ⟨x.toNat, by omega⟩
    have hc : cc < 100 := by omega
    have hcv : ci_i x = nI cc := by rw [hcc, ci_nat]
    rw [hcv] at hl
    have last : ∀ (ba1 bc1 : Nat) (w1 : mp_W) (o1 : List Int) (ls : Array Slot) (H : Heap) (locs : List Loc) (ce sl : Nat), (ba1 = ba ∨ w ba1 = none) → kd [t, ba] w w1 → pt_Y K w1 t ba1 k4 bc1 o1 → bc1 ≤ 10000000 → o1 ++ [48 + x % 10] = out ++ tm_lf x → tx_b bc1 o1.length [1] = tx_b bc out.length (tx_lf x) → ce + tx_c bc1 o1.length [1] = tx_c bc out.length (tx_lf x) → sl + tx_s bc1 o1.length [1] = tx_s bc out.length (tx_lf x) → mp_I D cl_all (mp_A w s.heap.size) s.heap w1 H locs → lv_has ls 2 [(0, .ref t), (1, .int (nI cc))] →
        W p l e { frames := 3, cells := tx_c bc out.length (tx_lf x), slots := tx_s bc out.length (tx_lf x), locals := 120 } s m ([Value.ref t, .int (ci_i x)] : List Value).toArray below meth c H locs ce sl (MQ below (ct_Q D w s.heap.size (fun v w' => v = none ∧ po_Y K w t ba k4 (tx_b bc out.length (tx_lf x)) (out ++ tm_lf x) w')) ([Value.ref t, .int (ci_i x)] : List Value).toArray s (tx_c bc out.length (tx_lf x)) (tx_s bc out.length (tx_lf x)) (mp_A w s.heap.size)) (F0 m 36 ls []) := by
      intro ba1 bc1 w1 o1 ls H locs ce sl hb1 ho hp1 hb2 ho1 eb ec es hI hl
      obtain ⟨g1, hX1, -⟩ := id hp1
      refine lv_aload_n hx hb dX_addLeaf_36 rfl (lv_at hl 0 rfl) ?_
      refine lv_bipush (v := 48) hx hb dX_addLeaf_37 (by decide) ?_
      refine lv_iload_n hx hb dX_addLeaf_39 rfl (lv_at hl 1 rfl) ?_
      refine lv_bipush (v := 10) hx hb dX_addLeaf_40 (by decide) ?_
      refine lv_irem hx hb dX_addLeaf_42 (by decide) ?_
      refine lv_iadd hx hb dX_addLeaf_43 ?_
      refine lv_i2c (v := nI (48 + cc % 10)) hx hb dX_addLeaf_44 (di_2 cc hc) ?_
      refine lv_iconst (v := nI 1) hx hb dX_addLeaf_45 (by decide) ?_
      refine ct_V (n := 2) hE hI (kX_add (n := 1) (mk := 48 + cc % 10) hp1 (by omega) (by omega) (by omega)) hX1 rfl gm_X47 gi_X_add gs_X_X_add gz_X gc_X_add (by decide +kernel) ⟨Nat.le_of_ble_eq_true rfl, Nat.le_of_ble_eq_true rfl⟩ rfl hl.1 rfl (Nat.le_of_ble_eq_true rfl) dX_addLeaf_46 ⟨Nat.le_of_eq ec, Nat.le_of_eq es⟩ (fun v w2 H locs hq hI => ?_)
      obtain ⟨rfl, ba2, a1, a2, a3⟩ := hq
      show W _ _ _ _ _ _ _ _ _ _ _ _ _ _ _ (F0 _ _ _ [])
      refine ct_vret hE hI hr hk ⟨rfl, ?_⟩ (by omega) (by omega) dX_addLeaf_49
      refine po_Y.tr hb1 ho ?_
      rw [← eb, ← ho1]
      refine po_Y.of a1 a2 ?_
      have : ((48 + cc % 10 : Nat) : Int) = 48 + x % 10 := by omega
      rw [this] at a3
      exact a3
    have e99 : ¬ (99 < x) := by omega
    refine lv_iload_n hx hb dX_addLeaf_17 rfl (lv_at hl 1 rfl) ?_
    refine lv_bipush (v := nI 10) hx hb dX_addLeaf_18 (by decide) ?_
    refine lv_icmp_lt (tgt := 36) hx hb dX_addLeaf_20 (by decide) (fun hq2 => ?_) (fun hq2 => ?_)
    · have hq2 : cc < 10 := (nI_ltI (by omega) (by omega)).mp hq2
      have ef : tx_lf x = [1] := by unfold tx_lf; rw [if_neg e99, if_neg (by omega)]
      have eg : tm_lf x = [48 + x % 10] := by unfold tm_lf tm_dg; rw [if_neg e99, if_neg (by omega)]; rfl
      exact last ba bc w out ls _ _ 0 0 (Or.inl rfl) (kd.rf _ _) hp (by omega) (by rw [eg]) (by rw [ef]) (by rw [ef]; omega) (by rw [ef]; omega) hI hl
    · have hq2 : 10 ≤ cc := Nat.le_of_not_lt (fun h => hq2 (nI_lt h (by omega)))
      have ef : tx_lf x = [1, 1] := by unfold tx_lf; rw [if_neg e99, if_pos (by omega)]
      have eg : tm_lf x = [48 + x / 10] ++ [48 + x % 10] := by unfold tm_lf tm_dg; rw [if_neg e99, if_pos (by omega)]
      have t1 : tx_c bc out.length [1, 1] = tx_c bc out.length [1] + tx_c (tx_b bc out.length [1]) (out.length + 1) [1] := tx_c_app [1] [1] bc out.length
      have t2 : tx_s bc out.length [1, 1] = tx_s bc out.length [1] + tx_s (tx_b bc out.length [1]) (out.length + 1) [1] := tx_s_app [1] [1] bc out.length
      refine lv_aload_n hx hb dX_addLeaf_23 rfl (lv_at hl 0 rfl) ?_
      refine lv_bipush (v := 48) hx hb dX_addLeaf_24 (by decide) ?_
      refine lv_iload_n hx hb dX_addLeaf_26 rfl (lv_at hl 1 rfl) ?_
      refine lv_bipush (v := 10) hx hb dX_addLeaf_27 (by decide) ?_
      refine lv_idiv hx hb dX_addLeaf_29 (by decide) ?_
      refine lv_iadd hx hb dX_addLeaf_30 ?_
      refine lv_i2c (v := nI (48 + cc / 10)) hx hb dX_addLeaf_31 (di_1 cc hc) ?_
      refine lv_iconst (v := nI 1) hx hb dX_addLeaf_32 (by decide) ?_
      refine ct_V (n := 2) hE hI (kX_add (n := 1) (mk := 48 + cc / 10) hp (by omega) (by omega) (by omega)) hX rfl gm_X47 gi_X_add gs_X_X_add gz_X gc_X_add (by decide +kernel) ⟨Nat.le_of_ble_eq_true rfl, Nat.le_of_ble_eq_true rfl⟩ rfl hl.1 rfl (Nat.le_of_ble_eq_true rfl) dX_addLeaf_33 ⟨by show 0 + _ ≤ tx_c bc out.length (tx_lf x); rw [ef, t1]; omega, by show 0 + _ ≤ tx_s bc out.length (tx_lf x); rw [ef, t2]; omega⟩ (fun v w2 H locs hq hI => ?_)
      obtain ⟨rfl, ba2, a1, a2, a3⟩ := hq
      show W _ _ _ _ _ _ _ _ _ _ _ _ _ _ _ (F0 _ _ _ [])
      have hl1 : (out ++ List.replicate 1 ((48 + cc / 10 : Nat) : Int)).length = out.length + 1 := by simp
      obtain ⟨ba3, c1, c2, c3⟩ := po_Y.of a1 a2 a3
      have hbb : tx_b bc out.length [1] ≤ 10000000 := by
        show tx_bc bc out.length 1 ≤ _
        unfold tx_bc
        split <;> omega
      refine last ba3 _ w2 _ ls H locs _ _ c1 c2 c3 hbb ?_ ?_ ?_ ?_ hI hl
      · rw [eg, List.append_assoc]
        have : ((48 + cc / 10 : Nat) : Int) = 48 + x / 10 := by omega
        rw [this]
        rfl
      · rw [hl1, ef]; exact (tx_b_app [1] [1] bc out.length).symm
      · rw [hl1, ef, t1]; omega
      · rw [hl1, ef, t2]; omega
  · rw [ci_le (by omega) (by omega)] at hq
    have ef : tx_lf x = [(x - 99).toNat] := by unfold tx_lf; rw [if_pos (by omega)]
    have eg : tm_lf x = List.replicate (x - 99).toNat 39 := by unfold tm_lf; rw [if_pos (by omega)]
    refine lv_aload_n hx hb dX_addLeaf_6 rfl (lv_at hl 0 rfl) ?_
    refine lv_bipush (v := nI 39) hx hb dX_addLeaf_7 (by decide) ?_
    refine lv_iload_n hx hb dX_addLeaf_9 rfl (lv_at hl 1 rfl) ?_
    refine lv_bipush (v := ci_i 99) hx hb dX_addLeaf_10 (by decide) ?_
    refine lv_isub hx hb dX_addLeaf_12 ?_
    have hcv : ci_i x - ci_i 99 = nI (x - 99).toNat := by rw [ci_sub, ← ci_nat]; congr 1; omega
    rw [hcv]
    refine ct_V (n := 2) hE hI (kX_add (n := (x - 99).toNat) (mk := 39) hp (by omega) (by omega) (by omega)) hX rfl gm_X47 gi_X_add gs_X_X_add gz_X gc_X_add (by decide +kernel) ⟨Nat.le_of_ble_eq_true rfl, Nat.le_of_ble_eq_true rfl⟩ rfl hl.1 rfl (Nat.le_of_ble_eq_true rfl) dX_addLeaf_13 ⟨by show 0 + _ ≤ tx_c bc out.length (tx_lf x); rw [ef]; omega, by show 0 + _ ≤ tx_s bc out.length (tx_lf x); rw [ef]; omega⟩ (fun v w2 H locs hq hI => ?_)
    obtain ⟨rfl, ba2, a1, a2, a3⟩ := hq
    show W _ _ _ _ _ _ _ _ _ _ _ _ _ _ _ (F0 _ _ _ [])
    refine ct_vret hE hI hr hk ⟨rfl, ?_⟩ (by rw [ef]; omega) (by rw [ef]; omega) dX_addLeaf_16
    rw [ef, eg]
    exact po_Y.of a1 a2 a3
end KX2
