/-! Arrays.copyOf of bytes; Text: add, addLeaf -/
theorem dk_0 : decode cJ_copyOf 0 = .ok (.iload_n 1, 1) := by decide +kernel
theorem dk_1 : decode cJ_copyOf 1 = .ok (.aload_n 0, 1) := by decide +kernel
theorem dk_2 : decode cJ_copyOf 2 = .ok (.arraylength, 1) := by decide +kernel
theorem dk_3 : decode cJ_copyOf 3 = .ok (.if_icmp .ne 11, 3) := by decide +kernel
theorem dk_14 : decode cJ_copyOf 14 = .ok (.iload_n 1, 1) := by decide +kernel
theorem dk_15 : decode cJ_copyOf 15 = .ok (.newarray .byte, 2) := by decide +kernel
theorem dk_17 : decode cJ_copyOf 17 = .ok (.astore_n 2, 1) := by decide +kernel
theorem dk_18 : decode cJ_copyOf 18 = .ok (.aload_n 0, 1) := by decide +kernel
theorem dk_19 : decode cJ_copyOf 19 = .ok (.iconst 0, 1) := by decide +kernel
theorem dk_20 : decode cJ_copyOf 20 = .ok (.aload_n 2, 1) := by decide +kernel
theorem dk_21 : decode cJ_copyOf 21 = .ok (.iconst 0, 1) := by decide +kernel
theorem dk_22 : decode cJ_copyOf 22 = .ok (.aload_n 0, 1) := by decide +kernel
theorem dk_23 : decode cJ_copyOf 23 = .ok (.arraylength, 1) := by decide +kernel
theorem dk_24 : decode cJ_copyOf 24 = .ok (.iload_n 1, 1) := by decide +kernel
theorem dk_25 : decode cJ_copyOf 25 = .ok (.invokestatic 304, 3) := by decide +kernel
theorem dk_28 : decode cJ_copyOf 28 = .ok (.invokestatic 150, 3) := by decide +kernel
theorem dk_31 : decode cJ_copyOf 31 = .ok (.aload_n 2, 1) := by decide +kernel
theorem dk_32 : decode cJ_copyOf 32 = .ok (.areturn, 1) := by decide +kernel
def pt_f (g : Nat → Int32) : Prop := ∀ i, fits .byte (.int (g i)) = true
section KX1
variable {l : Launch} {n0 : Nat} {D : va_G} {K : Nat → ClassId} {w : mp_W}
set_option maxRecDepth 100000 in
theorem kJ_copyOf {a cap N : Nat} {g : Nat → Int32} (ha : w a = some (ob_Y K cap g)) (hg : pt_f g) (hc : cap < N) (hN : N ≤ 100000000) : ct_M l n0 D K yJ_copyOf (Cond.code yJ_copyOf cJ_copyOf 3 (some (.array .byte))) 1 40 1 N [.ref a, .int (nI N)] w (fun v w' => ∃ q, v = some (.ref q) ∧ w q = none ∧ mp_off [q] w w' ∧ w' q = some (ob_Y K N (va_cpy g (fun _ => 0) 0 0 cap))) := by
  refine ct_go (own := "java/util/Arrays") (by decide) rfl (Nat.le_of_ble_eq_true rfl) ?_
  intro p e s m below meth c ls hE hI hr hk hn hl
  have hx := hE.1.1.1
  have hb := hE.1.1.2.1
  have hown := hE.1.1.2.2.2.1
  have hl : lv_has ls 3 [(0, .ref a), (1, .int (nI N))] := hl
  refine lv_iload_n hx hb dk_0 rfl (lv_at hl 1 rfl) ?_
  refine lv_aload_n hx hb dk_1 rfl (lv_at hl 0 rfl) ?_
  refine mp_len (v := nI cap) hE.1 hI ha 1 rfl rfl dk_2 ?_
  refine lv_icmp_ne (tgt := 14) hx hb dk_3 (by decide) (fun hq => ?_) (fun hq => ?_)
  · refine lv_iload_n hx hb dk_14 rfl (lv_at hl 1 rfl) ?_
    refine mp_newa (atype := .byte) hE.1 hI (List.mem_cons_of_mem _ ga_byte) rfl 1 rfl (a0 := (N, .inl (fun _ => 0))) (fun _ => rfl) (nI_pos (by omega)) (nI_clamp (by omega)) (by show N * 1 ≤ _; omega) (Nat.le_of_ble_eq_true rfl) (by show 0 + N ≤ N; omega) dk_15 (fun q H hq0 hI => ?_)
    have haq : a ≠ q := fun z => by rw [z, hq0] at ha; cases ha
    have ha1 : mp_up w q (ob_Y K N (fun _ => 0)) a = some (ob_Y K cap g) := by rw [mp_up_ne _ _ haq]; exact ha
    refine lv_astore_n hx hb dk_17 rfl hl (by decide) rfl (fun ls hl => ?_)
    refine lv_aload_n hx hb dk_18 rfl (lv_at hl 1 rfl) ?_
    refine lv_iconst (v := nI 0) hx hb dk_19 (by decide) ?_
    refine lv_aload_n hx hb dk_20 rfl (lv_at hl 0 rfl) ?_
    refine lv_iconst (v := nI 0) hx hb dk_21 (by decide) ?_
    refine lv_aload_n hx hb dk_22 rfl (lv_at hl 1 rfl) ?_
    refine mp_len (v := nI cap) hE.1 hI ha1 1 rfl rfl dk_23 ?_
    refine lv_iload_n hx hb dk_24 rfl (lv_at hl 2 rfl) ?_
    refine va_mmin hx hb (by rw [hE.1.1.2.2.1]; exact hl.1.symm) hown (ct_w hE gm_Ja304) (ct_w hE gt_Jm_min) (ct_w hE gz_Jm) (ct_w hE gc_Jm_min) (Nat.le_of_ble_eq_true rfl) (Nat.le_of_ble_eq_true rfl) (Nat.le_of_ble_eq_true rfl) (by show 0 + N ≤ N; omega) dk_25 ?_
    rw [ci_min (by omega) (by omega), Nat.min_eq_left (by omega)]
    refine mp_copy hE.1 hI hl.1 (List.mem_cons_of_mem _ gm_Ja150) (List.mem_cons_of_mem _ gv_Js_arraycopy) (List.mem_cons_of_mem _ gt_Js_arraycopy) (List.mem_cons_of_mem _ gz_Js) ha1 (mp_up_self ..) 1 1 rfl rfl rfl (nI_pos (by omega)) (nI_pos (by omega)) (nI_pos (by omega)) (by rw [nI_clamp (by omega), nI_clamp (by omega)]; omega) (by rw [nI_clamp (by omega), nI_clamp (by omega)]; omega) (fun i _ => hg _) (Nat.le_of_ble_eq_true rfl) (Nat.le_of_ble_eq_true rfl) dk_28 (fun H locs hI => ?_)
    rw [nI_clamp (by omega), nI_clamp (by omega)] at hI
    refine lv_aload_n hx hb dk_31 rfl (lv_at hl 0 rfl) ?_
    exact ct_aret hE hI hr (Or.inr ⟨_, rfl⟩) hk ⟨q, rfl, hq0, ((mp_off.rf _ _).up (by simp) _).up (by simp) _, mp_up_self ..⟩ (by decide) (by omega) dk_32
  · have := congrArg Int32.toNatClampNeg hq
    rw [nI_clamp (by omega), nI_clamp (by omega)] at this
    omega
/-- what one add and many adds of so many marks do to the array -/
def tx_bc (bc len n : Nat) : Nat := if bc - len < n then 2 * bc + n else bc
def tx_b : Nat → Nat → List Nat → Nat
  | bc, _, [] => bc
  | bc, len, n :: ns => tx_b (tx_bc bc len n) (len + n) ns
def tx_c : Nat → Nat → List Nat → Nat
  | _, _, [] => 0
  | bc, len, n :: ns => (if bc - len < n then 1 else 0) + tx_c (tx_bc bc len n) (len + n) ns
def tx_s : Nat → Nat → List Nat → Nat
  | _, _, [] => 0
  | bc, len, n :: ns => (if bc - len < n then 2 * bc + n else 0) + tx_s (tx_bc bc len n) (len + n) ns
/-- a Text: its bytes at ba, the Walk k4 -/
def pt_Y (K : Nat → ClassId) (w : mp_W) (x ba k4 bc : Nat) (out : List Int) : Prop := ∃ g, w x = some (.inr (1, [.ref ba, .int (nI out.length), .ref k4])) ∧ w ba = some (ob_Y K bc g) ∧ out.length ≤ bc ∧ pt_h g out ∧ pt_f g
theorem nI_b : ∀ n, n < 128 → ((nI n).toInt8.toInt32 = nI n ∧ vp_nar .byte (nI n) = nI n) ∧ fits .byte (.int (nI n)) = true := by decide +kernel
theorem pt_h_app {g : Nat → Int32} {L : List Int} {x : Int} (h : pt_h g L) : pt_h (upd g L.length (ci_i x)) (L ++ [x]) := by
  intro i y hy
  by_cases hi : i < L.length
  · rw [List.getElem?_append_left hi] at hy
    unfold upd
    rw [if_neg (by omega)]
    exact h i y hy
  · have hlt := (List.getElem?_eq_some_iff.mp hy).1
    simp at hlt
    have : i = L.length := by omega
    subst this
    simp at hy
    subst hy
    unfold upd
    rw [if_pos rfl]
set_option maxRecDepth 100000 in
set_option maxHeartbeats 1000000 in
theorem kX_add {x ba k4 bc n mk : Nat} {out : List Int} (hp : pt_Y K w x ba k4 bc out) (hm : mk < 128) (hbc : bc ≤ 10000000) (hn0 : n ≤ 10000000) : ct_M l n0 D K yX_add (Cond.code yX_add cX_add 4 none) 2 80 (tx_c bc out.length [n]) (tx_s bc out.length [n]) [.ref x, .int (nI mk), .int (nI n)] w (fun v w' => v = none ∧ ∃ ba', (ba' = ba ∨ w ba' = none) ∧ mp_off [x, ba'] w w' ∧ pt_Y K w' x ba' k4 (tx_b bc out.length [n]) (out ++ List.replicate n (mk : Int))) := by
  obtain ⟨g, hX, hA, hle, hh, hfit⟩ := hp
  refine ct_go (own := nm_X) (by decide) rfl (Nat.le_of_ble_eq_true rfl) ?_
  intro p e s m below meth c ls hE hI hr hk hn hl
  have hx := hE.1.1.1
  have hb := hE.1.1.2.1
  have hl : lv_has ls 4 [(0, .ref x), (1, .int (nI mk)), (2, .int (nI n))] := hl
  have tail : ∀ (ba' bc' : Nat) (w1 : mp_W) (H : Heap) (locs : List Loc) (ls : Array Slot) (ce sl : Nat), bc' = tx_bc bc out.length n → ce ≤ tx_c bc out.length [n] → sl ≤ tx_s bc out.length [n] → (ba' = ba ∨ w ba' = none) → mp_off [x, ba'] w w1 → pt_Y K w1 x ba' k4 bc' out → n ≤ bc' - out.length → bc' ≤ 100000000 → mp_I D cl_all (mp_A w s.heap.size) s.heap w1 H locs → lv_has ls 4 [(0, .ref x), (1, .int (nI mk)), (2, .int (nI n))] →
      W p l e { frames := 2, cells := tx_c bc out.length [n], slots := tx_s bc out.length [n], locals := 80 } s m ([Value.ref x, .int (nI mk), .int (nI n)] : List Value).toArray below meth c H locs ce sl (MQ below (ct_Q D w s.heap.size (fun v w' => v = none ∧ ∃ ba', (ba' = ba ∨ w ba' = none) ∧ mp_off [x, ba'] w w' ∧ pt_Y K w' x ba' k4 (tx_b bc out.length [n]) (out ++ List.replicate n (mk : Int)))) ([Value.ref x, .int (nI mk), .int (nI n)] : List Value).toArray s (tx_c bc out.length [n]) (tx_s bc out.length [n]) (mp_A w s.heap.size)) (F0 m 34 ls []) := by
    intro ba' bc' w1 H locs ls ce sl hbc' hce hsl hba ho hp hfi hbc2 hI hl
    have loop : ∀ (k i : Nat) (w2 : mp_W) (H : Heap) (locs : List Loc) (ls : Array Slot), i + k = n → mp_off [x, ba'] w w2 → pt_Y K w2 x ba' k4 bc' (out ++ List.replicate i (mk : Int)) → mp_I D cl_all (mp_A w s.heap.size) s.heap w2 H locs → lv_has ls 4 [(3, .int (nI i)), (0, .ref x), (1, .int (nI mk)), (2, .int (nI n))] →
        W p l e { frames := 2, cells := tx_c bc out.length [n], slots := tx_s bc out.length [n], locals := 80 } s m ([Value.ref x, .int (nI mk), .int (nI n)] : List Value).toArray below meth c H locs ce sl (MQ below (ct_Q D w s.heap.size (fun v w' => v = none ∧ ∃ ba', (ba' = ba ∨ w ba' = none) ∧ mp_off [x, ba'] w w' ∧ pt_Y K w' x ba' k4 (tx_b bc out.length [n]) (out ++ List.replicate n (mk : Int)))) ([Value.ref x, .int (nI mk), .int (nI n)] : List Value).toArray s (tx_c bc out.length [n]) (tx_s bc out.length [n]) (mp_A w s.heap.size)) (F0 m 36 ls []) := by
      intro k
      induction k with
      | zero =>
        intro i w2 H locs ls hik ho hp hI hl
        have : i = n := by omega
        subst this
        refine lv_iload_n hx hb dX_add_36 rfl (lv_at hl 0 rfl) ?_
        refine lv_iload_n hx hb dX_add_37 rfl (lv_at hl 3 rfl) ?_
        refine lv_icmp_ge (tgt := 68) hx hb dX_add_38 (by decide) (fun hq => ?_) (fun hq => ?_)
        · refine ct_vret hE hI hr hk ⟨rfl, ba', hba, ho, ?_⟩ hce hsl dX_add_68
          rw [show tx_b bc out.length [i] = bc' from hbc'.symm]
          exact hp
        · exact absurd (nI_le (Nat.le_refl _) (by omega)) hq
      | succ k ih =>
        intro i w2 H locs ls hik ho hp hI hl
        obtain ⟨g, hX, hA, hle, hh, hfit⟩ := hp
        have hlen : (out ++ List.replicate i (mk : Int)).length = out.length + i := by simp
        rw [hlen] at hX hle
        have hne : x ≠ ba' := fun e => by rw [e, hA] at hX; cases hX
        refine lv_iload_n hx hb dX_add_36 rfl (lv_at hl 0 rfl) ?_
        refine lv_iload_n hx hb dX_add_37 rfl (lv_at hl 3 rfl) ?_
        refine lv_icmp_ge (tgt := 68) hx hb dX_add_38 (by decide) (fun hq => ?_) (fun hq => ?_)
        · exact absurd ((nI_leI (by omega) (by omega)).mp hq) (by omega)
        · skip
          refine lv_aload_n hx hb dX_add_41 rfl (lv_at hl 1 rfl) ?_
          refine mp_get hE.1 hI hX rfl gx_X 0 (by decide) (List.mem_cons_of_mem _ gf_X9) rfl dX_add_42 ?_
          refine lv_aload_n hx hb dX_add_45 rfl (lv_at hl 1 rfl) ?_
          refine mp_get hE.1 hI hX rfl gx_X 1 (by decide) (List.mem_cons_of_mem _ gf_X15) rfl dX_add_46 ?_
          refine lv_iload_n hx hb dX_add_49 rfl (lv_at hl 2 rfl) ?_
          refine lv_i2b hx hb dX_add_50 rfl ?_
          rw [(nI_b mk hm).1.1]
          refine mp_bst hE.1 hI hA 1 rfl (vp_in_nI (by omega) (by omega)) dX_add_51 (fun H locs hI => ?_)
          rw [nI_clamp (by omega), (nI_b mk hm).1.2] at hI
          have hX1 : mp_up w2 ba' (ob_Y K bc' (upd g (out.length + i) (nI mk))) x = some (.inr (1, [.ref ba', .int (nI (out.length + i)), .ref k4])) := by rw [mp_up_ne _ _ hne]; exact hX
          refine lv_aload_n hx hb dX_add_52 rfl (lv_at hl 1 rfl) ?_
          refine lv_dup hx hb dX_add_53 rfl ?_
          refine mp_get hE.1 hI hX1 rfl gx_X 1 (by decide) (List.mem_cons_of_mem _ gf_X15) rfl dX_add_54 ?_
          refine lv_iconst (v := 1) hx hb dX_add_57 (by decide) ?_
          refine lv_iadd hx hb dX_add_58 ?_
          rw [nI_1]
          refine mp_put hE.1 hI hX1 rfl gx_X ty_X to_X tn_X 1 (by decide) (List.mem_cons_of_mem _ gf_X15) rfl rfl rfl (Nat.le_of_ble_eq_true rfl) dX_add_59 (fun H locs hI => ?_)
          obtain ⟨w3, hw3⟩ : ∃ z, mp_up (mp_up w2 ba' (ob_Y K bc' (upd g (out.length + i) (nI mk)))) x (.inr (1, [.ref ba', .int (nI (out.length + i + 1)), .ref k4])) = z := ⟨_, rfl⟩
          have hI : mp_I D cl_all (mp_A w s.heap.size) s.heap w3 H locs := by rw [← hw3]; exact hI
          refine lv_iinc (k := 0) (v := nI (i + 1)) hx hb dX_add_62 hl rfl (nI_1 i) (by decide) rfl (fun ls hl => ?_)
          refine lv_goto (tgt := 36) hx hb dX_add_65 (by decide) ?_
          refine ih (i + 1) w3 H locs ls (by omega) (by rw [← hw3]; exact (ho.up (by simp) _).up (by simp) _) ⟨upd g (out.length + i) (nI mk), ?_, ?_, ?_, ?_, ?_⟩ hI hl
          · rw [← hw3, mp_up_self, show (out ++ List.replicate (i + 1) (mk : Int)).length = out.length + i + 1 by simp; omega]
          · rw [← hw3, mp_up_ne _ _ (Ne.symm hne)]
            exact mp_up_self ..
          · simp; omega
          · have := pt_h_app (x := (mk : Int)) hh
            rw [hlen, ci_nat] at this
            rw [List.replicate_succ', ← List.append_assoc]
            exact this
          · intro j
            unfold upd
            split
            · exact (nI_b mk hm).2
            · exact hfit j
    refine lv_iconst (v := nI 0) hx hb dX_add_34 (by decide) ?_
    refine lv_istore_n hx hb dX_add_35 rfl hl (by decide) rfl (fun ls hl => ?_)
    exact loop n 0 w1 H locs ls (by omega) ho (by simpa using hp) hI hl
  have hne : x ≠ ba := fun e => by rw [e, hA] at hX; cases hX
  refine lv_iload_n hx hb dX_add_0 rfl (lv_at hl 2 rfl) ?_
  refine lv_aload_n hx hb dX_add_1 rfl (lv_at hl 0 rfl) ?_
  refine mp_get hE.1 hI hX rfl gx_X 0 (by decide) (List.mem_cons_of_mem _ gf_X9) rfl dX_add_2 ?_
  refine mp_len (v := nI bc) hE.1 hI hA 1 rfl rfl dX_add_5 ?_
  refine lv_aload_n hx hb dX_add_6 rfl (lv_at hl 0 rfl) ?_
  refine mp_get hE.1 hI hX rfl gx_X 1 (by decide) (List.mem_cons_of_mem _ gf_X15) rfl dX_add_7 ?_
  refine lv_isub hx hb dX_add_10 ?_
  rw [pk_sub hle]
  refine lv_icmp_le (tgt := 34) hx hb dX_add_11 (by decide) (fun hq => ?_) (fun hq => ?_)
  · have hq : n ≤ bc - out.length := (nI_leI (by omega) (by omega)).mp hq
    exact tail ba bc w _ _ ls 0 0 (by unfold tx_bc; rw [if_neg (by omega)]) (Nat.zero_le _) (Nat.zero_le _) (Or.inl rfl) (mp_off.rf _ _) ⟨g, hX, hA, hle, hh, hfit⟩ hq (by omega) hI hl
  · have hq : bc - out.length < n := Nat.lt_of_not_le (fun h => hq (nI_le h (by omega)))
    have hc1 : tx_c bc out.length [n] = 1 := by show (if bc - out.length < n then 1 else 0) + 0 = 1; rw [if_pos hq]
    have hs1 : tx_s bc out.length [n] = 2 * bc + n := by show (if bc - out.length < n then 2 * bc + n else 0) + 0 = _; rw [if_pos hq, Nat.add_zero]
    refine lv_aload_n hx hb dX_add_14 rfl (lv_at hl 0 rfl) ?_
    refine lv_aload_n hx hb dX_add_15 rfl (lv_at hl 0 rfl) ?_
    refine mp_get hE.1 hI hX rfl gx_X 0 (by decide) (List.mem_cons_of_mem _ gf_X9) rfl dX_add_16 ?_
    refine lv_iconst (v := nI 2) hx hb dX_add_19 (by decide) ?_
    refine lv_aload_n hx hb dX_add_20 rfl (lv_at hl 0 rfl) ?_
    refine mp_get hE.1 hI hX rfl gx_X 0 (by decide) (List.mem_cons_of_mem _ gf_X9) rfl dX_add_21 ?_
    refine mp_len (v := nI bc) hE.1 hI hA 1 rfl rfl dX_add_24 ?_
    refine lv_imul hx hb dX_add_25 ?_
    refine lv_iload_n hx hb dX_add_26 rfl (lv_at hl 2 rfl) ?_
    refine lv_iadd hx hb dX_add_27 ?_
    rw [pk_mul, show ∀ a b : Nat, nI a + nI b = nI (a + b) from fun a b => (Int32.ofNat_add a b).symm]
    refine ct_St (n := 2) hE hI (kJ_copyOf (N := 2 * bc + n) hA hfit (by omega) (by omega)) gm_X54 gt_J_copyOf gz_Ja gc_J_copyOf (by decide +kernel) ⟨Nat.le_of_ble_eq_true rfl, Nat.le_of_ble_eq_true rfl⟩ rfl hl.1 rfl (Nat.le_of_ble_eq_true rfl) dX_add_28 ⟨by rw [hc1]; exact Nat.le_refl _, by rw [hs1]; show 0 + (2 * bc + n) ≤ 2 * bc + n; omega⟩ (fun v w1 H locs hq hI => ?_)
    obtain ⟨q, rfl, hq0, hoq, hqq⟩ := hq
    show W _ _ _ _ _ _ _ _ _ _ _ _ _ _ _ (F0 _ _ _ [.ref _, .ref _])
    have hxq : x ≠ q := fun e => by rw [e, hq0] at hX; cases hX
    have hX1 : w1 x = some (.inr (1, [.ref ba, .int (nI out.length), .ref k4])) := by rw [hoq x (by simp; exact hxq)]; exact hX
    refine mp_put hE.1 hI hX1 rfl gx_X ty_X to_X tn_X 0 (by decide) (List.mem_cons_of_mem _ gf_X9) rfl rfl rfl (Nat.le_of_ble_eq_true rfl) dX_add_31 (fun H locs hI => ?_)
    obtain ⟨w3, hw3⟩ : ∃ z, mp_up w1 x (.inr (1, [.ref q, .int (nI out.length), .ref k4])) = z := ⟨_, rfl⟩
    have hI : mp_I D cl_all (mp_A w s.heap.size) s.heap w3 H locs := by rw [← hw3]; exact hI
    refine tail q (2 * bc + n) w3 H locs ls _ _ (by unfold tx_bc; rw [if_pos (by omega)]) (by rw [hc1]; exact Nat.le_refl _) (by rw [hs1]; omega) (Or.inr hq0) (by rw [← hw3]; exact (hoq.mono (by simp)).up (by simp) _) ⟨_, by rw [← hw3]; exact mp_up_self .., by rw [← hw3, mp_up_ne _ _ (Ne.symm hxq)]; exact hqq, by omega, ?_, ?_⟩ (by omega) (by omega) hI hl
    · intro i y hy
      have hi := (List.getElem?_eq_some_iff.mp hy).1
      unfold va_cpy
      rw [if_pos (by omega)]
      simpa using hh i y hy
    · intro i
      unfold va_cpy
      split
      · exact hfit _
      · rfl
end KX1
