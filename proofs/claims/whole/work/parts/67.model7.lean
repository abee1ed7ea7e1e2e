/-! the reference: written, places -/
theorem dc_1 : ∀ c, c < 100 → 48 + nI c / 10 = nI (48 + c / 10) := by decide +kernel
theorem dc_2 : ∀ c, c < 100 → 48 + (nI c - nI c / 10 * 10) = nI (48 + c % 10) := by decide +kernel
def ope (g : Nat → Int32) (E : List Nat) : Prop := ∀ (i : Nat) (v : Nat), E.reverse[i]? = some v → g i = nI v
theorem ope_at {g : Nat → Int32} {E : List Nat} (h : ope g E) {i v : Nat} (hv : E[i]? = some v) : g (E.length - 1 - i) = nI v := by
  have hi := (List.getElem?_eq_some_iff.mp hv).1
  refine h _ v ?_
  rw [List.getElem?_reverse (by omega), show E.length - 1 - (E.length - 1 - i) = i by omega]
  exact hv
theorem ope_tail {g : Nat → Int32} {j : Nat} {E : List Nat} (h : ope g (j :: E)) : ope g E := by
  intro i v hv
  refine h i v ?_
  have hlt := (List.getElem?_eq_some_iff.mp hv).1
  rw [List.reverse_cons, List.getElem?_append_left hlt]
  exact hv
theorem ope_put {g : Nat → Int32} {j : Nat} {E : List Nat} (h : ope g E) : ope (upd g E.length (nI j)) (j :: E) := by
  intro i v hv
  rw [List.reverse_cons] at hv
  unfold upd
  by_cases hi : i < E.reverse.length
  · rw [List.getElem?_append_left hi] at hv
    rw [List.length_reverse] at hi
    rw [if_neg (by omega)]
    exact h i v hv
  · have hlt := (List.getElem?_eq_some_iff.mp hv).1
    simp at hlt hi
    have : i = E.length := by omega
    subst this
    rw [List.getElem?_append_right (by simp)] at hv
    simp at hv
    rw [if_pos rfl, hv]
section KM7
variable {l : Launch} {n0 : Nat} {D : va_G} {K : Nat → ClassId} {h : Nat → Nat}
abbrev po_w (K : Nat → ClassId) (h : Nat → Nat) (w : mp_W) (I : mI) (A : mA) (t : Std.Format) (E : List Nat) (pz : Nat) (O : List Int) : Option Value → mp_W → Prop := fun v w' => v = some (.int (nI (pz + tm_sz t))) ∧ ∃ I' A', mo K h w w' I' A' ∧ ou I' A' (O ++ tm_tx t E) ∧ eqI [4] I I' ∧ eqA [6, 7] A A' ∧ ope (A' 7) E
set_option maxRecDepth 100000 in
set_option maxHeartbeats 4000000 in
theorem kM_written {k : Nat} (hk16 : k < 16) (t : Std.Format) : ∀ (E : List Nat) (pz : Nat) (L r O : List Int) (w : mp_W) (I : mI) (A : mA), tm_sc t E → mv K w h I A → pt_h (A (9 + k)) L → L.length ≤ 2000 → L.drop pz = tm_row t ++ r → ope (A 7) E → E.length + tm_dp t ≤ 2000 → (∀ v ∈ E, v < 8000) → (∀ j ∈ tm_fn t, j < 8000) → ou I A O → O.length + (tm_tx t E).length ≤ 310000 →
    ct_M l n0 D K yM_written (Cond.code yM_written cM_written 7 (some .int)) (tm_dp t) (30 * tm_dp t) 0 0 [.ref (h 0), .int (nI k), .int (nI pz), .int (nI E.length)] w (po_w K h w I A t E pz O) := by
  induction t using tm_ind with
  | hl t hlf =>
    intro E pz L r O w I A hsc hv hL hLl hd hop hdE hE8 hfn ho hO
    have h0 := hv.2.1
    have hG := hv.2.2.1
    have hAr := hv.row (k := 9 + k) (by omega) (by omega) (by omega)
    rw [ml_r] at hAr
    rw [tm_sc_leaf hlf] at hsc
    rw [tm_row_leaf hlf] at hd
    have hsz := tm_sz_leaf hlf
    have hdp0 := tm_dp_leaf hlf
    have htx := tm_tx_leaf hlf E
    obtain ⟨x, hx0⟩ : ∃ x, tm_val t = x := ⟨_, rfl⟩
    rw [hx0] at hsc hd htx
    have hd : L.drop pz = x :: r := hd
    obtain ⟨-, -, hpL, e1⟩ := set_split (z := 0) hd
    have hxb : -8001 ≤ x ∧ x ≤ 99 := by
      rcases hsc with hh | ⟨hh, hm⟩
      · omega
      · have := hE8 _ hm
        omega
    have hEl : E.length ≤ 2000 := by omega
    rw [hdp0]
    refine ct_go (own := nm_M) (by decide) rfl (Nat.le_of_ble_eq_true rfl) ?_
    intro p e s m below meth c ls hE hI hr hk hn hl
    have hx := hE.1.1.1
    have hb := hE.1.1.2.1
    have hl : lv_has ls 7 [(0, .ref (h 0)), (1, .int (nI k)), (2, .int (nI pz)), (3, .int (nI E.length))] := hl
    have fin : ∀ (w1 : mp_W) (I1 : mI) (A1 : mA) (H : Heap) (locs : List Loc) (ls : Array Slot) (nx : List (Nat × Value)), mo K h w w1 I1 A1 → ou I1 A1 (O ++ tm_tx t E) → eqI [4] I I1 → eqA [6] A A1 → mp_I D cl_all (mp_A w s.heap.size) s.heap w1 H locs → lv_has ls 7 [(2, .int (nI pz))] →
        W p l e { frames := 1, cells := 0, slots := 0, locals := 30 * 1 } s m ([Value.ref (h 0), .int (nI k), .int (nI pz), .int (nI E.length)] : List Value).toArray below meth c H locs 0 0 (MQ below (ct_Q D w s.heap.size (po_w K h w I A t E pz O)) ([Value.ref (h 0), .int (nI k), .int (nI pz), .int (nI E.length)] : List Value).toArray s 0 0 (mp_A w s.heap.size)) (F0 m 174 ls []) := by
      intro w1 I1 A1 H locs ls nx hv1 ho1 ei ea hI hl
      refine lv_iload_n hx hb dM_written_174 rfl (lv_at hl 0 rfl) ?_
      refine lv_iconst (v := nI 1) hx hb dM_written_175 (by decide) ?_
      refine lv_iadd hx hb dM_written_176 ?_
      rw [show nI pz + nI 1 = nI (pz + 1) from (Int32.ofNat_add _ _).symm]
      refine ct_iret hE hI hr hk ⟨by rw [hsz], I1, A1, hv1, ho1, ei, ea.mono (by simp), ?_⟩ (by decide) (by decide) dM_written_177
      rw [ea 7 (by decide)]
      exact hop
    refine lv_aload_n hx hb dM_written_0 rfl (lv_at hl 0 rfl) ?_
    refine mp_get hE.1 hI h0 rfl gx_M 1 (by decide) (List.mem_cons_of_mem _ gf_M15) rfl dM_written_1 ?_
    refine lv_iload_n hx hb dM_written_4 rfl (lv_at hl 1 rfl) ?_
    refine mp_aldA hE.1 hI hG 4 rfl (vp_in_nI (by omega) (by omega)) dM_written_5 ?_
    rw [nI_clamp (by omega)]
    show W _ _ _ _ _ _ _ _ _ _ _ _ _ _ _ (F0 _ _ _ [.ref (h (9 + k))])
    refine lv_iload_n hx hb dM_written_6 rfl (lv_at hl 2 rfl) ?_
    refine mp_ild hE.1 hI hAr 0 rfl (vp_in_nI (by omega) (by omega)) dM_written_7 ?_
    rw [nI_clamp (by omega), hL pz x e1]
    refine lv_istore hx hb dM_written_8 hl (by decide) rfl (fun ls hl => ?_)
    refine lv_iload hx hb dM_written_10 (lv_at hl 0 rfl) ?_
    refine lv_sipush (v := ci_i 1000) hx hb dM_written_12 (by decide) ?_
    refine lv_icmp_ne (tgt := 60) hx hb dM_written_15 (by decide) (fun hq => ?_) (fun hq => ?_)
    · skip
      refine lv_iload hx hb dM_written_60 (lv_at hl 0 rfl) ?_
      refine lv_sipush (v := ci_i 2000) hx hb dM_written_62 (by decide) ?_
      refine lv_icmp_lt (tgt := 98) hx hb dM_written_65 (by decide) (fun hq2 => ?_) (fun hq2 => ?_)
      · skip
        refine lv_iload hx hb dM_written_98 (lv_at hl 0 rfl) ?_
        refine lv_if_lt (tgt := 137) hx hb dM_written_100 (by decide) (fun hq3 => ?_) (fun hq3 => ?_)
        · rw [ci_0, ci_lt (by omega) (by omega)] at hq3
          have hvm : (-1 - x).toNat ∈ E := by
            rcases hsc with hh | ⟨hh, hm⟩
            · omega
            · exact hm
          obtain ⟨v, hvv⟩ : ∃ v, (-1 - x).toNat = v := ⟨_, rfl⟩
          rw [hvv] at hvm htx
          rw [if_neg (by omega)] at htx
          have hvx : ci_i (-1) - ci_i x = nI v := by rw [ci_sub, ← ci_nat]; congr 1; omega
          have hv8 := hE8 v hvm
          have loop : ∀ (E2 E1 : List Nat) (w1 : mp_W) (I1 : mI) (A1 : mA) (H : Heap) (locs : List Loc) (ls : Array Slot), E = E1 ++ E2 → v ∉ E1 → v ∈ E2 → mo K h w w1 I1 A1 → ou I1 A1 (O ++ List.replicate E1.length 39) → eqI [4] I I1 → eqA [6] A A1 → mp_I D cl_all (mp_A w s.heap.size) s.heap w1 H locs → lv_has ls 7 [(5, .int (nI (E2.length - 1))), (4, .int (ci_i x)), (0, .ref (h 0)), (1, .int (nI k)), (2, .int (nI pz)), (3, .int (nI E.length))] →
              W p l e { frames := 1, cells := 0, slots := 0, locals := 30 * 1 } s m ([Value.ref (h 0), .int (nI k), .int (nI pz), .int (nI E.length)] : List Value).toArray below meth c H locs 0 0 (MQ below (ct_Q D w s.heap.size (po_w K h w I A t E pz O)) ([Value.ref (h 0), .int (nI k), .int (nI pz), .int (nI E.length)] : List Value).toArray s 0 0 (mp_A w s.heap.size)) (F0 m 142 ls []) := by
            intro E2
            induction E2 with
            | nil => intro E1 w1 I1 A1 H locs ls hEE hn1 hn2; cases hn2
            | cons y E2 ih =>
              intro E1 w1 I1 A1 H locs ls hEE hn1 hn2 hv1 ho1 ei ea hI hl
              have hlen : E.length = E1.length + (E2.length + 1) := by rw [hEE, List.length_append, List.length_cons]
              have hyE : E[E1.length]? = some y := by rw [hEE, List.getElem?_append_right (Nat.le_refl _)]; simp
              have hy8 := hE8 y (List.mem_of_getElem? hyE)
              have h01 := hv1.1.2.1
              have hA7 : w1 (h 7) = some (ob_I K 2002 (A1 7)) := hv1.1.2.2.2 7 (by decide) (by decide)
              have hop1 : A1 7 E2.length = nI y := by
                rw [ea 7 (by decide)]
                have := ope_at hop hyE
                rw [show E.length - 1 - E1.length = E2.length by omega] at this
                exact this
              have hixb : E1.length + tm_ix v (y :: E2) + 1 = tm_ix v E + 1 := by rw [hEE, tm_ix_right hn1]
              have htl : (tm_tx t E).length = tm_ix v E + 1 := by rw [htx, List.length_replicate]
              rw [show (y :: E2).length - 1 = E2.length from rfl] at hl
              refine lv_aload_n hx hb dM_written_142 rfl (lv_at hl 2 rfl) ?_
              refine mp_get hE.1 hI h01 rfl gx_M 11 (by decide) (List.mem_cons_of_mem _ gf_M49) rfl dM_written_143 ?_
              refine lv_iload hx hb dM_written_146 (lv_at hl 0 rfl) ?_
              refine mp_ild hE.1 hI hA7 0 rfl (vp_in_nI (by omega) (by omega)) dM_written_148 ?_
              rw [nI_clamp (by omega), hop1]
              refine lv_iconst (v := ci_i (-1)) hx hb dM_written_149 (by decide) ?_
              refine lv_iload hx hb dM_written_150 (lv_at hl 1 rfl) ?_
              refine lv_isub hx hb dM_written_152 ?_
              rw [hvx]
              refine lv_icmp_eq (tgt := 168) hx hb dM_written_153 (by decide) (fun hq4 => ?_) (fun hq4 => ?_)
              · have hyv : y = v := by
                  have := congrArg Int32.toNatClampNeg hq4
                  rw [nI_clamp (by omega), nI_clamp (by omega)] at this
                  exact this
                have hix0 : tm_ix v (y :: E2) = 0 := by show (if y = v then 0 else _) = 0; rw [if_pos hyv]
                refine lv_aload_n hx hb dM_written_168 rfl (lv_at hl 2 rfl) ?_
                refine lv_bipush (v := nI 39) hx hb dM_written_169 (by decide) ?_
                refine ct_V (n := 1) hE hI (kM_say (z := 39) hv1.1 ho1 (by rw [List.length_append, List.length_replicate]; omega) (by decide)) h01 rfl gm_M147 gi_M_say gs_M_M_say gz_M gc_M_say (by decide +kernel) ⟨Nat.le_of_ble_eq_true rfl, Nat.le_of_ble_eq_true rfl⟩ rfl hl.1 rfl (Nat.le_of_ble_eq_true rfl) dM_written_171 ⟨Nat.le_of_ble_eq_true rfl, Nat.le_of_ble_eq_true rfl⟩ (fun v w2 H locs hq hI => ?_)
                obtain ⟨rfl, I2, A2, hv2, ho2, ei2, ea2⟩ := hq
                show W _ _ _ _ _ _ _ _ _ _ _ _ _ _ _ (F0 _ _ _ [])
                refine fin w2 I2 A2 H locs ls [] ⟨hv2.1, hv1.2.tr hv2.2⟩ ?_ (ei.tr ei2) (ea.tr ea2) hI (lv_sub hl [4] rfl)
                rw [htx, show tm_ix v E + 1 = E1.length + 1 by omega, List.replicate_succ', ← List.append_assoc]
                exact ho2
              · have hyv : ¬ y = v := fun e => hq4 (by rw [e])
                have hix1 : tm_ix v (y :: E2) = tm_ix v E2 + 1 := by show (if y = v then 0 else _) = _; rw [if_neg hyv]
                have hn2' : v ∈ E2 := (List.mem_cons.mp hn2).resolve_left (fun e => hyv e.symm)
                have hE2 : 1 ≤ E2.length := by
                  cases E2 with
                  | nil => cases hn2'
                  | cons _ _ => simp
                refine lv_aload_n hx hb dM_written_156 rfl (lv_at hl 2 rfl) ?_
                refine lv_bipush (v := nI 39) hx hb dM_written_157 (by decide) ?_
                refine ct_V (n := 1) hE hI (kM_say (z := 39) hv1.1 ho1 (by rw [List.length_append, List.length_replicate]; omega) (by decide)) h01 rfl gm_M147 gi_M_say gs_M_M_say gz_M gc_M_say (by decide +kernel) ⟨Nat.le_of_ble_eq_true rfl, Nat.le_of_ble_eq_true rfl⟩ rfl hl.1 rfl (Nat.le_of_ble_eq_true rfl) dM_written_159 ⟨Nat.le_of_ble_eq_true rfl, Nat.le_of_ble_eq_true rfl⟩ (fun v w2 H locs hq hI => ?_)
                obtain ⟨rfl, I2, A2, hv2, ho2, ei2, ea2⟩ := hq
                show W _ _ _ _ _ _ _ _ _ _ _ _ _ _ _ (F0 _ _ _ [])
                refine lv_iinc (k := 0) (v := nI (E2.length - 1)) hx hb dM_written_162 hl rfl (by rw [← ci_nat, ← ci_nat, show Int32.ofInt (-1) = ci_i (-1) from rfl, ci_add]; congr 1; omega) (by decide) rfl (fun ls hl => ?_)
                refine lv_goto (tgt := 142) hx hb dM_written_165 (by decide) ?_
                refine ih (E1 ++ [y]) w2 I2 A2 H locs ls (by rw [hEE]; simp) (by simp; exact ⟨hn1, fun e => hyv e.symm⟩) hn2' ⟨hv2.1, hv1.2.tr hv2.2⟩ ?_ (ei.tr ei2) (ea.tr ea2) hI hl
                rw [List.length_append, List.length_singleton, List.replicate_succ', ← List.append_assoc]
                exact ho2
          have hE1 : 1 ≤ E.length := by
            cases E with
            | nil => cases hvm
            | cons _ _ => simp
          refine lv_iload_n hx hb dM_written_137 rfl (lv_at hl 4 rfl) ?_
          refine lv_iconst (v := nI 1) hx hb dM_written_138 (by decide) ?_
          refine lv_isub hx hb dM_written_139 ?_
          rw [pk_sub hE1]
          refine lv_istore hx hb dM_written_140 hl (by decide) rfl (fun ls hl => ?_)
          exact loop E [] w I A _ _ ls rfl (by simp) hvm ⟨hv, fm.rf _ _⟩ (by simpa using ho) (eqI.rf _ _) (eqA.rf _ _) hI hl
        · rw [ci_0, ci_lt (by omega) (by omega)] at hq3
          rw [if_pos (by omega)] at htx
          obtain ⟨cc, hcc⟩ : ∃ cc : Nat, x = (cc : Int) := ⟨x.toNat, by omega⟩
          have hc : cc < 100 := by omega
          have hcv : ci_i x = nI cc := by rw [hcc, ci_nat]
          rw [hcv] at hl
          have tdl : (tm_tx t E).length = (if 10 ≤ x then 1 else 0) + 1 := by
            rw [htx]
            unfold tm_dg
            split <;> simp
          have last : ∀ (w1 : mp_W) (I1 : mI) (A1 : mA) (O1 : List Int) (H : Heap) (locs : List Loc) (ls : Array Slot), mo K h w w1 I1 A1 → ou I1 A1 O1 → O1 ++ [48 + x % 10] = O ++ tm_tx t E → O1.length < 310000 → eqI [4] I I1 → eqA [6] A A1 → mp_I D cl_all (mp_A w s.heap.size) s.heap w1 H locs → lv_has ls 7 [(4, .int (nI cc)), (0, .ref (h 0)), (1, .int (nI k)), (2, .int (nI pz)), (3, .int (nI E.length))] →
              W p l e { frames := 1, cells := 0, slots := 0, locals := 30 * 1 } s m ([Value.ref (h 0), .int (nI k), .int (nI pz), .int (nI E.length)] : List Value).toArray below meth c H locs 0 0 (MQ below (ct_Q D w s.heap.size (po_w K h w I A t E pz O)) ([Value.ref (h 0), .int (nI k), .int (nI pz), .int (nI E.length)] : List Value).toArray s 0 0 (mp_A w s.heap.size)) (F0 m 122 ls []) := by
            intro w1 I1 A1 O1 H locs ls hv1 ho1 eo hO1 ei ea hI hl
            have h01 := hv1.1.2.1
            refine lv_aload_n hx hb dM_written_122 rfl (lv_at hl 1 rfl) ?_
            refine lv_bipush (v := 48) hx hb dM_written_123 (by decide) ?_
            refine lv_iload hx hb dM_written_125 (lv_at hl 0 rfl) ?_
            refine lv_bipush (v := 10) hx hb dM_written_127 (by decide) ?_
            refine lv_irem hx hb dM_written_129 (by decide) ?_
            refine lv_iadd hx hb dM_written_130 ?_
            rw [dc_2 cc hc]
            refine ct_V (n := 1) hE hI (kM_say (z := 48 + cc % 10) hv1.1 ho1 hO1 (by omega)) h01 rfl gm_M147 gi_M_say gs_M_M_say gz_M gc_M_say (by decide +kernel) ⟨Nat.le_of_ble_eq_true rfl, Nat.le_of_ble_eq_true rfl⟩ rfl hl.1 rfl (Nat.le_of_ble_eq_true rfl) dM_written_131 ⟨Nat.le_of_ble_eq_true rfl, Nat.le_of_ble_eq_true rfl⟩ (fun v w2 H locs hq hI => ?_)
            obtain ⟨rfl, I2, A2, hv2, ho2, ei2, ea2⟩ := hq
            show W _ _ _ _ _ _ _ _ _ _ _ _ _ _ _ (F0 _ _ _ [])
            refine lv_goto (tgt := 174) hx hb dM_written_134 (by decide) ?_
            refine fin w2 I2 A2 H locs ls [] ⟨hv2.1, hv1.2.tr hv2.2⟩ ?_ (ei.tr ei2) (ea.tr ea2) hI (lv_sub hl [3] rfl)
            rw [← eo, show 48 + x % 10 = ((48 + cc % 10 : Nat) : Int) by omega]
            exact ho2
          refine lv_iload hx hb dM_written_103 (lv_at hl 0 rfl) ?_
          refine lv_bipush (v := nI 9) hx hb dM_written_105 (by decide) ?_
          refine lv_icmp_le (tgt := 122) hx hb dM_written_107 (by decide) (fun hq4 => ?_) (fun hq4 => ?_)
          · have hq4 : cc ≤ 9 := (nI_leI (by omega) (by omega)).mp hq4
            refine last w I A O _ _ ls ⟨hv, fm.rf _ _⟩ ho ?_ (by rw [tdl] at hO; split at hO <;> omega) (eqI.rf _ _) (eqA.rf _ _) hI hl
            rw [htx]
            unfold tm_dg
            rw [if_neg (by omega)]
            rfl
          · have hq4 : ¬ cc ≤ 9 := fun hh => hq4 (nI_le hh (by omega))
            rw [if_pos (by omega)] at tdl
            refine lv_aload_n hx hb dM_written_110 rfl (lv_at hl 1 rfl) ?_
            refine lv_bipush (v := 48) hx hb dM_written_111 (by decide) ?_
            refine lv_iload hx hb dM_written_113 (lv_at hl 0 rfl) ?_
            refine lv_bipush (v := 10) hx hb dM_written_115 (by decide) ?_
            refine lv_idiv hx hb dM_written_117 (by decide) ?_
            refine lv_iadd hx hb dM_written_118 ?_
            rw [dc_1 cc hc]
            refine ct_V (n := 1) hE hI (kM_say (z := 48 + cc / 10) hv ho (by omega) (by omega)) h0 rfl gm_M147 gi_M_say gs_M_M_say gz_M gc_M_say (by decide +kernel) ⟨Nat.le_of_ble_eq_true rfl, Nat.le_of_ble_eq_true rfl⟩ rfl hl.1 rfl (Nat.le_of_ble_eq_true rfl) dM_written_119 ⟨Nat.le_of_ble_eq_true rfl, Nat.le_of_ble_eq_true rfl⟩ (fun v w2 H locs hq hI => ?_)
            obtain ⟨rfl, I2, A2, hv2, ho2, ei2, ea2⟩ := hq
            show W _ _ _ _ _ _ _ _ _ _ _ _ _ _ _ (F0 _ _ _ [])
            refine last w2 I2 A2 _ H locs ls hv2 ho2 ?_ (by rw [List.length_append, List.length_singleton]; omega) ei2 ea2 hI hl
            rw [htx]
            unfold tm_dg
            rw [if_pos (by omega), show 48 + x / 10 = ((48 + cc / 10 : Nat) : Int) by omega]
            simp
      · rw [ci_lt (by omega) (by omega)] at hq2
        omega
    · rw [ci_eq (by omega) (by omega)] at hq
      omega
  | hf j a0 iha =>
    intro E pz L r O w I A hsc hv hL hLl hd hop hdE hE8 hfn ho hO
    have h0 := hv.2.1
    have hG := hv.2.2.1
    have hAr := hv.row (k := 9 + k) (by omega) (by omega) (by omega)
    rw [ml_r] at hAr
    have hsc : tm_sc a0 (j :: E) := hsc
    rw [tm_row_fun] at hd
    have hj : j < 8000 := hfn j (List.mem_cons_self ..)
    have hfn : ∀ v ∈ tm_fn a0, v < 8000 := fun v hv => hfn v (List.mem_cons_of_mem _ hv)
    obtain ⟨-, -, hpL, e1⟩ := set_split (z := 0) hd
    have hd2 : L.drop (pz + 1) = tm_row a0 ++ r := by
      rw [pt_drop e1] at hd
      exact (List.cons.inj hd).2
    have hdp := tm_dp_f j a0
    rw [hdp] at hdE
    rw [tm_tx_fun, List.length_cons] at hO
    have hdpp := tm_dp_pos a0
    rw [hdp]
    refine ct_go (own := nm_M) (by decide) rfl (Nat.le_of_ble_eq_true rfl) ?_
    intro p e s m below meth c ls hE hI hr hk hn hl
    have hx := hE.1.1.1
    have hb := hE.1.1.2.1
    have hl : lv_has ls 7 [(0, .ref (h 0)), (1, .int (nI k)), (2, .int (nI pz)), (3, .int (nI E.length))] := hl
    refine lv_aload_n hx hb dM_written_0 rfl (lv_at hl 0 rfl) ?_
    refine mp_get hE.1 hI h0 rfl gx_M 1 (by decide) (List.mem_cons_of_mem _ gf_M15) rfl dM_written_1 ?_
    refine lv_iload_n hx hb dM_written_4 rfl (lv_at hl 1 rfl) ?_
    refine mp_aldA hE.1 hI hG 4 rfl (vp_in_nI (by omega) (by omega)) dM_written_5 ?_
    rw [nI_clamp (by omega)]
    show W _ _ _ _ _ _ _ _ _ _ _ _ _ _ _ (F0 _ _ _ [.ref (h (9 + k))])
    refine lv_iload_n hx hb dM_written_6 rfl (lv_at hl 2 rfl) ?_
    refine mp_ild hE.1 hI hAr 0 rfl (vp_in_nI (by omega) (by omega)) dM_written_7 ?_
    rw [nI_clamp (by omega), hL pz _ e1]
    refine lv_istore hx hb dM_written_8 hl (by decide) rfl (fun ls hl => ?_)
    refine lv_iload hx hb dM_written_10 (lv_at hl 0 rfl) ?_
    refine lv_sipush (v := ci_i 1000) hx hb dM_written_12 (by decide) ?_
    refine lv_icmp_ne (tgt := 60) hx hb dM_written_15 (by decide) (fun hq => ?_) (fun hq => ?_)
    · skip
      refine lv_iload hx hb dM_written_60 (lv_at hl 0 rfl) ?_
      refine lv_sipush (v := ci_i 2000) hx hb dM_written_62 (by decide) ?_
      refine lv_icmp_lt (tgt := 98) hx hb dM_written_65 (by decide) (fun hq2 => ?_) (fun hq2 => ?_)
      · rw [ci_lt (by omega) (by omega)] at hq2
        omega
      · skip
        refine lv_aload_n hx hb dM_written_68 rfl (lv_at hl 1 rfl) ?_
        refine lv_bipush (v := nI 46) hx hb dM_written_69 (by decide) ?_
        refine ct_V (n := 1) hE hI (kM_say (z := 46) hv ho (by omega) (by decide)) h0 rfl gm_M147 gi_M_say gs_M_M_say gz_M gc_M_say (by decide +kernel) ⟨by show 0 + 1 ≤ 1 + tm_dp a0; omega, by show 8 + (2 + 11) + 0 ≤ 30 * (1 + tm_dp a0); omega⟩ rfl hl.1 rfl (Nat.le_of_ble_eq_true rfl) dM_written_71 ⟨Nat.le_refl _, Nat.le_refl _⟩ (fun v w1 H locs hq hI => ?_)
        obtain ⟨rfl, I1, A1, hv1, ho1, ei1, ea1⟩ := hq
        show W _ _ _ _ _ _ _ _ _ _ _ _ _ _ _ (F0 _ _ _ [])
        have h01 := hv1.1.2.1
        have hA7 : w1 (h 7) = some (ob_I K 2002 (A1 7)) := hv1.1.2.2.2 7 (by decide) (by decide)
        refine lv_aload_n hx hb dM_written_74 rfl (lv_at hl 1 rfl) ?_
        refine mp_get hE.1 hI h01 rfl gx_M 11 (by decide) (List.mem_cons_of_mem _ gf_M49) rfl dM_written_75 ?_
        refine lv_iload_n hx hb dM_written_78 rfl (lv_at hl 4 rfl) ?_
        refine lv_iload hx hb dM_written_79 (lv_at hl 0 rfl) ?_
        refine lv_sipush (v := ci_i 2000) hx hb dM_written_81 (by decide) ?_
        refine lv_isub hx hb dM_written_84 ?_
        rw [show ci_i (2000 + (j : Int)) - ci_i 2000 = nI j by rw [ci_sub, ← ci_nat]; congr 1; omega]
        refine mp_ist hE.1 hI hA7 0 rfl (vp_in_nI (by omega) (by omega)) dM_written_85 (fun H locs hI => ?_)
        rw [nI_clamp (by omega)] at hI
        have hv2 := hv1.1.upA (k := 7) (by decide) (by decide) (upd (A1 7) E.length (nI j))
        obtain ⟨w2, hw2⟩ : ∃ z, mp_up w1 (h 7) (ob_A K 7 (upd (A1 7) E.length (nI j))) = z := ⟨_, rfl⟩
        rw [hw2] at hv2
        have hI : mp_I D cl_all (mp_A w s.heap.size) s.heap w2 H locs := by rw [← hw2]; exact hI
        have hf2 : fm h w w2 := by rw [← hw2]; exact hv1.2.up (by decide) _
        have h02 := hv2.2.1
        have hop2 : ope (au A1 7 (upd (A1 7) E.length (nI j)) 7) (j :: E) := by
          rw [au_self, ea1 7 (by decide)]
          exact ope_put hop
        have hL2 : pt_h (au A1 7 (upd (A1 7) E.length (nI j)) (9 + k)) L := by
          rw [au_ne (by omega), ea1 (9 + k) (by simp; omega)]
          exact hL
        have ho2 : ou I1 (au A1 7 (upd (A1 7) E.length (nI j))) (O ++ [46]) := ⟨ho1.1, by rw [au_ne (by decide)]; exact ho1.2.1, ho1.2.2⟩
        refine lv_aload_n hx hb dM_written_86 rfl (lv_at hl 1 rfl) ?_
        refine lv_iload_n hx hb dM_written_87 rfl (lv_at hl 2 rfl) ?_
        refine lv_iload_n hx hb dM_written_88 rfl (lv_at hl 3 rfl) ?_
        refine lv_iconst (v := nI 1) hx hb dM_written_89 (by decide) ?_
        refine lv_iadd hx hb dM_written_90 ?_
        refine lv_iload_n hx hb dM_written_91 rfl (lv_at hl 4 rfl) ?_
        refine lv_iconst (v := nI 1) hx hb dM_written_92 (by decide) ?_
        refine lv_iadd hx hb dM_written_93 ?_
        rw [show nI pz + nI 1 = nI (pz + 1) from (Int32.ofNat_add _ _).symm, show nI E.length + nI 1 = nI (E.length + 1) from (Int32.ofNat_add _ _).symm]
        refine ct_V (n := 3) hE hI (iha (j :: E) (pz + 1) L r (O ++ [46]) w2 I1 _ hsc hv2 hL2 hLl hd2 hop2 (by rw [List.length_cons]; omega) (fun v hv => (List.mem_cons.mp hv).elim (fun e => by rw [e]; exact hj) (hE8 v)) hfn ho2 (by rw [List.length_append, List.length_singleton]; omega)) h02 rfl gm_M150 gi_M_written gs_M_M_written gz_M gc_M_written (by decide +kernel) ⟨by show tm_dp a0 + 1 ≤ 1 + tm_dp a0; omega, by show 8 + (7 + 11) + 30 * tm_dp a0 ≤ 30 * (1 + tm_dp a0); omega⟩ rfl hl.1 rfl (Nat.le_of_ble_eq_true rfl) dM_written_94 ⟨Nat.le_refl _, Nat.le_refl _⟩ (fun v w3 H locs hq hI => ?_)
        obtain ⟨rfl, I3, A3, hv3, ho3, ei3, ea3, hop3⟩ := hq
        show W _ _ _ _ _ _ _ _ _ _ _ _ _ _ _ (F0 _ _ _ [.int _])
        refine ct_iret hE hI hr hk ⟨?_, I3, A3, ⟨hv3.1, hf2.tr hv3.2⟩, ?_, ei1.tr ei3, ?_, ope_tail hop3⟩ (by decide) (by decide) dM_written_97
        · rw [show pz + 1 + tm_sz a0 = pz + tm_sz (.tag j a0) by show _ = pz + (1 + tm_sz a0); omega]
        · rw [tm_tx_fun]
          rw [List.append_assoc] at ho3
          exact ho3
        · exact ((ea1.mono (by simp)).up (j := 7) (by simp) _).tr ea3
    · rw [ci_eq (by omega) (by omega)] at hq
      omega
  | ha a0 b0 iha ihb =>
    intro E pz L r O w I A hsc hv hL hLl hd hop hdE hE8 hfn ho hO
    have h0 := hv.2.1
    have hG := hv.2.2.1
    have hAr := hv.row (k := 9 + k) (by omega) (by omega) (by omega)
    rw [ml_r] at hAr
    have hfa : ∀ v ∈ tm_fn a0, v < 8000 := fun v hv => hfn v (List.mem_append_left _ hv)
    have hfb : ∀ v ∈ tm_fn b0, v < 8000 := fun v hv => hfn v (List.mem_append_right _ hv)
    rw [tm_row_app] at hd
    obtain ⟨-, -, hpL, e1⟩ := set_split (z := 0) hd
    have hdp := tm_dp_a a0 b0
    have hd2 : L.drop (pz + 1) = tm_row a0 ++ (tm_row b0 ++ r) := by
      rw [pt_drop e1] at hd
      rw [(List.cons.inj hd).2]
      exact List.append_assoc ..
    have hd3 : L.drop (pz + 1 + tm_sz a0) = tm_row b0 ++ r := by rw [← List.drop_drop, hd2, ← tm_row_len a0, List.drop_left]
    rw [hdp] at hdE
    have htl : (tm_tx (.append a0 b0) E).length = (tm_tx a0 E).length + (tm_tx b0 E).length + 3 := by
      rw [tm_tx_app]
      simp only [List.length_cons, List.length_append, List.length_nil]
      omega
    rw [htl] at hO
    rw [hdp]
    refine ct_go (own := nm_M) (by decide) rfl (Nat.le_of_ble_eq_true rfl) ?_
    intro p e s m below meth c ls hE hI hr hk hn hl
    have hx := hE.1.1.1
    have hb := hE.1.1.2.1
    have hl : lv_has ls 7 [(0, .ref (h 0)), (1, .int (nI k)), (2, .int (nI pz)), (3, .int (nI E.length))] := hl
    refine lv_aload_n hx hb dM_written_0 rfl (lv_at hl 0 rfl) ?_
    refine mp_get hE.1 hI h0 rfl gx_M 1 (by decide) (List.mem_cons_of_mem _ gf_M15) rfl dM_written_1 ?_
    refine lv_iload_n hx hb dM_written_4 rfl (lv_at hl 1 rfl) ?_
    refine mp_aldA hE.1 hI hG 4 rfl (vp_in_nI (by omega) (by omega)) dM_written_5 ?_
    rw [nI_clamp (by omega)]
    show W _ _ _ _ _ _ _ _ _ _ _ _ _ _ _ (F0 _ _ _ [.ref (h (9 + k))])
    refine lv_iload_n hx hb dM_written_6 rfl (lv_at hl 2 rfl) ?_
    refine mp_ild hE.1 hI hAr 0 rfl (vp_in_nI (by omega) (by omega)) dM_written_7 ?_
    rw [nI_clamp (by omega), hL pz _ e1]
    refine lv_istore hx hb dM_written_8 hl (by decide) rfl (fun ls hl => ?_)
    refine lv_iload hx hb dM_written_10 (lv_at hl 0 rfl) ?_
    refine lv_sipush (v := ci_i 1000) hx hb dM_written_12 (by decide) ?_
    refine lv_icmp_ne (tgt := 60) hx hb dM_written_15 (by decide) (fun hq => ?_) (fun hq => ?_)
    · exact absurd rfl hq
    · skip
      refine lv_aload_n hx hb dM_written_18 rfl (lv_at hl 1 rfl) ?_
      refine lv_bipush (v := nI 40) hx hb dM_written_19 (by decide) ?_
      refine ct_V (n := 1) hE hI (kM_say (z := 40) hv ho (by omega) (by decide)) h0 rfl gm_M147 gi_M_say gs_M_M_say gz_M gc_M_say (by decide +kernel) ⟨by show 0 + 1 ≤ 1 + max (tm_dp a0) (tm_dp b0); omega, by show 8 + (2 + 11) + 0 ≤ 30 * (1 + max (tm_dp a0) (tm_dp b0)); omega⟩ rfl hl.1 rfl (Nat.le_of_ble_eq_true rfl) dM_written_21 ⟨Nat.le_refl _, Nat.le_refl _⟩ (fun v w1 H locs hq hI => ?_)
      obtain ⟨rfl, I1, A1, hv1, ho1, ei1, ea1⟩ := hq
      show W _ _ _ _ _ _ _ _ _ _ _ _ _ _ _ (F0 _ _ _ [])
      have h01 := hv1.1.2.1
      refine lv_aload_n hx hb dM_written_24 rfl (lv_at hl 1 rfl) ?_
      refine lv_iload_n hx hb dM_written_25 rfl (lv_at hl 2 rfl) ?_
      refine lv_iload_n hx hb dM_written_26 rfl (lv_at hl 3 rfl) ?_
      refine lv_iconst (v := nI 1) hx hb dM_written_27 (by decide) ?_
      refine lv_iadd hx hb dM_written_28 ?_
      refine lv_iload_n hx hb dM_written_29 rfl (lv_at hl 4 rfl) ?_
      rw [show nI pz + nI 1 = nI (pz + 1) from (Int32.ofNat_add _ _).symm]
      refine ct_V (n := 3) hE hI (iha E (pz + 1) L _ (O ++ [40]) w1 I1 A1 hsc.1 hv1.1 (by rw [ea1 (9 + k) (by simp; omega)]; exact hL) hLl hd2 (by rw [ea1 7 (by decide)]; exact hop) (by omega) hE8 hfa ho1 (by rw [List.length_append, List.length_singleton]; omega)) h01 rfl gm_M150 gi_M_written gs_M_M_written gz_M gc_M_written (by decide +kernel) ⟨by show tm_dp a0 + 1 ≤ 1 + max (tm_dp a0) (tm_dp b0); omega, by show 8 + (7 + 11) + 30 * tm_dp a0 ≤ 30 * (1 + max (tm_dp a0) (tm_dp b0)); omega⟩ rfl hl.1 rfl (Nat.le_of_ble_eq_true rfl) dM_written_30 ⟨Nat.le_refl _, Nat.le_refl _⟩ (fun v w2 H locs hq hI => ?_)
      obtain ⟨rfl, I2, A2, hv2, ho2, ei2, ea2, hop2⟩ := hq
      show W _ _ _ _ _ _ _ _ _ _ _ _ _ _ _ (F0 _ _ _ [.int _])
      have h02 := hv2.1.2.1
      have ol2 : (O ++ [40] ++ tm_tx a0 E).length = O.length + 1 + (tm_tx a0 E).length := by rw [List.length_append, List.length_append, List.length_singleton]
      refine lv_istore hx hb dM_written_33 hl (by decide) rfl (fun ls hl => ?_)
      refine lv_aload_n hx hb dM_written_35 rfl (lv_at hl 2 rfl) ?_
      refine lv_bipush (v := nI 32) hx hb dM_written_36 (by decide) ?_
      refine ct_V (n := 1) hE hI (kM_say (z := 32) hv2.1 ho2 (by omega) (by decide)) h02 rfl gm_M147 gi_M_say gs_M_M_say gz_M gc_M_say (by decide +kernel) ⟨by show 0 + 1 ≤ 1 + max (tm_dp a0) (tm_dp b0); omega, by show 8 + (2 + 11) + 0 ≤ 30 * (1 + max (tm_dp a0) (tm_dp b0)); omega⟩ rfl hl.1 rfl (Nat.le_of_ble_eq_true rfl) dM_written_38 ⟨Nat.le_refl _, Nat.le_refl _⟩ (fun v w3 H locs hq hI => ?_)
      obtain ⟨rfl, I3, A3, hv3, ho3, ei3, ea3⟩ := hq
      show W _ _ _ _ _ _ _ _ _ _ _ _ _ _ _ (F0 _ _ _ [])
      have h03 := hv3.1.2.1
      have eA3 : eqA [6, 7] A A3 := ((ea1.mono (by simp)).tr ea2).tr (ea3.mono (by simp))
      refine lv_aload_n hx hb dM_written_41 rfl (lv_at hl 2 rfl) ?_
      refine lv_iload_n hx hb dM_written_42 rfl (lv_at hl 3 rfl) ?_
      refine lv_iload hx hb dM_written_43 (lv_at hl 0 rfl) ?_
      refine lv_iload_n hx hb dM_written_45 rfl (lv_at hl 5 rfl) ?_
      refine ct_V (n := 3) hE hI (ihb E (pz + 1 + tm_sz a0) L r _ w3 I3 A3 hsc.2 hv3.1 (by rw [eA3 (9 + k) (by simp; omega)]; exact hL) hLl hd3 (by rw [ea3 7 (by decide)]; exact hop2) (by omega) hE8 hfb ho3 (by rw [List.length_append, ol2, List.length_singleton]; omega)) h03 rfl gm_M150 gi_M_written gs_M_M_written gz_M gc_M_written (by decide +kernel) ⟨by show tm_dp b0 + 1 ≤ 1 + max (tm_dp a0) (tm_dp b0); omega, by show 8 + (7 + 11) + 30 * tm_dp b0 ≤ 30 * (1 + max (tm_dp a0) (tm_dp b0)); omega⟩ rfl hl.1 rfl (Nat.le_of_ble_eq_true rfl) dM_written_46 ⟨Nat.le_refl _, Nat.le_refl _⟩ (fun v w4 H locs hq hI => ?_)
      obtain ⟨rfl, I4, A4, hv4, ho4, ei4, ea4, hop4⟩ := hq
      show W _ _ _ _ _ _ _ _ _ _ _ _ _ _ _ (F0 _ _ _ [.int _])
      have h04 := hv4.1.2.1
      refine lv_istore hx hb dM_written_49 hl (by decide) rfl (fun ls hl => ?_)
      refine lv_aload_n hx hb dM_written_51 rfl (lv_at hl 3 rfl) ?_
      refine lv_bipush (v := nI 41) hx hb dM_written_52 (by decide) ?_
      refine ct_V (n := 1) hE hI (kM_say (z := 41) hv4.1 ho4 (by rw [List.length_append, List.length_append, ol2, List.length_singleton]; omega) (by decide)) h04 rfl gm_M147 gi_M_say gs_M_M_say gz_M gc_M_say (by decide +kernel) ⟨by show 0 + 1 ≤ 1 + max (tm_dp a0) (tm_dp b0); omega, by show 8 + (2 + 11) + 0 ≤ 30 * (1 + max (tm_dp a0) (tm_dp b0)); omega⟩ rfl hl.1 rfl (Nat.le_of_ble_eq_true rfl) dM_written_54 ⟨Nat.le_refl _, Nat.le_refl _⟩ (fun v w5 H locs hq hI => ?_)
      obtain ⟨rfl, I5, A5, hv5, ho5, ei5, ea5⟩ := hq
      show W _ _ _ _ _ _ _ _ _ _ _ _ _ _ _ (F0 _ _ _ [])
      refine lv_iload hx hb dM_written_57 (lv_at hl 0 rfl) ?_
      refine ct_iret hE hI hr hk ⟨?_, I5, A5, ⟨hv5.1, (((hv1.2.tr hv2.2).tr hv3.2).tr hv4.2).tr hv5.2⟩, ?_, (((ei1.tr ei2).tr ei3).tr ei4).tr ei5, (eA3.tr ea4).tr (ea5.mono (by simp)), ?_⟩ (by decide) (by decide) dM_written_59
      · rw [show pz + 1 + tm_sz a0 + tm_sz b0 = pz + tm_sz (.append a0 b0) by show _ = pz + (1 + tm_sz a0 + tm_sz b0); omega]
      · rw [tm_tx_app]
        simp only [List.append_assoc, List.singleton_append, List.cons_append, List.nil_append] at ho5 ⊢
        exact ho5
      · rw [ea5 7 (by decide)]
        exact hop4
set_option maxRecDepth 100000 in
theorem kM_places {w : mp_W} {I : mI} {A : mA} {u : Std.Format} {k n : Nat} (hv : mv K w h I A) (hk16 : k < 16) (h1 : A 2 k = nI (tm_sz u)) (h3 : pt_h (A (9 + k)) (tm_row u)) (hok : tm_ok u) (hn100 : n < 100) : ct_M l n0 D K yM_places (Cond.code yM_places cM_places 5 (some .int)) 0 0 0 0 [.ref (h 0), .int (nI k), .int (nI n)] w (fun v w' => w' = w ∧ v = some (.int (nI (nc_n (fun i => decide ((tm_row u)[i]? = some (n : Int))) (tm_sz u))))) := by
  have hz := hok.2.2.1
  have h0 := hv.2.1
  have hG := hv.2.2.1
  have hA2 : w (h 2) = some (ob_I K 16 (A 2)) := hv.2.2.2 2 (by decide) (by decide)
  have hAr := hv.row (k := 9 + k) (by omega) (by omega) (by omega)
  rw [ml_r] at hAr
  have hbd := tm_ok_bd hok
  have hlen := tm_row_len u
  obtain ⟨L, hL⟩ : ∃ L, tm_row u = L := ⟨_, rfl⟩
  rw [hL] at h3 hbd hlen
  rw [hL]
  refine ct_go (own := nm_M) (by decide) rfl (Nat.le_of_ble_eq_true rfl) ?_
  intro p e s m below meth c ls hE hI hr hk hn hl
  have hx := hE.1.1.1
  have hb := hE.1.1.2.1
  have hl : lv_has ls 5 [(0, .ref (h 0)), (1, .int (nI k)), (2, .int (nI n))] := hl
  refine lv_iconst (v := nI 0) hx hb dM_places_0 (by decide) ?_
  refine lv_istore_n hx hb dM_places_1 rfl hl (by decide) rfl (fun ls hl => ?_)
  refine lv_iconst (v := nI 0) hx hb dM_places_2 (by decide) ?_
  refine lv_istore hx hb dM_places_3 hl (by decide) rfl (fun ls hl => ?_)
  have loop : ∀ (q i : Nat) (ls : Array Slot), i + q = tm_sz u → lv_has ls 5 [(4, .int (nI i)), (3, .int (nI (nc_n (fun i => decide (L[i]? = some (n : Int))) i))), (0, .ref (h 0)), (1, .int (nI k)), (2, .int (nI n))] →
      W p l e { frames := 0, cells := 0, slots := 0, locals := 0 } s m ([Value.ref (h 0), .int (nI k), .int (nI n)] : List Value).toArray below meth c s.heap [] 0 0 (MQ below (ct_Q D w s.heap.size (fun v w' => w' = w ∧ v = some (.int (nI (nc_n (fun i => decide (L[i]? = some (n : Int))) (tm_sz u)))))) ([Value.ref (h 0), .int (nI k), .int (nI n)] : List Value).toArray s 0 0 (mp_A w s.heap.size)) (F0 m 5 ls []) := by
    intro q
    induction q with
    | zero =>
      intro i ls hiq hl
      have : i = tm_sz u := by omega
      subst this
      refine lv_iload hx hb dM_places_5 (lv_at hl 0 rfl) ?_
      refine lv_aload_n hx hb dM_places_7 rfl (lv_at hl 2 rfl) ?_
      refine mp_get hE.1 hI h0 rfl gx_M 2 (by decide) (List.mem_cons_of_mem _ gf_M18) rfl dM_places_8 ?_
      refine lv_iload_n hx hb dM_places_11 rfl (lv_at hl 3 rfl) ?_
      refine mp_ild hE.1 hI hA2 0 rfl (vp_in_nI (by omega) (by omega)) dM_places_12 ?_
      rw [nI_clamp (by omega), h1]
      refine lv_icmp_ge (tgt := 38) hx hb dM_places_13 (by decide) (fun hq => ?_) (fun hq => ?_)
      · refine lv_iload_n hx hb dM_places_38 rfl (lv_at hl 1 rfl) ?_
        exact ct_iret hE hI hr hk ⟨rfl, rfl⟩ (by decide) (by decide) dM_places_39
      · exact absurd (nI_le (Nat.le_refl _) (by omega)) hq
    | succ q ih =>
      intro i ls hiq hl
      obtain ⟨x, e1, m1⟩ := pt_at (show i < L.length by omega)
      have hxb := hbd x m1
      refine lv_iload hx hb dM_places_5 (lv_at hl 0 rfl) ?_
      refine lv_aload_n hx hb dM_places_7 rfl (lv_at hl 2 rfl) ?_
      refine mp_get hE.1 hI h0 rfl gx_M 2 (by decide) (List.mem_cons_of_mem _ gf_M18) rfl dM_places_8 ?_
      refine lv_iload_n hx hb dM_places_11 rfl (lv_at hl 3 rfl) ?_
      refine mp_ild hE.1 hI hA2 0 rfl (vp_in_nI (by omega) (by omega)) dM_places_12 ?_
      rw [nI_clamp (by omega), h1]
      refine lv_icmp_ge (tgt := 38) hx hb dM_places_13 (by decide) (fun hq => ?_) (fun hq => ?_)
      · exact absurd ((nI_leI (by omega) (by omega)).mp hq) (by omega)
      · skip
        refine lv_aload_n hx hb dM_places_16 rfl (lv_at hl 2 rfl) ?_
        refine mp_get hE.1 hI h0 rfl gx_M 1 (by decide) (List.mem_cons_of_mem _ gf_M15) rfl dM_places_17 ?_
        refine lv_iload_n hx hb dM_places_20 rfl (lv_at hl 3 rfl) ?_
        refine mp_aldA hE.1 hI hG 4 rfl (vp_in_nI (by omega) (by omega)) dM_places_21 ?_
        rw [nI_clamp (by omega)]
        show W _ _ _ _ _ _ _ _ _ _ _ _ _ _ _ (F0 _ _ _ [.ref (h (9 + k))])
        refine lv_iload hx hb dM_places_22 (lv_at hl 0 rfl) ?_
        refine mp_ild hE.1 hI hAr 0 rfl (vp_in_nI (by omega) (by omega)) dM_places_24 ?_
        rw [nI_clamp (by omega), h3 i x e1]
        refine lv_iload_n hx hb dM_places_25 rfl (lv_at hl 4 rfl) ?_
        rw [← ci_nat n]
        refine lv_icmp_ne (tgt := 32) hx hb dM_places_26 (by decide) (fun hq2 => ?_) (fun hq2 => ?_)
        · have hq2 : ¬ x = (n : Int) := fun e => hq2 (by rw [e])
          refine lv_iinc (k := 0) (v := nI (i + 1)) hx hb dM_places_32 hl rfl (nI_1 i) (by decide) rfl (fun ls hl => ?_)
          refine lv_goto (tgt := 5) hx hb dM_places_35 (by decide) ?_
          refine ih (i + 1) ls (by omega) ?_
          rw [nc_f (by rw [e1]; simp; exact hq2)]
          exact hl
        · have hq2 : x = (n : Int) := (ci_eq (by omega) (by omega)).mp hq2
          refine lv_iinc (k := 1) (v := nI (nc_n (fun i => decide (L[i]? = some (n : Int))) i + 1)) hx hb dM_places_29 hl rfl (nI_1 _) (by decide) rfl (fun ls hl => ?_)
          refine lv_iinc (k := 1) (v := nI (i + 1)) hx hb dM_places_32 hl rfl (nI_1 i) (by decide) rfl (fun ls hl => ?_)
          refine lv_goto (tgt := 5) hx hb dM_places_35 (by decide) ?_
          refine ih (i + 1) ls (by omega) ?_
          rw [nc_t (by rw [e1]; simp; exact hq2)]
          exact hl
  exact loop (tm_sz u) 0 ls (by omega) (lv_sub hl [0, 1, 2, 3, 4] rfl)
end KM7
