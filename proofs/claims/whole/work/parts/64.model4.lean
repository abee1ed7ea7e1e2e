/-! the reference: rename, renamed, whole, keep -/
theorem pt_h_set {g : Nat → Int32} {L : List Int} {p : Nat} {z : Int} (h : pt_h g L) : pt_h (upd g p (ci_i z)) (L.set p z) := by
  intro i y hy
  unfold upd
  by_cases e : i = p
  · subst e
    have hlt := (List.getElem?_eq_some_iff.mp hy).1
    rw [List.length_set] at hlt
    rw [List.getElem?_set_self hlt] at hy
    rw [if_pos rfl, Option.some.inj hy]
  · rw [List.getElem?_set_ne (Ne.symm e)] at hy
    rw [if_neg e]
    exact h i y hy
theorem set_split {L : List Int} {p : Nat} {x z : Int} {r : List Int} (h : L.drop p = x :: r) : L.set p z = L.take p ++ (z :: r) ∧ L.take (p + 1) = L.take p ++ [x] ∧ p < L.length ∧ L[p]? = some x := by
  have hp : p < L.length := by
    have := congrArg List.length h
    rw [List.length_drop, List.length_cons] at this
    omega
  have e : L[p]? = some x := by
    have := congrArg (fun M => M[0]?) h
    simpa using this
  have hr : r = L.drop (p + 1) := by
    rw [pt_drop e] at h
    exact ((List.cons.inj h).2).symm
  refine ⟨?_, ?_, hp, e⟩
  · rw [List.set_eq_take_append_cons_drop, if_pos hp, hr]
  · rw [List.take_add_one, e]
    rfl
section KM4
variable {l : Launch} {n0 : Nat} {D : va_G} {K : Nat → ClassId} {h : Nat → Nat}
abbrev po_r (K : Nat → ClassId) (h : Nat → Nat) (w : mp_W) (I : mI) (A : mA) (t : Std.Format) (f : Nat → Nat) (n p : Nat) (L r : List Int) : Option Value → mp_W → Prop := fun v w' => v = none ∧ ∃ I' A', mo K h w w' I' A' ∧ I' 5 = nI (p + tm_sz t) ∧ I' 6 = nI (n + tm_nf t) ∧ eqI [5, 6] I I' ∧ eqA [3] A A' ∧ pt_h (A' 3) (L.take p ++ (tm_row (tm_rn t f n) ++ r))
set_option maxRecDepth 100000 in
set_option maxHeartbeats 4000000 in
theorem kM_rename (t : Std.Format) : ∀ (E : List Nat) (f : Nat → Nat) (n pz : Nat) (L r : List Int) (w : mp_W) (I : mI) (A : mA), tm_sc t E → mv K w h I A → I 5 = nI pz → I 6 = nI n → pt_h (A 3) L → L.length ≤ 2000 → L.drop pz = tm_row t ++ r → (∀ v ∈ E, v < 8000 ∧ A 8 v = nI (f v) ∧ f v < 8000) → (∀ j ∈ tm_fn t, j < 8000) → n + tm_nf t ≤ 8000 →
    ct_M l n0 D K yM_rename (Cond.code yM_rename cM_rename 4 none) (tm_dp t) (30 * tm_dp t) 0 0 [.ref (h 0)] w (po_r K h w I A t f n pz L r) := by
  induction t using tm_ind with
  | hl t hlf =>
    intro E f n pz L r w I A hsc hv h5 h6 h3 hLl hd hE8 hfn hnf
    have h0 := hv.2.1
    have hA3 : w (h 3) = some (ob_I K 2001 (A 3)) := hv.2.2.2 3 (by decide) (by decide)
    have hA8 : w (h 8) = some (ob_I K 8000 (A 8)) := hv.2.2.2 8 (by decide) (by decide)
    rw [tm_sc_leaf hlf] at hsc
    rw [tm_row_leaf hlf] at hd
    have hrn := tm_rn_leaf hlf f n
    have hrl := tm_rn_lleaf hlf f n
    have hsz := tm_sz_leaf hlf
    have hnf0 := tm_nf_leaf hlf
    have hdp0 := tm_dp_leaf hlf
    obtain ⟨x, hx0⟩ : ∃ x, tm_val t = x := ⟨_, rfl⟩
    rw [hx0] at hsc hd hrn
    have hd : L.drop pz = x :: r := hd
    obtain ⟨-, -, hpL, e1⟩ := set_split (z := 0) hd
    have hxb : -8001 ≤ x ∧ x ≤ 99 := by
      rcases hsc with hh | ⟨hh, hm⟩
      · omega
      · have := (hE8 _ hm).1
        omega
    have hrow : tm_row (tm_rn t f n) = [tm_val (tm_rn t f n)] := tm_row_leaf hrl
    rw [hdp0]
    refine ct_go (own := nm_M) (by decide) rfl (Nat.le_of_ble_eq_true rfl) ?_
    intro p e s m below meth c ls hE hI hr hk hn hl
    have hx := hE.1.1.1
    have hb := hE.1.1.2.1
    have hl : lv_has ls 4 [(0, .ref (h 0))] := hl
    have fin : ∀ (z : Int) (w1 : mp_W) (A1 : mA) (H : Heap) (locs : List Loc) (ls : Array Slot), mo K h w w1 I A1 → eqA [3] A A1 → pt_h (A1 3) (L.take pz ++ (z :: r)) → tm_val (tm_rn t f n) = z → mp_I D cl_all (mp_A w s.heap.size) s.heap w1 H locs → lv_has ls 4 [(1, .int (ci_i x)), (0, .ref (h 0))] →
        W p l e { frames := 1, cells := 0, slots := 0, locals := 30 * 1 } s m ([Value.ref (h 0)] : List Value).toArray below meth c H locs 0 0 (MQ below (ct_Q D w s.heap.size (po_r K h w I A t f n pz L r)) ([Value.ref (h 0)] : List Value).toArray s 0 0 (mp_A w s.heap.size)) (F0 m 136 ls []) := by
      intro z w1 A1 H locs ls hv1 ha1 hp1 hz hI hl
      have h01 := hv1.1.2.1
      refine lv_aload_n hx hb dM_rename_136 rfl (lv_at hl 1 rfl) ?_
      refine lv_dup hx hb dM_rename_137 rfl ?_
      refine mp_get hE.1 hI h01 rfl gx_M 12 (by decide) (List.mem_cons_of_mem _ gf_M52) rfl dM_rename_138 ?_
      refine lv_iconst (v := nI 1) hx hb dM_rename_141 (by decide) ?_
      refine lv_iadd hx hb dM_rename_142 ?_
      rw [h5, show nI pz + nI 1 = nI (pz + 1) from (Int32.ofNat_add _ _).symm]
      refine mp_put hE.1 hI h01 rfl gx_M ty_M to_M tn_M 12 (by decide) (List.mem_cons_of_mem _ gf_M52) rfl rfl rfl (Nat.le_of_ble_eq_true rfl) dM_rename_143 (fun H locs hI => ?_)
      have hv2 := hv1.1.upI (iu I 5 (nI (pz + 1)))
      refine ct_vret hE hI hr hk ⟨rfl, iu I 5 (nI (pz + 1)), A1, ⟨hv2, hv1.2.up (by decide) _⟩, by rw [hsz]; rfl, by rw [hnf0]; exact h6, (eqI.rf _ _).up (by simp) _, ha1, ?_⟩ (by decide) (by decide) dM_rename_146
      rw [hrow, hz]
      exact hp1
    refine lv_aload_n hx hb dM_rename_0 rfl (lv_at hl 0 rfl) ?_
    refine mp_get hE.1 hI h0 rfl gx_M 3 (by decide) (List.mem_cons_of_mem _ gf_M22) rfl dM_rename_1 ?_
    refine lv_aload_n hx hb dM_rename_4 rfl (lv_at hl 0 rfl) ?_
    refine mp_get hE.1 hI h0 rfl gx_M 12 (by decide) (List.mem_cons_of_mem _ gf_M52) rfl dM_rename_5 ?_
    rw [h5]
    refine mp_ild hE.1 hI hA3 0 rfl (vp_in_nI (by omega) (by omega)) dM_rename_8 ?_
    rw [nI_clamp (by omega), h3 pz x e1]
    refine lv_istore_n hx hb dM_rename_9 rfl hl (by decide) rfl (fun ls hl => ?_)
    refine lv_iload_n hx hb dM_rename_10 rfl (lv_at hl 0 rfl) ?_
    refine lv_sipush (v := ci_i 1000) hx hb dM_rename_11 (by decide) ?_
    refine lv_icmp_ne (tgt := 38) hx hb dM_rename_14 (by decide) (fun hq => ?_) (fun hq => ?_)
    · skip
      refine lv_iload_n hx hb dM_rename_38 rfl (lv_at hl 0 rfl) ?_
      refine lv_sipush (v := ci_i 2000) hx hb dM_rename_39 (by decide) ?_
      refine lv_icmp_lt (tgt := 113) hx hb dM_rename_42 (by decide) (fun hq2 => ?_) (fun hq2 => ?_)
      · skip
        refine lv_iload_n hx hb dM_rename_113 rfl (lv_at hl 0 rfl) ?_
        rw [show ci_i x = ci_i x from rfl]
        refine lv_if_ge (tgt := 136) hx hb dM_rename_114 (by decide) (fun hq3 => ?_) (fun hq3 => ?_)
        · rw [ci_0, ci_le (by omega) (by omega)] at hq3
          refine fin x w A _ _ ls ⟨hv, fm.rf _ _⟩ (eqA.rf _ _) ?_ ?_ hI hl
          · rw [show x :: r = L.drop pz from hd.symm, List.take_append_drop]
            exact h3
          · rw [hrn, if_neg (by omega)]
            exact hx0
        · rw [ci_0, ci_le (by omega) (by omega)] at hq3
          have hxn : x < 0 := by omega
          obtain ⟨hm8, hA8v, hf8⟩ : (-1 - x).toNat < 8000 ∧ A 8 (-1 - x).toNat = nI (f (-1 - x).toNat) ∧ f (-1 - x).toNat < 8000 := by
            rcases hsc with hh | ⟨hh, hm⟩
            · omega
            · exact hE8 _ hm
          have hvx : ci_i (-1) - ci_i x = nI (-1 - x).toNat := by rw [ci_sub, ← ci_nat]; congr 1; omega
          have hz := set_split (z := -1 - (f (-1 - x).toNat : Int)) hd
          refine lv_aload_n hx hb dM_rename_117 rfl (lv_at hl 1 rfl) ?_
          refine mp_get hE.1 hI h0 rfl gx_M 3 (by decide) (List.mem_cons_of_mem _ gf_M22) rfl dM_rename_118 ?_
          refine lv_aload_n hx hb dM_rename_121 rfl (lv_at hl 1 rfl) ?_
          refine mp_get hE.1 hI h0 rfl gx_M 12 (by decide) (List.mem_cons_of_mem _ gf_M52) rfl dM_rename_122 ?_
          rw [h5]
          refine lv_iconst (v := ci_i (-1)) hx hb dM_rename_125 (by decide) ?_
          refine lv_aload_n hx hb dM_rename_126 rfl (lv_at hl 1 rfl) ?_
          refine mp_get hE.1 hI h0 rfl gx_M 14 (by decide) (List.mem_cons_of_mem _ gf_M58) rfl dM_rename_127 ?_
          refine lv_iconst (v := ci_i (-1)) hx hb dM_rename_130 (by decide) ?_
          refine lv_iload_n hx hb dM_rename_131 rfl (lv_at hl 0 rfl) ?_
          refine lv_isub hx hb dM_rename_132 ?_
          rw [hvx]
          refine mp_ild hE.1 hI hA8 0 rfl (vp_in_nI (by omega) (by omega)) dM_rename_133 ?_
          rw [nI_clamp (by omega), hA8v]
          refine lv_isub hx hb dM_rename_134 ?_
          rw [show ci_i (-1) - nI (f (-1 - x).toNat) = ci_i (-1 - (f (-1 - x).toNat : Int)) by rw [← ci_nat, ci_sub]]
          refine mp_ist hE.1 hI hA3 0 rfl (vp_in_nI (by omega) (by omega)) dM_rename_135 (fun H locs hI => ?_)
          rw [nI_clamp (by omega)] at hI
          refine fin (-1 - (f (-1 - x).toNat : Int)) _ (au A 3 (upd (A 3) pz (ci_i (-1 - (f (-1 - x).toNat : Int))))) _ _ ls ⟨hv.upA (k := 3) (by decide) (by decide) _, (fm.rf _ _).up (k := 3) (by decide) _⟩ ((eqA.rf _ _).up (by simp) _) ?_ ?_ hI hl
          · rw [au_self, ← hz.1]
            exact pt_h_set h3
          · rw [hrn, if_pos (by omega)]
            rfl
      · rw [ci_lt (by omega) (by omega)] at hq2
        omega
    · rw [ci_eq (by omega) (by omega)] at hq
      omega
  | hf j a0 iha =>
    intro E f n pz L r w I A hsc hv h5 h6 h3 hLl hd hE8 hfn hnf
    have h0 := hv.2.1
    have hA3 : w (h 3) = some (ob_I K 2001 (A 3)) := hv.2.2.2 3 (by decide) (by decide)
    have hA8 : w (h 8) = some (ob_I K 8000 (A 8)) := hv.2.2.2 8 (by decide) (by decide)
    have hsc : tm_sc a0 (j :: E) := hsc
    rw [tm_row_fun] at hd
    have hj : j < 8000 := hfn j (List.mem_cons_self ..)
    have hfn : ∀ v ∈ tm_fn a0, v < 8000 := fun v hv => hfn v (List.mem_cons_of_mem _ hv)
    have hnf : n + (1 + tm_nf a0) ≤ 8000 := hnf
    obtain ⟨z1, z2, hpL, e1⟩ := set_split (z := 2000 + (n : Int)) hd
    have hdp := tm_dp_f j a0
    have hpa := tm_sz_pos a0
    have hlen2 := congrArg List.length hd
    rw [List.length_drop, List.cons_append, List.length_cons, List.length_append, tm_row_len] at hlen2
    have htk : (L.take pz ++ [2000 + (n : Int)]).length = pz + 1 := by rw [List.length_append, List.length_take, List.length_singleton]; omega
    have z3 : L.set pz (2000 + (n : Int)) = (L.take pz ++ [2000 + (n : Int)]) ++ (tm_row a0 ++ r) := by rw [z1]; simp
    rw [hdp]
    refine ct_go (own := nm_M) (by decide) rfl (Nat.le_of_ble_eq_true rfl) ?_
    intro p e s m below meth c ls hE hI hr hk hn hl
    have hx := hE.1.1.1
    have hb := hE.1.1.2.1
    have hl : lv_has ls 4 [(0, .ref (h 0))] := hl
    refine lv_aload_n hx hb dM_rename_0 rfl (lv_at hl 0 rfl) ?_
    refine mp_get hE.1 hI h0 rfl gx_M 3 (by decide) (List.mem_cons_of_mem _ gf_M22) rfl dM_rename_1 ?_
    refine lv_aload_n hx hb dM_rename_4 rfl (lv_at hl 0 rfl) ?_
    refine mp_get hE.1 hI h0 rfl gx_M 12 (by decide) (List.mem_cons_of_mem _ gf_M52) rfl dM_rename_5 ?_
    rw [h5]
    refine mp_ild hE.1 hI hA3 0 rfl (vp_in_nI (by omega) (by omega)) dM_rename_8 ?_
    rw [nI_clamp (by omega), h3 pz _ e1]
    refine lv_istore_n hx hb dM_rename_9 rfl hl (by decide) rfl (fun ls hl => ?_)
    refine lv_iload_n hx hb dM_rename_10 rfl (lv_at hl 0 rfl) ?_
    refine lv_sipush (v := ci_i 1000) hx hb dM_rename_11 (by decide) ?_
    refine lv_icmp_ne (tgt := 38) hx hb dM_rename_14 (by decide) (fun hq => ?_) (fun hq => ?_)
    · skip
      refine lv_iload_n hx hb dM_rename_38 rfl (lv_at hl 0 rfl) ?_
      refine lv_sipush (v := ci_i 2000) hx hb dM_rename_39 (by decide) ?_
      refine lv_icmp_lt (tgt := 113) hx hb dM_rename_42 (by decide) (fun hq2 => ?_) (fun hq2 => ?_)
      · rw [ci_lt (by omega) (by omega)] at hq2
        omega
      · skip
        refine lv_iload_n hx hb dM_rename_45 rfl (lv_at hl 0 rfl) ?_
        refine lv_sipush (v := ci_i 2000) hx hb dM_rename_46 (by decide) ?_
        refine lv_isub hx hb dM_rename_49 ?_
        rw [show ci_i (2000 + (j : Int)) - ci_i 2000 = nI j by rw [ci_sub, ← ci_nat]; congr 1; omega]
        refine lv_istore_n hx hb dM_rename_50 rfl hl (by decide) rfl (fun ls hl => ?_)
        refine lv_aload_n hx hb dM_rename_51 rfl (lv_at hl 2 rfl) ?_
        refine mp_get hE.1 hI h0 rfl gx_M 14 (by decide) (List.mem_cons_of_mem _ gf_M58) rfl dM_rename_52 ?_
        refine lv_iload_n hx hb dM_rename_55 rfl (lv_at hl 0 rfl) ?_
        refine mp_ild hE.1 hI hA8 0 rfl (vp_in_nI (by omega) (by omega)) dM_rename_56 ?_
        rw [nI_clamp (by omega)]
        refine lv_istore_n hx hb dM_rename_57 rfl hl (by decide) rfl (fun ls hl => ?_)
        refine lv_aload_n hx hb dM_rename_58 rfl (lv_at hl 3 rfl) ?_
        refine mp_get hE.1 hI h0 rfl gx_M 14 (by decide) (List.mem_cons_of_mem _ gf_M58) rfl dM_rename_59 ?_
        refine lv_iload_n hx hb dM_rename_62 rfl (lv_at hl 1 rfl) ?_
        refine lv_aload_n hx hb dM_rename_63 rfl (lv_at hl 3 rfl) ?_
        refine mp_get hE.1 hI h0 rfl gx_M 13 (by decide) (List.mem_cons_of_mem _ gf_M55) rfl dM_rename_64 ?_
        rw [h6]
        refine mp_ist hE.1 hI hA8 0 rfl (vp_in_nI (by omega) (by omega)) dM_rename_67 (fun H locs hI => ?_)
        rw [nI_clamp (by omega)] at hI
        have hv1 := hv.upA (k := 8) (by decide) (by decide) (upd (A 8) j (nI n))
        obtain ⟨w1, hw1⟩ : ∃ z, mp_up w (h 8) (ob_A K 8 (upd (A 8) j (nI n))) = z := ⟨_, rfl⟩
        rw [hw1] at hv1
        have hI : mp_I D cl_all (mp_A w s.heap.size) s.heap w1 H locs := by rw [← hw1]; exact hI
        have hf1 : fm h w w1 := by rw [← hw1]; exact (fm.rf _ _).up (by decide) _
        have h01 := hv1.2.1
        refine lv_aload_n hx hb dM_rename_68 rfl (lv_at hl 3 rfl) ?_
        refine mp_get hE.1 hI h01 rfl gx_M 3 (by decide) (List.mem_cons_of_mem _ gf_M22) rfl dM_rename_69 ?_
        refine lv_aload_n hx hb dM_rename_72 rfl (lv_at hl 3 rfl) ?_
        refine lv_dup hx hb dM_rename_73 rfl ?_
        refine mp_get hE.1 hI h01 rfl gx_M 12 (by decide) (List.mem_cons_of_mem _ gf_M52) rfl dM_rename_74 ?_
        refine lv_dup_x1 hx hb dM_rename_77 rfl rfl ?_
        refine lv_iconst (v := nI 1) hx hb dM_rename_78 (by decide) ?_
        refine lv_iadd hx hb dM_rename_79 ?_
        rw [h5, show nI pz + nI 1 = nI (pz + 1) from (Int32.ofNat_add _ _).symm]
        refine mp_put hE.1 hI h01 rfl gx_M ty_M to_M tn_M 12 (by decide) (List.mem_cons_of_mem _ gf_M52) rfl rfl rfl (Nat.le_of_ble_eq_true rfl) dM_rename_80 (fun H locs hI => ?_)
        have hv2 := hv1.upI (iu I 5 (nI (pz + 1)))
        obtain ⟨w2, hw2⟩ : ∃ z, mp_up w1 (h 0) (ob_M h (iu I 5 (nI (pz + 1)))) = z := ⟨_, rfl⟩
        rw [hw2] at hv2
        have hI : mp_I D cl_all (mp_A w s.heap.size) s.heap w2 H locs := by rw [← hw2]; exact hI
        have hf2 : fm h w w2 := by rw [← hw2]; exact hf1.up (by decide) _
        have h02 := hv2.2.1
        refine lv_sipush (v := nI 2000) hx hb dM_rename_83 (by decide) ?_
        refine lv_aload_n hx hb dM_rename_86 rfl (lv_at hl 3 rfl) ?_
        refine lv_dup hx hb dM_rename_87 rfl ?_
        refine mp_get hE.1 hI h02 rfl gx_M 13 (by decide) (List.mem_cons_of_mem _ gf_M55) rfl dM_rename_88 ?_
        refine lv_dup_x1 hx hb dM_rename_91 rfl rfl ?_
        refine lv_iconst (v := nI 1) hx hb dM_rename_92 (by decide) ?_
        refine lv_iadd hx hb dM_rename_93 ?_
        rw [show iu I 5 (nI (pz + 1)) 6 = nI n from h6, show nI n + nI 1 = nI (n + 1) from (Int32.ofNat_add _ _).symm]
        refine mp_put hE.1 hI h02 rfl gx_M ty_M to_M tn_M 13 (by decide) (List.mem_cons_of_mem _ gf_M55) rfl rfl rfl (Nat.le_of_ble_eq_true rfl) dM_rename_94 (fun H locs hI => ?_)
        refine lv_iadd hx hb dM_rename_97 ?_
        have hv3 := hv2.upI (iu (iu I 5 (nI (pz + 1))) 6 (nI (n + 1)))
        obtain ⟨w3, hw3⟩ : ∃ z, mp_up w2 (h 0) (ob_M h (iu (iu I 5 (nI (pz + 1))) 6 (nI (n + 1)))) = z := ⟨_, rfl⟩
        rw [hw3] at hv3
        have hI : mp_I D cl_all (mp_A w s.heap.size) s.heap w3 H locs := by rw [← hw3]; exact hI
        have hf3 : fm h w w3 := by rw [← hw3]; exact hf2.up (by decide) _
        have hA33 : w3 (h 3) = some (ob_I K 2001 (A 3)) := hv3.2.2.2 3 (by decide) (by decide)
        rw [show nI 2000 + nI n = ci_i (2000 + (n : Int)) by rw [← ci_nat, ← ci_nat, ci_add]; rfl]
        refine mp_ist hE.1 hI hA33 0 rfl (vp_in_nI (by omega) (by omega)) dM_rename_98 (fun H locs hI => ?_)
        rw [nI_clamp (by omega)] at hI
        have hv4 := hv3.upA (k := 3) (by decide) (by decide) (upd (A 3) pz (ci_i (2000 + (n : Int))))
        obtain ⟨w4, hw4⟩ : ∃ z, mp_up w3 (h 3) (ob_A K 3 (upd (A 3) pz (ci_i (2000 + (n : Int))))) = z := ⟨_, rfl⟩
        rw [hw4] at hv4
        have hI : mp_I D cl_all (mp_A w s.heap.size) s.heap w4 H locs := by rw [← hw4]; exact hI
        have hf4 : fm h w w4 := by rw [← hw4]; exact hf3.up (by decide) _
        have h04 := hv4.2.1
        have hdr : (L.set pz (2000 + (n : Int))).drop (pz + 1) = tm_row a0 ++ r := by
          rw [z3, ← htk, List.drop_left]
        refine lv_aload_n hx hb dM_rename_99 rfl (lv_at hl 3 rfl) ?_
        refine ct_V (n := 0) hE hI (iha (j :: E) (fun v => if v = j then n else f v) (n + 1) (pz + 1) (L.set pz (2000 + (n : Int))) r w4 _ _ hsc hv4 rfl rfl ?_ (by rw [List.length_set]; exact hLl) hdr ?_ hfn (by omega)) h04 rfl gm_M84 gi_M_rename gs_M_M_rename gz_M gc_M_rename (by decide +kernel) ⟨by show tm_dp a0 + 1 ≤ 1 + tm_dp a0; omega, by show 8 + (4 + 11) + 30 * tm_dp a0 ≤ 30 * (1 + tm_dp a0); omega⟩ rfl hl.1 rfl (Nat.le_of_ble_eq_true rfl) dM_rename_100 ⟨Nat.le_refl _, Nat.le_refl _⟩ (fun v w5 H locs hq hI => ?_)
        · rw [au_self]
          exact pt_h_set h3
        · intro v hv
          rw [au_ne (by decide), au_self]
          unfold upd
          by_cases e : v = j
          · subst e
            refine ⟨hj, ?_, ?_⟩
            · rw [if_pos rfl, if_pos rfl]
            · rw [if_pos rfl]; omega
          · have hvE : v ∈ E := (List.mem_cons.mp hv).resolve_left e
            rw [if_neg e, if_neg e]
            exact hE8 v hvE
        · obtain ⟨rfl, I5, A5, hv5, i5, i6, ei, ea, hp5⟩ := hq
          show W _ _ _ _ _ _ _ _ _ _ _ _ _ _ _ (F0 _ _ _ [])
          have h05 := hv5.1.2.1
          have hA85 : w5 (h 8) = some (ob_I K 8000 (A5 8)) := hv5.1.2.2.2 8 (by decide) (by decide)
          have e8 : A5 8 = upd (A 8) j (nI n) := by rw [ea 8 (by decide), au_ne (by decide), au_self]
          refine lv_aload_n hx hb dM_rename_103 rfl (lv_at hl 3 rfl) ?_
          refine mp_get hE.1 hI h05 rfl gx_M 14 (by decide) (List.mem_cons_of_mem _ gf_M58) rfl dM_rename_104 ?_
          refine lv_iload_n hx hb dM_rename_107 rfl (lv_at hl 1 rfl) ?_
          refine lv_iload_n hx hb dM_rename_108 rfl (lv_at hl 0 rfl) ?_
          refine mp_ist hE.1 hI hA85 0 rfl (vp_in_nI (by omega) (by omega)) dM_rename_109 (fun H locs hI => ?_)
          rw [nI_clamp (by omega)] at hI
          refine lv_goto (tgt := 146) hx hb dM_rename_110 (by decide) ?_
          have hv6 := hv5.1.upA (k := 8) (by decide) (by decide) (upd (A5 8) j (A 8 j))
          refine ct_vret hE hI hr hk ⟨rfl, I5, au A5 8 (upd (A5 8) j (A 8 j)), ⟨hv6, (hf4.tr hv5.2).up (by decide) _⟩, ?_, ?_, ?_, ?_, ?_⟩ (by decide) (by decide) dM_rename_146
          · rw [i5]; congr 1; show pz + 1 + tm_sz a0 = pz + (1 + tm_sz a0); omega
          · rw [i6]; congr 1; show n + 1 + tm_nf a0 = n + (1 + tm_nf a0); omega
          · exact (((eqI.rf _ _).up (by simp) _).up (by simp) _).tr ei
          · intro k hk
            by_cases e : k = 8
            · subst e
              rw [au_self, e8]
              funext i
              unfold upd
              by_cases ei : i = j
              · rw [if_pos ei, ei]
              · rw [if_neg ei, if_neg ei]
            · rw [au_ne e, ea k hk, au_ne (by simp at hk; exact hk), au_ne e]
          · rw [au_ne (by decide)]
            have : L.take pz ++ (tm_row (tm_rn (.tag j a0) f n) ++ r) = (L.set pz (2000 + (n : Int))).take (pz + 1) ++ (tm_row (tm_rn a0 (fun v => if v = j then n else f v) (n + 1)) ++ r) := by
              rw [show tm_rn (.tag j a0) f n = .tag n (tm_rn a0 (fun v => if v = j then n else f v) (n + 1)) from rfl, tm_row_fun, z3, ← htk, List.take_left]
              simp
            rw [this]
            exact hp5
    · rw [ci_eq (by omega) (by omega)] at hq
      omega
  | ha a0 b0 iha ihb =>
    intro E f n pz L r w I A hsc hv h5 h6 h3 hLl hd hE8 hfn hnf
    have h0 := hv.2.1
    have hA3 : w (h 3) = some (ob_I K 2001 (A 3)) := hv.2.2.2 3 (by decide) (by decide)
    have hfa : ∀ v ∈ tm_fn a0, v < 8000 := fun v hv => hfn v (List.mem_append_left _ hv)
    have hfb : ∀ v ∈ tm_fn b0, v < 8000 := fun v hv => hfn v (List.mem_append_right _ hv)
    have hnf : n + (tm_nf a0 + tm_nf b0) ≤ 8000 := hnf
    rw [tm_row_app] at hd
    obtain ⟨z1, z2, hpL, e1⟩ := set_split (z := 0) hd
    have hdp := tm_dp_a a0 b0
    have hd2 : L.drop (pz + 1) = tm_row a0 ++ (tm_row b0 ++ r) := by
      rw [pt_drop e1] at hd
      rw [(List.cons.inj hd).2]
      exact List.append_assoc ..
    have hlen2 := congrArg List.length hd2
    rw [List.length_drop, List.length_append, List.length_append, tm_row_len, tm_row_len] at hlen2
    rw [hdp]
    refine ct_go (own := nm_M) (by decide) rfl (Nat.le_of_ble_eq_true rfl) ?_
    intro p e s m below meth c ls hE hI hr hk hn hl
    have hx := hE.1.1.1
    have hb := hE.1.1.2.1
    have hl : lv_has ls 4 [(0, .ref (h 0))] := hl
    refine lv_aload_n hx hb dM_rename_0 rfl (lv_at hl 0 rfl) ?_
    refine mp_get hE.1 hI h0 rfl gx_M 3 (by decide) (List.mem_cons_of_mem _ gf_M22) rfl dM_rename_1 ?_
    refine lv_aload_n hx hb dM_rename_4 rfl (lv_at hl 0 rfl) ?_
    refine mp_get hE.1 hI h0 rfl gx_M 12 (by decide) (List.mem_cons_of_mem _ gf_M52) rfl dM_rename_5 ?_
    rw [h5]
    refine mp_ild hE.1 hI hA3 0 rfl (vp_in_nI (by omega) (by omega)) dM_rename_8 ?_
    rw [nI_clamp (by omega), h3 pz _ e1]
    refine lv_istore_n hx hb dM_rename_9 rfl hl (by decide) rfl (fun ls hl => ?_)
    refine lv_iload_n hx hb dM_rename_10 rfl (lv_at hl 0 rfl) ?_
    refine lv_sipush (v := ci_i 1000) hx hb dM_rename_11 (by decide) ?_
    refine lv_icmp_ne (tgt := 38) hx hb dM_rename_14 (by decide) (fun hq => ?_) (fun hq => ?_)
    · exact absurd rfl hq
    · skip
      refine lv_aload_n hx hb dM_rename_17 rfl (lv_at hl 1 rfl) ?_
      refine lv_dup hx hb dM_rename_18 rfl ?_
      refine mp_get hE.1 hI h0 rfl gx_M 12 (by decide) (List.mem_cons_of_mem _ gf_M52) rfl dM_rename_19 ?_
      refine lv_iconst (v := nI 1) hx hb dM_rename_22 (by decide) ?_
      refine lv_iadd hx hb dM_rename_23 ?_
      rw [h5, show nI pz + nI 1 = nI (pz + 1) from (Int32.ofNat_add _ _).symm]
      refine mp_put hE.1 hI h0 rfl gx_M ty_M to_M tn_M 12 (by decide) (List.mem_cons_of_mem _ gf_M52) rfl rfl rfl (Nat.le_of_ble_eq_true rfl) dM_rename_24 (fun H locs hI => ?_)
      have hv1 := hv.upI (iu I 5 (nI (pz + 1)))
      obtain ⟨w1, hw1⟩ : ∃ z, mp_up w (h 0) (ob_M h (iu I 5 (nI (pz + 1)))) = z := ⟨_, rfl⟩
      rw [hw1] at hv1
      have hI : mp_I D cl_all (mp_A w s.heap.size) s.heap w1 H locs := by rw [← hw1]; exact hI
      have hf1 : fm h w w1 := by rw [← hw1]; exact (fm.rf _ _).up (by decide) _
      have h01 := hv1.2.1
      refine lv_aload_n hx hb dM_rename_27 rfl (lv_at hl 1 rfl) ?_
      refine ct_V (n := 0) hE hI (iha E f n (pz + 1) L (tm_row b0 ++ r) w1 _ A hsc.1 hv1 rfl h6 h3 hLl hd2 hE8 hfa (by omega)) h01 rfl gm_M84 gi_M_rename gs_M_M_rename gz_M gc_M_rename (by decide +kernel) ⟨by show tm_dp a0 + 1 ≤ 1 + max (tm_dp a0) (tm_dp b0); omega, by show 8 + (4 + 11) + 30 * tm_dp a0 ≤ 30 * (1 + max (tm_dp a0) (tm_dp b0)); omega⟩ rfl hl.1 rfl (Nat.le_of_ble_eq_true rfl) dM_rename_28 ⟨Nat.le_refl _, Nat.le_refl _⟩ (fun v w2 H locs hq hI => ?_)
      obtain ⟨rfl, I2, A2, hv2, i5, i6, ei, ea, hp2⟩ := hq
      show W _ _ _ _ _ _ _ _ _ _ _ _ _ _ _ (F0 _ _ _ [])
      have h02 := hv2.1.2.1
      have hlt : (L.take (pz + 1)).length = pz + 1 := by rw [List.length_take]; omega
      have hl1 : (L.take (pz + 1) ++ tm_row (tm_rn a0 f n)).length = pz + 1 + tm_sz a0 := by rw [List.length_append, hlt, tm_row_len, tm_rn_sz]
      rw [← List.append_assoc] at hp2
      refine lv_aload_n hx hb dM_rename_31 rfl (lv_at hl 1 rfl) ?_
      refine ct_V (n := 0) hE hI (ihb E f (n + tm_nf a0) (pz + 1 + tm_sz a0) ((L.take (pz + 1) ++ tm_row (tm_rn a0 f n)) ++ (tm_row b0 ++ r)) r w2 I2 A2 hsc.2 hv2.1 i5 i6 hp2 (by rw [List.length_append, hl1, List.length_append, tm_row_len]; omega) (by rw [← hl1, List.drop_left]) (fun v hv => by rw [ea 8 (by decide)]; exact hE8 v hv) hfb (by omega)) h02 rfl gm_M84 gi_M_rename gs_M_M_rename gz_M gc_M_rename (by decide +kernel) ⟨by show tm_dp b0 + 1 ≤ 1 + max (tm_dp a0) (tm_dp b0); omega, by show 8 + (4 + 11) + 30 * tm_dp b0 ≤ 30 * (1 + max (tm_dp a0) (tm_dp b0)); omega⟩ rfl hl.1 rfl (Nat.le_of_ble_eq_true rfl) dM_rename_32 ⟨Nat.le_refl _, Nat.le_refl _⟩ (fun v w3 H locs hq hI => ?_)
      obtain ⟨rfl, I3, A3, hv3, j5, j6, ej, eb, hp3⟩ := hq
      show W _ _ _ _ _ _ _ _ _ _ _ _ _ _ _ (F0 _ _ _ [])
      refine lv_goto (tgt := 146) hx hb dM_rename_35 (by decide) ?_
      refine ct_vret hE hI hr hk ⟨rfl, I3, A3, ⟨hv3.1, (hf1.tr hv2.2).tr hv3.2⟩, ?_, ?_, (((eqI.rf _ _).up (by simp) _).tr ei).tr ej, ea.tr eb, ?_⟩ (by decide) (by decide) dM_rename_146
      · rw [j5]; congr 1; show pz + 1 + tm_sz a0 + tm_sz b0 = pz + (1 + tm_sz a0 + tm_sz b0); omega
      · rw [j6]; congr 1; show n + tm_nf a0 + tm_nf b0 = n + (tm_nf a0 + tm_nf b0); omega
      · rw [← hl1, List.take_left, z2] at hp3
        rw [show tm_rn (.append a0 b0) f n = .append (tm_rn a0 f n) (tm_rn b0 f (n + tm_nf a0)) from rfl, tm_row_app]
        simp only [List.append_assoc, List.cons_append, List.nil_append, List.singleton_append] at hp3 ⊢
        exact hp3
end KM4
