/-! the reference: stepped, say, written -/
theorem tm_fn_sub (n : Int) (b : Std.Format) (a : Std.Format) : ∀ j ∈ tm_fn (tm_sub n b a), j ∈ tm_fn a ∨ j ∈ tm_fn b := by
  induction a using tm_ind with
  | hl t h =>
    intro j hj
    rw [tm_sub_leaf n b h] at hj
    split at hj
    · exact Or.inr hj
    · exact Or.inl hj
  | hf k a ih =>
    intro j hj
    rcases List.mem_cons.mp (show j ∈ k :: tm_fn (tm_sub n b a) from hj) with e | hj
    · exact Or.inl (List.mem_cons.mpr (Or.inl e))
    · exact (ih j hj).imp (fun h => List.mem_cons_of_mem _ h) id
  | ha x y ihx ihy =>
    intro j hj
    rcases List.mem_append.mp (show j ∈ tm_fn (tm_sub n b x) ++ tm_fn (tm_sub n b y) from hj) with hj | hj
    · exact (ihx j hj).imp (fun h => List.mem_append_left _ h) id
    · exact (ihy j hj).imp (fun h => List.mem_append_right _ h) id
theorem tm_fn_ct (t : Std.Format) : ∀ p, ∀ j ∈ tm_fn (tm_ct t p), j ∈ tm_fn t := by
  induction t using tm_ind with
  | hl t h =>
    intro p j hj
    cases t <;> first | exact hj | cases h
  | hf k a ih =>
    intro p j hj
    rcases List.mem_cons.mp (show j ∈ k :: tm_fn (tm_ct a (p - 1)) from hj) with e | hj
    · exact List.mem_cons.mpr (Or.inl e)
    · exact List.mem_cons_of_mem _ (ih _ j hj)
  | ha x y ihx ihy =>
    intro p j hj
    by_cases hp : p = 0
    · subst hp
      rcases tm_cases x with hlf | ⟨k, a, rfl⟩ | ⟨u, v, rfl⟩
      · cases x <;> first | exact hj | cases hlf
      · rw [tm_ct_0] at hj
        rcases tm_fn_sub _ _ _ j hj with h1 | h1
        · exact List.mem_append_left _ (List.mem_cons_of_mem _ h1)
        · exact List.mem_append_right _ h1
      · exact hj
    · obtain ⟨q, rfl⟩ : ∃ q, p = q + 1 := ⟨p - 1, by omega⟩
      by_cases hq : q < tm_sz x
      · rw [tm_ct_l x y hq] at hj
        rcases List.mem_append.mp (show j ∈ tm_fn (tm_ct x q) ++ tm_fn y from hj) with hj | hj
        · exact List.mem_append_left _ (ihx q j hj)
        · exact List.mem_append_right _ hj
      · obtain ⟨z, rfl⟩ : ∃ z, q = tm_sz x + z := ⟨q - tm_sz x, by omega⟩
        rw [tm_ct_r x y] at hj
        rcases List.mem_append.mp (show j ∈ tm_fn x ++ tm_fn (tm_ct y z) from hj) with hj | hj
        · exact List.mem_append_left _ hj
        · exact List.mem_append_right _ (ihy z j hj)
section KM6
variable {l : Launch} {n0 : Nat} {D : va_G} {K : Nat → ClassId} {h : Nat → Nat}
set_option maxRecDepth 100000 in
set_option maxHeartbeats 2000000 in
theorem kM_stepped {w : mp_W} {I : mI} {A : mA} {t : Std.Format} {q : Nat} (hv : mv K w h I A) (hnw : nw I A t) (hrx : tm_rx t q) : ct_M l n0 D K yM_stepped (Cond.code yM_stepped cM_stepped 5 (some .boolean)) 153 4600 0 0 [.ref (h 0), .int (nI q)] w (fun v w' => v = some (.int (if tm_chk (tm_ct t q) = none then 0 else 1)) ∧ ∃ I' A', mo K h w w' I' A' ∧ eqI [1, 2, 3, 5, 6] I I' ∧ eqA [3, 5, 7] A A' ∧ ∀ u, tm_chk (tm_ct t q) = some u → nw I' A' u) := by
  obtain ⟨i2, p5, hok⟩ := hnw
  have hz := hok.2.2.1
  have h0 := hv.2.1
  have hA5 : w (h 5) = some (ob_I K 2001 (A 5)) := hv.2.2.2 5 (by decide) (by decide)
  have hbd := tm_ok_bd hok
  have hlen := tm_row_len t
  have hfn : ∀ j ∈ tm_fn (tm_ct t q), j < 8000 := fun j hj => tm_ok_fn hok j (tm_fn_ct t q j hj)
  obtain ⟨j, a, b, F, pre, post, pre', post', -, hpre, -, erow, -, erow2, hsc, hsa, hsb, -, -⟩ := tm_step hok hrx
  obtain ⟨L, hL⟩ : ∃ L, tm_row t = L := ⟨_, rfl⟩
  rw [hL] at p5 hbd hlen erow
  have d1 : L.drop (q + 1) = tm_row (.tag j a) ++ (tm_row b ++ post') := by
    rw [erow, tm_row_fun, show pre' ++ (1000 :: (2000 + (j : Int)) :: (tm_row a ++ (tm_row b ++ post'))) = (pre' ++ [1000]) ++ ((2000 + (j : Int)) :: (tm_row a ++ (tm_row b ++ post'))) by simp, show q + 1 = (pre' ++ [1000]).length by simp [hpre], List.drop_left]
    rfl
  have d2 : L.drop (q + 2 + tm_sz a) = tm_row b ++ post' := by
    rw [show q + 2 + tm_sz a = (q + 1) + (tm_row (.tag j a)).length by rw [tm_row_len]; show _ = q + 1 + (1 + tm_sz a); omega, ← List.drop_drop, d1, List.drop_left]
  have d3 : L.drop (q + 2) = tm_row a ++ (tm_row b ++ post') := by
    rw [show q + 2 = (q + 1) + 1 by omega, ← List.drop_drop, d1, tm_row_fun]
    rfl
  have d4 : L.drop (q + 2 + tm_sz a + tm_sz b) = post' := by
    rw [← List.drop_drop, d2, ← tm_row_len b, List.drop_left]
  have t0 : L.take q = pre' := by rw [erow, ← hpre, List.take_left]
  have e1 : L[q + 1]? = some (2000 + (j : Int)) := by
    have := congrArg (fun M => M[0]?) d1
    rw [tm_row_fun] at this
    simpa using this
  have hlen2 := congrArg List.length d2
  rw [List.length_drop, List.length_append, tm_row_len] at hlen2
  have hpb := tm_sz_pos b
  have hjb := hbd _ (List.mem_of_getElem? e1)
  have ml5 : ml 5 = 2001 := rfl
  have hq9 : q + 2 + tm_sz a + tm_sz b ≤ L.length := by omega
  refine ct_go (own := nm_M) (by decide) rfl (Nat.le_of_ble_eq_true rfl) ?_
  intro p e s m below meth c ls hE hI hr hk hn hl
  have hx := hE.1.1.1
  have hb := hE.1.1.2.1
  have hl : lv_has ls 5 [(0, .ref (h 0)), (1, .int (nI q))] := hl
  refine lv_iload_n hx hb dM_stepped_0 rfl (lv_at hl 1 rfl) ?_
  refine lv_iconst (v := nI 2) hx hb dM_stepped_1 (by decide) ?_
  refine lv_iadd hx hb dM_stepped_2 ?_
  rw [show nI q + nI 2 = nI (q + 2) from (Int32.ofNat_add _ _).symm]
  refine lv_istore_n hx hb dM_stepped_3 rfl hl (by decide) rfl (fun ls hl => ?_)
  refine lv_aload_n hx hb dM_stepped_4 rfl (lv_at hl 1 rfl) ?_
  refine mp_get hE.1 hI h0 rfl gx_M 5 (by decide) (List.mem_cons_of_mem _ gf_M28) rfl dM_stepped_5 ?_
  refine lv_iload_n hx hb dM_stepped_8 rfl (lv_at hl 2 rfl) ?_
  refine lv_iconst (v := nI 1) hx hb dM_stepped_9 (by decide) ?_
  refine lv_iadd hx hb dM_stepped_10 ?_
  rw [show nI q + nI 1 = nI (q + 1) from (Int32.ofNat_add _ _).symm]
  refine ct_St (n := 2) hE hI (kM_end (k := 5) (t := .tag j a) (E := F) hv (by decide) (by decide) (by decide) p5 (by rw [ml5]; omega) hbd d1 hsa (by omega)) gm_M118 gt_M_end gz_M gc_M_end (by decide +kernel) ⟨Nat.le_of_ble_eq_true rfl, Nat.le_of_ble_eq_true rfl⟩ rfl hl.1 rfl (Nat.le_of_ble_eq_true rfl) dM_stepped_11 ⟨Nat.le_of_ble_eq_true rfl, Nat.le_of_ble_eq_true rfl⟩ (fun v w1 H locs hq hI => ?_)
  obtain ⟨hw, rfl⟩ := hq
  subst w1
  show W _ _ _ _ _ _ _ _ _ _ _ _ _ _ _ (F0 _ _ _ [.int _])
  rw [show q + 1 + tm_sz (.tag j a) = q + 2 + tm_sz a by show q + 1 + (1 + tm_sz a) = _; omega]
  refine lv_istore_n hx hb dM_stepped_14 rfl hl (by decide) rfl (fun ls hl => ?_)
  refine lv_aload_n hx hb dM_stepped_15 rfl (lv_at hl 2 rfl) ?_
  refine mp_get hE.1 hI h0 rfl gx_M 5 (by decide) (List.mem_cons_of_mem _ gf_M28) rfl dM_stepped_16 ?_
  refine lv_iload_n hx hb dM_stepped_19 rfl (lv_at hl 0 rfl) ?_
  refine ct_St (n := 2) hE hI (kM_end (k := 5) (t := b) (E := F) hv (by decide) (by decide) (by decide) p5 (by rw [ml5]; omega) hbd d2 hsb (by omega)) gm_M118 gt_M_end gz_M gc_M_end (by decide +kernel) ⟨Nat.le_of_ble_eq_true rfl, Nat.le_of_ble_eq_true rfl⟩ rfl hl.1 rfl (Nat.le_of_ble_eq_true rfl) dM_stepped_20 ⟨Nat.le_of_ble_eq_true rfl, Nat.le_of_ble_eq_true rfl⟩ (fun v w1 H locs hq hI => ?_)
  obtain ⟨hw, rfl⟩ := hq
  subst w1
  show W _ _ _ _ _ _ _ _ _ _ _ _ _ _ _ (F0 _ _ _ [.int _])
  refine lv_istore hx hb dM_stepped_23 hl (by decide) rfl (fun ls hl => ?_)
  refine lv_aload_n hx hb dM_stepped_25 rfl (lv_at hl 3 rfl) ?_
  refine ct_V (n := 0) hE hI (kM_begin hv) h0 rfl gm_M104 gi_M_begin gs_M_M_begin gz_M gc_M_begin (by decide +kernel) ⟨Nat.le_of_ble_eq_true rfl, Nat.le_of_ble_eq_true rfl⟩ rfl hl.1 rfl (Nat.le_of_ble_eq_true rfl) dM_stepped_26 ⟨Nat.le_of_ble_eq_true rfl, Nat.le_of_ble_eq_true rfl⟩ (fun v w1 H locs hq hI => ?_)
  obtain ⟨rfl, I1, hv1, hm1, ei1⟩ := hq
  show W _ _ _ _ _ _ _ _ _ _ _ _ _ _ _ (F0 _ _ _ [])
  have h01 := hv1.1.2.1
  refine lv_aload_n hx hb dM_stepped_29 rfl (lv_at hl 3 rfl) ?_
  refine lv_aload_n hx hb dM_stepped_30 rfl (lv_at hl 3 rfl) ?_
  refine mp_get hE.1 hI h01 rfl gx_M 5 (by decide) (List.mem_cons_of_mem _ gf_M28) rfl dM_stepped_31 ?_
  refine lv_iconst (v := nI 0) hx hb dM_stepped_34 (by decide) ?_
  refine lv_iload_n hx hb dM_stepped_35 rfl (lv_at hl 4 rfl) ?_
  refine ct_V (n := 3) hE hI (kM_add2 (k := 5) (a := 0) (b := q) hv1.1 hm1 (by decide) (by decide) (by decide) (by decide) p5 (by omega) (by omega) (by rw [ml5]; omega)) h01 rfl gm_M75 gi_M_add2 gs_M_M_add2 gz_M gc_M_add2 (by decide +kernel) ⟨Nat.le_of_ble_eq_true rfl, Nat.le_of_ble_eq_true rfl⟩ rfl hl.1 rfl (Nat.le_of_ble_eq_true rfl) dM_stepped_36 ⟨Nat.le_of_ble_eq_true rfl, Nat.le_of_ble_eq_true rfl⟩ (fun v w2 H locs hq hI => ?_)
  obtain ⟨rfl, I2, A2, hv2, hm2, ei2, ea2⟩ := hq
  rw [List.nil_append, List.drop_zero, Nat.sub_zero, t0] at hm2
  show W _ _ _ _ _ _ _ _ _ _ _ _ _ _ _ (F0 _ _ _ [])
  have h02 := hv2.1.2.1
  have p52 : pt_h (A2 5) L := by rw [ea2 5 (by decide)]; exact p5
  have hA52 : w2 (h 5) = some (ob_I K 2001 (A2 5)) := hv2.1.2.2.2 5 (by decide) (by decide)
  refine lv_aload_n hx hb dM_stepped_39 rfl (lv_at hl 3 rfl) ?_
  refine lv_aload_n hx hb dM_stepped_40 rfl (lv_at hl 3 rfl) ?_
  refine mp_get hE.1 hI h02 rfl gx_M 5 (by decide) (List.mem_cons_of_mem _ gf_M28) rfl dM_stepped_41 ?_
  refine lv_iload_n hx hb dM_stepped_44 rfl (lv_at hl 2 rfl) ?_
  refine lv_iload_n hx hb dM_stepped_45 rfl (lv_at hl 1 rfl) ?_
  refine lv_iconst (v := ci_i (-1)) hx hb dM_stepped_46 (by decide) ?_
  refine lv_aload_n hx hb dM_stepped_47 rfl (lv_at hl 3 rfl) ?_
  refine mp_get hE.1 hI h02 rfl gx_M 5 (by decide) (List.mem_cons_of_mem _ gf_M28) rfl dM_stepped_48 ?_
  refine lv_iload_n hx hb dM_stepped_51 rfl (lv_at hl 4 rfl) ?_
  refine lv_iconst (v := nI 1) hx hb dM_stepped_52 (by decide) ?_
  refine lv_iadd hx hb dM_stepped_53 ?_
  rw [show nI q + nI 1 = nI (q + 1) from (Int32.ofNat_add _ _).symm]
  refine mp_ild hE.1 hI hA52 0 rfl (vp_in_nI (by omega) (by omega)) dM_stepped_54 ?_
  rw [nI_clamp (by omega), p52 (q + 1) _ e1]
  refine lv_sipush (v := ci_i 2000) hx hb dM_stepped_55 (by decide) ?_
  refine lv_isub hx hb dM_stepped_58 ?_
  refine lv_isub hx hb dM_stepped_59 ?_
  refine lv_aload_n hx hb dM_stepped_60 rfl (lv_at hl 3 rfl) ?_
  refine mp_get hE.1 hI h02 rfl gx_M 5 (by decide) (List.mem_cons_of_mem _ gf_M28) rfl dM_stepped_61 ?_
  refine lv_iload_n hx hb dM_stepped_64 rfl (lv_at hl 1 rfl) ?_
  refine lv_iload hx hb dM_stepped_65 (lv_at hl 0 rfl) ?_
  rw [show ci_i (-1) - (ci_i (2000 + (j : Int)) - ci_i 2000) = ci_i (-1 - (j : Int)) by rw [ci_sub, ci_sub]; congr 1; omega]
  refine ct_V (n := 7) hE hI (kM_add3 (k := 5) (k2 := 5) (a := q + 2) (b := q + 2 + tm_sz a) (c := q + 2 + tm_sz a) (d := q + 2 + tm_sz a + tm_sz b) (tk := -1 - (j : Int)) hv2.1 hm2 (by decide) (by decide) (by decide) (by decide) p52 (by omega) (by omega) (by rw [ml5]; omega) (by decide) (by decide) (by decide) (by decide) p52 (by omega) (by omega) (by rw [ml5]; omega) hbd (by omega)) h02 rfl gm_M115 gi_M_add3 gs_M_M_add3 gz_M gc_M_add3 (by decide +kernel) ⟨Nat.le_of_ble_eq_true rfl, Nat.le_of_ble_eq_true rfl⟩ rfl hl.1 rfl (Nat.le_of_ble_eq_true rfl) dM_stepped_67 ⟨Nat.le_of_ble_eq_true rfl, Nat.le_of_ble_eq_true rfl⟩ (fun v w3 H locs hq hI => ?_)
  obtain ⟨rfl, I3, A3, hv3, hm3, ei3, ea3⟩ := hq
  rw [d3, d2, show q + 2 + tm_sz a - (q + 2) = (tm_row a).length by rw [tm_row_len]; omega, List.take_left, show q + 2 + tm_sz a + tm_sz b - (q + 2 + tm_sz a) = (tm_row b).length by rw [tm_row_len]; omega, List.take_left] at hm3
  show W _ _ _ _ _ _ _ _ _ _ _ _ _ _ _ (F0 _ _ _ [])
  have h03 := hv3.1.2.1
  have p53 : pt_h (A3 5) L := by rw [ea3 5 (by decide)]; exact p52
  have i23 : I3 2 = nI (tm_sz t) := by rw [ei3 2 (by decide), ei2 2 (by decide), ei1 2 (by decide)]; exact i2
  refine lv_aload_n hx hb dM_stepped_70 rfl (lv_at hl 3 rfl) ?_
  refine lv_aload_n hx hb dM_stepped_71 rfl (lv_at hl 3 rfl) ?_
  refine mp_get hE.1 hI h03 rfl gx_M 5 (by decide) (List.mem_cons_of_mem _ gf_M28) rfl dM_stepped_72 ?_
  refine lv_iload hx hb dM_stepped_75 (lv_at hl 0 rfl) ?_
  refine lv_aload_n hx hb dM_stepped_77 rfl (lv_at hl 3 rfl) ?_
  refine mp_get hE.1 hI h03 rfl gx_M 7 (by decide) (List.mem_cons_of_mem _ gf_M34) rfl dM_stepped_78 ?_
  rw [i23]
  refine ct_V (n := 3) hE hI (kM_add2 (k := 5) (a := q + 2 + tm_sz a + tm_sz b) (b := tm_sz t) hv3.1 hm3 (by decide) (by decide) (by decide) (by decide) p53 (by omega) (by omega) (by rw [ml5]; omega)) h03 rfl gm_M75 gi_M_add2 gs_M_M_add2 gz_M gc_M_add2 (by decide +kernel) ⟨Nat.le_of_ble_eq_true rfl, Nat.le_of_ble_eq_true rfl⟩ rfl hl.1 rfl (Nat.le_of_ble_eq_true rfl) dM_stepped_81 ⟨Nat.le_of_ble_eq_true rfl, Nat.le_of_ble_eq_true rfl⟩ (fun v w4 H locs hq hI => ?_)
  obtain ⟨rfl, I4, A4, hv4, hm4, ei4, ea4⟩ := hq
  have hm4 : mk_m I4 A4 (tm_row (tm_ct t q)) := by
    rw [d4, List.take_of_length_le (by have := congrArg List.length d4; rw [List.length_drop] at this; omega), List.append_assoc] at hm4
    rw [erow2]
    exact hm4
  show W _ _ _ _ _ _ _ _ _ _ _ _ _ _ _ (F0 _ _ _ [])
  have h04 := hv4.1.2.1
  have eiA : eqI [1, 2, 3, 5, 6] I I4 := (((ei1.tr ei2).tr ei3).tr ei4).mono (by simp)
  have eaA : eqA [3, 5, 7] A A4 := ((ea2.tr ea3).tr ea4).mono (by simp)
  have hfA : fm h w w4 := ((hv1.2.tr hv2.2).tr hv3.2).tr hv4.2
  refine lv_aload_n hx hb dM_stepped_84 rfl (lv_at hl 3 rfl) ?_
  refine ct_V (n := 0) hE hI (kM_whole (X := tm_ct t q) hv4.1 hm4 hsc hfn) h04 rfl gm_M111 gi_M_whole gs_M_M_whole gz_M gc_M_whole (by decide +kernel) ⟨Nat.le_of_ble_eq_true rfl, Nat.le_of_ble_eq_true rfl⟩ rfl hl.1 rfl (Nat.le_of_ble_eq_true rfl) dM_stepped_85 ⟨Nat.le_of_ble_eq_true rfl, Nat.le_of_ble_eq_true rfl⟩ (fun v w5 H locs hq hI => ?_)
  obtain ⟨rfl, I5, A5, hv5, ei5, ea5, hu5⟩ := hq
  show W _ _ _ _ _ _ _ _ _ _ _ _ _ _ _ (F0 _ _ _ [.int _])
  have h05 := hv5.1.2.1
  cases hchk : tm_chk (tm_ct t q) with
  | none =>
    rw [if_pos rfl]
    refine lv_if_ne (tgt := 93) hx hb dM_stepped_88 (by decide) (fun hq => ?_) (fun hq => ?_)
    · exact absurd rfl hq
    · refine lv_iconst (v := 0) hx hb dM_stepped_91 (by decide) ?_
      exact ct_zret hE hI hr hk (Or.inl rfl) ⟨rfl, I5, A5, ⟨hv5.1, hfA.tr hv5.2⟩, eiA.tr (ei5.mono (by simp)), eaA.tr (ea5.mono (by simp)), fun u hu => by cases hu⟩ (by decide) (by decide) dM_stepped_92
  | some u =>
    obtain ⟨i1u, p3u⟩ := hu5 u hchk
    have hoku := (tm_chk_ok hsc hchk).1
    have hzu := hoku.2.2.1
    rw [if_neg (by simp)]
    have hA35 : w5 (h 3) = some (ob_I K 2001 (A5 3)) := hv5.1.2.2.2 3 (by decide) (by decide)
    have hA55 : w5 (h 5) = some (ob_I K 2001 (A5 5)) := hv5.1.2.2.2 5 (by decide) (by decide)
    refine lv_if_ne (tgt := 93) hx hb dM_stepped_88 (by decide) (fun hq => ?_) (fun hq => ?_)
    · refine lv_aload_n hx hb dM_stepped_93 rfl (lv_at hl 3 rfl) ?_
      refine mp_get hE.1 hI h05 rfl gx_M 3 (by decide) (List.mem_cons_of_mem _ gf_M22) rfl dM_stepped_94 ?_
      refine lv_iconst (v := nI 0) hx hb dM_stepped_97 (by decide) ?_
      refine lv_aload_n hx hb dM_stepped_98 rfl (lv_at hl 3 rfl) ?_
      refine mp_get hE.1 hI h05 rfl gx_M 5 (by decide) (List.mem_cons_of_mem _ gf_M28) rfl dM_stepped_99 ?_
      refine lv_iconst (v := nI 0) hx hb dM_stepped_102 (by decide) ?_
      refine lv_aload_n hx hb dM_stepped_103 rfl (lv_at hl 3 rfl) ?_
      refine mp_get hE.1 hI h05 rfl gx_M 6 (by decide) (List.mem_cons_of_mem _ gf_M31) rfl dM_stepped_104 ?_
      rw [i1u]
      refine mp_copy hE.1 hI hl.1 (List.mem_cons_of_mem _ gm_M94) (List.mem_cons_of_mem _ gv_Js_arraycopy) (List.mem_cons_of_mem _ gt_Js_arraycopy) (List.mem_cons_of_mem _ gz_Js) hA35 hA55 0 0 rfl rfl rfl (nI_pos (by omega)) (nI_pos (by omega)) (nI_pos (by omega)) (by rw [nI_clamp (by omega), nI_clamp (by omega)]; omega) (by rw [nI_clamp (by omega), nI_clamp (by omega)]; omega) (fun _ _ => rfl) (Nat.le_of_ble_eq_true rfl) (Nat.le_of_ble_eq_true rfl) dM_stepped_107 (fun H locs hI => ?_)
      rw [nI_clamp (by omega), nI_clamp (by omega)] at hI
      have hv6 := hv5.1.upA (k := 5) (by decide) (by decide) (va_cpy (A5 3) (A5 5) 0 0 (tm_sz u))
      obtain ⟨w6, hw6⟩ : ∃ z, mp_up w5 (h 5) (ob_A K 5 (va_cpy (A5 3) (A5 5) 0 0 (tm_sz u))) = z := ⟨_, rfl⟩
      rw [hw6] at hv6
      have hI : mp_I D cl_all (mp_A w s.heap.size) s.heap w6 H locs := by rw [← hw6]; exact hI
      have hf6 : fm h w w6 := by rw [← hw6]; exact (hfA.tr hv5.2).up (by decide) _
      have h06 := hv6.2.1
      refine lv_aload_n hx hb dM_stepped_110 rfl (lv_at hl 3 rfl) ?_
      refine lv_aload_n hx hb dM_stepped_111 rfl (lv_at hl 3 rfl) ?_
      refine mp_get hE.1 hI h06 rfl gx_M 6 (by decide) (List.mem_cons_of_mem _ gf_M31) rfl dM_stepped_112 ?_
      rw [i1u]
      refine mp_put hE.1 hI h06 rfl gx_M ty_M to_M tn_M 7 (by decide) (List.mem_cons_of_mem _ gf_M34) rfl rfl rfl (Nat.le_of_ble_eq_true rfl) dM_stepped_115 (fun H locs hI => ?_)
      refine lv_iconst (v := 1) hx hb dM_stepped_118 (by decide) ?_
      have hv7 := hv6.upI (iu I5 2 (nI (tm_sz u)))
      refine ct_zret hE hI hr hk (Or.inr rfl) ⟨rfl, iu I5 2 (nI (tm_sz u)), _, ⟨hv7, hf6.up (by decide) _⟩, (eiA.tr (ei5.mono (by simp))).up (by simp) _, (eaA.tr (ea5.mono (by simp))).up (by simp) _, fun u' hu' => ?_⟩ (by decide) (by decide) dM_stepped_119
      cases hu'
      refine ⟨iu_self, ?_, hoku⟩
      rw [au_self, ← tm_row_len u]
      exact pt_h_cpy p3u
    · exact absurd hq (by decide)
/-- OUT, as the reference holds it -/
def ou (I : mI) (A : mA) (O : List Int) : Prop := I 4 = nI O.length ∧ pt_h (A 6) O ∧ O.length ≤ 310000
set_option maxRecDepth 100000 in
theorem kM_say {w : mp_W} {I : mI} {A : mA} {O : List Int} {z : Nat} (hv : mv K w h I A) (ho : ou I A O) (hO : O.length < 310000) (hz : z < 128) : ct_M l n0 D K yM_say (Cond.code yM_say cM_say 2 none) 0 0 0 0 [.ref (h 0), .int (nI z)] w (fun v w' => v = none ∧ ∃ I' A', mo K h w w' I' A' ∧ ou I' A' (O ++ [(z : Int)]) ∧ eqI [4] I I' ∧ eqA [6] A A') := by
  obtain ⟨i4, p6, -⟩ := ho
  have h0 := hv.2.1
  refine ct_go (own := nm_M) (by decide) rfl (Nat.le_of_ble_eq_true rfl) ?_
  intro p e s m below meth c ls hE hI hr hk hn hl
  have hx := hE.1.1.1
  have hb := hE.1.1.2.1
  have hl : lv_has ls 2 [(0, .ref (h 0)), (1, .int (nI z))] := hl
  refine lv_aload_n hx hb dM_say_0 rfl (lv_at hl 0 rfl) ?_
  refine mp_get hE.1 hI h0 rfl gx_M 9 (by decide) (List.mem_cons_of_mem _ gf_M42) rfl dM_say_1 ?_
  refine lv_aload_n hx hb dM_say_4 rfl (lv_at hl 0 rfl) ?_
  refine lv_dup hx hb dM_say_5 rfl ?_
  refine mp_get hE.1 hI h0 rfl gx_M 10 (by decide) (List.mem_cons_of_mem _ gf_M46) rfl dM_say_6 ?_
  refine lv_dup_x1 hx hb dM_say_9 rfl rfl ?_
  refine lv_iconst (v := nI 1) hx hb dM_say_10 (by decide) ?_
  refine lv_iadd hx hb dM_say_11 ?_
  rw [i4, show nI O.length + nI 1 = nI (O.length + 1) from (Int32.ofNat_add _ _).symm]
  refine mp_put hE.1 hI h0 rfl gx_M ty_M to_M tn_M 10 (by decide) (List.mem_cons_of_mem _ gf_M46) rfl rfl rfl (Nat.le_of_ble_eq_true rfl) dM_say_12 (fun H locs hI => ?_)
  have hv1 := hv.upI (iu I 4 (nI (O.length + 1)))
  obtain ⟨w1, hw1⟩ : ∃ z, mp_up w (h 0) (ob_M h (iu I 4 (nI (O.length + 1)))) = z := ⟨_, rfl⟩
  rw [hw1] at hv1
  have hI : mp_I D cl_all (mp_A w s.heap.size) s.heap w1 H locs := by rw [← hw1]; exact hI
  have hf1 : fm h w w1 := by rw [← hw1]; exact (fm.rf _ _).up (by decide) _
  have hA6 : w1 (h 6) = some (ob_Y K 310000 (A 6)) := hv1.2.2.2 6 (by decide) (by decide)
  refine lv_iload_n hx hb dM_say_15 rfl (lv_at hl 1 rfl) ?_
  refine lv_i2b hx hb dM_say_16 rfl ?_
  rw [(nI_b z hz).1.1]
  refine mp_bst hE.1 hI hA6 1 rfl (vp_in_nI (by omega) (by omega)) dM_say_17 (fun H locs hI => ?_)
  rw [nI_clamp (by omega), (nI_b z hz).1.2] at hI
  have hv2 := hv1.upA (k := 6) (by decide) (by decide) (upd (A 6) O.length (nI z))
  refine ct_vret hE hI hr hk ⟨rfl, _, _, ⟨hv2, hf1.up (k := 6) (by decide) _⟩, ⟨?_, ?_, ?_⟩, (eqI.rf _ _).up (by simp) _, (eqA.rf _ _).up (by simp) _⟩ (by decide) (by decide) dM_say_18
  · rw [iu_self, List.length_append, List.length_singleton]
  · rw [au_self, ← ci_nat]
    exact pt_h_app p6
  · rw [List.length_append, List.length_singleton]; omega
end KM6
