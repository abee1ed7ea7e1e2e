/-! the reference: renamed, whole, keep, begins, keepNow, isStep, first, atHead -/
theorem tm_row_bd (t : Std.Format) : ∀ E, tm_sc t E → (∀ v ∈ E, v < 8000) → (∀ j ∈ tm_fn t, j < 8000) → ∀ x ∈ tm_row t, -1000000 ≤ x ∧ x ≤ 1000000 := by
  induction t using tm_ind with
  | hl t h =>
    intro E hs hE _ x hx
    rw [tm_row_leaf h] at hx
    rw [tm_sc_leaf h] at hs
    simp at hx
    subst hx
    rcases hs with hh | ⟨hh, hm⟩
    · omega
    · have := hE _ hm
      omega
  | hf j a ih =>
    intro E hs hE hfn x hx
    rw [tm_row_fun] at hx
    have hj := hfn j (List.mem_cons_self ..)
    rcases List.mem_cons.mp hx with e | hx
    · omega
    · exact ih (j :: E) hs (fun v hv => (List.mem_cons.mp hv).elim (fun e => by rw [e]; exact hj) (hE v)) (fun v hv => hfn v (List.mem_cons_of_mem _ hv)) x hx
  | ha a b iha ihb =>
    intro E hs hE hfn x hx
    rw [tm_row_app] at hx
    rcases List.mem_cons.mp hx with e | hx
    · omega
    · rcases List.mem_append.mp hx with hx | hx
      · exact iha E hs.1 hE (fun v hv => hfn v (List.mem_append_left _ hv)) x hx
      · exact ihb E hs.2 hE (fun v hv => hfn v (List.mem_append_right _ hv)) x hx
theorem tm_ok_fn {t : Std.Format} (h : tm_ok t) : ∀ j ∈ tm_fn t, j < 8000 := fun j hj => by
  have := tm_cn_fn t 0 h.2.1 j hj
  have := tm_nf_sz t
  have := h.2.2.1
  omega
theorem tm_ok_bd {t : Std.Format} (h : tm_ok t) : ∀ x ∈ tm_row t, -1000000 ≤ x ∧ x ≤ 1000000 := tm_row_bd t [] h.1 (fun v hv => by cases hv) (tm_ok_fn h)
theorem tm_ks_last (t : Std.Format) : (tm_ks t)[tm_sz t - 1]? = some 0 := by
  induction t using tm_ind with
  | hl t h => rw [tm_ks_leaf h, tm_sz_leaf h]; rfl
  | hf j a ih =>
    have := tm_sz_pos a
    rw [tm_ks_fun, show tm_sz (.tag j a) = 1 + tm_sz a from rfl, show 1 + tm_sz a - 1 = (tm_sz a - 1) + 1 by omega, List.getElem?_cons_succ]
    exact ih
  | ha a b iha ihb =>
    have := tm_sz_pos b
    rw [tm_ks_app, show tm_sz (.append a b) = 1 + tm_sz a + tm_sz b from rfl, show 1 + tm_sz a + tm_sz b - 1 = (tm_sz a + (tm_sz b - 1)) + 1 by omega, List.getElem?_cons_succ, List.getElem?_append_right (by rw [tm_ks_len]; omega), tm_ks_len, show tm_sz a + (tm_sz b - 1) - tm_sz a = tm_sz b - 1 by omega]
    exact ihb
theorem tm_row_2 {t : Std.Format} {E : List Nat} (hs : tm_sc t E) {p : Nat} : (tm_row t)[p]? = some 1000 ↔ (tm_ks t)[p]? = some 2 := by
  rw [← tm_row_ks t E hs, List.getElem?_map]
  cases hx : (tm_row t)[p]? with
  | none => simp
  | some x =>
    simp only [Option.map_some, Option.some.injEq]
    exact ⟨fun e => by rw [e]; rfl, fun e => tm_kr_2 e⟩
theorem tm_row_app_lt {t : Std.Format} {E : List Nat} (hs : tm_sc t E) {p : Nat} (h : (tm_row t)[p]? = some 1000) : p + 1 < tm_sz t := by
  have h1 := (tm_row_2 hs).mp h
  have h2 := (List.getElem?_eq_some_iff.mp h).1
  rw [tm_row_len] at h2
  have h3 := tm_ks_last t
  rcases Nat.lt_or_ge (p + 1) (tm_sz t) with hh | hh
  · exact hh
  · rw [show tm_sz t - 1 = p by omega, h1] at h3
    cases h3
/-- now holds t -/
def nw (I : mI) (A : mA) (t : Std.Format) : Prop := I 2 = nI (tm_sz t) ∧ pt_h (A 5) (tm_row t) ∧ tm_ok t
section KM5
variable {l : Launch} {n0 : Nat} {D : va_G} {K : Nat → ClassId} {w : mp_W} {h : Nat → Nat} {I : mI} {A : mA}
set_option maxRecDepth 100000 in
theorem kM_renamed {X : Std.Format} (hv : mv K w h I A) (h3 : pt_h (A 3) (tm_row X)) (hz : tm_sz X ≤ 2000) (hd : tm_dp X ≤ 150) (hs : tm_sc X []) (hfn : ∀ j ∈ tm_fn X, j < 8000) : ct_M l n0 D K yM_renamed (Cond.code yM_renamed cM_renamed 1 none) 151 4530 0 0 [.ref (h 0)] w (fun v w' => v = none ∧ ∃ I' A', mo K h w w' I' A' ∧ eqI [5, 6] I I' ∧ eqA [3] A A' ∧ pt_h (A' 3) (tm_row (tm_can X))) := by
  have h0 := hv.2.1
  have hnf := tm_nf_sz X
  refine ct_go (own := nm_M) (by decide) rfl (Nat.le_of_ble_eq_true rfl) ?_
  intro p e s m below meth c ls hE hI hr hk hn hl
  have hx := hE.1.1.1
  have hb := hE.1.1.2.1
  have hl : lv_has ls 1 [(0, .ref (h 0))] := hl
  refine lv_aload_n hx hb dM_renamed_0 rfl (lv_at hl 0 rfl) ?_
  refine lv_iconst (v := nI 0) hx hb dM_renamed_1 (by decide) ?_
  refine mp_put hE.1 hI h0 rfl gx_M ty_M to_M tn_M 12 (by decide) (List.mem_cons_of_mem _ gf_M52) rfl rfl rfl (Nat.le_of_ble_eq_true rfl) dM_renamed_2 (fun H locs hI => ?_)
  have hv1 := hv.upI (iu I 5 (nI 0))
  obtain ⟨w1, hw1⟩ : ∃ z, mp_up w (h 0) (ob_M h (iu I 5 (nI 0))) = z := ⟨_, rfl⟩
  rw [hw1] at hv1
  have hI : mp_I D cl_all (mp_A w s.heap.size) s.heap w1 H locs := by rw [← hw1]; exact hI
  have hf1 : fm h w w1 := by rw [← hw1]; exact (fm.rf _ _).up (by decide) _
  have h01 := hv1.2.1
  refine lv_aload_n hx hb dM_renamed_5 rfl (lv_at hl 0 rfl) ?_
  refine lv_iconst (v := nI 0) hx hb dM_renamed_6 (by decide) ?_
  refine mp_put hE.1 hI h01 rfl gx_M ty_M to_M tn_M 13 (by decide) (List.mem_cons_of_mem _ gf_M55) rfl rfl rfl (Nat.le_of_ble_eq_true rfl) dM_renamed_7 (fun H locs hI => ?_)
  have hv2 := hv1.upI (iu (iu I 5 (nI 0)) 6 (nI 0))
  obtain ⟨w2, hw2⟩ : ∃ z, mp_up w1 (h 0) (ob_M h (iu (iu I 5 (nI 0)) 6 (nI 0))) = z := ⟨_, rfl⟩
  rw [hw2] at hv2
  have hI : mp_I D cl_all (mp_A w s.heap.size) s.heap w2 H locs := by rw [← hw2]; exact hI
  have hf2 : fm h w w2 := by rw [← hw2]; exact hf1.up (by decide) _
  have h02 := hv2.2.1
  refine lv_aload_n hx hb dM_renamed_10 rfl (lv_at hl 0 rfl) ?_
  refine ct_V (n := 0) hE hI (kM_rename X [] (fun v => v) 0 0 (tm_row X) [] w2 _ A hs hv2 rfl rfl h3 (by rw [tm_row_len]; exact hz) (by simp) (fun v hv => by cases hv) hfn (by omega)) h02 rfl gm_M84 gi_M_rename gs_M_M_rename gz_M gc_M_rename (by decide +kernel) ⟨by show tm_dp X + 1 ≤ 151; omega, by show 8 + (4 + 11) + 30 * tm_dp X ≤ 4530; omega⟩ rfl hl.1 rfl (Nat.le_of_ble_eq_true rfl) dM_renamed_11 ⟨Nat.le_refl _, Nat.le_refl _⟩ (fun v w3 H locs hq hI => ?_)
  obtain ⟨rfl, I3, A3, hv3, i5, i6, ei, ea, hp3⟩ := hq
  show W _ _ _ _ _ _ _ _ _ _ _ _ _ _ _ (F0 _ _ _ [])
  refine ct_vret hE hI hr hk ⟨rfl, I3, A3, ⟨hv3.1, hf2.tr hv3.2⟩, (((eqI.rf _ _).up (by simp) _).up (by simp) _).tr ei, ea, ?_⟩ (by decide) (by decide) dM_renamed_14
  rw [List.append_nil] at hp3
  exact hp3
set_option maxRecDepth 100000 in
theorem kM_whole {X : Std.Format} (hv : mv K w h I A) (hm : mk_m I A (tm_row X)) (hs : tm_sc X []) (hfn : ∀ j ∈ tm_fn X, j < 8000) : ct_M l n0 D K yM_whole (Cond.code yM_whole cM_whole 1 (some .boolean)) 152 4560 0 0 [.ref (h 0)] w (fun v w' => v = some (.int (if tm_chk X = none then 0 else 1)) ∧ ∃ I' A', mo K h w w' I' A' ∧ eqI [5, 6] I I' ∧ eqA [3, 7] A A' ∧ ∀ u, tm_chk X = some u → I' 1 = nI (tm_sz u) ∧ pt_h (A' 3) (tm_row u)) := by
  have h0 := hv.2.1
  obtain ⟨m1, m2, m3⟩ := hm
  rw [tm_row_len] at m1 m2
  refine ct_go (own := nm_M) (by decide) rfl (Nat.le_of_ble_eq_true rfl) ?_
  intro p e s m below meth c ls hE hI hr hk hn hl
  have hx := hE.1.1.1
  have hb := hE.1.1.2.1
  have hl : lv_has ls 1 [(0, .ref (h 0))] := hl
  refine lv_aload_n hx hb dM_whole_0 rfl (lv_at hl 0 rfl) ?_
  refine mp_get hE.1 hI h0 rfl gx_M 8 (by decide) (List.mem_cons_of_mem _ gf_M37) rfl dM_whole_1 ?_
  rw [m2]
  by_cases hz : tm_sz X ≤ 2000
  · rw [if_pos hz]
    rw [Nat.min_eq_left hz] at m1
    rw [List.take_of_length_le (by rw [tm_row_len]; exact hz)] at m3
    refine lv_if_ne (tgt := 25) hx hb dM_whole_4 (by decide) (fun hq => ?_) (fun hq => ?_)
    · exact absurd rfl hq
    · skip
      refine lv_aload_n hx hb dM_whole_7 rfl (lv_at hl 0 rfl) ?_
      refine lv_aload_n hx hb dM_whole_8 rfl (lv_at hl 0 rfl) ?_
      refine mp_get hE.1 hI h0 rfl gx_M 3 (by decide) (List.mem_cons_of_mem _ gf_M22) rfl dM_whole_9 ?_
      refine lv_aload_n hx hb dM_whole_12 rfl (lv_at hl 0 rfl) ?_
      refine mp_get hE.1 hI h0 rfl gx_M 6 (by decide) (List.mem_cons_of_mem _ gf_M31) rfl dM_whole_13 ?_
      rw [m1]
      refine ct_V (n := 2) hE hI (kM_depth (k := 3) (t := X) hv (by decide) (by decide) (by decide) (by decide) m3 (by show tm_sz X ≤ 2001; omega) hz (tm_row_bd X [] hs (fun v hv => by cases hv) hfn) hs) h0 rfl gm_M87 gi_M_depth gs_M_M_depth gz_M gc_M_depth (by decide +kernel) ⟨Nat.le_of_ble_eq_true rfl, Nat.le_of_ble_eq_true rfl⟩ rfl hl.1 rfl (Nat.le_of_ble_eq_true rfl) dM_whole_16 ⟨Nat.le_of_ble_eq_true rfl, Nat.le_of_ble_eq_true rfl⟩ (fun v w1 H locs hq hI => ?_)
      obtain ⟨rfl, A1, hv1, ha1⟩ := hq
      show W _ _ _ _ _ _ _ _ _ _ _ _ _ _ _ (F0 _ _ _ [.int _])
      have h01 := hv1.1.2.1
      have hdz := tm_dp_sz X
      refine lv_sipush (v := nI 150) hx hb dM_whole_19 (by decide) ?_
      refine lv_icmp_le (tgt := 27) hx hb dM_whole_22 (by decide) (fun hq => ?_) (fun hq => ?_)
      · have hq : tm_dp X ≤ 150 := (nI_leI (by omega) (by omega)).mp hq
        have hc : tm_chk X = some (tm_can X) := by unfold tm_chk; rw [if_pos ⟨hz, hq⟩]
        refine lv_aload_n hx hb dM_whole_27 rfl (lv_at hl 0 rfl) ?_
        refine ct_V (n := 0) hE hI (kM_renamed (X := X) hv1.1 (by rw [ha1 3 (by decide)]; exact m3) hz hq hs hfn) h01 rfl gm_M91 gi_M_renamed gs_M_M_renamed gz_M gc_M_renamed (by decide +kernel) ⟨Nat.le_of_ble_eq_true rfl, Nat.le_of_ble_eq_true rfl⟩ rfl hl.1 rfl (Nat.le_of_ble_eq_true rfl) dM_whole_28 ⟨Nat.le_of_ble_eq_true rfl, Nat.le_of_ble_eq_true rfl⟩ (fun v w2 H locs hq hI => ?_)
        obtain ⟨rfl, I2, A2, hv2, ei, ea, hp2⟩ := hq
        show W _ _ _ _ _ _ _ _ _ _ _ _ _ _ _ (F0 _ _ _ [])
        refine lv_iconst (v := 1) hx hb dM_whole_31 (by decide) ?_
        refine ct_zret hE hI hr hk (Or.inr rfl) ⟨by rw [hc]; rfl, I2, A2, ⟨hv2.1, hv1.2.tr hv2.2⟩, ei, (ha1.mono (by simp)).tr (ea.mono (by simp)), fun u hu => ?_⟩ (by decide) (by decide) dM_whole_32
        rw [hc] at hu
        cases hu
        exact ⟨by rw [ei 1 (by decide), m1, show tm_sz (tm_can X) = tm_sz X from tm_rn_sz X _ _], hp2⟩
      · have hq : ¬ tm_dp X ≤ 150 := fun hh => hq (nI_le hh (by omega))
        have hc : tm_chk X = none := by unfold tm_chk; rw [if_neg (fun z => hq z.2)]
        refine lv_iconst (v := 0) hx hb dM_whole_25 (by decide) ?_
        exact ct_zret hE hI hr hk (Or.inl rfl) ⟨by rw [hc]; rfl, I, A1, hv1, eqI.rf _ _, ha1.mono (by simp), fun u hu => by rw [hc] at hu; cases hu⟩ (by decide) (by decide) dM_whole_26
  · rw [if_neg hz]
    have hc : tm_chk X = none := by unfold tm_chk; rw [if_neg (fun z => hz z.1)]
    refine lv_if_ne (tgt := 25) hx hb dM_whole_4 (by decide) (fun hq => ?_) (fun hq => ?_)
    · refine lv_iconst (v := 0) hx hb dM_whole_25 (by decide) ?_
      exact ct_zret hE hI hr hk (Or.inl rfl) ⟨by rw [hc]; rfl, I, A, ⟨hv, fm.rf _ _⟩, eqI.rf _ _, eqA.rf _ _, fun u hu => by rw [hc] at hu; cases hu⟩ (by decide) (by decide) dM_whole_26
    · exact absurd hq (by decide)
theorem pt_h_cpy {f g : Nat → Int32} {L : List Int} (hf : pt_h f L) : pt_h (va_cpy f g 0 0 L.length) L := by
  intro i y hy
  have hi := (List.getElem?_eq_some_iff.mp hy).1
  unfold va_cpy
  rw [if_pos (by omega)]
  simpa using hf i y hy
set_option maxRecDepth 100000 in
theorem kM_keep {u : Std.Format} {k : Nat} (hv : mv K w h I A) (hk16 : k < 16) (h1 : I 1 = nI (tm_sz u)) (h3 : pt_h (A 3) (tm_row u)) (hz : tm_sz u ≤ 2000) : ct_M l n0 D K yM_keep (Cond.code yM_keep cM_keep 2 (some .int)) 1 40 0 0 [.ref (h 0), .int (nI k)] w (fun v w' => v = some (.int (nI (tm_sz u))) ∧ ∃ A', mo K h w w' I A' ∧ eqA [2, 9 + k] A A' ∧ A' 2 = upd (A 2) k (nI (tm_sz u)) ∧ pt_h (A' (9 + k)) (tm_row u)) := by
  have h0 := hv.2.1
  have hG := hv.2.2.1
  have hA3 : w (h 3) = some (ob_I K 2001 (A 3)) := hv.2.2.2 3 (by decide) (by decide)
  have hAr := hv.row (k := 9 + k) (by omega) (by omega) (by omega)
  rw [ml_r] at hAr
  refine ct_go (own := nm_M) (by decide) rfl (Nat.le_of_ble_eq_true rfl) ?_
  intro p e s m below meth c ls hE hI hr hk hn hl
  have hx := hE.1.1.1
  have hb := hE.1.1.2.1
  have hl : lv_has ls 2 [(0, .ref (h 0)), (1, .int (nI k))] := hl
  refine lv_aload_n hx hb dM_keep_0 rfl (lv_at hl 0 rfl) ?_
  refine mp_get hE.1 hI h0 rfl gx_M 3 (by decide) (List.mem_cons_of_mem _ gf_M22) rfl dM_keep_1 ?_
  refine lv_iconst (v := nI 0) hx hb dM_keep_4 (by decide) ?_
  refine lv_aload_n hx hb dM_keep_5 rfl (lv_at hl 0 rfl) ?_
  refine mp_get hE.1 hI h0 rfl gx_M 1 (by decide) (List.mem_cons_of_mem _ gf_M15) rfl dM_keep_6 ?_
  refine lv_iload_n hx hb dM_keep_9 rfl (lv_at hl 1 rfl) ?_
  refine mp_aldA hE.1 hI hG 4 rfl (vp_in_nI (by omega) (by omega)) dM_keep_10 ?_
  rw [nI_clamp (by omega)]
  show W _ _ _ _ _ _ _ _ _ _ _ _ _ _ _ (F0 _ _ _ [.ref (h (9 + k)), .int _, .ref _])
  refine lv_iconst (v := nI 0) hx hb dM_keep_11 (by decide) ?_
  refine lv_aload_n hx hb dM_keep_12 rfl (lv_at hl 0 rfl) ?_
  refine mp_get hE.1 hI h0 rfl gx_M 6 (by decide) (List.mem_cons_of_mem _ gf_M31) rfl dM_keep_13 ?_
  rw [h1]
  refine mp_copy hE.1 hI hl.1 (List.mem_cons_of_mem _ gm_M94) (List.mem_cons_of_mem _ gv_Js_arraycopy) (List.mem_cons_of_mem _ gt_Js_arraycopy) (List.mem_cons_of_mem _ gz_Js) hA3 hAr 0 0 rfl rfl rfl (nI_pos (by omega)) (nI_pos (by omega)) (nI_pos (by omega)) (by rw [nI_clamp (by omega), nI_clamp (by omega)]; omega) (by rw [nI_clamp (by omega), nI_clamp (by omega)]; omega) (fun _ _ => rfl) (Nat.le_of_ble_eq_true rfl) (Nat.le_of_ble_eq_true rfl) dM_keep_16 (fun H locs hI => ?_)
  rw [nI_clamp (by omega), nI_clamp (by omega)] at hI
  have hv1 := hv.upA (k := 9 + k) (by omega) (by omega) (va_cpy (A 3) (A (9 + k)) 0 0 (tm_sz u))
  obtain ⟨w1, hw1⟩ : ∃ z, mp_up w (h (9 + k)) (ob_A K (9 + k) (va_cpy (A 3) (A (9 + k)) 0 0 (tm_sz u))) = z := ⟨_, rfl⟩
  rw [hw1] at hv1
  have hI : mp_I D cl_all (mp_A w s.heap.size) s.heap w1 H locs := by
    rw [← hw1, show ob_A K (9 + k) (va_cpy (A 3) (A (9 + k)) 0 0 (tm_sz u)) = ob_I K 2000 (va_cpy (A 3) (A (9 + k)) 0 0 (tm_sz u)) by show Sum.inl (mcl K (9 + k), ml (9 + k), _) = _; rw [mcl_r, ml_r]]
    exact hI
  have hf1 : fm h w w1 := by rw [← hw1]; exact (fm.rf _ _).up (by omega) _
  have h01 := hv1.2.1
  have hA2 : w1 (h 2) = some (ob_I K 16 (A 2)) := by
    have := hv1.2.2.2 2 (by decide) (by decide)
    rw [au_ne (by omega)] at this
    exact this
  refine lv_aload_n hx hb dM_keep_19 rfl (lv_at hl 0 rfl) ?_
  refine mp_get hE.1 hI h01 rfl gx_M 2 (by decide) (List.mem_cons_of_mem _ gf_M18) rfl dM_keep_20 ?_
  refine lv_iload_n hx hb dM_keep_23 rfl (lv_at hl 1 rfl) ?_
  refine lv_aload_n hx hb dM_keep_24 rfl (lv_at hl 0 rfl) ?_
  refine mp_get hE.1 hI h01 rfl gx_M 6 (by decide) (List.mem_cons_of_mem _ gf_M31) rfl dM_keep_25 ?_
  rw [h1]
  refine mp_ist hE.1 hI hA2 0 rfl (vp_in_nI (by omega) (by omega)) dM_keep_28 (fun H locs hI => ?_)
  rw [nI_clamp (by omega)] at hI
  have hv2 := hv1.upA (k := 2) (by decide) (by decide) (upd (A 2) k (nI (tm_sz u)))
  obtain ⟨w2, hw2⟩ : ∃ z, mp_up w1 (h 2) (ob_A K 2 (upd (A 2) k (nI (tm_sz u)))) = z := ⟨_, rfl⟩
  rw [hw2] at hv2
  have hI : mp_I D cl_all (mp_A w s.heap.size) s.heap w2 H locs := by rw [← hw2]; exact hI
  have hf2 : fm h w w2 := by rw [← hw2]; exact hf1.up (by decide) _
  have h02 := hv2.2.1
  refine lv_aload_n hx hb dM_keep_29 rfl (lv_at hl 0 rfl) ?_
  refine mp_get hE.1 hI h02 rfl gx_M 6 (by decide) (List.mem_cons_of_mem _ gf_M31) rfl dM_keep_30 ?_
  rw [h1]
  refine ct_iret hE hI hr hk ⟨rfl, _, ⟨hv2, hf2⟩, ((eqA.rf _ _).up (by simp) _).up (by simp) _, au_self, ?_⟩ (by decide) (by decide) dM_keep_33
  rw [au_ne (by omega), au_self, ← tm_row_len u]
  exact pt_h_cpy h3
set_option maxRecDepth 100000 in
theorem kM_begins {u : Std.Format} {k : Nat} (hv : mv K w h I A) (hk16 : k < 16) (h1 : A 2 k = nI (tm_sz u)) (h3 : pt_h (A (9 + k)) (tm_row u)) (hok : tm_ok u) : ct_M l n0 D K yM_begins (Cond.code yM_begins cM_begins 2 none) 1 40 0 0 [.ref (h 0), .int (nI k)] w (fun v w' => v = none ∧ ∃ I' A', mo K h w w' I' A' ∧ eqI [2] I I' ∧ eqA [5] A A' ∧ nw I' A' u) := by
  have hz := hok.2.2.1
  have h0 := hv.2.1
  have hG := hv.2.2.1
  have hA5 : w (h 5) = some (ob_I K 2001 (A 5)) := hv.2.2.2 5 (by decide) (by decide)
  have hA2 : w (h 2) = some (ob_I K 16 (A 2)) := hv.2.2.2 2 (by decide) (by decide)
  have hAr := hv.row (k := 9 + k) (by omega) (by omega) (by omega)
  rw [ml_r] at hAr
  refine ct_go (own := nm_M) (by decide) rfl (Nat.le_of_ble_eq_true rfl) ?_
  intro p e s m below meth c ls hE hI hr hk hn hl
  have hx := hE.1.1.1
  have hb := hE.1.1.2.1
  have hl : lv_has ls 2 [(0, .ref (h 0)), (1, .int (nI k))] := hl
  refine lv_aload_n hx hb dM_begins_0 rfl (lv_at hl 0 rfl) ?_
  refine mp_get hE.1 hI h0 rfl gx_M 1 (by decide) (List.mem_cons_of_mem _ gf_M15) rfl dM_begins_1 ?_
  refine lv_iload_n hx hb dM_begins_4 rfl (lv_at hl 1 rfl) ?_
  refine mp_aldA hE.1 hI hG 4 rfl (vp_in_nI (by omega) (by omega)) dM_begins_5 ?_
  rw [nI_clamp (by omega)]
  show W _ _ _ _ _ _ _ _ _ _ _ _ _ _ _ (F0 _ _ _ [.ref (h (9 + k))])
  refine lv_iconst (v := nI 0) hx hb dM_begins_6 (by decide) ?_
  refine lv_aload_n hx hb dM_begins_7 rfl (lv_at hl 0 rfl) ?_
  refine mp_get hE.1 hI h0 rfl gx_M 5 (by decide) (List.mem_cons_of_mem _ gf_M28) rfl dM_begins_8 ?_
  refine lv_iconst (v := nI 0) hx hb dM_begins_11 (by decide) ?_
  refine lv_aload_n hx hb dM_begins_12 rfl (lv_at hl 0 rfl) ?_
  refine mp_get hE.1 hI h0 rfl gx_M 2 (by decide) (List.mem_cons_of_mem _ gf_M18) rfl dM_begins_13 ?_
  refine lv_iload_n hx hb dM_begins_16 rfl (lv_at hl 1 rfl) ?_
  refine mp_ild hE.1 hI hA2 0 rfl (vp_in_nI (by omega) (by omega)) dM_begins_17 ?_
  rw [nI_clamp (by omega), h1]
  refine mp_copy hE.1 hI hl.1 (List.mem_cons_of_mem _ gm_M94) (List.mem_cons_of_mem _ gv_Js_arraycopy) (List.mem_cons_of_mem _ gt_Js_arraycopy) (List.mem_cons_of_mem _ gz_Js) hAr hA5 0 0 rfl rfl rfl (nI_pos (by omega)) (nI_pos (by omega)) (nI_pos (by omega)) (by rw [nI_clamp (by omega), nI_clamp (by omega)]; omega) (by rw [nI_clamp (by omega), nI_clamp (by omega)]; omega) (fun _ _ => rfl) (Nat.le_of_ble_eq_true rfl) (Nat.le_of_ble_eq_true rfl) dM_begins_18 (fun H locs hI => ?_)
  rw [nI_clamp (by omega), nI_clamp (by omega)] at hI
  have hv1 := hv.upA (k := 5) (by decide) (by decide) (va_cpy (A (9 + k)) (A 5) 0 0 (tm_sz u))
  obtain ⟨w1, hw1⟩ : ∃ z, mp_up w (h 5) (ob_A K 5 (va_cpy (A (9 + k)) (A 5) 0 0 (tm_sz u))) = z := ⟨_, rfl⟩
  rw [hw1] at hv1
  have hI : mp_I D cl_all (mp_A w s.heap.size) s.heap w1 H locs := by rw [← hw1]; exact hI
  have hf1 : fm h w w1 := by rw [← hw1]; exact (fm.rf _ _).up (by decide) _
  have h01 := hv1.2.1
  have hA21 : w1 (h 2) = some (ob_I K 16 (A 2)) := hv1.2.2.2 2 (by decide) (by decide)
  refine lv_aload_n hx hb dM_begins_21 rfl (lv_at hl 0 rfl) ?_
  refine lv_aload_n hx hb dM_begins_22 rfl (lv_at hl 0 rfl) ?_
  refine mp_get hE.1 hI h01 rfl gx_M 2 (by decide) (List.mem_cons_of_mem _ gf_M18) rfl dM_begins_23 ?_
  refine lv_iload_n hx hb dM_begins_26 rfl (lv_at hl 1 rfl) ?_
  refine mp_ild hE.1 hI hA21 0 rfl (vp_in_nI (by omega) (by omega)) dM_begins_27 ?_
  rw [nI_clamp (by omega), h1]
  refine mp_put hE.1 hI h01 rfl gx_M ty_M to_M tn_M 7 (by decide) (List.mem_cons_of_mem _ gf_M34) rfl rfl rfl (Nat.le_of_ble_eq_true rfl) dM_begins_28 (fun H locs hI => ?_)
  have hv2 := hv1.upI (iu I 2 (nI (tm_sz u)))
  refine ct_vret hE hI hr hk ⟨rfl, iu I 2 (nI (tm_sz u)), _, ⟨hv2, hf1.up (by decide) _⟩, (eqI.rf _ _).up (by simp) _, (eqA.rf _ _).up (by simp) _, iu_self, ?_, hok⟩ (by decide) (by decide) dM_begins_31
  rw [au_self, ← tm_row_len u]
  exact pt_h_cpy h3
set_option maxRecDepth 100000 in
theorem kM_keepNow {u : Std.Format} {k : Nat} (hv : mv K w h I A) (hk16 : k < 16) (hn : nw I A u) : ct_M l n0 D K yM_keepNow (Cond.code yM_keepNow cM_keepNow 2 none) 1 40 0 0 [.ref (h 0), .int (nI k)] w (fun v w' => v = none ∧ ∃ A', mo K h w w' I A' ∧ eqA [2, 9 + k] A A' ∧ A' 2 = upd (A 2) k (nI (tm_sz u)) ∧ pt_h (A' (9 + k)) (tm_row u)) := by
  obtain ⟨h1, h3, hok⟩ := hn
  have hz := hok.2.2.1
  have h0 := hv.2.1
  have hG := hv.2.2.1
  have hA3 : w (h 5) = some (ob_I K 2001 (A 5)) := hv.2.2.2 5 (by decide) (by decide)
  have hAr := hv.row (k := 9 + k) (by omega) (by omega) (by omega)
  rw [ml_r] at hAr
  refine ct_go (own := nm_M) (by decide) rfl (Nat.le_of_ble_eq_true rfl) ?_
  intro p e s m below meth c ls hE hI hr hk hn hl
  have hx := hE.1.1.1
  have hb := hE.1.1.2.1
  have hl : lv_has ls 2 [(0, .ref (h 0)), (1, .int (nI k))] := hl
  refine lv_aload_n hx hb dM_keepNow_0 rfl (lv_at hl 0 rfl) ?_
  refine mp_get hE.1 hI h0 rfl gx_M 5 (by decide) (List.mem_cons_of_mem _ gf_M28) rfl dM_keepNow_1 ?_
  refine lv_iconst (v := nI 0) hx hb dM_keepNow_4 (by decide) ?_
  refine lv_aload_n hx hb dM_keepNow_5 rfl (lv_at hl 0 rfl) ?_
  refine mp_get hE.1 hI h0 rfl gx_M 1 (by decide) (List.mem_cons_of_mem _ gf_M15) rfl dM_keepNow_6 ?_
  refine lv_iload_n hx hb dM_keepNow_9 rfl (lv_at hl 1 rfl) ?_
  refine mp_aldA hE.1 hI hG 4 rfl (vp_in_nI (by omega) (by omega)) dM_keepNow_10 ?_
  rw [nI_clamp (by omega)]
  show W _ _ _ _ _ _ _ _ _ _ _ _ _ _ _ (F0 _ _ _ [.ref (h (9 + k)), .int _, .ref _])
  refine lv_iconst (v := nI 0) hx hb dM_keepNow_11 (by decide) ?_
  refine lv_aload_n hx hb dM_keepNow_12 rfl (lv_at hl 0 rfl) ?_
  refine mp_get hE.1 hI h0 rfl gx_M 7 (by decide) (List.mem_cons_of_mem _ gf_M34) rfl dM_keepNow_13 ?_
  rw [h1]
  refine mp_copy hE.1 hI hl.1 (List.mem_cons_of_mem _ gm_M94) (List.mem_cons_of_mem _ gv_Js_arraycopy) (List.mem_cons_of_mem _ gt_Js_arraycopy) (List.mem_cons_of_mem _ gz_Js) hA3 hAr 0 0 rfl rfl rfl (nI_pos (by omega)) (nI_pos (by omega)) (nI_pos (by omega)) (by rw [nI_clamp (by omega), nI_clamp (by omega)]; omega) (by rw [nI_clamp (by omega), nI_clamp (by omega)]; omega) (fun _ _ => rfl) (Nat.le_of_ble_eq_true rfl) (Nat.le_of_ble_eq_true rfl) dM_keepNow_16 (fun H locs hI => ?_)
  rw [nI_clamp (by omega), nI_clamp (by omega)] at hI
  have hv1 := hv.upA (k := 9 + k) (by omega) (by omega) (va_cpy (A 5) (A (9 + k)) 0 0 (tm_sz u))
  obtain ⟨w1, hw1⟩ : ∃ z, mp_up w (h (9 + k)) (ob_A K (9 + k) (va_cpy (A 5) (A (9 + k)) 0 0 (tm_sz u))) = z := ⟨_, rfl⟩
  rw [hw1] at hv1
  have hI : mp_I D cl_all (mp_A w s.heap.size) s.heap w1 H locs := by
    rw [← hw1, show ob_A K (9 + k) (va_cpy (A 5) (A (9 + k)) 0 0 (tm_sz u)) = ob_I K 2000 (va_cpy (A 5) (A (9 + k)) 0 0 (tm_sz u)) by show Sum.inl (mcl K (9 + k), ml (9 + k), _) = _; rw [mcl_r, ml_r]]
    exact hI
  have hf1 : fm h w w1 := by rw [← hw1]; exact (fm.rf _ _).up (by omega) _
  have h01 := hv1.2.1
  have hA2 : w1 (h 2) = some (ob_I K 16 (A 2)) := by
    have := hv1.2.2.2 2 (by decide) (by decide)
    rw [au_ne (by omega)] at this
    exact this
  refine lv_aload_n hx hb dM_keepNow_19 rfl (lv_at hl 0 rfl) ?_
  refine mp_get hE.1 hI h01 rfl gx_M 2 (by decide) (List.mem_cons_of_mem _ gf_M18) rfl dM_keepNow_20 ?_
  refine lv_iload_n hx hb dM_keepNow_23 rfl (lv_at hl 1 rfl) ?_
  refine lv_aload_n hx hb dM_keepNow_24 rfl (lv_at hl 0 rfl) ?_
  refine mp_get hE.1 hI h01 rfl gx_M 7 (by decide) (List.mem_cons_of_mem _ gf_M34) rfl dM_keepNow_25 ?_
  rw [h1]
  refine mp_ist hE.1 hI hA2 0 rfl (vp_in_nI (by omega) (by omega)) dM_keepNow_28 (fun H locs hI => ?_)
  rw [nI_clamp (by omega)] at hI
  have hv2 := hv1.upA (k := 2) (by decide) (by decide) (upd (A 2) k (nI (tm_sz u)))
  refine ct_vret hE hI hr hk ⟨rfl, _, ⟨hv2, hf1.up (by decide) _⟩, ((eqA.rf _ _).up (by simp) _).up (by simp) _, au_self, ?_⟩ (by decide) (by decide) dM_keepNow_29
  rw [au_ne (by omega), au_self, ← tm_row_len u]
  exact pt_h_cpy h3
set_option maxRecDepth 100000 in
theorem kM_isStep {t : Std.Format} {q : Nat} (hv : mv K w h I A) (hn : nw I A t) (hq : q < tm_sz t) : ct_M l n0 D K yM_isStep (Cond.code yM_isStep cM_isStep 2 (some .boolean)) 0 0 0 0 [.ref (h 0), .int (nI q)] w (fun v w' => w' = w ∧ ∃ r : Int32, v = some (.int r) ∧ ((r = 1 ∧ tm_rx t q) ∨ (r = 0 ∧ ¬ tm_rx t q))) := by
  obtain ⟨h1, h3, hok⟩ := hn
  have hz := hok.2.2.1
  have h0 := hv.2.1
  have hA5 : w (h 5) = some (ob_I K 2001 (A 5)) := hv.2.2.2 5 (by decide) (by decide)
  obtain ⟨x, e1, m1⟩ := pt_at (L := tm_row t) (show q < (tm_row t).length by rw [tm_row_len]; exact hq)
  have hxb := tm_ok_bd hok x m1
  have hrx := tm_rx_row t hok.1 q
  rw [e1] at hrx
  refine ct_go (own := nm_M) (by decide) rfl (Nat.le_of_ble_eq_true rfl) ?_
  intro p e s m below meth c ls hE hI hr hk hn hl
  have hx := hE.1.1.1
  have hb := hE.1.1.2.1
  have hl : lv_has ls 2 [(0, .ref (h 0)), (1, .int (nI q))] := hl
  refine lv_aload_n hx hb dM_isStep_0 rfl (lv_at hl 0 rfl) ?_
  refine mp_get hE.1 hI h0 rfl gx_M 5 (by decide) (List.mem_cons_of_mem _ gf_M28) rfl dM_isStep_1 ?_
  refine lv_iload_n hx hb dM_isStep_4 rfl (lv_at hl 1 rfl) ?_
  refine mp_ild hE.1 hI hA5 0 rfl (vp_in_nI (by omega) (by omega)) dM_isStep_5 ?_
  refine lv_sipush (v := ci_i 1000) hx hb dM_isStep_6 (by decide) ?_
  rw [nI_clamp (by omega), h3 q x e1]
  refine lv_icmp_ne (tgt := 30) hx hb dM_isStep_9 (by decide) (fun hq1 => ?_) (fun hq1 => ?_)
  · have hq1 : ¬ x = 1000 := fun e => hq1 (by rw [e])
    refine lv_iconst (v := 0) hx hb dM_isStep_30 (by decide) ?_
    exact ct_zret hE hI hr hk (Or.inl rfl) ⟨rfl, 0, rfl, Or.inr ⟨rfl, fun z => hq1 (Option.some.inj (hrx.mp z).1)⟩⟩ (by decide) (by decide) dM_isStep_31
  · have hq1 : x = 1000 := (ci_eq (by omega) (by omega)).mp hq1
    have hlt := tm_row_app_lt hok.1 (by rw [e1, hq1] : (tm_row t)[q]? = some 1000)
    obtain ⟨y, e2, m2⟩ := pt_at (L := tm_row t) (show q + 1 < (tm_row t).length by rw [tm_row_len]; exact hlt)
    have hyb := tm_ok_bd hok y m2
    rw [e2] at hrx
    refine lv_aload_n hx hb dM_isStep_12 rfl (lv_at hl 0 rfl) ?_
    refine mp_get hE.1 hI h0 rfl gx_M 5 (by decide) (List.mem_cons_of_mem _ gf_M28) rfl dM_isStep_13 ?_
    refine lv_iload_n hx hb dM_isStep_16 rfl (lv_at hl 1 rfl) ?_
    refine lv_iconst (v := nI 1) hx hb dM_isStep_17 (by decide) ?_
    refine lv_iadd hx hb dM_isStep_18 ?_
    rw [show nI q + nI 1 = nI (q + 1) from (Int32.ofNat_add _ _).symm]
    refine mp_ild hE.1 hI hA5 0 rfl (vp_in_nI (by omega) (by omega)) dM_isStep_19 ?_
    refine lv_sipush (v := ci_i 2000) hx hb dM_isStep_20 (by decide) ?_
    rw [nI_clamp (by omega), h3 (q + 1) y e2]
    refine lv_icmp_lt (tgt := 30) hx hb dM_isStep_23 (by decide) (fun hq2 => ?_) (fun hq2 => ?_)
    · rw [ci_lt (by omega) (by omega)] at hq2
      refine lv_iconst (v := 0) hx hb dM_isStep_30 (by decide) ?_
      refine ct_zret hE hI hr hk (Or.inl rfl) ⟨rfl, 0, rfl, Or.inr ⟨rfl, fun z => ?_⟩⟩ (by decide) (by decide) dM_isStep_31
      obtain ⟨-, y', e3, h4⟩ := hrx.mp z
      cases e3
      omega
    · rw [ci_lt (by omega) (by omega)] at hq2
      refine lv_iconst (v := 1) hx hb dM_isStep_26 (by decide) ?_
      refine lv_goto (tgt := 31) hx hb dM_isStep_27 (by decide) ?_
      exact ct_zret hE hI hr hk (Or.inr rfl) ⟨rfl, 1, rfl, Or.inl ⟨rfl, hrx.mpr ⟨by rw [hq1], y, rfl, by omega⟩⟩⟩ (by decide) (by decide) dM_isStep_31
set_option maxRecDepth 100000 in
theorem kM_first {t : Std.Format} (hv : mv K w h I A) (hnw : nw I A t) : ct_M l n0 D K yM_first (Cond.code yM_first cM_first 2 (some .int)) 1 30 0 0 [.ref (h 0)] w (fun v w' => w' = w ∧ ∃ r : Int32, v = some (.int r) ∧ ((∃ q, r = nI q ∧ tm_f1 (tm_ks t) = some q ∧ tm_rx t q) ∨ (r = -1 ∧ tm_f1 (tm_ks t) = none))) := by
  have hz := hnw.2.2.2.2.1
  have h0 := hv.2.1
  refine ct_go (own := nm_M) (by decide) rfl (Nat.le_of_ble_eq_true rfl) ?_
  intro p e s m below meth c ls hE hI hr hk hn hl
  have hx := hE.1.1.1
  have hb := hE.1.1.2.1
  have hl : lv_has ls 2 [(0, .ref (h 0))] := hl
  refine lv_iconst (v := nI 0) hx hb dM_first_0 (by decide) ?_
  refine lv_istore_n hx hb dM_first_1 rfl hl (by decide) rfl (fun ls hl => ?_)
  have loop : ∀ (k i : Nat) (H : Heap) (locs : List Loc) (ls : Array Slot), i + k = tm_sz t → (∀ q, q < i → ¬ tm_rx t q) → mp_I D cl_all (mp_A w s.heap.size) s.heap w H locs → lv_has ls 2 [(1, .int (nI i)), (0, .ref (h 0))] →
      W p l e { frames := 1, cells := 0, slots := 0, locals := 30 } s m ([Value.ref (h 0)] : List Value).toArray below meth c H locs 0 0 (MQ below (ct_Q D w s.heap.size (fun v w' => w' = w ∧ ∃ r : Int32, v = some (.int r) ∧ ((∃ q, r = nI q ∧ tm_f1 (tm_ks t) = some q ∧ tm_rx t q) ∨ (r = -1 ∧ tm_f1 (tm_ks t) = none)))) ([Value.ref (h 0)] : List Value).toArray s 0 0 (mp_A w s.heap.size)) (F0 m 2 ls []) := by
    intro k
    induction k with
    | zero =>
      intro i H locs ls hik hno hI hl
      refine lv_iload_n hx hb dM_first_2 rfl (lv_at hl 0 rfl) ?_
      refine lv_aload_n hx hb dM_first_3 rfl (lv_at hl 1 rfl) ?_
      refine mp_get hE.1 hI h0 rfl gx_M 7 (by decide) (List.mem_cons_of_mem _ gf_M34) rfl dM_first_4 ?_
      rw [hnw.1]
      refine lv_icmp_ge (tgt := 26) hx hb dM_first_7 (by decide) (fun hq => ?_) (fun hq => ?_)
      · refine lv_iconst (v := (-1)) hx hb dM_first_26 (by decide) ?_
        refine ct_iret hE hI hr hk ⟨rfl, -1, rfl, Or.inr ⟨rfl, tm_f1_no (fun q z => ?_)⟩⟩ (by decide) (by decide) dM_first_27
        have := tm_rx_lt z
        exact hno q (by omega) z
      · exact absurd (nI_le (by omega) (by omega)) hq
    | succ k ih =>
      intro i H locs ls hik hno hI hl
      refine lv_iload_n hx hb dM_first_2 rfl (lv_at hl 0 rfl) ?_
      refine lv_aload_n hx hb dM_first_3 rfl (lv_at hl 1 rfl) ?_
      refine mp_get hE.1 hI h0 rfl gx_M 7 (by decide) (List.mem_cons_of_mem _ gf_M34) rfl dM_first_4 ?_
      rw [hnw.1]
      refine lv_icmp_ge (tgt := 26) hx hb dM_first_7 (by decide) (fun hq => ?_) (fun hq => ?_)
      · exact absurd ((nI_leI (by omega) (by omega)).mp hq) (by omega)
      · skip
        refine lv_aload_n hx hb dM_first_10 rfl (lv_at hl 1 rfl) ?_
        refine lv_iload_n hx hb dM_first_11 rfl (lv_at hl 0 rfl) ?_
        refine ct_V (n := 1) hE hI (kM_isStep (q := i) hv hnw (by omega)) h0 rfl gm_M121 gi_M_isStep gs_M_M_isStep gz_M gc_M_isStep (by decide +kernel) ⟨Nat.le_of_ble_eq_true rfl, Nat.le_of_ble_eq_true rfl⟩ rfl hl.1 rfl (Nat.le_of_ble_eq_true rfl) dM_first_12 ⟨Nat.le_of_ble_eq_true rfl, Nat.le_of_ble_eq_true rfl⟩ (fun v w1 H locs hq hI => ?_)
        obtain ⟨hw, r, rfl, hrr⟩ := hq
        subst w1
        show W _ _ _ _ _ _ _ _ _ _ _ _ _ _ _ (F0 _ _ _ [.int _])
        refine lv_if_eq (tgt := 20) hx hb dM_first_15 (by decide) (fun hq2 => ?_) (fun hq2 => ?_)
        · skip
          have hnx : ¬ tm_rx t i := by
            rcases hrr with ⟨rfl, -⟩ | ⟨-, hh⟩
            · exact absurd hq2 (by decide)
            · exact hh
          refine lv_iinc (k := 0) (v := nI (i + 1)) hx hb dM_first_20 hl rfl (nI_1 i) (by decide) rfl (fun ls hl => ?_)
          refine lv_goto (tgt := 2) hx hb dM_first_23 (by decide) ?_
          exact ih (i + 1) H locs ls (by omega) (fun q hq => by
            by_cases e : q = i
            · rw [e]; exact hnx
            · exact hno q (by omega)) hI hl
        · skip
          have hrx : tm_rx t i := by
            rcases hrr with ⟨-, hh⟩ | ⟨rfl, -⟩
            · exact hh
            · exact absurd rfl hq2
          refine lv_iload_n hx hb dM_first_18 rfl (lv_at hl 0 rfl) ?_
          exact ct_iret hE hI hr hk ⟨rfl, _, rfl, Or.inl ⟨i, rfl, tm_f1_is hrx hno, hrx⟩⟩ (by decide) (by decide) dM_first_19
  exact loop (tm_sz t) 0 _ _ ls (by omega) (fun q hq => by omega) hI hl
set_option maxRecDepth 100000 in
theorem kM_atHead {t : Std.Format} (hv : mv K w h I A) (hnw : nw I A t) : ct_M l n0 D K yM_atHead (Cond.code yM_atHead cM_atHead 2 (some .int)) 1 30 0 0 [.ref (h 0)] w (fun v w' => w' = w ∧ ∃ r : Int32, v = some (.int r) ∧ ((∃ q, r = nI q ∧ tm_h1 (tm_ks t) = some q ∧ tm_rx t q) ∨ (r = -1 ∧ tm_h1 (tm_ks t) = none))) := by
  have hok := hnw.2.2
  have hz := hok.2.2.1
  have h0 := hv.2.1
  have hA5 : w (h 5) = some (ob_I K 2001 (A 5)) := hv.2.2.2 5 (by decide) (by decide)
  refine ct_go (own := nm_M) (by decide) rfl (Nat.le_of_ble_eq_true rfl) ?_
  intro p e s m below meth c ls hE hI hr hk hn hl
  have hx := hE.1.1.1
  have hb := hE.1.1.2.1
  have hl : lv_has ls 2 [(0, .ref (h 0))] := hl
  refine lv_iconst (v := nI 0) hx hb dM_atHead_0 (by decide) ?_
  refine lv_istore_n hx hb dM_atHead_1 rfl hl (by decide) rfl (fun ls hl => ?_)
  have loop : ∀ (k i : Nat) (H : Heap) (locs : List Loc) (ls : Array Slot), i + k = tm_sz t → 1 ≤ k → (∀ q, q < i → (tm_ks t)[q]? = some 2 ∧ ¬ tm_rx t q) → mp_I D cl_all (mp_A w s.heap.size) s.heap w H locs → lv_has ls 2 [(1, .int (nI i)), (0, .ref (h 0))] →
      W p l e { frames := 1, cells := 0, slots := 0, locals := 30 } s m ([Value.ref (h 0)] : List Value).toArray below meth c H locs 0 0 (MQ below (ct_Q D w s.heap.size (fun v w' => w' = w ∧ ∃ r : Int32, v = some (.int r) ∧ ((∃ q, r = nI q ∧ tm_h1 (tm_ks t) = some q ∧ tm_rx t q) ∨ (r = -1 ∧ tm_h1 (tm_ks t) = none)))) ([Value.ref (h 0)] : List Value).toArray s 0 0 (mp_A w s.heap.size)) (F0 m 2 ls []) := by
    intro k
    induction k with
    | zero => intro i H locs ls hik h1 hno hI hl; omega
    | succ k ih =>
      intro i H locs ls hik _ hno hI hl
      obtain ⟨x, e1, m1⟩ := pt_at (L := tm_row t) (show i < (tm_row t).length by rw [tm_row_len]; omega)
      have hxb := tm_ok_bd hok x m1
      have fin : ∀ (H : Heap) (locs : List Loc) (ls : Array Slot), (¬ x = 1000 ∨ tm_rx t i) → mp_I D cl_all (mp_A w s.heap.size) s.heap w H locs → lv_has ls 2 [(1, .int (nI i)), (0, .ref (h 0))] →
          W p l e { frames := 1, cells := 0, slots := 0, locals := 30 } s m ([Value.ref (h 0)] : List Value).toArray below meth c H locs 0 0 (MQ below (ct_Q D w s.heap.size (fun v w' => w' = w ∧ ∃ r : Int32, v = some (.int r) ∧ ((∃ q, r = nI q ∧ tm_h1 (tm_ks t) = some q ∧ tm_rx t q) ∨ (r = -1 ∧ tm_h1 (tm_ks t) = none)))) ([Value.ref (h 0)] : List Value).toArray s 0 0 (mp_A w s.heap.size)) (F0 m 28 ls []) := by
        intro H locs ls hor hI hl
        refine lv_aload_n hx hb dM_atHead_28 rfl (lv_at hl 1 rfl) ?_
        refine mp_get hE.1 hI h0 rfl gx_M 5 (by decide) (List.mem_cons_of_mem _ gf_M28) rfl dM_atHead_29 ?_
        refine lv_iload_n hx hb dM_atHead_32 rfl (lv_at hl 0 rfl) ?_
        refine mp_ild hE.1 hI hA5 0 rfl (vp_in_nI (by omega) (by omega)) dM_atHead_33 ?_
        refine lv_sipush (v := ci_i 1000) hx hb dM_atHead_34 (by decide) ?_
        rw [nI_clamp (by omega), hnw.2.1 i x e1]
        refine lv_icmp_ne (tgt := 44) hx hb dM_atHead_37 (by decide) (fun hq => ?_) (fun hq => ?_)
        · have hq : ¬ x = 1000 := fun e => hq (by rw [e])
          refine lv_iconst (v := (-1)) hx hb dM_atHead_44 (by decide) ?_
          refine ct_iret hE hI hr hk ⟨rfl, -1, rfl, Or.inr ⟨rfl, tm_h1_no (fun q hh z => ?_)⟩⟩ (by decide) (by decide) dM_atHead_45
          have hks : ¬ (tm_ks t)[i]? = some 2 := fun hz2 => by
            have := (tm_row_2 hok.1).mpr hz2
            rw [e1] at this
            exact hq (Option.some.inj this)
          rcases Nat.lt_trichotomy q i with h3 | h3 | h3
          · exact (hno q h3).2 z
          · subst h3
            exact hks z.1
          · exact hks (hh i h3).1
        · have hq : x = 1000 := (ci_eq (by omega) (by omega)).mp hq
          have hrx : tm_rx t i := hor.resolve_left (fun hh => hh hq)
          refine lv_iload_n hx hb dM_atHead_40 rfl (lv_at hl 0 rfl) ?_
          refine lv_goto (tgt := 45) hx hb dM_atHead_41 (by decide) ?_
          exact ct_iret hE hI hr hk ⟨rfl, _, rfl, Or.inl ⟨i, rfl, tm_h1_is hrx hno, hrx⟩⟩ (by decide) (by decide) dM_atHead_45
      refine lv_aload_n hx hb dM_atHead_2 rfl (lv_at hl 1 rfl) ?_
      refine mp_get hE.1 hI h0 rfl gx_M 5 (by decide) (List.mem_cons_of_mem _ gf_M28) rfl dM_atHead_3 ?_
      refine lv_iload_n hx hb dM_atHead_6 rfl (lv_at hl 0 rfl) ?_
      refine mp_ild hE.1 hI hA5 0 rfl (vp_in_nI (by omega) (by omega)) dM_atHead_7 ?_
      refine lv_sipush (v := ci_i 1000) hx hb dM_atHead_8 (by decide) ?_
      rw [nI_clamp (by omega), hnw.2.1 i x e1]
      refine lv_icmp_ne (tgt := 28) hx hb dM_atHead_11 (by decide) (fun hq => ?_) (fun hq => ?_)
      · exact fin H locs ls (Or.inl (fun e => hq (by rw [e]))) hI hl
      · have hq : x = 1000 := (ci_eq (by omega) (by omega)).mp hq
        have hlt := tm_row_app_lt hok.1 (by rw [e1, hq] : (tm_row t)[i]? = some 1000)
        have hks := (tm_row_2 hok.1).mp (by rw [e1, hq] : (tm_row t)[i]? = some 1000)
        refine lv_aload_n hx hb dM_atHead_14 rfl (lv_at hl 1 rfl) ?_
        refine lv_iload_n hx hb dM_atHead_15 rfl (lv_at hl 0 rfl) ?_
        refine ct_V (n := 1) hE hI (kM_isStep (q := i) hv hnw (by omega)) h0 rfl gm_M121 gi_M_isStep gs_M_M_isStep gz_M gc_M_isStep (by decide +kernel) ⟨Nat.le_of_ble_eq_true rfl, Nat.le_of_ble_eq_true rfl⟩ rfl hl.1 rfl (Nat.le_of_ble_eq_true rfl) dM_atHead_16 ⟨Nat.le_of_ble_eq_true rfl, Nat.le_of_ble_eq_true rfl⟩ (fun v w1 H locs hq hI => ?_)
        obtain ⟨hw, r, rfl, hrr⟩ := hq
        subst w1
        show W _ _ _ _ _ _ _ _ _ _ _ _ _ _ _ (F0 _ _ _ [.int _])
        refine lv_if_ne (tgt := 28) hx hb dM_atHead_19 (by decide) (fun hq2 => ?_) (fun hq2 => ?_)
        · refine fin H locs ls (Or.inr ?_) hI hl
          rcases hrr with ⟨-, hh⟩ | ⟨rfl, -⟩
          · exact hh
          · exact absurd rfl hq2
        · have hnx : ¬ tm_rx t i := by
            rcases hrr with ⟨rfl, -⟩ | ⟨-, hh⟩
            · exact absurd hq2 (by decide)
            · exact hh
          refine lv_iinc (k := 0) (v := nI (i + 1)) hx hb dM_atHead_22 hl rfl (nI_1 i) (by decide) rfl (fun ls hl => ?_)
          refine lv_goto (tgt := 2) hx hb dM_atHead_25 (by decide) ?_
          exact ih (i + 1) H locs ls (by omega) (by omega) (fun q hq => by
            by_cases e : q = i
            · rw [e]; exact ⟨hks, hnx⟩
            · exact hno q (by omega)) hI hl
  have hpos := tm_sz_pos t
  exact loop (tm_sz t) 0 _ _ ls (by omega) hpos (fun q hq => by omega) hI hl
end KM5
