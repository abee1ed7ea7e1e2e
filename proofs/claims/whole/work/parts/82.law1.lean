/-! the law's wrappers of the bench -/
section KL1
variable {l : Launch} {n0 : Nat} {D : va_G} {K : Nat → ClassId} {w : mp_W} {f : Nat → Nat} {mi bc ja : Nat} {σ : Nat → Std.Format} {out : List Int} {g : Nat → Int64}
set_option maxRecDepth 100000 in
set_option maxHeartbeats 1000000 in
theorem kL_free (hl0 : l.stackTraces = false) (h : iv_B K w f mi σ bc out) (to n : Int32) : lx_M l n0 D K yL_free (Cond.codeWith yL_free cL_free 4 (some .int) [(0, 6, 9, 13)]) 8 180 2 12 [.ref (f 0), .int to, .int n] w (po_Lv K w f ja bc out (op_free σ to n)) := by
  refine lx_go (own := nm_L) (by decide) rfl (Nat.le_of_ble_eq_true rfl) ?_
  intro p e s m below meth c ls hX hE hI hr hk ht hl
  have hx := hE.1.1.1
  have hb := hE.1.1.2.1
  have h0 := h.2.1
  have hl : lv_has ls 4 [(0, .ref (f 0)), (1, .int to), (2, .int n)] := hl
  refine lv_aload_n hx hb dL_free_0 rfl (lv_at hl 0 rfl) ?_
  refine lv_iload_n hx hb dL_free_1 rfl (lv_at hl 1 rfl) ?_
  refine lv_iload_n hx hb dL_free_2 rfl (lv_at hl 2 rfl) ?_
  refine ct_VX (n := 2) hE hI (kB_free hl0 h to n) h0 rfl gm_L7 gi_B_free gs_B_B_free gz_B gc_B_free (by decide +kernel) ⟨Nat.le_of_ble_eq_true rfl, Nat.le_of_ble_eq_true rfl⟩ rfl hl.1 rfl (Nat.le_of_ble_eq_true rfl) dL_free_3 ⟨Nat.le_of_ble_eq_true rfl, Nat.le_of_ble_eq_true rfl⟩ (fun v w1 H locs hq hI => ?_) (fun E q ce w1 H locs ht1 hI hq hv hcl => ?_)
  · obtain ⟨hc0, rfl, hb1⟩ := hq
    show W _ _ _ _ _ _ _ _ _ _ _ _ _ _ _ (F0 _ _ _ [])
    refine lv_goto (tgt := 12) hx hb dL_free_6 (by decide) ?_
    refine lv_iconst (v := 0) hx hb dL_free_12 (by decide) ?_
    exact ct_iret hE hI hr hk ⟨by rw [hc0]; rfl, hb1.tl⟩ (Nat.le_of_ble_eq_true rfl) (Nat.le_of_ble_eq_true rfl) dL_free_13
  · obtain ⟨hc0, hE1, hb1⟩ := ht1
    rcases op_free_le σ to n with e0 | e1
    · exact absurd e0 hc0
    · have hEe : E = "java/util/NoSuchElementException" := by rw [hE1, e1]; rfl
      subst hEe
      refine lx_c1 hE ht (by decide) (by decide) gk_L13 (by decide +kernel) hq hv hcl ?_
      refine W.eq (g2 := F0 m 9 ls [.ref q]) rfl ?_
      refine lv_astore_n hx hb dL_free_9 rfl hl (by decide) rfl (fun ls hl => ?_)
      refine lv_iconst (v := 1) hx hb dL_free_10 (by decide) ?_
      exact ct_iret hE hI hr hk ⟨by rw [e1]; rfl, hb1.tl⟩ (Nat.le_of_ble_eq_true rfl) (Nat.le_of_ble_eq_true rfl) dL_free_11
set_option maxRecDepth 100000 in
set_option maxHeartbeats 1000000 in
theorem kL_apply (hl0 : l.stackTraces = false) (h : iv_B K w f mi σ bc out) (hj : w ja = some (ob_J K g)) (hjf : ∀ j, j < 49 → ja ≠ f j) (to a b : Int32) : lx_M l n0 D K yL_apply (Cond.codeWith yL_apply cL_apply 6 (some .int) [(0, 12, 15, 13), (0, 12, 19, 19)]) 10 300 5 2024 [.ref (f 0), .int to, .int a, .int b, .ref ja] w (po_L K w f ja bc out (op_apply σ to a b)) := by
  refine lx_go (own := nm_L) (by decide) rfl (Nat.le_of_ble_eq_true rfl) ?_
  intro p e s m below meth c ls hX hE hI hr hk ht hl
  have hx := hE.1.1.1
  have hb := hE.1.1.2.1
  have h0 := h.2.1
  have hl : lv_has ls 6 [(0, .ref (f 0)), (1, .int to), (2, .int a), (3, .int b), (4, .ref ja)] := hl
  refine lv_aload hx hb dL_apply_0 (lv_at hl 4 rfl) ?_
  refine lv_iconst (v := nI 0) hx hb dL_apply_2 (by decide) ?_
  refine lv_aload_n hx hb dL_apply_3 rfl (lv_at hl 0 rfl) ?_
  refine lv_iload_n hx hb dL_apply_4 rfl (lv_at hl 1 rfl) ?_
  refine lv_iload_n hx hb dL_apply_5 rfl (lv_at hl 2 rfl) ?_
  refine lv_iload_n hx hb dL_apply_6 rfl (lv_at hl 3 rfl) ?_
  refine ct_VX (n := 3) hE hI (kB_apply hl0 h to a b) h0 rfl gm_L15 gi_B_apply gs_B_B_apply gz_B gc_B_apply (by decide +kernel) ⟨Nat.le_of_ble_eq_true rfl, Nat.le_of_ble_eq_true rfl⟩ rfl hl.1 rfl (Nat.le_of_ble_eq_true rfl) dL_apply_7 ⟨Nat.le_of_ble_eq_true rfl, Nat.le_of_ble_eq_true rfl⟩ (fun v w1 H locs hq hI => ?_) (fun E q ce w1 H locs ht1 hI hq hv hcl => ?_)
  · obtain ⟨hc0, rfl, hb1⟩ := hq
    show W _ _ _ _ _ _ _ _ _ _ _ _ _ _ _ (F0 _ _ _ [.int _, .int _, .ref ja])
    have hj1 := hb1.at hj hjf
    refine lv_i2l hx hb dL_apply_10 rfl ?_
    refine mp_lst hE.1 hI hj1 2 rfl (vp_in_nI (by omega) (by omega)) dL_apply_11 (fun H locs hI => ?_)
    rw [nI_clamp (by omega)] at hI
    refine lv_goto (tgt := 23) hx hb dL_apply_12 (by decide) ?_
    refine lv_iconst (v := 0) hx hb dL_apply_23 (by decide) ?_
    exact ct_iret hE hI hr hk (po_L.ok hj hjf hc0 rfl hb1) (Nat.le_of_ble_eq_true rfl) (Nat.le_of_ble_eq_true rfl) dL_apply_24
  · obtain ⟨hc0, hE1, hb1⟩ := ht1
    rcases op_apply_le σ to a b with e0 | e1 | e2
    · exact absurd e0 hc0
    · have hEe : E = "java/util/NoSuchElementException" := by rw [hE1, e1]; rfl
      subst hEe
      refine lx_c1 hE ht (by decide) (by decide) gk_L13 (by decide +kernel) hq hv hcl ?_
      refine W.eq (g2 := F0 m 15 ls [.ref q]) rfl ?_
      refine lv_astore hx hb dL_apply_15 hl (by decide) rfl (fun ls hl => ?_)
      refine lv_iconst (v := 1) hx hb dL_apply_17 (by decide) ?_
      exact ct_iret hE hI hr hk (po_L.th hj hjf e1 (by decide) rfl hb1) (Nat.le_of_ble_eq_true rfl) (Nat.le_of_ble_eq_true rfl) dL_apply_18
    · have hEe : E = "java/lang/IllegalStateException" := by rw [hE1, e2]; rfl
      subst hEe
      refine lx_c2 hX hE ht (by decide) gk_L13 (by decide +kernel) (by decide) (by decide) gk_L19 (by decide +kernel) hq hv hcl ?_
      refine W.eq (g2 := F0 m 19 ls [.ref q]) rfl ?_
      refine lv_astore hx hb dL_apply_19 hl (by decide) rfl (fun ls hl => ?_)
      refine lv_iconst (v := 2) hx hb dL_apply_21 (by decide) ?_
      exact ct_iret hE hI hr hk (po_L.th hj hjf e2 (by decide) rfl hb1) (Nat.le_of_ble_eq_true rfl) (Nat.le_of_ble_eq_true rfl) dL_apply_22
set_option maxRecDepth 100000 in
set_option maxHeartbeats 1000000 in
theorem kL_bind (hl0 : l.stackTraces = false) (h : iv_B K w f mi σ bc out) (hj : w ja = some (ob_J K g)) (hjf : ∀ j, j < 49 → ja ≠ f j) (to a n : Int32) : lx_M l n0 D K yL_bind (Cond.codeWith yL_bind cL_bind 6 (some .int) [(0, 12, 15, 13), (0, 12, 19, 19)]) 10 300 5 2024 [.ref (f 0), .int to, .int a, .int n, .ref ja] w (po_L K w f ja bc out (op_bind σ to a n)) := by
  refine lx_go (own := nm_L) (by decide) rfl (Nat.le_of_ble_eq_true rfl) ?_
  intro p e s m below meth c ls hX hE hI hr hk ht hl
  have hx := hE.1.1.1
  have hb := hE.1.1.2.1
  have h0 := h.2.1
  have hl : lv_has ls 6 [(0, .ref (f 0)), (1, .int to), (2, .int a), (3, .int n), (4, .ref ja)] := hl
  refine lv_aload hx hb dL_bind_0 (lv_at hl 4 rfl) ?_
  refine lv_iconst (v := nI 0) hx hb dL_bind_2 (by decide) ?_
  refine lv_aload_n hx hb dL_bind_3 rfl (lv_at hl 0 rfl) ?_
  refine lv_iload_n hx hb dL_bind_4 rfl (lv_at hl 1 rfl) ?_
  refine lv_iload_n hx hb dL_bind_5 rfl (lv_at hl 2 rfl) ?_
  refine lv_iload_n hx hb dL_bind_6 rfl (lv_at hl 3 rfl) ?_
  refine ct_VX (n := 3) hE hI (kB_bind hl0 h to a n) h0 rfl gm_L21 gi_B_bind gs_B_B_bind gz_B gc_B_bind (by decide +kernel) ⟨Nat.le_of_ble_eq_true rfl, Nat.le_of_ble_eq_true rfl⟩ rfl hl.1 rfl (Nat.le_of_ble_eq_true rfl) dL_bind_7 ⟨Nat.le_of_ble_eq_true rfl, Nat.le_of_ble_eq_true rfl⟩ (fun v w1 H locs hq hI => ?_) (fun E q ce w1 H locs ht1 hI hq hv hcl => ?_)
  · obtain ⟨hc0, rfl, hb1⟩ := hq
    show W _ _ _ _ _ _ _ _ _ _ _ _ _ _ _ (F0 _ _ _ [.int _, .int _, .ref ja])
    have hj1 := hb1.at hj hjf
    refine lv_i2l hx hb dL_bind_10 rfl ?_
    refine mp_lst hE.1 hI hj1 2 rfl (vp_in_nI (by omega) (by omega)) dL_bind_11 (fun H locs hI => ?_)
    rw [nI_clamp (by omega)] at hI
    refine lv_goto (tgt := 23) hx hb dL_bind_12 (by decide) ?_
    refine lv_iconst (v := 0) hx hb dL_bind_23 (by decide) ?_
    exact ct_iret hE hI hr hk (po_L.ok hj hjf hc0 rfl hb1) (Nat.le_of_ble_eq_true rfl) (Nat.le_of_ble_eq_true rfl) dL_bind_24
  · obtain ⟨hc0, hE1, hb1⟩ := ht1
    rcases op_bind_le σ to a n with e0 | e1 | e2
    · exact absurd e0 hc0
    · have hEe : E = "java/util/NoSuchElementException" := by rw [hE1, e1]; rfl
      subst hEe
      refine lx_c1 hE ht (by decide) (by decide) gk_L13 (by decide +kernel) hq hv hcl ?_
      refine W.eq (g2 := F0 m 15 ls [.ref q]) rfl ?_
      refine lv_astore hx hb dL_bind_15 hl (by decide) rfl (fun ls hl => ?_)
      refine lv_iconst (v := 1) hx hb dL_bind_17 (by decide) ?_
      exact ct_iret hE hI hr hk (po_L.th hj hjf e1 (by decide) rfl hb1) (Nat.le_of_ble_eq_true rfl) (Nat.le_of_ble_eq_true rfl) dL_bind_18
    · have hEe : E = "java/lang/IllegalStateException" := by rw [hE1, e2]; rfl
      subst hEe
      refine lx_c2 hX hE ht (by decide) gk_L13 (by decide +kernel) (by decide) (by decide) gk_L19 (by decide +kernel) hq hv hcl ?_
      refine W.eq (g2 := F0 m 19 ls [.ref q]) rfl ?_
      refine lv_astore hx hb dL_bind_19 hl (by decide) rfl (fun ls hl => ?_)
      refine lv_iconst (v := 2) hx hb dL_bind_21 (by decide) ?_
      exact ct_iret hE hI hr hk (po_L.th hj hjf e2 (by decide) rfl hb1) (Nat.le_of_ble_eq_true rfl) (Nat.le_of_ble_eq_true rfl) dL_bind_22
set_option maxRecDepth 100000 in
set_option maxHeartbeats 1000000 in
theorem kL_put (hl0 : l.stackTraces = false) (h : iv_B K w f mi σ bc out) (hj : w ja = some (ob_J K g)) (hjf : ∀ j, j < 49 → ja ≠ f j) (to a n b : Int32) : lx_M l n0 D K yL_put (Cond.codeWith yL_put cL_put 7 (some .int) [(0, 14, 17, 13), (0, 14, 21, 19)]) 10 300 6 2030 [.ref (f 0), .int to, .int a, .int n, .int b, .ref ja] w (po_L K w f ja bc out (op_put σ to a n b)) := by
  refine lx_go (own := nm_L) (by decide) rfl (Nat.le_of_ble_eq_true rfl) ?_
  intro p e s m below meth c ls hX hE hI hr hk ht hl
  have hx := hE.1.1.1
  have hb := hE.1.1.2.1
  have h0 := h.2.1
  have hl : lv_has ls 7 [(0, .ref (f 0)), (1, .int to), (2, .int a), (3, .int n), (4, .int b), (5, .ref ja)] := hl
  refine lv_aload hx hb dL_put_0 (lv_at hl 5 rfl) ?_
  refine lv_iconst (v := nI 0) hx hb dL_put_2 (by decide) ?_
  refine lv_aload_n hx hb dL_put_3 rfl (lv_at hl 0 rfl) ?_
  refine lv_iload_n hx hb dL_put_4 rfl (lv_at hl 1 rfl) ?_
  refine lv_iload_n hx hb dL_put_5 rfl (lv_at hl 2 rfl) ?_
  refine lv_iload_n hx hb dL_put_6 rfl (lv_at hl 3 rfl) ?_
  refine lv_iload hx hb dL_put_7 (lv_at hl 4 rfl) ?_
  refine ct_VX (n := 4) hE hI (kB_put hl0 h to a n b) h0 rfl gm_L24 gi_B_put gs_B_B_put gz_B gc_B_put (by decide +kernel) ⟨Nat.le_of_ble_eq_true rfl, Nat.le_of_ble_eq_true rfl⟩ rfl hl.1 rfl (Nat.le_of_ble_eq_true rfl) dL_put_9 ⟨Nat.le_of_ble_eq_true rfl, Nat.le_of_ble_eq_true rfl⟩ (fun v w1 H locs hq hI => ?_) (fun E q ce w1 H locs ht1 hI hq hv hcl => ?_)
  · obtain ⟨hc0, rfl, hb1⟩ := hq
    show W _ _ _ _ _ _ _ _ _ _ _ _ _ _ _ (F0 _ _ _ [.int _, .int _, .ref ja])
    have hj1 := hb1.at hj hjf
    refine lv_i2l hx hb dL_put_12 rfl ?_
    refine mp_lst hE.1 hI hj1 2 rfl (vp_in_nI (by omega) (by omega)) dL_put_13 (fun H locs hI => ?_)
    rw [nI_clamp (by omega)] at hI
    refine lv_goto (tgt := 25) hx hb dL_put_14 (by decide) ?_
    refine lv_iconst (v := 0) hx hb dL_put_25 (by decide) ?_
    exact ct_iret hE hI hr hk (po_L.ok hj hjf hc0 rfl hb1) (Nat.le_of_ble_eq_true rfl) (Nat.le_of_ble_eq_true rfl) dL_put_26
  · obtain ⟨hc0, hE1, hb1⟩ := ht1
    rcases op_put_le σ to a n b with e0 | e1 | e2
    · exact absurd e0 hc0
    · have hEe : E = "java/util/NoSuchElementException" := by rw [hE1, e1]; rfl
      subst hEe
      refine lx_c1 hE ht (by decide) (by decide) gk_L13 (by decide +kernel) hq hv hcl ?_
      refine W.eq (g2 := F0 m 17 ls [.ref q]) rfl ?_
      refine lv_astore hx hb dL_put_17 hl (by decide) rfl (fun ls hl => ?_)
      refine lv_iconst (v := 1) hx hb dL_put_19 (by decide) ?_
      exact ct_iret hE hI hr hk (po_L.th hj hjf e1 (by decide) rfl hb1) (Nat.le_of_ble_eq_true rfl) (Nat.le_of_ble_eq_true rfl) dL_put_20
    · have hEe : E = "java/lang/IllegalStateException" := by rw [hE1, e2]; rfl
      subst hEe
      refine lx_c2 hX hE ht (by decide) gk_L13 (by decide +kernel) (by decide) (by decide) gk_L19 (by decide +kernel) hq hv hcl ?_
      refine W.eq (g2 := F0 m 21 ls [.ref q]) rfl ?_
      refine lv_astore hx hb dL_put_21 hl (by decide) rfl (fun ls hl => ?_)
      refine lv_iconst (v := 2) hx hb dL_put_23 (by decide) ?_
      exact ct_iret hE hI hr hk (po_L.th hj hjf e2 (by decide) rfl hb1) (Nat.le_of_ble_eq_true rfl) (Nat.le_of_ble_eq_true rfl) dL_put_24
set_option maxRecDepth 100000 in
set_option maxHeartbeats 1000000 in
theorem kL_open (hl0 : l.stackTraces = false) (h : iv_B K w f mi σ bc out) (hj : w ja = some (ob_J K g)) (hjf : ∀ j, j < 49 → ja ≠ f j) (to a b : Int32) : lx_M l n0 D K yL_open (Cond.codeWith yL_open cL_open 6 (some .int) [(0, 12, 15, 13), (0, 12, 19, 31), (0, 12, 23, 19)]) 10 300 5 2024 [.ref (f 0), .int to, .int a, .int b, .ref ja] w (po_L K w f ja bc out (op_open σ to a b)) := by
  refine lx_go (own := nm_L) (by decide) rfl (Nat.le_of_ble_eq_true rfl) ?_
  intro p e s m below meth c ls hX hE hI hr hk ht hl
  have hx := hE.1.1.1
  have hb := hE.1.1.2.1
  have h0 := h.2.1
  have hl : lv_has ls 6 [(0, .ref (f 0)), (1, .int to), (2, .int a), (3, .int b), (4, .ref ja)] := hl
  refine lv_aload hx hb dL_open_0 (lv_at hl 4 rfl) ?_
  refine lv_iconst (v := nI 0) hx hb dL_open_2 (by decide) ?_
  refine lv_aload_n hx hb dL_open_3 rfl (lv_at hl 0 rfl) ?_
  refine lv_iload_n hx hb dL_open_4 rfl (lv_at hl 1 rfl) ?_
  refine lv_iload_n hx hb dL_open_5 rfl (lv_at hl 2 rfl) ?_
  refine lv_iload_n hx hb dL_open_6 rfl (lv_at hl 3 rfl) ?_
  refine ct_VX (n := 3) hE hI (kB_open hl0 h to a b) h0 rfl gm_L28 gi_B_open gs_B_B_open gz_B gc_B_open (by decide +kernel) ⟨Nat.le_of_ble_eq_true rfl, Nat.le_of_ble_eq_true rfl⟩ rfl hl.1 rfl (Nat.le_of_ble_eq_true rfl) dL_open_7 ⟨Nat.le_of_ble_eq_true rfl, Nat.le_of_ble_eq_true rfl⟩ (fun v w1 H locs hq hI => ?_) (fun E q ce w1 H locs ht1 hI hq hv hcl => ?_)
  · obtain ⟨hc0, rfl, hb1⟩ := hq
    show W _ _ _ _ _ _ _ _ _ _ _ _ _ _ _ (F0 _ _ _ [.int _, .int _, .ref ja])
    have hj1 := hb1.at hj hjf
    refine lv_i2l hx hb dL_open_10 rfl ?_
    refine mp_lst hE.1 hI hj1 2 rfl (vp_in_nI (by omega) (by omega)) dL_open_11 (fun H locs hI => ?_)
    rw [nI_clamp (by omega)] at hI
    refine lv_goto (tgt := 27) hx hb dL_open_12 (by decide) ?_
    refine lv_iconst (v := 0) hx hb dL_open_27 (by decide) ?_
    exact ct_iret hE hI hr hk (po_L.ok hj hjf hc0 rfl hb1) (Nat.le_of_ble_eq_true rfl) (Nat.le_of_ble_eq_true rfl) dL_open_28
  · obtain ⟨hc0, hE1, hb1⟩ := ht1
    rcases op_open_le σ to a b with e0 | e1 | e2 | e3
    · exact absurd e0 hc0
    · have hEe : E = "java/util/NoSuchElementException" := by rw [hE1, e1]; rfl
      subst hEe
      refine lx_c1 hE ht (by decide) (by decide) gk_L13 (by decide +kernel) hq hv hcl ?_
      refine W.eq (g2 := F0 m 15 ls [.ref q]) rfl ?_
      refine lv_astore hx hb dL_open_15 hl (by decide) rfl (fun ls hl => ?_)
      refine lv_iconst (v := 1) hx hb dL_open_17 (by decide) ?_
      exact ct_iret hE hI hr hk (po_L.th hj hjf e1 (by decide) rfl hb1) (Nat.le_of_ble_eq_true rfl) (Nat.le_of_ble_eq_true rfl) dL_open_18
    · have hEe : E = "java/lang/IllegalArgumentException" := by rw [hE1, e2]; rfl
      subst hEe
      refine lx_c2 hX hE ht (by decide) gk_L13 (by decide +kernel) (by decide) (by decide) gk_L31 (by decide +kernel) hq hv hcl ?_
      refine W.eq (g2 := F0 m 19 ls [.ref q]) rfl ?_
      refine lv_astore hx hb dL_open_19 hl (by decide) rfl (fun ls hl => ?_)
      refine lv_iconst (v := 2) hx hb dL_open_21 (by decide) ?_
      exact ct_iret hE hI hr hk (po_L.th hj hjf e2 (by decide) rfl hb1) (Nat.le_of_ble_eq_true rfl) (Nat.le_of_ble_eq_true rfl) dL_open_22
    · have hEe : E = "java/lang/IllegalStateException" := by rw [hE1, e3]; rfl
      subst hEe
      refine lx_c3 hX hE ht (by decide) gk_L13 (by decide +kernel) (by decide) gk_L31 (by decide +kernel) (by decide) (by decide) gk_L19 (by decide +kernel) hq hv hcl ?_
      refine W.eq (g2 := F0 m 23 ls [.ref q]) rfl ?_
      refine lv_astore hx hb dL_open_23 hl (by decide) rfl (fun ls hl => ?_)
      refine lv_iconst (v := 3) hx hb dL_open_25 (by decide) ?_
      exact ct_iret hE hI hr hk (po_L.th hj hjf e3 (by decide) rfl hb1) (Nat.le_of_ble_eq_true rfl) (Nat.le_of_ble_eq_true rfl) dL_open_26
set_option maxRecDepth 100000 in
set_option maxHeartbeats 1000000 in
theorem kL_part (hl0 : l.stackTraces = false) (h : iv_B K w f mi σ bc out) (to a v0 : Int32) : lx_M l n0 D K yL_part (Cond.codeWith yL_part cL_part 5 (some .int) [(0, 7, 10, 13), (0, 7, 14, 31)]) 10 300 3 2012 [.ref (f 0), .int to, .int a, .int v0] w (po_Lv K w f ja bc out (op_part σ to a v0)) := by
  refine lx_go (own := nm_L) (by decide) rfl (Nat.le_of_ble_eq_true rfl) ?_
  intro p e s m below meth c ls hX hE hI hr hk ht hl
  have hx := hE.1.1.1
  have hb := hE.1.1.2.1
  have h0 := h.2.1
  have hl : lv_has ls 5 [(0, .ref (f 0)), (1, .int to), (2, .int a), (3, .int v0)] := hl
  refine lv_aload_n hx hb dL_part_0 rfl (lv_at hl 0 rfl) ?_
  refine lv_iload_n hx hb dL_part_1 rfl (lv_at hl 1 rfl) ?_
  refine lv_iload_n hx hb dL_part_2 rfl (lv_at hl 2 rfl) ?_
  refine lv_iload_n hx hb dL_part_3 rfl (lv_at hl 3 rfl) ?_
  refine ct_VX (n := 3) hE hI (kB_part hl0 h to a v0) h0 rfl gm_L33 gi_B_part gs_B_B_part gz_B gc_B_part (by decide +kernel) ⟨Nat.le_of_ble_eq_true rfl, Nat.le_of_ble_eq_true rfl⟩ rfl hl.1 rfl (Nat.le_of_ble_eq_true rfl) dL_part_4 ⟨Nat.le_of_ble_eq_true rfl, Nat.le_of_ble_eq_true rfl⟩ (fun v w1 H locs hq hI => ?_) (fun E q ce w1 H locs ht1 hI hq hv hcl => ?_)
  · obtain ⟨hc0, rfl, hb1⟩ := hq
    show W _ _ _ _ _ _ _ _ _ _ _ _ _ _ _ (F0 _ _ _ [])
    refine lv_goto (tgt := 18) hx hb dL_part_7 (by decide) ?_
    refine lv_iconst (v := 0) hx hb dL_part_18 (by decide) ?_
    exact ct_iret hE hI hr hk ⟨by rw [hc0]; rfl, hb1.tl⟩ (Nat.le_of_ble_eq_true rfl) (Nat.le_of_ble_eq_true rfl) dL_part_19
  · obtain ⟨hc0, hE1, hb1⟩ := ht1
    rcases op_part_le σ to a v0 with e0 | e1 | e2
    · exact absurd e0 hc0
    · have hEe : E = "java/util/NoSuchElementException" := by rw [hE1, e1]; rfl
      subst hEe
      refine lx_c1 hE ht (by decide) (by decide) gk_L13 (by decide +kernel) hq hv hcl ?_
      refine W.eq (g2 := F0 m 10 ls [.ref q]) rfl ?_
      refine lv_astore hx hb dL_part_10 hl (by decide) rfl (fun ls hl => ?_)
      refine lv_iconst (v := 1) hx hb dL_part_12 (by decide) ?_
      exact ct_iret hE hI hr hk ⟨by rw [e1]; rfl, hb1.tl⟩ (Nat.le_of_ble_eq_true rfl) (Nat.le_of_ble_eq_true rfl) dL_part_13
    · have hEe : E = "java/lang/IllegalArgumentException" := by rw [hE1, e2]; rfl
      subst hEe
      refine lx_c2 hX hE ht (by decide) gk_L13 (by decide +kernel) (by decide) (by decide) gk_L31 (by decide +kernel) hq hv hcl ?_
      refine W.eq (g2 := F0 m 14 ls [.ref q]) rfl ?_
      refine lv_astore hx hb dL_part_14 hl (by decide) rfl (fun ls hl => ?_)
      refine lv_iconst (v := 2) hx hb dL_part_16 (by decide) ?_
      exact ct_iret hE hI hr hk ⟨by rw [e2]; rfl, hb1.tl⟩ (Nat.le_of_ble_eq_true rfl) (Nat.le_of_ble_eq_true rfl) dL_part_17
set_option maxRecDepth 100000 in
set_option maxHeartbeats 1000000 in
theorem kL_step (hl0 : l.stackTraces = false) (h : iv_B K w f mi σ bc out) (hj : w ja = some (ob_J K g)) (hjf : ∀ j, j < 49 → ja ≠ f j) (to a : Int32) : lx_M l n0 D K yL_step (Cond.codeWith yL_step cL_step 5 (some .int) [(0, 17, 20, 13), (0, 17, 24, 19)]) 10 300 4 2018 [.ref (f 0), .int to, .int a, .ref ja] w (po_L K w f ja bc out (op_step σ to a)) := by
  refine lx_go (own := nm_L) (by decide) rfl (Nat.le_of_ble_eq_true rfl) ?_
  intro p e s m below meth c ls hX hE hI hr hk ht hl
  have hx := hE.1.1.1
  have hb := hE.1.1.2.1
  have h0 := h.2.1
  have hl : lv_has ls 5 [(0, .ref (f 0)), (1, .int to), (2, .int a), (3, .ref ja)] := hl
  refine lv_aload_n hx hb dL_step_0 rfl (lv_at hl 3 rfl) ?_
  refine lv_iconst (v := nI 0) hx hb dL_step_1 (by decide) ?_
  refine lv_aload_n hx hb dL_step_2 rfl (lv_at hl 0 rfl) ?_
  refine lv_iload_n hx hb dL_step_3 rfl (lv_at hl 1 rfl) ?_
  refine lv_iload_n hx hb dL_step_4 rfl (lv_at hl 2 rfl) ?_
  refine ct_VX (n := 2) hE hI (kB_step hl0 h to a) h0 rfl gm_L37 gi_B_step gs_B_B_step gz_B gc_B_step (by decide +kernel) ⟨Nat.le_of_ble_eq_true rfl, Nat.le_of_ble_eq_true rfl⟩ rfl hl.1 rfl (Nat.le_of_ble_eq_true rfl) dL_step_5 ⟨Nat.le_of_ble_eq_true rfl, Nat.le_of_ble_eq_true rfl⟩ (fun v w1 H locs hq hI => ?_) (fun E q ce w1 H locs ht1 hI hq hv hcl => ?_)
  · obtain ⟨hc0, rfl, hb1⟩ := hq
    show W _ _ _ _ _ _ _ _ _ _ _ _ _ _ _ (F0 _ _ _ [.int _, .int _, .ref ja])
    have hj1 := hb1.at hj hjf
    rcases op_step_01 σ to a with e9 | e9
    · rw [e9]
      refine lv_if_eq (tgt := 15) hx hb dL_step_8 (by decide) (fun hq9 => ?_) (fun hq9 => ?_)
      · refine lv_lconst (v := 0) hx hb dL_step_15 (by decide) ?_
        refine mp_lst hE.1 hI hj1 2 rfl (vp_in_nI (by omega) (by omega)) dL_step_16 (fun H locs hI => ?_)
        rw [nI_clamp (by omega)] at hI
        refine lv_goto (tgt := 28) hx hb dL_step_17 (by decide) ?_
        refine lv_iconst (v := 0) hx hb dL_step_28 (by decide) ?_
        exact ct_iret hE hI hr hk (po_L.ok hj hjf hc0 (by rw [e9]; decide) hb1) (Nat.le_of_ble_eq_true rfl) (Nat.le_of_ble_eq_true rfl) dL_step_29
      · exact absurd rfl hq9
    · rw [e9]
      refine lv_if_eq (tgt := 15) hx hb dL_step_8 (by decide) (fun hq9 => ?_) (fun hq9 => ?_)
      · exact absurd hq9 (by decide)
      · refine lv_lconst (v := 1) hx hb dL_step_11 (by decide) ?_
        refine lv_goto (tgt := 16) hx hb dL_step_12 (by decide) ?_
        refine mp_lst hE.1 hI hj1 2 rfl (vp_in_nI (by omega) (by omega)) dL_step_16 (fun H locs hI => ?_)
        rw [nI_clamp (by omega)] at hI
        refine lv_goto (tgt := 28) hx hb dL_step_17 (by decide) ?_
        refine lv_iconst (v := 0) hx hb dL_step_28 (by decide) ?_
        exact ct_iret hE hI hr hk (po_L.ok hj hjf hc0 (by rw [e9]; decide) hb1) (Nat.le_of_ble_eq_true rfl) (Nat.le_of_ble_eq_true rfl) dL_step_29
  · obtain ⟨hc0, hE1, hb1⟩ := ht1
    rcases op_step_le σ to a with e0 | e1 | e2
    · exact absurd e0 hc0
    · have hEe : E = "java/util/NoSuchElementException" := by rw [hE1, e1]; rfl
      subst hEe
      refine lx_c1 hE ht (by decide) (by decide) gk_L13 (by decide +kernel) hq hv hcl ?_
      refine W.eq (g2 := F0 m 20 ls [.ref q]) rfl ?_
      refine lv_astore hx hb dL_step_20 hl (by decide) rfl (fun ls hl => ?_)
      refine lv_iconst (v := 1) hx hb dL_step_22 (by decide) ?_
      exact ct_iret hE hI hr hk (po_L.th hj hjf e1 (by decide) rfl hb1) (Nat.le_of_ble_eq_true rfl) (Nat.le_of_ble_eq_true rfl) dL_step_23
    · have hEe : E = "java/lang/IllegalStateException" := by rw [hE1, e2]; rfl
      subst hEe
      refine lx_c2 hX hE ht (by decide) gk_L13 (by decide +kernel) (by decide) (by decide) gk_L19 (by decide +kernel) hq hv hcl ?_
      refine W.eq (g2 := F0 m 24 ls [.ref q]) rfl ?_
      refine lv_astore hx hb dL_step_24 hl (by decide) rfl (fun ls hl => ?_)
      refine lv_iconst (v := 2) hx hb dL_step_26 (by decide) ?_
      exact ct_iret hE hI hr hk (po_L.th hj hjf e2 (by decide) rfl hb1) (Nat.le_of_ble_eq_true rfl) (Nat.le_of_ble_eq_true rfl) dL_step_27
set_option maxRecDepth 100000 in
set_option maxHeartbeats 1000000 in
theorem kL_head (hl0 : l.stackTraces = false) (h : iv_B K w f mi σ bc out) (hj : w ja = some (ob_J K g)) (hjf : ∀ j, j < 49 → ja ≠ f j) (to a : Int32) : lx_M l n0 D K yL_head (Cond.codeWith yL_head cL_head 5 (some .int) [(0, 10, 13, 13), (0, 10, 17, 19), (0, 10, 21, 45)]) 10 330 306 6012 [.ref (f 0), .int to, .int a, .ref ja] w (po_L K w f ja bc out (op_all true σ to a)) := by
  refine lx_go (own := nm_L) (by decide) rfl (Nat.le_of_ble_eq_true rfl) ?_
  intro p e s m below meth c ls hX hE hI hr hk ht hl
  have hx := hE.1.1.1
  have hb := hE.1.1.2.1
  have h0 := h.2.1
  have hl : lv_has ls 5 [(0, .ref (f 0)), (1, .int to), (2, .int a), (3, .ref ja)] := hl
  refine lv_aload_n hx hb dL_head_0 rfl (lv_at hl 3 rfl) ?_
  refine lv_iconst (v := nI 0) hx hb dL_head_1 (by decide) ?_
  refine lv_aload_n hx hb dL_head_2 rfl (lv_at hl 0 rfl) ?_
  refine lv_iload_n hx hb dL_head_3 rfl (lv_at hl 1 rfl) ?_
  refine lv_iload_n hx hb dL_head_4 rfl (lv_at hl 2 rfl) ?_
  refine ct_VX (n := 2) hE hI (kB_head hl0 h to a) h0 rfl gm_L41 gi_B_head gs_B_B_head gz_B gc_B_head (by decide +kernel) ⟨Nat.le_of_ble_eq_true rfl, Nat.le_of_ble_eq_true rfl⟩ rfl hl.1 rfl (Nat.le_of_ble_eq_true rfl) dL_head_5 ⟨Nat.le_of_ble_eq_true rfl, Nat.le_of_ble_eq_true rfl⟩ (fun v w1 H locs hq hI => ?_) (fun E q ce w1 H locs ht1 hI hq hv hcl => ?_)
  · obtain ⟨hc0, rfl, hb1⟩ := hq
    show W _ _ _ _ _ _ _ _ _ _ _ _ _ _ _ (F0 _ _ _ [.int _, .int _, .ref ja])
    have hj1 := hb1.at hj hjf
    refine lv_i2l hx hb dL_head_8 rfl ?_
    refine mp_lst hE.1 hI hj1 2 rfl (vp_in_nI (by omega) (by omega)) dL_head_9 (fun H locs hI => ?_)
    rw [nI_clamp (by omega)] at hI
    refine lv_goto (tgt := 25) hx hb dL_head_10 (by decide) ?_
    refine lv_iconst (v := 0) hx hb dL_head_25 (by decide) ?_
    exact ct_iret hE hI hr hk (po_L.ok hj hjf hc0 rfl hb1) (Nat.le_of_ble_eq_true rfl) (Nat.le_of_ble_eq_true rfl) dL_head_26
  · obtain ⟨hc0, hE1, hb1⟩ := ht1
    rcases op_all_le true σ to a with e0 | e1 | e2 | e3
    · exact absurd e0 hc0
    · have hEe : E = "java/util/NoSuchElementException" := by rw [hE1, e1]; rfl
      subst hEe
      refine lx_c1 hE ht (by decide) (by decide) gk_L13 (by decide +kernel) hq hv hcl ?_
      refine W.eq (g2 := F0 m 13 ls [.ref q]) rfl ?_
      refine lv_astore hx hb dL_head_13 hl (by decide) rfl (fun ls hl => ?_)
      refine lv_iconst (v := 1) hx hb dL_head_15 (by decide) ?_
      exact ct_iret hE hI hr hk (po_L.th hj hjf e1 (by decide) rfl hb1) (Nat.le_of_ble_eq_true rfl) (Nat.le_of_ble_eq_true rfl) dL_head_16
    · have hEe : E = "java/lang/IllegalStateException" := by rw [hE1, e2]; rfl
      subst hEe
      refine lx_c2 hX hE ht (by decide) gk_L13 (by decide +kernel) (by decide) (by decide) gk_L19 (by decide +kernel) hq hv hcl ?_
      refine W.eq (g2 := F0 m 17 ls [.ref q]) rfl ?_
      refine lv_astore hx hb dL_head_17 hl (by decide) rfl (fun ls hl => ?_)
      refine lv_iconst (v := 2) hx hb dL_head_19 (by decide) ?_
      exact ct_iret hE hI hr hk (po_L.th hj hjf e2 (by decide) rfl hb1) (Nat.le_of_ble_eq_true rfl) (Nat.le_of_ble_eq_true rfl) dL_head_20
    · have hEe : E = "java/lang/ArithmeticException" := by rw [hE1, e3]; rfl
      subst hEe
      refine lx_c3 hX hE ht (by decide) gk_L13 (by decide +kernel) (by decide) gk_L19 (by decide +kernel) (by decide) (by decide) gk_L45 (by decide +kernel) hq hv hcl ?_
      refine W.eq (g2 := F0 m 21 ls [.ref q]) rfl ?_
      refine lv_astore hx hb dL_head_21 hl (by decide) rfl (fun ls hl => ?_)
      refine lv_iconst (v := 3) hx hb dL_head_23 (by decide) ?_
      exact ct_iret hE hI hr hk (po_L.th hj hjf e3 (by decide) rfl hb1) (Nat.le_of_ble_eq_true rfl) (Nat.le_of_ble_eq_true rfl) dL_head_24
set_option maxRecDepth 100000 in
set_option maxHeartbeats 1000000 in
theorem kL_normal (hl0 : l.stackTraces = false) (h : iv_B K w f mi σ bc out) (hj : w ja = some (ob_J K g)) (hjf : ∀ j, j < 49 → ja ≠ f j) (to a : Int32) : lx_M l n0 D K yL_normal (Cond.codeWith yL_normal cL_normal 5 (some .int) [(0, 10, 13, 13), (0, 10, 17, 19), (0, 10, 21, 45)]) 10 330 306 6012 [.ref (f 0), .int to, .int a, .ref ja] w (po_L K w f ja bc out (op_all false σ to a)) := by
  refine lx_go (own := nm_L) (by decide) rfl (Nat.le_of_ble_eq_true rfl) ?_
  intro p e s m below meth c ls hX hE hI hr hk ht hl
  have hx := hE.1.1.1
  have hb := hE.1.1.2.1
  have h0 := h.2.1
  have hl : lv_has ls 5 [(0, .ref (f 0)), (1, .int to), (2, .int a), (3, .ref ja)] := hl
  refine lv_aload_n hx hb dL_normal_0 rfl (lv_at hl 3 rfl) ?_
  refine lv_iconst (v := nI 0) hx hb dL_normal_1 (by decide) ?_
  refine lv_aload_n hx hb dL_normal_2 rfl (lv_at hl 0 rfl) ?_
  refine lv_iload_n hx hb dL_normal_3 rfl (lv_at hl 1 rfl) ?_
  refine lv_iload_n hx hb dL_normal_4 rfl (lv_at hl 2 rfl) ?_
  refine ct_VX (n := 2) hE hI (kB_normal hl0 h to a) h0 rfl gm_L47 gi_B_normal gs_B_B_normal gz_B gc_B_normal (by decide +kernel) ⟨Nat.le_of_ble_eq_true rfl, Nat.le_of_ble_eq_true rfl⟩ rfl hl.1 rfl (Nat.le_of_ble_eq_true rfl) dL_normal_5 ⟨Nat.le_of_ble_eq_true rfl, Nat.le_of_ble_eq_true rfl⟩ (fun v w1 H locs hq hI => ?_) (fun E q ce w1 H locs ht1 hI hq hv hcl => ?_)
  · obtain ⟨hc0, rfl, hb1⟩ := hq
    show W _ _ _ _ _ _ _ _ _ _ _ _ _ _ _ (F0 _ _ _ [.int _, .int _, .ref ja])
    have hj1 := hb1.at hj hjf
    refine lv_i2l hx hb dL_normal_8 rfl ?_
    refine mp_lst hE.1 hI hj1 2 rfl (vp_in_nI (by omega) (by omega)) dL_normal_9 (fun H locs hI => ?_)
    rw [nI_clamp (by omega)] at hI
    refine lv_goto (tgt := 25) hx hb dL_normal_10 (by decide) ?_
    refine lv_iconst (v := 0) hx hb dL_normal_25 (by decide) ?_
    exact ct_iret hE hI hr hk (po_L.ok hj hjf hc0 rfl hb1) (Nat.le_of_ble_eq_true rfl) (Nat.le_of_ble_eq_true rfl) dL_normal_26
  · obtain ⟨hc0, hE1, hb1⟩ := ht1
    rcases op_all_le false σ to a with e0 | e1 | e2 | e3
    · exact absurd e0 hc0
    · have hEe : E = "java/util/NoSuchElementException" := by rw [hE1, e1]; rfl
      subst hEe
      refine lx_c1 hE ht (by decide) (by decide) gk_L13 (by decide +kernel) hq hv hcl ?_
      refine W.eq (g2 := F0 m 13 ls [.ref q]) rfl ?_
      refine lv_astore hx hb dL_normal_13 hl (by decide) rfl (fun ls hl => ?_)
      refine lv_iconst (v := 1) hx hb dL_normal_15 (by decide) ?_
      exact ct_iret hE hI hr hk (po_L.th hj hjf e1 (by decide) rfl hb1) (Nat.le_of_ble_eq_true rfl) (Nat.le_of_ble_eq_true rfl) dL_normal_16
    · have hEe : E = "java/lang/IllegalStateException" := by rw [hE1, e2]; rfl
      subst hEe
      refine lx_c2 hX hE ht (by decide) gk_L13 (by decide +kernel) (by decide) (by decide) gk_L19 (by decide +kernel) hq hv hcl ?_
      refine W.eq (g2 := F0 m 17 ls [.ref q]) rfl ?_
      refine lv_astore hx hb dL_normal_17 hl (by decide) rfl (fun ls hl => ?_)
      refine lv_iconst (v := 2) hx hb dL_normal_19 (by decide) ?_
      exact ct_iret hE hI hr hk (po_L.th hj hjf e2 (by decide) rfl hb1) (Nat.le_of_ble_eq_true rfl) (Nat.le_of_ble_eq_true rfl) dL_normal_20
    · have hEe : E = "java/lang/ArithmeticException" := by rw [hE1, e3]; rfl
      subst hEe
      refine lx_c3 hX hE ht (by decide) gk_L13 (by decide +kernel) (by decide) gk_L19 (by decide +kernel) (by decide) (by decide) gk_L45 (by decide +kernel) hq hv hcl ?_
      refine W.eq (g2 := F0 m 21 ls [.ref q]) rfl ?_
      refine lv_astore hx hb dL_normal_21 hl (by decide) rfl (fun ls hl => ?_)
      refine lv_iconst (v := 3) hx hb dL_normal_23 (by decide) ?_
      exact ct_iret hE hI hr hk (po_L.th hj hjf e3 (by decide) rfl hb1) (Nat.le_of_ble_eq_true rfl) (Nat.le_of_ble_eq_true rfl) dL_normal_24
set_option maxRecDepth 100000 in
set_option maxHeartbeats 1000000 in
theorem kL_same (hl0 : l.stackTraces = false) (h : iv_B K w f mi σ bc out) (hj : w ja = some (ob_J K g)) (hjf : ∀ j, j < 49 → ja ≠ f j) (a b : Int32) : lx_M l n0 D K yL_same (Cond.codeWith yL_same cL_same 5 (some .int) [(0, 17, 20, 13)]) 8 180 2 12 [.ref (f 0), .int a, .int b, .ref ja] w (po_L K w f ja bc out (op_same σ a b)) := by
  refine lx_go (own := nm_L) (by decide) rfl (Nat.le_of_ble_eq_true rfl) ?_
  intro p e s m below meth c ls hX hE hI hr hk ht hl
  have hx := hE.1.1.1
  have hb := hE.1.1.2.1
  have h0 := h.2.1
  have hl : lv_has ls 5 [(0, .ref (f 0)), (1, .int a), (2, .int b), (3, .ref ja)] := hl
  refine lv_aload_n hx hb dL_same_0 rfl (lv_at hl 3 rfl) ?_
  refine lv_iconst (v := nI 0) hx hb dL_same_1 (by decide) ?_
  refine lv_aload_n hx hb dL_same_2 rfl (lv_at hl 0 rfl) ?_
  refine lv_iload_n hx hb dL_same_3 rfl (lv_at hl 1 rfl) ?_
  refine lv_iload_n hx hb dL_same_4 rfl (lv_at hl 2 rfl) ?_
  refine ct_VX (n := 2) hE hI (kB_same hl0 h a b) h0 rfl gm_L50 gi_B_same gs_B_B_same gz_B gc_B_same (by decide +kernel) ⟨Nat.le_of_ble_eq_true rfl, Nat.le_of_ble_eq_true rfl⟩ rfl hl.1 rfl (Nat.le_of_ble_eq_true rfl) dL_same_5 ⟨Nat.le_of_ble_eq_true rfl, Nat.le_of_ble_eq_true rfl⟩ (fun v w1 H locs hq hI => ?_) (fun E q ce w1 H locs ht1 hI hq hv hcl => ?_)
  · obtain ⟨hc0, rfl, hb1⟩ := hq
    show W _ _ _ _ _ _ _ _ _ _ _ _ _ _ _ (F0 _ _ _ [.int _, .int _, .ref ja])
    have hj1 := hb1.at hj hjf
    rcases op_same_01 σ a b with e9 | e9
    · rw [e9]
      refine lv_if_eq (tgt := 15) hx hb dL_same_8 (by decide) (fun hq9 => ?_) (fun hq9 => ?_)
      · refine lv_lconst (v := 0) hx hb dL_same_15 (by decide) ?_
        refine mp_lst hE.1 hI hj1 2 rfl (vp_in_nI (by omega) (by omega)) dL_same_16 (fun H locs hI => ?_)
        rw [nI_clamp (by omega)] at hI
        refine lv_goto (tgt := 24) hx hb dL_same_17 (by decide) ?_
        refine lv_iconst (v := 0) hx hb dL_same_24 (by decide) ?_
        exact ct_iret hE hI hr hk (po_L.ok hj hjf hc0 (by rw [e9]; decide) hb1) (Nat.le_of_ble_eq_true rfl) (Nat.le_of_ble_eq_true rfl) dL_same_25
      · exact absurd rfl hq9
    · rw [e9]
      refine lv_if_eq (tgt := 15) hx hb dL_same_8 (by decide) (fun hq9 => ?_) (fun hq9 => ?_)
      · exact absurd hq9 (by decide)
      · refine lv_lconst (v := 1) hx hb dL_same_11 (by decide) ?_
        refine lv_goto (tgt := 16) hx hb dL_same_12 (by decide) ?_
        refine mp_lst hE.1 hI hj1 2 rfl (vp_in_nI (by omega) (by omega)) dL_same_16 (fun H locs hI => ?_)
        rw [nI_clamp (by omega)] at hI
        refine lv_goto (tgt := 24) hx hb dL_same_17 (by decide) ?_
        refine lv_iconst (v := 0) hx hb dL_same_24 (by decide) ?_
        exact ct_iret hE hI hr hk (po_L.ok hj hjf hc0 (by rw [e9]; decide) hb1) (Nat.le_of_ble_eq_true rfl) (Nat.le_of_ble_eq_true rfl) dL_same_25
  · obtain ⟨hc0, hE1, hb1⟩ := ht1
    rcases op_same_le σ a b with e0 | e1
    · exact absurd e0 hc0
    · have hEe : E = "java/util/NoSuchElementException" := by rw [hE1, e1]; rfl
      subst hEe
      refine lx_c1 hE ht (by decide) (by decide) gk_L13 (by decide +kernel) hq hv hcl ?_
      refine W.eq (g2 := F0 m 20 ls [.ref q]) rfl ?_
      refine lv_astore hx hb dL_same_20 hl (by decide) rfl (fun ls hl => ?_)
      refine lv_iconst (v := 1) hx hb dL_same_22 (by decide) ?_
      exact ct_iret hE hI hr hk (po_L.th hj hjf e1 (by decide) rfl hb1) (Nat.le_of_ble_eq_true rfl) (Nat.le_of_ble_eq_true rfl) dL_same_23
set_option maxRecDepth 100000 in
set_option maxHeartbeats 1000000 in
theorem kL_about (hl0 : l.stackTraces = false) (h : iv_B K w f mi σ bc out) (hj : w ja = some (ob_J K g)) (hjf : ∀ j, j < 49 → ja ≠ f j) (a what : Int32) : lx_M l n0 D K yL_about (Cond.codeWith yL_about cL_about 5 (some .int) [(0, 10, 13, 13), (0, 10, 17, 31)]) 8 180 2 12 [.ref (f 0), .int a, .int what, .ref ja] w (po_L K w f ja bc out (op_about σ a what)) := by
  refine lx_go (own := nm_L) (by decide) rfl (Nat.le_of_ble_eq_true rfl) ?_
  intro p e s m below meth c ls hX hE hI hr hk ht hl
  have hx := hE.1.1.1
  have hb := hE.1.1.2.1
  have h0 := h.2.1
  have hl : lv_has ls 5 [(0, .ref (f 0)), (1, .int a), (2, .int what), (3, .ref ja)] := hl
  refine lv_aload_n hx hb dL_about_0 rfl (lv_at hl 3 rfl) ?_
  refine lv_iconst (v := nI 0) hx hb dL_about_1 (by decide) ?_
  refine lv_aload_n hx hb dL_about_2 rfl (lv_at hl 0 rfl) ?_
  refine lv_iload_n hx hb dL_about_3 rfl (lv_at hl 1 rfl) ?_
  refine lv_iload_n hx hb dL_about_4 rfl (lv_at hl 2 rfl) ?_
  refine ct_VX (n := 2) hE hI (kB_about hl0 h a what) h0 rfl gm_L53 gi_B_about gs_B_B_about gz_B gc_B_about (by decide +kernel) ⟨Nat.le_of_ble_eq_true rfl, Nat.le_of_ble_eq_true rfl⟩ rfl hl.1 rfl (Nat.le_of_ble_eq_true rfl) dL_about_5 ⟨Nat.le_of_ble_eq_true rfl, Nat.le_of_ble_eq_true rfl⟩ (fun v w1 H locs hq hI => ?_) (fun E q ce w1 H locs ht1 hI hq hv hcl => ?_)
  · obtain ⟨hc0, rfl, hb1⟩ := hq
    show W _ _ _ _ _ _ _ _ _ _ _ _ _ _ _ (F0 _ _ _ [.int _, .int _, .ref ja])
    have hj1 := hb1.at hj hjf
    refine lv_i2l hx hb dL_about_8 rfl ?_
    refine mp_lst hE.1 hI hj1 2 rfl (vp_in_nI (by omega) (by omega)) dL_about_9 (fun H locs hI => ?_)
    rw [nI_clamp (by omega)] at hI
    refine lv_goto (tgt := 21) hx hb dL_about_10 (by decide) ?_
    refine lv_iconst (v := 0) hx hb dL_about_21 (by decide) ?_
    exact ct_iret hE hI hr hk (po_L.ok hj hjf hc0 rfl hb1) (Nat.le_of_ble_eq_true rfl) (Nat.le_of_ble_eq_true rfl) dL_about_22
  · obtain ⟨hc0, hE1, hb1⟩ := ht1
    rcases op_about_le σ a what with e0 | e1 | e2
    · exact absurd e0 hc0
    · have hEe : E = "java/util/NoSuchElementException" := by rw [hE1, e1]; rfl
      subst hEe
      refine lx_c1 hE ht (by decide) (by decide) gk_L13 (by decide +kernel) hq hv hcl ?_
      refine W.eq (g2 := F0 m 13 ls [.ref q]) rfl ?_
      refine lv_astore hx hb dL_about_13 hl (by decide) rfl (fun ls hl => ?_)
      refine lv_iconst (v := 1) hx hb dL_about_15 (by decide) ?_
      exact ct_iret hE hI hr hk (po_L.th hj hjf e1 (by decide) rfl hb1) (Nat.le_of_ble_eq_true rfl) (Nat.le_of_ble_eq_true rfl) dL_about_16
    · have hEe : E = "java/lang/IllegalArgumentException" := by rw [hE1, e2]; rfl
      subst hEe
      refine lx_c2 hX hE ht (by decide) gk_L13 (by decide +kernel) (by decide) (by decide) gk_L31 (by decide +kernel) hq hv hcl ?_
      refine W.eq (g2 := F0 m 17 ls [.ref q]) rfl ?_
      refine lv_astore hx hb dL_about_17 hl (by decide) rfl (fun ls hl => ?_)
      refine lv_iconst (v := 2) hx hb dL_about_19 (by decide) ?_
      exact ct_iret hE hI hr hk (po_L.th hj hjf e2 (by decide) rfl hb1) (Nat.le_of_ble_eq_true rfl) (Nat.le_of_ble_eq_true rfl) dL_about_20
set_option maxRecDepth 100000 in
set_option maxHeartbeats 1000000 in
theorem kL_has (hl0 : l.stackTraces = false) (h : iv_B K w f mi σ bc out) (hj : w ja = some (ob_J K g)) (hjf : ∀ j, j < 49 → ja ≠ f j) (a n : Int32) : lx_M l n0 D K yL_has (Cond.codeWith yL_has cL_has 5 (some .int) [(0, 10, 13, 13)]) 8 180 2 12 [.ref (f 0), .int a, .int n, .ref ja] w (po_L K w f ja bc out (op_has σ a n)) := by
  refine lx_go (own := nm_L) (by decide) rfl (Nat.le_of_ble_eq_true rfl) ?_
  intro p e s m below meth c ls hX hE hI hr hk ht hl
  have hx := hE.1.1.1
  have hb := hE.1.1.2.1
  have h0 := h.2.1
  have hl : lv_has ls 5 [(0, .ref (f 0)), (1, .int a), (2, .int n), (3, .ref ja)] := hl
  refine lv_aload_n hx hb dL_has_0 rfl (lv_at hl 3 rfl) ?_
  refine lv_iconst (v := nI 0) hx hb dL_has_1 (by decide) ?_
  refine lv_aload_n hx hb dL_has_2 rfl (lv_at hl 0 rfl) ?_
  refine lv_iload_n hx hb dL_has_3 rfl (lv_at hl 1 rfl) ?_
  refine lv_iload_n hx hb dL_has_4 rfl (lv_at hl 2 rfl) ?_
  refine ct_VX (n := 2) hE hI (kB_has hl0 h a n) h0 rfl gm_L56 gi_B_has gs_B_B_has gz_B gc_B_has (by decide +kernel) ⟨Nat.le_of_ble_eq_true rfl, Nat.le_of_ble_eq_true rfl⟩ rfl hl.1 rfl (Nat.le_of_ble_eq_true rfl) dL_has_5 ⟨Nat.le_of_ble_eq_true rfl, Nat.le_of_ble_eq_true rfl⟩ (fun v w1 H locs hq hI => ?_) (fun E q ce w1 H locs ht1 hI hq hv hcl => ?_)
  · obtain ⟨hc0, rfl, hb1⟩ := hq
    show W _ _ _ _ _ _ _ _ _ _ _ _ _ _ _ (F0 _ _ _ [.int _, .int _, .ref ja])
    have hj1 := hb1.at hj hjf
    refine lv_i2l hx hb dL_has_8 rfl ?_
    refine mp_lst hE.1 hI hj1 2 rfl (vp_in_nI (by omega) (by omega)) dL_has_9 (fun H locs hI => ?_)
    rw [nI_clamp (by omega)] at hI
    refine lv_goto (tgt := 17) hx hb dL_has_10 (by decide) ?_
    refine lv_iconst (v := 0) hx hb dL_has_17 (by decide) ?_
    exact ct_iret hE hI hr hk (po_L.ok hj hjf hc0 rfl hb1) (Nat.le_of_ble_eq_true rfl) (Nat.le_of_ble_eq_true rfl) dL_has_18
  · obtain ⟨hc0, hE1, hb1⟩ := ht1
    rcases op_has_le σ a n with e0 | e1
    · exact absurd e0 hc0
    · have hEe : E = "java/util/NoSuchElementException" := by rw [hE1, e1]; rfl
      subst hEe
      refine lx_c1 hE ht (by decide) (by decide) gk_L13 (by decide +kernel) hq hv hcl ?_
      refine W.eq (g2 := F0 m 13 ls [.ref q]) rfl ?_
      refine lv_astore hx hb dL_has_13 hl (by decide) rfl (fun ls hl => ?_)
      refine lv_iconst (v := 1) hx hb dL_has_15 (by decide) ?_
      exact ct_iret hE hI hr hk (po_L.th hj hjf e1 (by decide) rfl hb1) (Nat.le_of_ble_eq_true rfl) (Nat.le_of_ble_eq_true rfl) dL_has_16
set_option maxRecDepth 100000 in
set_option maxHeartbeats 1000000 in
theorem kL_write (hl0 : l.stackTraces = false) (h : iv_B K w f mi σ bc out) (hj : w ja = some (ob_J K g)) (hjf : ∀ j, j < 49 → ja ≠ f j) (a : Int32) : lx_M l n0 D K yL_write (Cond.codeWith yL_write cL_write 4 (some .int) [(0, 9, 12, 13)]) 8 260 (wr_c σ bc a) (wr_s σ bc a) [.ref (f 0), .int a, .ref ja] w (fun v w' => v = some (.int (nI (if rk a = none then 1 else 0))) ∧ lb K w f ja w' σ (wr_b σ bc a) (wr_o σ out a) ∧ ∃ g, w' ja = some (ob_J K g) ∧ (rk a ≠ none → g 0 = (nI (wr_o σ out a).length).toInt64)) := by
  refine lx_go (own := nm_L) (by decide) rfl (Nat.le_of_ble_eq_true rfl) ?_
  intro p e s m below meth c ls hX hE hI hr hk ht hl
  have hx := hE.1.1.1
  have hb := hE.1.1.2.1
  have h0 := h.2.1
  have hl : lv_has ls 4 [(0, .ref (f 0)), (1, .int a), (2, .ref ja)] := hl
  refine lv_aload_n hx hb dL_write_0 rfl (lv_at hl 2 rfl) ?_
  refine lv_iconst (v := nI 0) hx hb dL_write_1 (by decide) ?_
  refine lv_aload_n hx hb dL_write_2 rfl (lv_at hl 0 rfl) ?_
  refine lv_iload_n hx hb dL_write_3 rfl (lv_at hl 1 rfl) ?_
  refine ct_VX (n := 1) hE hI (kB_write hl0 h a) h0 rfl gm_L59 gi_B_write gs_B_B_write gz_B gc_B_write (by decide +kernel) ⟨Nat.le_of_ble_eq_true rfl, Nat.le_of_ble_eq_true rfl⟩ rfl hl.1 rfl (Nat.le_of_ble_eq_true rfl) dL_write_4 ⟨by show 0 + wr_c σ bc a ≤ wr_c σ bc a; omega, by show 0 + wr_s σ bc a ≤ wr_s σ bc a; omega⟩ (fun v w1 H locs hq hI => ?_) (fun E q ce w1 H locs ht1 hI hq hv hcl => ?_)
  · obtain ⟨hc0, rfl, hb1⟩ := hq
    show W _ _ _ _ _ _ _ _ _ _ _ _ _ _ _ (F0 _ _ _ [.int _, .int _, .ref ja])
    have hj1 := hb1.at hj hjf
    refine lv_i2l hx hb dL_write_7 rfl ?_
    refine mp_lst hE.1 hI hj1 2 rfl (vp_in_nI (by omega) (by omega)) dL_write_8 (fun H locs hI => ?_)
    rw [nI_clamp (by omega)] at hI
    refine lv_goto (tgt := 15) hx hb dL_write_9 (by decide) ?_
    refine lv_iconst (v := 0) hx hb dL_write_15 (by decide) ?_
    exact ct_iret hE hI hr hk ⟨by rw [if_neg hc0]; rfl, hb1.tlJ hj hjf, _, mp_up_self .., fun _ => if_pos rfl⟩ (by show 0 + wr_c σ bc a ≤ wr_c σ bc a; omega) (by show 0 + wr_s σ bc a ≤ wr_s σ bc a; omega) dL_write_16
  · obtain ⟨hc0, hE1, hb1⟩ := ht1
    have hEe : E = "java/util/NoSuchElementException" := hE1
    subst hEe
    have ew : wr_o σ out a = out := by unfold wr_o; rw [hc0]
    have eb : wr_b σ bc a = bc := by unfold wr_b; rw [hc0]
    refine lx_c1 hE ht (by decide) (by decide) gk_L13 (by decide +kernel) hq hv hcl ?_
    refine W.eq (g2 := F0 m 12 ls [.ref q]) rfl ?_
    refine lv_astore_n hx hb dL_write_12 rfl hl (by decide) rfl (fun ls hl => ?_)
    refine lv_iconst (v := 1) hx hb dL_write_13 (by decide) ?_
    exact ct_iret hE hI hr hk ⟨by rw [if_pos hc0]; rfl, by rw [ew, eb]; exact hb1.tl, g, hb1.at hj hjf, fun hn => absurd hc0 hn⟩ (by show 0 + wr_c σ bc a ≤ wr_c σ bc a; omega) (by show 0 + wr_s σ bc a ≤ wr_s σ bc a; omega) dL_write_14
set_option maxRecDepth 100000 in
set_option maxHeartbeats 1000000 in
theorem kL_out (hl0 : l.stackTraces = false) (h : iv_B K w f mi σ bc out) (hj : w ja = some (ob_J K g)) (hjf : ∀ j, j < 49 → ja ≠ f j) (i : Int32) : lx_M l n0 D K yL_out (Cond.codeWith yL_out cL_out 4 (some .int) [(0, 9, 12, 66)]) 8 180 1 6 [.ref (f 0), .int i, .ref ja] w (fun v w' => lb K w f ja w' σ bc out ∧ ∃ g, w' ja = some (ob_J K g) ∧ ((v = some (.int 0) ∧ ∃ (k : Nat) (x : Int), i = nI k ∧ k < 2147483648 ∧ out[k]? = some x ∧ g 0 = (ci_i x).toInt64) ∨ (v = some (.int 1) ∧ (i.toInt < 0 ∨ (out.length : Int) ≤ i.toInt)))) := by
  refine lx_go (own := nm_L) (by decide) rfl (Nat.le_of_ble_eq_true rfl) ?_
  intro p e s m below meth c ls hX hE hI hr hk ht hl
  have hx := hE.1.1.1
  have hb := hE.1.1.2.1
  have h0 := h.2.1
  have hl : lv_has ls 4 [(0, .ref (f 0)), (1, .int i), (2, .ref ja)] := hl
  refine lv_aload_n hx hb dL_out_0 rfl (lv_at hl 2 rfl) ?_
  refine lv_iconst (v := nI 0) hx hb dL_out_1 (by decide) ?_
  refine lv_aload_n hx hb dL_out_2 rfl (lv_at hl 0 rfl) ?_
  refine lv_iload_n hx hb dL_out_3 rfl (lv_at hl 1 rfl) ?_
  refine ct_VX (n := 1) hE hI (kB_out hl0 h i) h0 rfl gm_L63 gi_B_out gs_B_B_out gz_B gc_B_out (by decide +kernel) ⟨Nat.le_of_ble_eq_true rfl, Nat.le_of_ble_eq_true rfl⟩ rfl hl.1 rfl (Nat.le_of_ble_eq_true rfl) dL_out_4 ⟨Nat.le_of_ble_eq_true rfl, Nat.le_of_ble_eq_true rfl⟩ (fun v w1 H locs hq hI => ?_) (fun E q ce w1 H locs ht1 hI hq hv hcl => ?_)
  · obtain ⟨⟨k, x, e1, e2, e3, rfl⟩, hb1⟩ := hq
    show W _ _ _ _ _ _ _ _ _ _ _ _ _ _ _ (F0 _ _ _ [.int _, .int _, .ref ja])
    have hj1 := hb1.at hj hjf
    refine lv_i2l hx hb dL_out_7 rfl ?_
    refine mp_lst hE.1 hI hj1 2 rfl (vp_in_nI (by omega) (by omega)) dL_out_8 (fun H locs hI => ?_)
    rw [nI_clamp (by omega)] at hI
    refine lv_goto (tgt := 15) hx hb dL_out_9 (by decide) ?_
    refine lv_iconst (v := 0) hx hb dL_out_15 (by decide) ?_
    exact ct_iret hE hI hr hk ⟨hb1.tlJ hj hjf, _, mp_up_self .., Or.inl ⟨rfl, k, x, e1, e2, e3, if_pos rfl⟩⟩ (Nat.le_of_ble_eq_true rfl) (Nat.le_of_ble_eq_true rfl) dL_out_16
  · obtain ⟨hc0, hE1, hb1⟩ := ht1
    subst hE1
    refine lx_c1 hE ht (by decide) (by decide) gk_L66 (by decide +kernel) hq hv hcl ?_
    refine W.eq (g2 := F0 m 12 ls [.ref q]) rfl ?_
    refine lv_astore_n hx hb dL_out_12 rfl hl (by decide) rfl (fun ls hl => ?_)
    refine lv_iconst (v := 1) hx hb dL_out_13 (by decide) ?_
    exact ct_iret hE hI hr hk ⟨hb1.tl, g, hb1.at hj hjf, Or.inr ⟨rfl, hc0⟩⟩ (Nat.le_of_ble_eq_true rfl) (Nat.le_of_ble_eq_true rfl) dL_out_14
end KL1
