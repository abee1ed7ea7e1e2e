/-! the face: part, step, head, normal, same -/
def op_part (σ : Nat → Std.Format) (to a second : Int32) : oR := match rk to, rk a with
  | some t, some x => (match σ x with
    | .append p q => (0, 0, su σ t (tm_can (if second = 0 then p else q)))
    | _ => (2, 0, σ))
  | _, _ => (1, 0, σ)
theorem op_part_a {σ : Nat → Std.Format} {to a s : Int32} {t x : Nat} {p q : Std.Format} (h1 : rk to = some t) (h2 : rk a = some x) (h4 : σ x = .append p q) : op_part σ to a s = (0, 0, su σ t (tm_can (if s = 0 then p else q))) := by
  unfold op_part
  rw [h1, h2]
  show (match σ x with
    | .append p q => (0, 0, su σ t (tm_can (if s = 0 then p else q)))
    | _ => (2, 0, σ)) = _
  rw [h4]
theorem op_part_n {σ : Nat → Std.Format} {to a s : Int32} {t x : Nat} (h1 : rk to = some t) (h2 : rk a = some x) (h4 : ∀ p q, σ x ≠ .append p q) : op_part σ to a s = (2, 0, σ) := by
  unfold op_part
  rw [h1, h2]
  show (match σ x with
    | .append p q => (0, 0, su σ t (tm_can (if s = 0 then p else q)))
    | _ => (2, 0, σ)) = _
  split
  · rename_i p q e
    exact absurd e (h4 p q)
  · rfl
def op_step (σ : Nat → Std.Format) (to a : Int32) : oR := match rk to, rk a with
  | some t, some x => (match tm_f1 (tm_ks (σ x)) with
    | none => (0, 0, su σ t (σ x))
    | some p => (match tm_chk (tm_ct (σ x) p) with
      | none => (2, 0, σ)
      | some u => (0, 1, su σ t u)))
  | _, _ => (1, 0, σ)
def op_all (hd : Bool) (σ : Nat → Std.Format) (to a : Int32) : oR := match rk to, rk a with
  | some t, some x => (match tm_rd hd 301 0 (σ x) with
    | none => (2, 0, σ)
    | some none => (3, 0, σ)
    | some (some (n, u)) => (0, n, su σ t u))
  | _, _ => (1, 0, σ)
def op_same (σ : Nat → Std.Format) (a b : Int32) : oR := match rk a, rk b with
  | some x, some y => (0, if tm_db (σ x) [] = tm_db (σ y) [] then 1 else 0, σ)
  | _, _ => (1, 0, σ)
theorem tm_can_ok {t : Std.Format} (hs : tm_sc t []) (h1 : tm_sz t ≤ 2000) (h2 : tm_dp t ≤ 150) : tm_ok (tm_can t) ∧ tm_db (tm_can t) [] = tm_db t [] := by
  have h : tm_chk t = some (tm_can t) := by unfold tm_chk; rw [if_pos ⟨h1, h2⟩]
  obtain ⟨a1, a2, -⟩ := tm_chk_ok hs h
  exact ⟨a1, a2⟩
section KB4
variable {l : Launch} {n0 : Nat} {D : va_G} {K : Nat → ClassId} {w : mp_W} {f : Nat → Nat} {mi bc : Nat} {σ : Nat → Std.Format} {out : List Int}
set_option maxRecDepth 100000 in
set_option maxHeartbeats 1000000 in
theorem kB_part (hl0 : l.stackTraces = false) (h : iv_B K w f mi σ bc out) (to a v0 : Int32) : ct_X l n0 D K yB_part (Cond.code yB_part cB_part 6 none) 9 240 3 2012 [.ref (f 0), .int to, .int a, .int v0] w (po_Bv K w f bc out (op_part σ to a v0)) (th_B K w f bc out ex_2 (op_part σ to a v0)) := by
  have h0 := h.2.1
  obtain ⟨M, hS⟩ := h.S
  refine ct_goX (own := nm_B) (by decide) rfl (Nat.le_of_ble_eq_true rfl) ?_
  intro p e s m below meth c ls hE hI hr hk hout hl
  have hx := hE.1.1.1
  have hb := hE.1.1.2.1
  have hl : lv_has ls 6 [(0, .ref (f 0)), (1, .int to), (2, .int a), (3, .int v0)] := hl
  refine lv_aload_n hx hb dB_part_0 rfl (lv_at hl 0 rfl) ?_
  refine lv_iload_n hx hb dB_part_1 rfl (lv_at hl 1 rfl) ?_
  refine ct_VX (n := 1) hE hI (kB_register hl0 h to) h0 rfl gm_B32 gi_B_register gs_B_B_register gz_B gc_B_register (by decide +kernel) ⟨Nat.le_of_ble_eq_true rfl, Nat.le_of_ble_eq_true rfl⟩ rfl hl.1 rfl (Nat.le_of_ble_eq_true rfl) dB_part_2 ⟨Nat.le_of_ble_eq_true rfl, Nat.le_of_ble_eq_true rfl⟩ (fun v w1 H locs hq hI => ?_) (fun E q ce w1 H locs ht hI hq hv hcl => ?_)
  · obtain ⟨hw, t, hrt, rfl⟩ := hq
    subst w1
    obtain ⟨ht16, -⟩ := rk_some hrt
    show W _ _ _ _ _ _ _ _ _ _ _ _ _ _ _ (F0 _ _ _ [.ref _])
    refine lv_astore hx hb dB_part_5 hl (by decide) rfl (fun ls hl => ?_)
    refine lv_aload_n hx hb dB_part_7 rfl (lv_at hl 1 rfl) ?_
    refine lv_iload_n hx hb dB_part_8 rfl (lv_at hl 3 rfl) ?_
    refine ct_VX (n := 1) hE hI (kB_register hl0 h a) h0 rfl gm_B32 gi_B_register gs_B_B_register gz_B gc_B_register (by decide +kernel) ⟨Nat.le_of_ble_eq_true rfl, Nat.le_of_ble_eq_true rfl⟩ rfl hl.1 rfl (Nat.le_of_ble_eq_true rfl) dB_part_9 ⟨Nat.le_of_ble_eq_true rfl, Nat.le_of_ble_eq_true rfl⟩ (fun v w1 H locs hq hI => ?_) (fun E q ce w1 H locs ht hI hq hv hcl => ?_)
    · obtain ⟨hw, x, hrx, rfl⟩ := hq
      subst w1
      obtain ⟨hx16, -⟩ := rk_some hrx
      show W _ _ _ _ _ _ _ _ _ _ _ _ _ _ _ (F0 _ _ _ [.ref _])
      obtain ⟨cx, hRx⟩ := h.reg hx16
      have hm := h.2.2.2.1.1
      have okx := h.ok hx16
      obtain ⟨g, kT, kA, kf, kc, kc2, kx⟩ := hRx.out
      obtain ⟨x0, e0, -, e2⟩ := tm_hd (σ x)
      have hb0 := kx x0 (List.mem_of_getElem? e0)
      have hcx : 1 ≤ cx := Nat.le_trans (by rw [tm_db_len]; exact tm_sz_pos _) kc
      refine lv_astore hx hb dB_part_12 hl (by decide) rfl (fun ls hl => ?_)
      refine lv_aload hx hb dB_part_14 (lv_at hl 0 rfl) ?_
      refine ct_V (n := 0) hE hI (kT_first kT kA (by omega) (by omega)) kT rfl gm_B58 gi_T_first gs_T_T_first gz_T gc_T_first (by decide +kernel) ⟨Nat.le_of_ble_eq_true rfl, Nat.le_of_ble_eq_true rfl⟩ rfl hl.1 rfl (Nat.le_of_ble_eq_true rfl) dB_part_16 ⟨Nat.le_of_ble_eq_true rfl, Nat.le_of_ble_eq_true rfl⟩ (fun v w1 H locs hq hI => ?_)
      obtain ⟨rfl, hw⟩ := hq
      subst w1
      show W _ _ _ _ _ _ _ _ _ _ _ _ _ _ _ (F0 _ _ _ [.int _])
      rw [kf 0 x0 e0]
      refine lv_iconst (v := ci_i (-1)) hx hb dB_part_19 (by decide) ?_
      refine lv_icmp_eq (tgt := 33) hx hb dB_part_20 (by decide) (fun hq => ?_) (fun hq => ?_)
      · rw [ci_eq (by omega) (by omega)] at hq
        obtain ⟨pp, qq, ex⟩ := e2.mp hq
        have er := op_part_a (s := v0) hrt hrx ex
        obtain ⟨hsc, -, hsz, hdp⟩ := okx
        rw [ex] at hsc hsz hdp
        have hdp : 1 + max (tm_dp pp) (tm_dp qq) ≤ 150 := hdp
        have hsz : 1 + tm_sz pp + tm_sz qq ≤ 2000 := hsz
        have eA : tm_db (σ x) [] = -1 :: (tm_db pp [] ++ tm_db qq []) := by rw [ex, tm_db_app]
        have een : 1 + tm_en tm_kc ((tm_db (σ x) []).drop 1) 1 = 1 + tm_sz pp := by
          rw [eA]
          show 1 + tm_en tm_kc (tm_db pp [] ++ tm_db qq []) 1 = _
          rw [tm_en_db]
        obtain ⟨okc, edb⟩ : tm_ok (tm_can (if v0 = 0 then pp else qq)) ∧ tm_db (tm_can (if v0 = 0 then pp else qq)) [] = tm_db (if v0 = 0 then pp else qq) [] := by
          split
          · exact tm_can_ok hsc.1 (by omega) (by omega)
          · exact tm_can_ok hsc.2 (by omega) (by omega)
        refine lv_aload hx hb dB_part_33 (lv_at hl 1 rfl) ?_
        refine lv_aload_n hx hb dB_part_35 rfl (lv_at hl 2 rfl) ?_
        refine mp_get hE.1 hI h0 rfl gx_B 1 (by decide) (List.mem_cons_of_mem _ gf_B21) rfl dB_part_36 ?_
        refine lv_aload hx hb dB_part_39 (lv_at hl 0 rfl) ?_
        refine lv_iload_n hx hb dB_part_41 rfl (lv_at hl 5 rfl) ?_
        refine ct_V (n := 2) hE hI (kS_cut h.1 hm hS (i := x) (by omega) (by omega) hRx een (by rw [tm_db_len, ex]; show 1 + tm_sz pp ≤ 1 + tm_sz pp + tm_sz qq; omega)) hS.1 rfl gm_B74 gi_S_cut gs_S_S_cut gz_S gc_S_cut (by decide +kernel) ⟨Nat.le_of_ble_eq_true rfl, Nat.le_of_ble_eq_true rfl⟩ rfl hl.1 rfl (Nat.le_of_ble_eq_true rfl) dB_part_42 ⟨Nat.le_of_ble_eq_true rfl, Nat.le_of_ble_eq_true rfl⟩ (fun v w1 H locs hq hI => ?_)
        obtain ⟨rfl, ho, hS1⟩ := hq
        have erow : (if v0 = 0 then ((tm_db (σ x) []).drop 1).take (1 + tm_sz pp - 1) else (tm_db (σ x) []).drop (1 + tm_sz pp)) = tm_db (tm_can (if v0 = 0 then pp else qq)) [] := by
          rw [edb, eA]
          split
          · show (tm_db pp [] ++ tm_db qq []).take _ = _
            rw [show 1 + tm_sz pp - 1 = (tm_db pp []).length by rw [tm_db_len]; omega, List.take_left]
          · rw [show 1 + tm_sz pp = tm_sz pp + 1 by omega, List.drop_succ_cons, show tm_sz pp = (tm_db pp []).length by rw [tm_db_len], List.drop_left]
        rw [erow] at hS1
        show W _ _ _ _ _ _ _ _ _ _ _ _ _ _ _ (F0 _ _ _ [.ref _, .ref _])
        have hoG := fp_G_S hm ho
        have h1 := h.ws hoG (pt_G.of h.1 h.2.2.2.1 ho hS1)
        have hRm : pt_R K w1 (f (13 + 2 * mi)) (f (14 + 2 * mi)) 2000 (tm_db (tm_can (if v0 = 0 then pp else qq)) []) := ⟨hS1.2.1, by rw [tm_db_len]; exact okc.2.2.1, Nat.le_refl _, tm_db_b okc.1 okc.2.2.1⟩
        obtain ⟨ct, hRt⟩ := h1.reg ht16
        obtain ⟨_, kT, -⟩ := hRt.out
        refine ct_V (n := 1) hE hI (kT_become hRt.V hRm) kT rfl gm_B46 gi_T_become gs_T_T_become gz_T gc_T_become (by decide +kernel) ⟨Nat.le_of_ble_eq_true rfl, Nat.le_of_ble_eq_true rfl⟩ rfl hl.1 rfl (Nat.le_of_ble_eq_true rfl) dB_part_45 ⟨Nat.le_of_ble_eq_true rfl, Nat.le_of_ble_eq_true rfl⟩ (fun v w2 H locs hq hI => ?_)
        obtain ⟨rfl, ar', cap', har, -, ho2, hR2⟩ := hq
        show W _ _ _ _ _ _ _ _ _ _ _ _ _ _ _ (F0 _ _ _ [.int _])
        refine lv_pop hx hb dB_part_48 rfl ?_
        refine vx_ret (ct_vret hE hI hr hk ⟨by rw [er], rfl, ?_⟩ (by decide) (by decide) dB_part_49)
        rw [er]
        exact bx.set h hoG h1 ht16 har ho2 hR2 okc
      · rw [ci_eq (by omega) (by omega)] at hq
        have er := op_part_n (s := v0) hrt hrx (fun p q e => hq (e2.mpr ⟨p, q, e⟩))
        exact ct_throw hE hl0 hI (cls := "java/lang/IllegalArgumentException") (text := "no (a b)") (names := ["java/lang/RuntimeException", "java/lang/Exception"]) (ic := 66) (by decide +kernel) (by decide +kernel) gk_B62 gz_Jg (by decide +kernel) oa_B62_66 og_B62_66 hl.1 dB_part_23 dB_part_26 dB_part_27 dB_part_29 dB_part_32 hout (Nat.le_of_ble_eq_true rfl) (Nat.le_of_ble_eq_true rfl) (Nat.le_of_ble_eq_true rfl) (Nat.le_of_ble_eq_true rfl) hk ⟨by rw [er]; simp, by rw [er]; rfl, by rw [er]; exact bx.rf h⟩ (Nat.le_of_ble_eq_true rfl) (Nat.le_of_ble_eq_true rfl)
    · obtain ⟨hw, hE1, hrx⟩ := ht
      subst w1
      have er : op_part σ to a v0 = (1, 0, σ) := by unfold op_part; rw [hrt, hrx]
      exact ct_out hI hout hk hq hv hcl ⟨by rw [er]; simp, by rw [er]; exact hE1, by rw [er]; exact bx.rf h⟩ (Nat.le_of_ble_eq_true rfl) (Nat.le_of_ble_eq_true rfl)
  · obtain ⟨hw, hE1, hrt⟩ := ht
    subst w1
    have er : op_part σ to a v0 = (1, 0, σ) := by unfold op_part; rw [hrt]
    exact ct_out hI hout hk hq hv hcl ⟨by rw [er]; simp, by rw [er]; exact hE1, by rw [er]; exact bx.rf h⟩ (Nat.le_of_ble_eq_true rfl) (Nat.le_of_ble_eq_true rfl)
set_option maxRecDepth 100000 in
set_option maxHeartbeats 1000000 in
theorem kB_step (hl0 : l.stackTraces = false) (h : iv_B K w f mi σ bc out) (to a : Int32) : ct_X l n0 D K yB_step (Cond.code yB_step cB_step 6 (some .boolean)) 9 240 4 2018 [.ref (f 0), .int to, .int a] w (po_B K w f bc out (op_step σ to a)) (th_B K w f bc out ex_1 (op_step σ to a)) := by
  have h0 := h.2.1
  obtain ⟨M, hS⟩ := h.S
  refine ct_goX (own := nm_B) (by decide) rfl (Nat.le_of_ble_eq_true rfl) ?_
  intro p e s m below meth c ls hE hI hr hk hout hl
  have hx := hE.1.1.1
  have hb := hE.1.1.2.1
  have hl : lv_has ls 6 [(0, .ref (f 0)), (1, .int to), (2, .int a)] := hl
  refine lv_aload_n hx hb dB_step_0 rfl (lv_at hl 0 rfl) ?_
  refine lv_iload_n hx hb dB_step_1 rfl (lv_at hl 1 rfl) ?_
  refine ct_VX (n := 1) hE hI (kB_register hl0 h to) h0 rfl gm_B32 gi_B_register gs_B_B_register gz_B gc_B_register (by decide +kernel) ⟨Nat.le_of_ble_eq_true rfl, Nat.le_of_ble_eq_true rfl⟩ rfl hl.1 rfl (Nat.le_of_ble_eq_true rfl) dB_step_2 ⟨Nat.le_of_ble_eq_true rfl, Nat.le_of_ble_eq_true rfl⟩ (fun v w1 H locs hq hI => ?_) (fun E q ce w1 H locs ht hI hq hv hcl => ?_)
  · obtain ⟨hw, t, hrt, rfl⟩ := hq
    subst w1
    obtain ⟨ht16, -⟩ := rk_some hrt
    show W _ _ _ _ _ _ _ _ _ _ _ _ _ _ _ (F0 _ _ _ [.ref _])
    refine lv_astore_n hx hb dB_step_5 rfl hl (by decide) rfl (fun ls hl => ?_)
    refine lv_aload_n hx hb dB_step_6 rfl (lv_at hl 1 rfl) ?_
    refine lv_iload_n hx hb dB_step_7 rfl (lv_at hl 3 rfl) ?_
    refine ct_VX (n := 1) hE hI (kB_register hl0 h a) h0 rfl gm_B32 gi_B_register gs_B_B_register gz_B gc_B_register (by decide +kernel) ⟨Nat.le_of_ble_eq_true rfl, Nat.le_of_ble_eq_true rfl⟩ rfl hl.1 rfl (Nat.le_of_ble_eq_true rfl) dB_step_8 ⟨Nat.le_of_ble_eq_true rfl, Nat.le_of_ble_eq_true rfl⟩ (fun v w1 H locs hq hI => ?_) (fun E q ce w1 H locs ht hI hq hv hcl => ?_)
    · obtain ⟨hw, x, hrx, rfl⟩ := hq
      subst w1
      obtain ⟨hx16, -⟩ := rk_some hrx
      show W _ _ _ _ _ _ _ _ _ _ _ _ _ _ _ (F0 _ _ _ [.ref _])
      obtain ⟨cx, hRx⟩ := h.reg hx16
      have hm := h.2.2.2.1.1
      have okx := h.ok hx16
      obtain ⟨g, kT, kA, kf, kc, kc2, kx⟩ := hRx.out
      refine lv_astore hx hb dB_step_11 hl (by decide) rfl (fun ls hl => ?_)
      refine lv_aload hx hb dB_step_13 (lv_at hl 0 rfl) ?_
      refine lv_iconst (v := nI 0) hx hb dB_step_15 (by decide) ?_
      refine ct_V (n := 1) hE hI (kT_firstRedex (a := 0) hRx (by omega) (by rw [tm_db_len]; exact tm_sz_pos _)) kT rfl gm_B78 gi_T_firstRedex gs_T_T_firstRedex gz_T gc_T_firstRedex (by decide +kernel) ⟨Nat.le_of_ble_eq_true rfl, Nat.le_of_ble_eq_true rfl⟩ rfl hl.1 rfl (Nat.le_of_ble_eq_true rfl) dB_step_16 ⟨Nat.le_of_ble_eq_true rfl, Nat.le_of_ble_eq_true rfl⟩ (fun v w1 H locs hq hI => ?_)
      obtain ⟨hw, r, rfl, hrr⟩ := hq
      subst w1
      show W _ _ _ _ _ _ _ _ _ _ _ _ _ _ _ (F0 _ _ _ [.int _])
      refine lv_istore hx hb dB_step_19 hl (by decide) rfl (fun ls hl => ?_)
      refine lv_iload hx hb dB_step_21 (lv_at hl 0 rfl) ?_
      refine lv_iconst (v := (-1)) hx hb dB_step_23 (by decide) ?_
      refine lv_icmp_ne (tgt := 36) hx hb dB_step_24 (by decide) (fun hq => ?_) (fun hq => ?_)
      · rcases hrr with ⟨i, rfl, -, hrx0, hlt⟩ | ⟨e, -⟩
        · have hrx1 : tm_rx (σ x) i := (pt_rx_tm _ i).mp hrx0
          have hf1 : tm_f1 (tm_ks (σ x)) = some i := tm_f1_is hrx1 (fun j hj z => hlt j (by omega) hj ((pt_rx_tm _ j).mpr z))
          obtain ⟨e1, e2, c1, c2, c3, c4, c5, c6⟩ := tm_con okx hrx1
          have hsz : (tm_db (tm_ct (σ x) i) []).length ≤ 2000 → ∀ y ∈ tm_db (tm_ct (σ x) i) [], -2 ≤ y ∧ y ≤ 1000000 := fun hh => tm_db_b c6 (by rw [tm_db_len] at hh; exact hh)
          refine lv_aload_n hx hb dB_step_36 rfl (lv_at hl 2 rfl) ?_
          refine lv_aload_n hx hb dB_step_37 rfl (lv_at hl 3 rfl) ?_
          refine mp_get hE.1 hI h0 rfl gx_B 1 (by decide) (List.mem_cons_of_mem _ gf_B21) rfl dB_step_38 ?_
          refine lv_aload hx hb dB_step_41 (lv_at hl 1 rfl) ?_
          refine lv_iload hx hb dB_step_43 (lv_at hl 0 rfl) ?_
          refine ct_VX (n := 2) hE hI (kS_contract hl0 h.1 hm hS (i := x) (by omega) (by omega) hRx c1 c2 c3 c4 c5 hsz) hS.1 rfl gm_B82 gi_S_contract gs_S_S_contract gz_S gc_S_contract (by decide +kernel) ⟨Nat.le_of_ble_eq_true rfl, Nat.le_of_ble_eq_true rfl⟩ rfl hl.1 rfl (Nat.le_of_ble_eq_true rfl) dB_step_45 ⟨Nat.le_of_ble_eq_true rfl, Nat.le_of_ble_eq_true rfl⟩ (fun v w1 H locs hq hI => ?_) (fun E q ce w1 H locs ht hI hq hv hcl => ?_)
          · obtain ⟨rfl, hnb, ho, hS1⟩ := hq
            rw [tm_bad] at hnb
            show W _ _ _ _ _ _ _ _ _ _ _ _ _ _ _ (F0 _ _ _ [.ref _, .ref _])
            cases hu : tm_chk (tm_ct (σ x) i) with
            | none => exact absurd hu hnb
            | some u =>
              have er : op_step σ to a = (0, 1, su σ t u) := by unfold op_step; simp only [hrt, hrx, hf1, hu]
              obtain ⟨hoG, h1, hRm, hok⟩ := h.made c6 hu ho hS1
              obtain ⟨ct, hRt⟩ := h1.reg ht16
              obtain ⟨_, kT, -⟩ := hRt.out
              refine ct_V (n := 1) hE hI (kT_become hRt.V hRm) kT rfl gm_B46 gi_T_become gs_T_T_become gz_T gc_T_become (by decide +kernel) ⟨Nat.le_of_ble_eq_true rfl, Nat.le_of_ble_eq_true rfl⟩ rfl hl.1 rfl (Nat.le_of_ble_eq_true rfl) dB_step_48 ⟨Nat.le_of_ble_eq_true rfl, Nat.le_of_ble_eq_true rfl⟩ (fun v w2 H locs hq hI => ?_)
              obtain ⟨rfl, ar', cap', har, -, ho2, hR2⟩ := hq
              show W _ _ _ _ _ _ _ _ _ _ _ _ _ _ _ (F0 _ _ _ [.int _])
              refine lv_pop hx hb dB_step_51 rfl ?_
              refine lv_iconst (v := 1) hx hb dB_step_52 (by decide) ?_
              refine vx_ret (ct_zret hE hI hr hk (Or.inr rfl) ⟨by rw [er], by rw [er]; rfl, ?_⟩ (by decide) (by decide) dB_step_53)
              rw [er]
              exact bx.set h hoG h1 ht16 har ho2 hR2 hok
          · obtain ⟨hE1, hbd, ho, M2, hS2⟩ := ht
            rw [tm_bad] at hbd
            have er : op_step σ to a = (2, 0, σ) := by unfold op_step; simp only [hrt, hrx, hf1, hbd]
            exact ct_out hI hout hk hq hv hcl ⟨by rw [er]; simp, by rw [er]; exact hE1, by rw [er]; exact bx.ws h (fp_G_S hm ho) (pt_G.of h.1 h.2.2.2.1 ho hS2)⟩ (by decide) (by decide)
        · exact absurd e hq
      · rcases hrr with ⟨i, rfl, -, hrx0, hlt⟩ | ⟨-, hno⟩
        · have hrx1 : tm_rx (σ x) i := (pt_rx_tm _ i).mp hrx0
          have := tm_rx_lt hrx1
          have := okx.2.2.1
          exact absurd (by rw [hq]; decide) (nI_pos (n := i) (by omega))
        · have hf1 : tm_f1 (tm_ks (σ x)) = none := tm_f1_no (fun j z => hno j (by omega) ((pt_rx_tm _ j).mpr z))
          have er : op_step σ to a = (0, 0, su σ t (σ x)) := by unfold op_step; simp only [hrt, hrx, hf1]
          obtain ⟨ct, hRt⟩ := h.reg ht16
          obtain ⟨_, kTt, -⟩ := hRt.out
          refine lv_aload_n hx hb dB_step_27 rfl (lv_at hl 2 rfl) ?_
          refine lv_aload hx hb dB_step_28 (lv_at hl 1 rfl) ?_
          refine ct_V (n := 1) hE hI (kT_become hRt.V hRx) kTt rfl gm_B46 gi_T_become gs_T_T_become gz_T gc_T_become (by decide +kernel) ⟨Nat.le_of_ble_eq_true rfl, Nat.le_of_ble_eq_true rfl⟩ rfl hl.1 rfl (Nat.le_of_ble_eq_true rfl) dB_step_30 ⟨Nat.le_of_ble_eq_true rfl, Nat.le_of_ble_eq_true rfl⟩ (fun v w2 H locs hq hI => ?_)
          obtain ⟨rfl, ar', cap', har, -, ho2, hR2⟩ := hq
          show W _ _ _ _ _ _ _ _ _ _ _ _ _ _ _ (F0 _ _ _ [.int _])
          refine lv_pop hx hb dB_step_33 rfl ?_
          refine lv_iconst (v := 0) hx hb dB_step_34 (by decide) ?_
          refine vx_ret (ct_zret hE hI hr hk (Or.inl rfl) ⟨by rw [er], by rw [er]; rfl, ?_⟩ (by decide) (by decide) dB_step_35)
          rw [er]
          exact bx.set h (mp_off.rf _ _) h ht16 har ho2 hR2 okx
    · obtain ⟨hw, hE1, hrx⟩ := ht
      subst w1
      have er : op_step σ to a = (1, 0, σ) := by unfold op_step; rw [hrt, hrx]
      exact ct_out hI hout hk hq hv hcl ⟨by rw [er]; simp, by rw [er]; exact hE1, by rw [er]; exact bx.rf h⟩ (Nat.le_of_ble_eq_true rfl) (Nat.le_of_ble_eq_true rfl)
  · obtain ⟨hw, hE1, hrt⟩ := ht
    subst w1
    have er : op_step σ to a = (1, 0, σ) := by unfold op_step; rw [hrt]
    exact ct_out hI hout hk hq hv hcl ⟨by rw [er]; simp, by rw [er]; exact hE1, by rw [er]; exact bx.rf h⟩ (Nat.le_of_ble_eq_true rfl) (Nat.le_of_ble_eq_true rfl)
set_option maxRecDepth 100000 in
set_option maxHeartbeats 1000000 in
theorem kB_head (hl0 : l.stackTraces = false) (h : iv_B K w f mi σ bc out) (to a : Int32) : ct_X l n0 D K yB_head (Cond.code yB_head cB_head 5 (some .int)) 9 270 306 6012 [.ref (f 0), .int to, .int a] w (po_B K w f bc out (op_all true σ to a)) (th_B K w f bc out ex_3 (op_all true σ to a)) := by
  have h0 := h.2.1
  refine ct_goX (own := nm_B) (by decide) rfl (Nat.le_of_ble_eq_true rfl) ?_
  intro p e s m below meth c ls hE hI hr hk hout hl
  have hx := hE.1.1.1
  have hb := hE.1.1.2.1
  have hl : lv_has ls 5 [(0, .ref (f 0)), (1, .int to), (2, .int a)] := hl
  refine lv_aload_n hx hb dB_head_0 rfl (lv_at hl 0 rfl) ?_
  refine lv_iload_n hx hb dB_head_1 rfl (lv_at hl 1 rfl) ?_
  refine ct_VX (n := 1) hE hI (kB_register hl0 h to) h0 rfl gm_B32 gi_B_register gs_B_B_register gz_B gc_B_register (by decide +kernel) ⟨Nat.le_of_ble_eq_true rfl, Nat.le_of_ble_eq_true rfl⟩ rfl hl.1 rfl (Nat.le_of_ble_eq_true rfl) dB_head_2 ⟨Nat.le_of_ble_eq_true rfl, Nat.le_of_ble_eq_true rfl⟩ (fun v w1 H locs hq hI => ?_) (fun E q ce w1 H locs ht hI hq hv hcl => ?_)
  · obtain ⟨hw, t, hrt, rfl⟩ := hq
    subst w1
    obtain ⟨ht16, -⟩ := rk_some hrt
    show W _ _ _ _ _ _ _ _ _ _ _ _ _ _ _ (F0 _ _ _ [.ref _])
    refine lv_astore_n hx hb dB_head_5 rfl hl (by decide) rfl (fun ls hl => ?_)
    refine lv_aload_n hx hb dB_head_6 rfl (lv_at hl 1 rfl) ?_
    refine mp_get hE.1 hI h0 rfl gx_B 1 (by decide) (List.mem_cons_of_mem _ gf_B21) rfl dB_head_7 ?_
    refine lv_aload_n hx hb dB_head_10 rfl (lv_at hl 1 rfl) ?_
    refine lv_iload_n hx hb dB_head_11 rfl (lv_at hl 3 rfl) ?_
    refine ct_VX (n := 1) hE hI (kB_register hl0 h a) h0 rfl gm_B32 gi_B_register gs_B_B_register gz_B gc_B_register (by decide +kernel) ⟨Nat.le_of_ble_eq_true rfl, Nat.le_of_ble_eq_true rfl⟩ rfl hl.1 rfl (Nat.le_of_ble_eq_true rfl) dB_head_12 ⟨Nat.le_of_ble_eq_true rfl, Nat.le_of_ble_eq_true rfl⟩ (fun v w1 H locs hq hI => ?_) (fun E q ce w1 H locs ht hI hq hv hcl => ?_)
    · obtain ⟨hw, x, hrx, rfl⟩ := hq
      subst w1
      obtain ⟨hx16, -⟩ := rk_some hrx
      show W _ _ _ _ _ _ _ _ _ _ _ _ _ _ _ (F0 _ _ _ [.ref _, .ref _])
      obtain ⟨cx, hRx⟩ := h.reg hx16
      obtain ⟨M, hS⟩ := h.S
      refine lv_iconst (v := 1) hx hb dB_head_15 (by decide) ?_
      refine ct_VX (n := 2) hE hI (kS_reduce hl0 (hd := true) (t := σ x) h.1 h.2.2.2.1 hx16 hRx (h.ok hx16) (by decide)) hS.1 rfl gm_B85 gi_S_reduce gs_S_S_reduce gz_S gc_S_reduce (by decide +kernel) ⟨Nat.le_of_ble_eq_true rfl, Nat.le_of_ble_eq_true rfl⟩ rfl hl.1 rfl (Nat.le_of_ble_eq_true rfl) dB_head_16 ⟨Nat.le_of_ble_eq_true rfl, Nat.le_of_ble_eq_true rfl⟩ (fun v w1 H locs hq hI => ?_) (fun E q ce w1 H locs ht hI hq hv hcl => ?_)
      · obtain ⟨n, u, mi', hrd, rfl, ho, hG1, hRm, hok⟩ := hq
        have er : op_all true σ to a = (0, n, su σ t u) := by unfold op_all; simp only [hrt, hrx, hrd]
        have h1 := h.ws ho hG1
        have h10 := h1.2.1
        obtain ⟨M1, hS1⟩ := h1.S
        obtain ⟨ct, hRt⟩ := h1.reg ht16
        obtain ⟨_, kT, -⟩ := hRt.out
        show W _ _ _ _ _ _ _ _ _ _ _ _ _ _ _ (F0 _ _ _ [.int _])
        refine lv_istore hx hb dB_head_19 hl (by decide) rfl (fun ls hl => ?_)
        refine lv_aload_n hx hb dB_head_21 rfl (lv_at hl 1 rfl) ?_
        refine lv_aload_n hx hb dB_head_22 rfl (lv_at hl 2 rfl) ?_
        refine mp_get hE.1 hI h10 rfl gx_B 1 (by decide) (List.mem_cons_of_mem _ gf_B21) rfl dB_head_23 ?_
        refine ct_V (n := 0) hE hI (kS_reduced hS1.1) hS1.1 rfl gm_B89 gi_S_reduced gs_S_S_reduced gz_S gc_S_reduced (by decide +kernel) ⟨Nat.le_of_ble_eq_true rfl, Nat.le_of_ble_eq_true rfl⟩ rfl hl.1 rfl (Nat.le_of_ble_eq_true rfl) dB_head_26 ⟨Nat.le_of_ble_eq_true rfl, Nat.le_of_ble_eq_true rfl⟩ (fun v w2 H locs hq hI => ?_)
        obtain ⟨hw, rfl⟩ := hq
        subst w2
        show W _ _ _ _ _ _ _ _ _ _ _ _ _ _ _ (F0 _ _ _ [.ref _, .ref _])
        refine ct_V (n := 1) hE hI (kT_become hRt.V hRm) kT rfl gm_B46 gi_T_become gs_T_T_become gz_T gc_T_become (by decide +kernel) ⟨Nat.le_of_ble_eq_true rfl, Nat.le_of_ble_eq_true rfl⟩ rfl hl.1 rfl (Nat.le_of_ble_eq_true rfl) dB_head_29 ⟨Nat.le_of_ble_eq_true rfl, Nat.le_of_ble_eq_true rfl⟩ (fun v w2 H locs hq hI => ?_)
        obtain ⟨rfl, ar', cap', har, -, ho2, hR2⟩ := hq
        show W _ _ _ _ _ _ _ _ _ _ _ _ _ _ _ (F0 _ _ _ [.int _])
        refine lv_pop hx hb dB_head_32 rfl ?_
        refine lv_iload hx hb dB_head_33 (lv_at hl 0 rfl) ?_
        refine vx_ret (ct_iret hE hI hr hk ⟨by rw [er], by rw [er], ?_⟩ (by decide) (by decide) dB_head_35)
        rw [er]
        exact bx.set h ho h1 ht16 har ho2 hR2 hok
      · obtain ⟨mi', hE1, ho, hG1⟩ := ht
        rcases hE1 with ⟨rfl, hrd⟩ | ⟨rfl, hrd⟩
        · have er : op_all true σ to a = (2, 0, σ) := by unfold op_all; simp only [hrt, hrx, hrd]
          exact ct_out hI hout hk hq hv hcl ⟨by rw [er]; simp, by rw [er]; rfl, by rw [er]; exact bx.ws h ho hG1⟩ (by decide) (by decide)
        · have er : op_all true σ to a = (3, 0, σ) := by unfold op_all; simp only [hrt, hrx, hrd]
          exact ct_out hI hout hk hq hv hcl ⟨by rw [er]; simp, by rw [er]; rfl, by rw [er]; exact bx.ws h ho hG1⟩ (by decide) (by decide)
    · obtain ⟨hw, hE1, hrx⟩ := ht
      subst w1
      have er : op_all true σ to a = (1, 0, σ) := by unfold op_all; rw [hrt, hrx]
      exact ct_out hI hout hk hq hv hcl ⟨by rw [er]; simp, by rw [er]; exact hE1, by rw [er]; exact bx.rf h⟩ (Nat.le_of_ble_eq_true rfl) (Nat.le_of_ble_eq_true rfl)
  · obtain ⟨hw, hE1, hrt⟩ := ht
    subst w1
    have er : op_all true σ to a = (1, 0, σ) := by unfold op_all; rw [hrt]
    exact ct_out hI hout hk hq hv hcl ⟨by rw [er]; simp, by rw [er]; exact hE1, by rw [er]; exact bx.rf h⟩ (Nat.le_of_ble_eq_true rfl) (Nat.le_of_ble_eq_true rfl)
set_option maxRecDepth 100000 in
set_option maxHeartbeats 1000000 in
theorem kB_normal (hl0 : l.stackTraces = false) (h : iv_B K w f mi σ bc out) (to a : Int32) : ct_X l n0 D K yB_normal (Cond.code yB_normal cB_normal 5 (some .int)) 9 270 306 6012 [.ref (f 0), .int to, .int a] w (po_B K w f bc out (op_all false σ to a)) (th_B K w f bc out ex_3 (op_all false σ to a)) := by
  have h0 := h.2.1
  refine ct_goX (own := nm_B) (by decide) rfl (Nat.le_of_ble_eq_true rfl) ?_
  intro p e s m below meth c ls hE hI hr hk hout hl
  have hx := hE.1.1.1
  have hb := hE.1.1.2.1
  have hl : lv_has ls 5 [(0, .ref (f 0)), (1, .int to), (2, .int a)] := hl
  refine lv_aload_n hx hb dB_normal_0 rfl (lv_at hl 0 rfl) ?_
  refine lv_iload_n hx hb dB_normal_1 rfl (lv_at hl 1 rfl) ?_
  refine ct_VX (n := 1) hE hI (kB_register hl0 h to) h0 rfl gm_B32 gi_B_register gs_B_B_register gz_B gc_B_register (by decide +kernel) ⟨Nat.le_of_ble_eq_true rfl, Nat.le_of_ble_eq_true rfl⟩ rfl hl.1 rfl (Nat.le_of_ble_eq_true rfl) dB_normal_2 ⟨Nat.le_of_ble_eq_true rfl, Nat.le_of_ble_eq_true rfl⟩ (fun v w1 H locs hq hI => ?_) (fun E q ce w1 H locs ht hI hq hv hcl => ?_)
  · obtain ⟨hw, t, hrt, rfl⟩ := hq
    subst w1
    obtain ⟨ht16, -⟩ := rk_some hrt
    show W _ _ _ _ _ _ _ _ _ _ _ _ _ _ _ (F0 _ _ _ [.ref _])
    refine lv_astore_n hx hb dB_normal_5 rfl hl (by decide) rfl (fun ls hl => ?_)
    refine lv_aload_n hx hb dB_normal_6 rfl (lv_at hl 1 rfl) ?_
    refine mp_get hE.1 hI h0 rfl gx_B 1 (by decide) (List.mem_cons_of_mem _ gf_B21) rfl dB_normal_7 ?_
    refine lv_aload_n hx hb dB_normal_10 rfl (lv_at hl 1 rfl) ?_
    refine lv_iload_n hx hb dB_normal_11 rfl (lv_at hl 3 rfl) ?_
    refine ct_VX (n := 1) hE hI (kB_register hl0 h a) h0 rfl gm_B32 gi_B_register gs_B_B_register gz_B gc_B_register (by decide +kernel) ⟨Nat.le_of_ble_eq_true rfl, Nat.le_of_ble_eq_true rfl⟩ rfl hl.1 rfl (Nat.le_of_ble_eq_true rfl) dB_normal_12 ⟨Nat.le_of_ble_eq_true rfl, Nat.le_of_ble_eq_true rfl⟩ (fun v w1 H locs hq hI => ?_) (fun E q ce w1 H locs ht hI hq hv hcl => ?_)
    · obtain ⟨hw, x, hrx, rfl⟩ := hq
      subst w1
      obtain ⟨hx16, -⟩ := rk_some hrx
      show W _ _ _ _ _ _ _ _ _ _ _ _ _ _ _ (F0 _ _ _ [.ref _, .ref _])
      obtain ⟨cx, hRx⟩ := h.reg hx16
      obtain ⟨M, hS⟩ := h.S
      refine lv_iconst (v := 0) hx hb dB_normal_15 (by decide) ?_
      refine ct_VX (n := 2) hE hI (kS_reduce hl0 (hd := false) (t := σ x) h.1 h.2.2.2.1 hx16 hRx (h.ok hx16) (by decide)) hS.1 rfl gm_B85 gi_S_reduce gs_S_S_reduce gz_S gc_S_reduce (by decide +kernel) ⟨Nat.le_of_ble_eq_true rfl, Nat.le_of_ble_eq_true rfl⟩ rfl hl.1 rfl (Nat.le_of_ble_eq_true rfl) dB_normal_16 ⟨Nat.le_of_ble_eq_true rfl, Nat.le_of_ble_eq_true rfl⟩ (fun v w1 H locs hq hI => ?_) (fun E q ce w1 H locs ht hI hq hv hcl => ?_)
      · obtain ⟨n, u, mi', hrd, rfl, ho, hG1, hRm, hok⟩ := hq
        have er : op_all false σ to a = (0, n, su σ t u) := by unfold op_all; simp only [hrt, hrx, hrd]
        have h1 := h.ws ho hG1
        have h10 := h1.2.1
        obtain ⟨M1, hS1⟩ := h1.S
        obtain ⟨ct, hRt⟩ := h1.reg ht16
        obtain ⟨_, kT, -⟩ := hRt.out
        show W _ _ _ _ _ _ _ _ _ _ _ _ _ _ _ (F0 _ _ _ [.int _])
        refine lv_istore hx hb dB_normal_19 hl (by decide) rfl (fun ls hl => ?_)
        refine lv_aload_n hx hb dB_normal_21 rfl (lv_at hl 1 rfl) ?_
        refine lv_aload_n hx hb dB_normal_22 rfl (lv_at hl 2 rfl) ?_
        refine mp_get hE.1 hI h10 rfl gx_B 1 (by decide) (List.mem_cons_of_mem _ gf_B21) rfl dB_normal_23 ?_
        refine ct_V (n := 0) hE hI (kS_reduced hS1.1) hS1.1 rfl gm_B89 gi_S_reduced gs_S_S_reduced gz_S gc_S_reduced (by decide +kernel) ⟨Nat.le_of_ble_eq_true rfl, Nat.le_of_ble_eq_true rfl⟩ rfl hl.1 rfl (Nat.le_of_ble_eq_true rfl) dB_normal_26 ⟨Nat.le_of_ble_eq_true rfl, Nat.le_of_ble_eq_true rfl⟩ (fun v w2 H locs hq hI => ?_)
        obtain ⟨hw, rfl⟩ := hq
        subst w2
        show W _ _ _ _ _ _ _ _ _ _ _ _ _ _ _ (F0 _ _ _ [.ref _, .ref _])
        refine ct_V (n := 1) hE hI (kT_become hRt.V hRm) kT rfl gm_B46 gi_T_become gs_T_T_become gz_T gc_T_become (by decide +kernel) ⟨Nat.le_of_ble_eq_true rfl, Nat.le_of_ble_eq_true rfl⟩ rfl hl.1 rfl (Nat.le_of_ble_eq_true rfl) dB_normal_29 ⟨Nat.le_of_ble_eq_true rfl, Nat.le_of_ble_eq_true rfl⟩ (fun v w2 H locs hq hI => ?_)
        obtain ⟨rfl, ar', cap', har, -, ho2, hR2⟩ := hq
        show W _ _ _ _ _ _ _ _ _ _ _ _ _ _ _ (F0 _ _ _ [.int _])
        refine lv_pop hx hb dB_normal_32 rfl ?_
        refine lv_iload hx hb dB_normal_33 (lv_at hl 0 rfl) ?_
        refine vx_ret (ct_iret hE hI hr hk ⟨by rw [er], by rw [er], ?_⟩ (by decide) (by decide) dB_normal_35)
        rw [er]
        exact bx.set h ho h1 ht16 har ho2 hR2 hok
      · obtain ⟨mi', hE1, ho, hG1⟩ := ht
        rcases hE1 with ⟨rfl, hrd⟩ | ⟨rfl, hrd⟩
        · have er : op_all false σ to a = (2, 0, σ) := by unfold op_all; simp only [hrt, hrx, hrd]
          exact ct_out hI hout hk hq hv hcl ⟨by rw [er]; simp, by rw [er]; rfl, by rw [er]; exact bx.ws h ho hG1⟩ (by decide) (by decide)
        · have er : op_all false σ to a = (3, 0, σ) := by unfold op_all; simp only [hrt, hrx, hrd]
          exact ct_out hI hout hk hq hv hcl ⟨by rw [er]; simp, by rw [er]; rfl, by rw [er]; exact bx.ws h ho hG1⟩ (by decide) (by decide)
    · obtain ⟨hw, hE1, hrx⟩ := ht
      subst w1
      have er : op_all false σ to a = (1, 0, σ) := by unfold op_all; rw [hrt, hrx]
      exact ct_out hI hout hk hq hv hcl ⟨by rw [er]; simp, by rw [er]; exact hE1, by rw [er]; exact bx.rf h⟩ (Nat.le_of_ble_eq_true rfl) (Nat.le_of_ble_eq_true rfl)
  · obtain ⟨hw, hE1, hrt⟩ := ht
    subst w1
    have er : op_all false σ to a = (1, 0, σ) := by unfold op_all; rw [hrt]
    exact ct_out hI hout hk hq hv hcl ⟨by rw [er]; simp, by rw [er]; exact hE1, by rw [er]; exact bx.rf h⟩ (Nat.le_of_ble_eq_true rfl) (Nat.le_of_ble_eq_true rfl)
set_option maxRecDepth 100000 in
theorem kB_same (hl0 : l.stackTraces = false) (h : iv_B K w f mi σ bc out) (a b : Int32) : ct_X l n0 D K yB_same (Cond.code yB_same cB_same 3 (some .boolean)) 7 120 2 12 [.ref (f 0), .int a, .int b] w (po_B K w f bc out (op_same σ a b)) (th_B K w f bc out ex_1 (op_same σ a b)) := by
  have h0 := h.2.1
  refine ct_goX (own := nm_B) (by decide) rfl (Nat.le_of_ble_eq_true rfl) ?_
  intro p e s m below meth c ls hE hI hr hk hout hl
  have hx := hE.1.1.1
  have hb := hE.1.1.2.1
  have hl : lv_has ls 3 [(0, .ref (f 0)), (1, .int a), (2, .int b)] := hl
  refine lv_aload_n hx hb dB_same_0 rfl (lv_at hl 0 rfl) ?_
  refine lv_iload_n hx hb dB_same_1 rfl (lv_at hl 1 rfl) ?_
  refine ct_VX (n := 1) hE hI (kB_register hl0 h a) h0 rfl gm_B32 gi_B_register gs_B_B_register gz_B gc_B_register (by decide +kernel) ⟨Nat.le_of_ble_eq_true rfl, Nat.le_of_ble_eq_true rfl⟩ rfl hl.1 rfl (Nat.le_of_ble_eq_true rfl) dB_same_2 ⟨Nat.le_of_ble_eq_true rfl, Nat.le_of_ble_eq_true rfl⟩ (fun v w1 H locs hq hI => ?_) (fun E q ce w1 H locs ht hI hq hv hcl => ?_)
  · obtain ⟨hw, x, hrx, rfl⟩ := hq
    subst w1
    obtain ⟨hx16, -⟩ := rk_some hrx
    show W _ _ _ _ _ _ _ _ _ _ _ _ _ _ _ (F0 _ _ _ [.ref _])
    refine lv_aload_n hx hb dB_same_5 rfl (lv_at hl 0 rfl) ?_
    refine lv_iload_n hx hb dB_same_6 rfl (lv_at hl 2 rfl) ?_
    refine ct_VX (n := 1) hE hI (kB_register hl0 h b) h0 rfl gm_B32 gi_B_register gs_B_B_register gz_B gc_B_register (by decide +kernel) ⟨Nat.le_of_ble_eq_true rfl, Nat.le_of_ble_eq_true rfl⟩ rfl hl.1 rfl (Nat.le_of_ble_eq_true rfl) dB_same_7 ⟨Nat.le_of_ble_eq_true rfl, Nat.le_of_ble_eq_true rfl⟩ (fun v w1 H locs hq hI => ?_) (fun E q ce w1 H locs ht hI hq hv hcl => ?_)
    · obtain ⟨hw, y, hry, rfl⟩ := hq
      subst w1
      obtain ⟨hy16, -⟩ := rk_some hry
      show W _ _ _ _ _ _ _ _ _ _ _ _ _ _ _ (F0 _ _ _ [.ref _, .ref _])
      obtain ⟨cx, hRx⟩ := h.reg hx16
      obtain ⟨cy, hRy⟩ := h.reg hy16
      obtain ⟨_, kT, -⟩ := hRx.out
      have er : op_same σ a b = (0, if tm_db (σ x) [] = tm_db (σ y) [] then 1 else 0, σ) := by unfold op_same; rw [hrx, hry]
      refine ct_V (n := 1) hE hI (kT_equalTo hRx hRy) kT rfl gm_B93 gi_T_equalTo gs_T_T_equalTo gz_T gc_T_equalTo (by decide +kernel) ⟨Nat.le_of_ble_eq_true rfl, Nat.le_of_ble_eq_true rfl⟩ rfl hl.1 rfl (Nat.le_of_ble_eq_true rfl) dB_same_10 ⟨Nat.le_of_ble_eq_true rfl, Nat.le_of_ble_eq_true rfl⟩ (fun v w1 H locs hq hI => ?_)
      obtain ⟨hw, rfl⟩ := hq
      subst w1
      show W _ _ _ _ _ _ _ _ _ _ _ _ _ _ _ (F0 _ _ _ [.int _])
      refine vx_ret (ct_zret hE hI hr hk (by split; exact Or.inr rfl; exact Or.inl rfl) ⟨by rw [er], ?_, by rw [er]; exact bx.rf h⟩ (by decide) (by decide) dB_same_13)
      rw [er]
      show some (Value.int _) = some (Value.int (nI (if tm_db (σ x) [] = tm_db (σ y) [] then 1 else 0)))
      split <;> rfl
    · obtain ⟨hw, hE1, hry⟩ := ht
      subst w1
      have er : op_same σ a b = (1, 0, σ) := by unfold op_same; rw [hrx, hry]
      exact ct_out hI hout hk hq hv hcl ⟨by rw [er]; simp, by rw [er]; exact hE1, by rw [er]; exact bx.rf h⟩ (Nat.le_of_ble_eq_true rfl) (Nat.le_of_ble_eq_true rfl)
  · obtain ⟨hw, hE1, hrx⟩ := ht
    subst w1
    have er : op_same σ a b = (1, 0, σ) := by unfold op_same; rw [hrx]
    exact ct_out hI hout hk hq hv hcl ⟨by rw [er]; simp, by rw [er]; exact hE1, by rw [er]; exact bx.rf h⟩ (Nat.le_of_ble_eq_true rfl) (Nat.le_of_ble_eq_true rfl)
end KB4
