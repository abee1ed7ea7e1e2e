/-! the face: about, has, write, out -/
def tm_kind : Std.Format → Nat
  | .append _ _ => 1
  | .tag _ _ => 2
  | _ => 0
def ab_v (t : Std.Format) : Nat → Nat
  | 0 => tm_sz t
  | 1 => tm_dp t
  | 2 => tm_kind t
  | 3 => nc_n (fun i => decide ((i : Int) ∈ tm_db t [])) 100
  | _ => nc_n (pt_rxb (tm_db t [])) (tm_sz t - 1)
def op_about (σ : Nat → Std.Format) (a what : Int32) : oR := match rk a with
  | some x => if 0 ≤ what.toInt ∧ what.toInt ≤ 4 then (0, ab_v (σ x) what.toInt.toNat, σ) else (2, 0, σ)
  | none => (1, 0, σ)
def op_has (σ : Nat → Std.Format) (a n : Int32) : oR := match rk a, fk n with
  | some x, some k => (0, nc_n (fun i => decide ((tm_db (σ x) [])[i]? = some (k : Int))) (tm_sz (σ x)), σ)
  | _, _ => (1, 0, σ)
/-- OUT, and what writing costs -/
def wr_o (σ : Nat → Std.Format) (out : List Int) (a : Int32) : List Int := match rk a with
  | some x => tm_tx (σ x) []
  | none => out
def wr_b (σ : Nat → Std.Format) (bc : Nat) (a : Int32) : Nat := match rk a with
  | some x => tx_b bc 0 (tx_ad (tm_db (σ x) []) ([], 0))
  | none => bc
def wr_c (σ : Nat → Std.Format) (bc : Nat) (a : Int32) : Nat := match rk a with
  | some x => 1 + tx_c bc 0 (tx_ad (tm_db (σ x) []) ([], 0))
  | none => 1
def wr_s (σ : Nat → Std.Format) (bc : Nat) (a : Int32) : Nat := match rk a with
  | some x => 6 + tx_s bc 0 (tx_ad (tm_db (σ x) []) ([], 0))
  | none => 6
theorem tx_top {t : Std.Format} (hok : tm_ok t) {bc : Nat} (h1 : bc ≤ 1000000) : tx_b bc 0 (tx_ad (tm_db t []) ([], 0)) ≤ 1000000 ∧ bc ≤ tx_b bc 0 (tx_ad (tm_db t []) ([], 0)) := by
  obtain ⟨hs, -, hz, hd⟩ := hok
  have hsum : (tx_ad (tm_db t []) ([], 0)).sum ≤ 300000 := by
    rw [← tx_ad_sum _ _ (fun x hx => (tm_db_b hs hz x hx).1), tm_sh_tx hd hs]
    have := tm_tx_len t [] (by show 0 + _ ≤ 150; omega) hs
    have : tm_sz t * 150 ≤ 2000 * 150 := Nat.mul_le_mul_right _ hz
    omega
  have := tx_b_le (T := 300000) (tx_ad (tm_db t []) ([], 0)) bc 0 (Nat.zero_le _) (by omega)
  omega
theorem wr_le {K : Nat → ClassId} {w : mp_W} {f : Nat → Nat} {mi bc : Nat} {σ : Nat → Std.Format} {out : List Int} (h : iv_B K w f mi σ bc out) (a : Int32) : wr_c σ bc a + bc ≤ 1 + wr_b σ bc a ∧ wr_s σ bc a + 2 * bc ≤ 6 + 2 * wr_b σ bc a ∧ wr_b σ bc a ≤ 1000000 := by
  unfold wr_c wr_s wr_b
  cases hr : rk a with
  | none => exact ⟨Nat.le_refl _, Nat.le_refl _, h.2.2.2.2.2.2.2.2⟩
  | some x =>
    obtain ⟨h16, -⟩ := rk_some hr
    have h1 := tx_pay (tx_ad (tm_db (σ x) []) ([], 0)) bc 0 h.2.2.2.2.2.2.2.1
    have h2 := tx_top (h.ok h16) h.2.2.2.2.2.2.2.2
    simp only []
    omega
theorem pt_R.kp {K : Nat → ClassId} {w w' : mp_W} {t ar cap : Nat} {L : List Int} {S : List Nat} (h : pt_R K w t ar cap L) (ho : ke S w w') (h1 : t ∉ S) (h2 : ar ∉ S) : pt_R K w' t ar cap L := ⟨h.1.kp ho h1 h2, h.2⟩
theorem pt_V.kp {K : Nat → ClassId} {w w' : mp_W} {t ar cap : Nat} {S : List Nat} (h : pt_V K w t ar cap) (ho : ke S w w') (h1 : t ∉ S) (h2 : ar ∉ S) : pt_V K w' t ar cap := by
  obtain ⟨n, g, a1, a2, a3⟩ := h
  exact ⟨n, g, ho _ _ a1 h1, ho _ _ a2 h2, a3⟩
/-- OUT was written -/
theorem bx.wr {K : Nat → ClassId} {w w' : mp_W} {f : Nat → Nat} {mi : Nat} {σ : Nat → Std.Format} {bc ba bc' : Nat} {out out' : List Int} {u : List Nat × Nat} (h : iv_B K w f mi σ bc out) (hba : ba = f 4 ∨ w ba = none) (ho : kd [f 3, f 4, f 11, f 12] w w') (hY : pt_Y K w' (f 3) ba (f 11) bc' out') (hW : pt_W K w' (f 11) (f 12) 1 0 u) (hb1 : 64 ≤ bc') (hb2 : bc' ≤ 1000000) : bx K w f w' σ bc' out' := by
  have hd := h.dom
  obtain ⟨hf, h0, ⟨g, h1, h1'⟩, ⟨hm, ⟨M, hS, hT, ⟨u1, W1⟩, ⟨u2, W2⟩, u3, W3⟩, hV⟩, hr, -, -, -⟩ := h
  have hn : ∀ j, j < 49 → j ≠ 3 → j ≠ 4 → j ≠ 11 → j ≠ 12 → f j ∉ [f 3, f 4, f 11, f 12] := fun j hj a1 a2 a3 a4 => hf.nin hj [3, 4, 11, 12] (by intro b hb; simp at hb; omega)
  have ek : ∀ j, j ≠ 4 → fu f 4 ba j = f j := fun j h => fu_ne h
  have ho := ho.1
  refine ⟨fu f 4 ba, mi, ⟨ph_fu (w := w) hf hd hba, ?_, ⟨g, ?_, fun i hi => ?_⟩, ⟨hm, ⟨M, ?_, ?_, ⟨u1, ?_⟩, ⟨u2, ?_⟩, u3, ?_⟩, ?_⟩, fun i hi => ?_, ?_, ⟨u, ?_⟩, hb1, hb2⟩, fu_ne (by omega), fun j hj => ?_, fun q x hq hnn => ?_⟩
  · rw [ek 0 (by omega), ek 1 (by omega), ek 2 (by omega), ek 3 (by omega)]; exact ho _ _ h0 (hn 0 (by omega) (by omega) (by omega) (by omega) (by omega))
  · rw [ek 1 (by omega)]; exact ho _ _ h1 (hn 1 (by omega) (by omega) (by omega) (by omega) (by omega))
  · rw [ek _ (by omega)]; exact h1' i hi
  · show w' (fu f 4 ba 2) = some (.inr (3, [.ref (fu f 4 ba (13 + 2 * mi)), .ref (fu f 4 ba (13 + 2 * (33 - mi))), .ref (fu f 4 ba 5), .ref (fu f 4 ba 7), .ref (fu f 4 ba 9)]))
    rw [ek 2 (by omega), ek _ (by omega), ek _ (by omega), ek 5 (by omega), ek 7 (by omega), ek 9 (by omega)]; exact ho _ _ hS (hn 2 (by omega) (by omega) (by omega) (by omega) (by omega))
  · rw [ek _ (by omega), ek _ (by omega)]; exact hT.kp ho (hn _ (by omega) (by omega) (by omega) (by omega) (by omega)) (hn _ (by omega) (by omega) (by omega) (by omega) (by omega))
  · rw [ek 5 (by omega), ek 6 (by omega)]; exact W1.kp ho (hn _ (by omega) (by omega) (by omega) (by omega) (by omega)) (hn _ (by omega) (by omega) (by omega) (by omega) (by omega))
  · rw [ek 7 (by omega), ek 8 (by omega)]; exact W2.kp ho (hn _ (by omega) (by omega) (by omega) (by omega) (by omega)) (hn _ (by omega) (by omega) (by omega) (by omega) (by omega))
  · rw [ek 9 (by omega), ek 10 (by omega)]; exact W3.kp ho (hn _ (by omega) (by omega) (by omega) (by omega) (by omega)) (hn _ (by omega) (by omega) (by omega) (by omega) (by omega))
  · rw [ek _ (by omega), ek _ (by omega)]; exact hV.kp ho (hn _ (by omega) (by omega) (by omega) (by omega) (by omega)) (hn _ (by omega) (by omega) (by omega) (by omega) (by omega))
  · rw [ek _ (by omega), ek _ (by omega)]
    obtain ⟨⟨cap2, hR2⟩, hk⟩ := hr i hi
    exact ⟨⟨cap2, hR2.kp ho (hn _ (by omega) (by omega) (by omega) (by omega) (by omega)) (hn _ (by omega) (by omega) (by omega) (by omega) (by omega))⟩, hk⟩
  · rw [ek 3 (by omega), fu_self, ek 11 (by omega)]; exact hY
  · rw [ek 11 (by omega), ek 12 (by omega)]; exact hW
  · by_cases e : j = 4
    · subst e
      rw [fu_self]
      exact hba
    · exact Or.inl (fu_ne e)
  · exact ho q x hq (by simp; exact ⟨hnn 3 (by omega), hnn 4 (by omega), hnn 11 (by omega), hnn 12 (by omega)⟩)
section KB5
variable {l : Launch} {n0 : Nat} {D : va_G} {K : Nat → ClassId} {w : mp_W} {f : Nat → Nat} {mi bc : Nat} {σ : Nat → Std.Format} {out : List Int}
set_option maxRecDepth 100000 in
theorem kB_has (hl0 : l.stackTraces = false) (h : iv_B K w f mi σ bc out) (a n : Int32) : ct_X l n0 D K yB_has (Cond.code yB_has cB_has 4 (some .int)) 7 120 2 12 [.ref (f 0), .int a, .int n] w (po_B K w f bc out (op_has σ a n)) (th_B K w f bc out ex_1 (op_has σ a n)) := by
  have h0 := h.2.1
  refine ct_goX (own := nm_B) (by decide) rfl (Nat.le_of_ble_eq_true rfl) ?_
  intro p e s m below meth c ls hE hI hr hk hout hl
  have hx := hE.1.1.1
  have hb := hE.1.1.2.1
  have hl : lv_has ls 4 [(0, .ref (f 0)), (1, .int a), (2, .int n)] := hl
  refine lv_aload_n hx hb dB_has_0 rfl (lv_at hl 0 rfl) ?_
  refine lv_iload_n hx hb dB_has_1 rfl (lv_at hl 1 rfl) ?_
  refine ct_VX (n := 1) hE hI (kB_register hl0 h a) h0 rfl gm_B32 gi_B_register gs_B_B_register gz_B gc_B_register (by decide +kernel) ⟨Nat.le_of_ble_eq_true rfl, Nat.le_of_ble_eq_true rfl⟩ rfl hl.1 rfl (Nat.le_of_ble_eq_true rfl) dB_has_2 ⟨Nat.le_of_ble_eq_true rfl, Nat.le_of_ble_eq_true rfl⟩ (fun v w1 H locs hq hI => ?_) (fun E q ce w1 H locs ht hI hq hv hcl => ?_)
  · obtain ⟨hw, x, hrx, rfl⟩ := hq
    subst w1
    obtain ⟨hx16, -⟩ := rk_some hrx
    show W _ _ _ _ _ _ _ _ _ _ _ _ _ _ _ (F0 _ _ _ [.ref _])
    obtain ⟨cx, hRx⟩ := h.reg hx16
    obtain ⟨_, kT, -⟩ := hRx.out
    refine lv_astore_n hx hb dB_has_5 rfl hl (by decide) rfl (fun ls hl => ?_)
    refine lv_iload_n hx hb dB_has_6 rfl (lv_at hl 3 rfl) ?_
    refine ct_StX (n := 1) hE hI (kB_checkFree hl0 n) gm_B36 gt_B_checkFree gz_B gc_B_checkFree (by decide +kernel) ⟨Nat.le_of_ble_eq_true rfl, Nat.le_of_ble_eq_true rfl⟩ rfl hl.1 rfl (Nat.le_of_ble_eq_true rfl) dB_has_7 ⟨Nat.le_of_ble_eq_true rfl, Nat.le_of_ble_eq_true rfl⟩ (fun v w1 H locs hq hI => ?_) (fun E q ce w1 H locs ht hI hq hv hcl => ?_)
    · obtain ⟨hw, rfl, k, hfk⟩ := hq
      subst w1
      obtain ⟨hk100, hnk⟩ := fk_some hfk
      have hn' : n = ci_i (k : Int) := by rw [hnk, ci_nat]
      have er : op_has σ a n = (0, nc_n (fun i => decide ((tm_db (σ x) [])[i]? = some (k : Int))) (tm_sz (σ x)), σ) := by unfold op_has; rw [hrx, hfk]
      rw [hn'] at hl
      show W _ _ _ _ _ _ _ _ _ _ _ _ _ _ _ (F0 _ _ _ [])
      refine lv_aload_n hx hb dB_has_10 rfl (lv_at hl 0 rfl) ?_
      refine lv_iload_n hx hb dB_has_11 rfl (lv_at hl 3 rfl) ?_
      refine ct_V (n := 1) hE hI (kT_places (z := (k : Int)) hRx (by omega)) kT rfl gm_B115 gi_T_places gs_T_T_places gz_T gc_T_places (by decide +kernel) ⟨Nat.le_of_ble_eq_true rfl, Nat.le_of_ble_eq_true rfl⟩ rfl hl.1 rfl (Nat.le_of_ble_eq_true rfl) dB_has_12 ⟨Nat.le_of_ble_eq_true rfl, Nat.le_of_ble_eq_true rfl⟩ (fun v w1 H locs hq hI => ?_)
      obtain ⟨hw, rfl⟩ := hq
      subst w1
      show W _ _ _ _ _ _ _ _ _ _ _ _ _ _ _ (F0 _ _ _ [.int _])
      exact vx_ret (ct_iret hE hI hr hk ⟨by rw [er], by rw [er, tm_db_len], by rw [er]; exact bx.rf h⟩ (by decide) (by decide) dB_has_15)
    · obtain ⟨hw, hE1, hfk⟩ := ht
      subst w1
      have er : op_has σ a n = (1, 0, σ) := by unfold op_has; rw [hrx, hfk]
      exact ct_out hI hout hk hq hv hcl ⟨by rw [er]; simp, by rw [er]; exact hE1, by rw [er]; exact bx.rf h⟩ (Nat.le_of_ble_eq_true rfl) (Nat.le_of_ble_eq_true rfl)
  · obtain ⟨hw, hE1, hrx⟩ := ht
    subst w1
    have er : op_has σ a n = (1, 0, σ) := by unfold op_has; rw [hrx]
    exact ct_out hI hout hk hq hv hcl ⟨by rw [er]; simp, by rw [er]; exact hE1, by rw [er]; exact bx.rf h⟩ (Nat.le_of_ble_eq_true rfl) (Nat.le_of_ble_eq_true rfl)
set_option maxRecDepth 100000 in
set_option maxHeartbeats 1000000 in
theorem kB_about (hl0 : l.stackTraces = false) (h : iv_B K w f mi σ bc out) (a what : Int32) : ct_X l n0 D K yB_about (Cond.code yB_about cB_about 4 (some .int)) 7 120 2 12 [.ref (f 0), .int a, .int what] w (po_B K w f bc out (op_about σ a what)) (th_B K w f bc out ex_2 (op_about σ a what)) := by
  have h0 := h.2.1
  obtain ⟨M, hS⟩ := h.S
  refine ct_goX (own := nm_B) (by decide) rfl (Nat.le_of_ble_eq_true rfl) ?_
  intro p e s m below meth c ls hE hI hr hk hout hl
  have hx := hE.1.1.1
  have hb := hE.1.1.2.1
  have hl : lv_has ls 4 [(0, .ref (f 0)), (1, .int a), (2, .int what)] := hl
  refine lv_aload_n hx hb dB_about_0 rfl (lv_at hl 0 rfl) ?_
  refine lv_iload_n hx hb dB_about_1 rfl (lv_at hl 1 rfl) ?_
  refine ct_VX (n := 1) hE hI (kB_register hl0 h a) h0 rfl gm_B32 gi_B_register gs_B_B_register gz_B gc_B_register (by decide +kernel) ⟨Nat.le_of_ble_eq_true rfl, Nat.le_of_ble_eq_true rfl⟩ rfl hl.1 rfl (Nat.le_of_ble_eq_true rfl) dB_about_2 ⟨Nat.le_of_ble_eq_true rfl, Nat.le_of_ble_eq_true rfl⟩ (fun v w1 H locs hq hI => ?_) (fun E q ce w1 H locs ht hI hq hv hcl => ?_)
  · obtain ⟨hw, x, hrx, rfl⟩ := hq
    subst w1
    obtain ⟨hx16, -⟩ := rk_some hrx
    show W _ _ _ _ _ _ _ _ _ _ _ _ _ _ _ (F0 _ _ _ [.ref _])
    obtain ⟨cx, hRx⟩ := h.reg hx16
    obtain ⟨_, kT, -⟩ := hRx.out
    have okx := h.ok hx16
    have h1 : 1 ≤ (tm_db (σ x) []).length := by rw [tm_db_len]; exact tm_sz_pos _
    refine lv_astore_n hx hb dB_about_5 rfl hl (by decide) rfl (fun ls hl => ?_)
    refine lv_iload_n hx hb dB_about_6 rfl (lv_at hl 3 rfl) ?_
    by_cases hw0 : 0 ≤ what.toInt ∧ what.toInt ≤ 4
    · have er : op_about σ a what = (0, ab_v (σ x) what.toInt.toNat, σ) := by unfold op_about; simp only [hrx]; rw [if_pos hw0]
      obtain ⟨k, hk0⟩ : ∃ k : Nat, what.toInt = (k : Int) := ⟨what.toInt.toNat, by omega⟩
      have hk5 : k < 5 := by omega
      have hkk : what.toInt.toNat = k := by omega
      rw [hkk] at er
      have hoff : (what.toInt - 0).toNat = k := by omega
      have hk5' : k = 0 ∨ k = 1 ∨ k = 2 ∨ k = 3 ∨ k = 4 := by omega
      rcases hk5' with rfl | rfl | rfl | rfl | rfl
      · refine lv_tableIn (tgt := 40) (off := 33) hx hb dB_about_7 (by omega) (by omega) (by rw [hoff]; rfl) (by decide) ?_
        refine lv_aload_n hx hb dB_about_40 rfl (lv_at hl 0 rfl) ?_
        refine mp_getN hE.1 hI kT rfl gx_T 1 (by decide) (ct_nw hE (q := ("BindingBench", 97, "BindingBench$Term", "size", "I")) (by decide +kernel)) rfl dB_about_41 ?_
        rw [tm_db_len]
        exact vx_ret (ct_iret hE hI hr hk ⟨by rw [er], by rw [er]; rfl, by rw [er]; exact bx.rf h⟩ (by decide) (by decide) dB_about_44)
      · refine lv_tableIn (tgt := 45) (off := 38) hx hb dB_about_7 (by omega) (by omega) (by rw [hoff]; rfl) (by decide) ?_
        obtain ⟨-, hT, ⟨u1, W1⟩, ⟨u2, W2⟩, u3, W3⟩ := id hS
        refine lv_aload_n hx hb dB_about_45 rfl (lv_at hl 1 rfl) ?_
        refine mp_get hE.1 hI h0 rfl gx_B 1 (by decide) (List.mem_cons_of_mem _ gf_B21) rfl dB_about_46 ?_
        refine lv_aload_n hx hb dB_about_49 rfl (lv_at hl 0 rfl) ?_
        refine ct_V (n := 1) hE hI (kS_depth h.1 hS.1 (i := x) (by omega) hRx W1) hS.1 rfl gm_B101 gi_S_depth gs_S_S_depth gz_S gc_S_depth (by decide +kernel) ⟨Nat.le_of_ble_eq_true rfl, Nat.le_of_ble_eq_true rfl⟩ rfl hl.1 rfl (Nat.le_of_ble_eq_true rfl) dB_about_50 ⟨Nat.le_of_ble_eq_true rfl, Nat.le_of_ble_eq_true rfl⟩ (fun v w1 H locs hq hI => ?_)
        obtain ⟨rfl, ho, u, hW⟩ := hq
        show W _ _ _ _ _ _ _ _ _ _ _ _ _ _ _ (F0 _ _ _ [.int _])
        rw [(tm_dd_dp (σ x) []).1 okx.2.2.2]
        refine vx_ret (ct_iret hE hI hr hk ⟨by rw [er], by rw [er]; rfl, ?_⟩ (by decide) (by decide) dB_about_53)
        rw [er]
        have hm := h.2.2.2.1.1
        have hf := h.1
        have n5 : ∀ j, j < 49 → j ≠ 5 → j ≠ 6 → f j ∉ [f 5, f 6] := fun j hj a1 a2 => hf.nin hj [5, 6] (by intro b hb; simp at hb; omega)
        have hoS : mp_off (fp_S f mi) w w1 := ho.mono (by simp)
        refine bx.ws h (fp_G_S hm hoS) (pt_G.of h.1 h.2.2.2.1 hoS (M := M) ⟨by rw [ho _ (n5 2 (by omega) (by omega) (by omega))]; exact hS.1, hT.off ho (n5 _ (by omega) (by omega) (by omega)) (n5 _ (by omega) (by omega) (by omega)), ⟨u, hW⟩, ⟨u2, W2.off ho (n5 _ (by omega) (by omega) (by omega)) (n5 _ (by omega) (by omega) (by omega))⟩, u3, W3.off ho (n5 _ (by omega) (by omega) (by omega)) (n5 _ (by omega) (by omega) (by omega))⟩)
      · refine lv_tableIn (tgt := 54) (off := 47) hx hb dB_about_7 (by omega) (by omega) (by rw [hoff]; rfl) (by decide) ?_
        obtain ⟨x0, e0, e1, e2⟩ := tm_hd (σ x)
        refine lv_aload_n hx hb dB_about_54 rfl (lv_at hl 0 rfl) ?_
        refine ct_V (n := 0) hE hI (kT_kind hRx e0) kT rfl gm_B104 gi_T_kind gs_T_T_kind gz_T gc_T_kind (by decide +kernel) ⟨Nat.le_of_ble_eq_true rfl, Nat.le_of_ble_eq_true rfl⟩ rfl hl.1 rfl (Nat.le_of_ble_eq_true rfl) dB_about_55 ⟨Nat.le_of_ble_eq_true rfl, Nat.le_of_ble_eq_true rfl⟩ (fun v w1 H locs hq hI => ?_)
        obtain ⟨hw, rfl⟩ := hq
        subst w1
        show W _ _ _ _ _ _ _ _ _ _ _ _ _ _ _ (F0 _ _ _ [.int _])
        refine vx_ret (ct_iret hE hI hr hk ⟨by rw [er], ?_, by rw [er]; exact bx.rf h⟩ (by decide) (by decide) dB_about_58)
        rw [er]
        show some (Value.int _) = some (Value.int (nI (tm_kind (σ x))))
        by_cases c1 : x0 = -1
        · obtain ⟨p, q, ex⟩ := e2.mp c1
          rw [if_pos c1, ex]
          rfl
        · rw [if_neg c1]
          by_cases c2 : x0 = -2
          · obtain ⟨j, cc, ex⟩ := e1.mp c2
            rw [if_pos c2, ex]
            rfl
          · rw [if_neg c2]
            have : tm_kind (σ x) = 0 := by
              rcases tm_cases (σ x) with hlf | ⟨j, c, e⟩ | ⟨p, q, e⟩
              · cases hz : σ x <;> first | rfl | (rw [hz] at hlf; cases hlf)
              · exact absurd (e1.mpr ⟨j, c, e⟩) c2
              · exact absurd (e2.mpr ⟨p, q, e⟩) c1
            rw [this]
            rfl
      · refine lv_tableIn (tgt := 59) (off := 52) hx hb dB_about_7 (by omega) (by omega) (by rw [hoff]; rfl) (by decide) ?_
        refine lv_aload_n hx hb dB_about_59 rfl (lv_at hl 0 rfl) ?_
        refine ct_V (n := 0) hE hI (kT_differentFree hRx) kT rfl gm_B107 gi_T_differentFree gs_T_T_differentFree gz_T gc_T_differentFree (by decide +kernel) ⟨Nat.le_of_ble_eq_true rfl, Nat.le_of_ble_eq_true rfl⟩ rfl hl.1 rfl (Nat.le_of_ble_eq_true rfl) dB_about_60 ⟨Nat.le_of_ble_eq_true rfl, Nat.le_of_ble_eq_true rfl⟩ (fun v w1 H locs hq hI => ?_)
        obtain ⟨hw, rfl⟩ := hq
        subst w1
        show W _ _ _ _ _ _ _ _ _ _ _ _ _ _ _ (F0 _ _ _ [.int _])
        exact vx_ret (ct_iret hE hI hr hk ⟨by rw [er], by rw [er]; rfl, by rw [er]; exact bx.rf h⟩ (by decide) (by decide) dB_about_63)
      · refine lv_tableIn (tgt := 64) (off := 57) hx hb dB_about_7 (by omega) (by omega) (by rw [hoff]; rfl) (by decide) ?_
        refine lv_aload_n hx hb dB_about_64 rfl (lv_at hl 0 rfl) ?_
        refine ct_V (n := 0) hE hI (kT_redexes hRx h1) kT rfl gm_B110 gi_T_redexes gs_T_T_redexes gz_T gc_T_redexes (by decide +kernel) ⟨Nat.le_of_ble_eq_true rfl, Nat.le_of_ble_eq_true rfl⟩ rfl hl.1 rfl (Nat.le_of_ble_eq_true rfl) dB_about_65 ⟨Nat.le_of_ble_eq_true rfl, Nat.le_of_ble_eq_true rfl⟩ (fun v w1 H locs hq hI => ?_)
        obtain ⟨hw, rfl⟩ := hq
        subst w1
        show W _ _ _ _ _ _ _ _ _ _ _ _ _ _ _ (F0 _ _ _ [.int _])
        rw [tm_db_len]
        exact vx_ret (ct_iret hE hI hr hk ⟨by rw [er], by rw [er]; rfl, by rw [er]; exact bx.rf h⟩ (by decide) (by decide) dB_about_68)
    · have er : op_about σ a what = (2, 0, σ) := by unfold op_about; simp only [hrx]; rw [if_neg hw0]
      refine lv_tableOut (tgt := 69) hx hb dB_about_7 (by omega) (by decide) ?_
      exact ct_throw hE hl0 hI (cls := "java/lang/IllegalArgumentException") (text := "another what") (names := ["java/lang/RuntimeException", "java/lang/Exception"]) (ic := 66) (by decide +kernel) (by decide +kernel) gk_B62 gz_Jg (by decide +kernel) oa_B62_66 og_B62_66 hl.1 dB_about_69 dB_about_72 dB_about_73 dB_about_75 dB_about_78 hout (Nat.le_of_ble_eq_true rfl) (Nat.le_of_ble_eq_true rfl) (Nat.le_of_ble_eq_true rfl) (Nat.le_of_ble_eq_true rfl) hk ⟨by rw [er]; simp, by rw [er]; rfl, by rw [er]; exact bx.rf h⟩ (Nat.le_of_ble_eq_true rfl) (Nat.le_of_ble_eq_true rfl)
  · obtain ⟨hw, hE1, hrx⟩ := ht
    subst w1
    have er : op_about σ a what = (1, 0, σ) := by unfold op_about; rw [hrx]
    exact ct_out hI hout hk hq hv hcl ⟨by rw [er]; simp, by rw [er]; exact hE1, by rw [er]; exact bx.rf h⟩ (Nat.le_of_ble_eq_true rfl) (Nat.le_of_ble_eq_true rfl)
set_option maxRecDepth 100000 in
set_option maxHeartbeats 1000000 in
theorem kB_write (hl0 : l.stackTraces = false) (h : iv_B K w f mi σ bc out) (a : Int32) : ct_X l n0 D K yB_write (Cond.code yB_write cB_write 2 (some .int)) 7 200 (wr_c σ bc a) (wr_s σ bc a) [.ref (f 0), .int a] w (fun v w' => rk a ≠ none ∧ v = some (.int (nI (wr_o σ out a).length)) ∧ bx K w f w' σ (wr_b σ bc a) (wr_o σ out a)) (fun E w' => rk a = none ∧ E = nx_N ∧ bx K w f w' σ bc out) := by
  have h0 := h.2.1
  have hcs : 1 ≤ wr_c σ bc a ∧ 6 ≤ wr_s σ bc a := by
    unfold wr_c wr_s
    cases rk a <;> simp
  refine ct_goX (own := nm_B) (by decide) rfl (Nat.le_of_ble_eq_true rfl) ?_
  intro p e s m below meth c ls hE hI hr hk hout hl
  have hx := hE.1.1.1
  have hb := hE.1.1.2.1
  have hl : lv_has ls 2 [(0, .ref (f 0)), (1, .int a)] := hl
  refine lv_aload_n hx hb dB_write_0 rfl (lv_at hl 0 rfl) ?_
  refine mp_get hE.1 hI h0 rfl gx_B 2 (by decide) (List.mem_cons_of_mem _ gf_B28) rfl dB_write_1 ?_
  refine lv_aload_n hx hb dB_write_4 rfl (lv_at hl 0 rfl) ?_
  refine lv_iload_n hx hb dB_write_5 rfl (lv_at hl 1 rfl) ?_
  refine ct_VX (n := 1) hE hI (kB_register hl0 h a) h0 rfl gm_B32 gi_B_register gs_B_B_register gz_B gc_B_register (by decide +kernel) ⟨Nat.le_of_ble_eq_true rfl, Nat.le_of_ble_eq_true rfl⟩ rfl hl.1 rfl (Nat.le_of_ble_eq_true rfl) dB_write_6 ⟨by show 0 + 1 ≤ wr_c σ bc a; omega, by show 0 + 6 ≤ wr_s σ bc a; omega⟩ (fun v w1 H locs hq hI => ?_) (fun E q ce w1 H locs ht hI hq hv hcl => ?_)
  · obtain ⟨hw, x, hrx, rfl⟩ := hq
    subst w1
    obtain ⟨hx16, -⟩ := rk_some hrx
    show W _ _ _ _ _ _ _ _ _ _ _ _ _ _ _ (F0 _ _ _ [.ref _, .ref _])
    obtain ⟨cx, hRx⟩ := h.reg hx16
    have okx := h.ok hx16
    have hf := h.1
    obtain ⟨-, -, -, -, -, hY, ⟨u4, W4⟩, hb64, hb6⟩ := id h
    obtain ⟨gy, hY0, -⟩ := id hY
    have htop := tx_top okx hb6
    have ec : wr_c σ bc a = 1 + tx_c bc 0 (tx_ad (tm_db (σ x) []) ([], 0)) := by unfold wr_c; rw [hrx]
    have es : wr_s σ bc a = 6 + tx_s bc 0 (tx_ad (tm_db (σ x) []) ([], 0)) := by unfold wr_s; rw [hrx]
    have eb : wr_b σ bc a = tx_b bc 0 (tx_ad (tm_db (σ x) []) ([], 0)) := by unfold wr_b; rw [hrx]
    have eo : wr_o σ out a = tm_tx (σ x) [] := by unfold wr_o; rw [hrx]
    have hn : ∀ j, j < 49 → j ≠ 3 → j ≠ 4 → j ≠ 11 → j ≠ 12 → f j ∉ [f 3, f 4, f 11, f 12] := fun j hj a1 a2 a3 a4 => hf.nin hj [3, 4, 11, 12] (by intro b hb; simp at hb; omega)
    have hn2 : ∀ j, j < 49 → j ≠ 3 → j ≠ 4 → f j ∉ [f 3, f 4] := fun j hj a1 a2 => hf.nin hj [3, 4] (by intro b hb; simp at hb; omega)
    refine ct_V (n := 1) hE hI (kX_show hY W4 hRx (hn _ (by omega) (by omega) (by omega) (by omega) (by omega)) (hn _ (by omega) (by omega) (by omega) (by omega) (by omega)) (hn2 11 (by omega) (by omega) (by omega)) (hn2 12 (by omega) (by omega) (by omega)) htop.1) hY0 rfl gm_B118 gi_X_show gs_X_X_show gz_X gc_X_show (by decide +kernel) ⟨Nat.le_of_ble_eq_true rfl, Nat.le_of_ble_eq_true rfl⟩ rfl hl.1 rfl (Nat.le_of_ble_eq_true rfl) dB_write_9 ⟨by show 0 + 1 + _ ≤ wr_c σ bc a; rw [ec]; omega, by show 0 + 6 + _ ≤ wr_s σ bc a; rw [es]; omega⟩ (fun v w1 H locs hq hI => ?_)
    obtain ⟨rfl, ba, u, hba, hkd, hY1, hW1⟩ := hq
    show W _ _ _ _ _ _ _ _ _ _ _ _ _ _ _ (F0 _ _ _ [.int _])
    rw [tm_sh_tx okx.2.2.2 okx.1] at hY1 ⊢
    refine vx_ret (ct_iret hE hI hr hk ⟨by rw [hrx]; simp, by rw [eo], ?_⟩ (by rw [ec]; omega) (by rw [es]; omega) dB_write_12)
    rw [eb, eo]
    exact bx.wr h hba hkd hY1 hW1 (by omega) (by omega)
  · obtain ⟨hw, hE1, hrx⟩ := ht
    subst w1
    exact ct_out hI hout hk hq hv hcl ⟨hrx, hE1, bx.rf h⟩ (by omega) (by omega)
set_option maxRecDepth 100000 in
theorem kB_out (hl0 : l.stackTraces = false) (h : iv_B K w f mi σ bc out) (i : Int32) : ct_X l n0 D K yB_out (Cond.code yB_out cB_out 2 (some .int)) 7 120 1 6 [.ref (f 0), .int i] w (fun v w' => (∃ k x, i = nI k ∧ k < 2147483648 ∧ out[k]? = some x ∧ v = some (.int (ci_i x))) ∧ bx K w f w' σ bc out) (fun E w' => (i.toInt < 0 ∨ (out.length : Int) ≤ i.toInt) ∧ E = "java/lang/IndexOutOfBoundsException" ∧ bx K w f w' σ bc out) := by
  have h0 := h.2.1
  obtain ⟨-, -, -, -, -, ⟨g, hX, hA, hle, hh, hfit⟩, -, hb64, hb6⟩ := id h
  have hi := ci_rng i
  have e0 : (0 : Int32).toInt = 0 := rfl
  have eL : (nI out.length).toInt = (out.length : Int) := by rw [← ci_nat]; exact ci_to (by omega) (by omega)
  refine ct_goX (own := nm_B) (by decide) rfl (Nat.le_of_ble_eq_true rfl) ?_
  intro p e s m below meth c ls hE hI hr hk hout hl
  have hx := hE.1.1.1
  have hb := hE.1.1.2.1
  have hl : lv_has ls 2 [(0, .ref (f 0)), (1, .int i)] := hl
  have bad : (i.toInt < 0 ∨ (out.length : Int) ≤ i.toInt) → ∀ ls, lv_has ls 2 [(0, .ref (f 0)), (1, .int i)] → W p l e { frames := 7, cells := 1, slots := 6, locals := 120 } s m ([Value.ref (f 0), .int i] : List Value).toArray below meth c s.heap [] 0 0 (vx_MQ below (ct_Q D w s.heap.size (fun v w' => (∃ k x, i = nI k ∧ k < 2147483648 ∧ out[k]? = some x ∧ v = some (.int (ci_i x))) ∧ bx K w f w' σ bc out)) (ct_C D w s.heap.size (fun E w' => (i.toInt < 0 ∨ (out.length : Int) ≤ i.toInt) ∧ E = "java/lang/IndexOutOfBoundsException" ∧ bx K w f w' σ bc out)) ([Value.ref (f 0), .int i] : List Value).toArray s 1 6 (mp_A w s.heap.size)) (F0 m 15 ls []) := by
    intro hb0 ls hl
    exact ct_throw hE hl0 hI (cls := "java/lang/IndexOutOfBoundsException") (text := "no such byte of OUT") (names := ["java/lang/RuntimeException", "java/lang/Exception"]) (ic := 128) (by decide +kernel) (by decide +kernel) gk_B124 gz_Jx (by decide +kernel) oa_B124_128 og_B124_128 hl.1 dB_out_15 dB_out_18 dB_out_19 dB_out_21 dB_out_24 hout (Nat.le_of_ble_eq_true rfl) (Nat.le_of_ble_eq_true rfl) (Nat.le_of_ble_eq_true rfl) (Nat.le_of_ble_eq_true rfl) hk ⟨hb0, rfl, bx.rf h⟩ (Nat.le_of_ble_eq_true rfl) (Nat.le_of_ble_eq_true rfl)
  refine lv_iload_n hx hb dB_out_0 rfl (lv_at hl 1 rfl) ?_
  refine lv_if_lt (tgt := 15) hx hb dB_out_1 (by decide) (fun hq => ?_) (fun hq => ?_)
  · rw [Int32.lt_iff_toInt_lt] at hq
    exact bad (Or.inl (by omega)) ls hl
  · rw [Int32.lt_iff_toInt_lt] at hq
    refine lv_iload_n hx hb dB_out_4 rfl (lv_at hl 1 rfl) ?_
    refine lv_aload_n hx hb dB_out_5 rfl (lv_at hl 0 rfl) ?_
    refine mp_get hE.1 hI h0 rfl gx_B 2 (by decide) (List.mem_cons_of_mem _ gf_B28) rfl dB_out_6 ?_
    refine mp_getN hE.1 hI hX rfl gx_X 1 (by decide) (ct_nw hE (q := ("BindingBench", 121, "BindingBench$Text", "length", "I")) (by decide +kernel)) rfl dB_out_9 ?_
    refine lv_icmp_lt (tgt := 25) hx hb dB_out_12 (by decide) (fun hq2 => ?_) (fun hq2 => ?_)
    · rw [Int32.lt_iff_toInt_lt] at hq2
      obtain ⟨k, hk0⟩ : ∃ k : Nat, i.toInt = (k : Int) := ⟨i.toInt.toNat, by omega⟩
      have hik : i = nI k := by rw [← ci_nat, ← hk0]; exact ci_of i
      have hkl : k < out.length := by omega
      subst hik
      refine lv_aload_n hx hb dB_out_25 rfl (lv_at hl 0 rfl) ?_
      refine mp_get hE.1 hI h0 rfl gx_B 2 (by decide) (List.mem_cons_of_mem _ gf_B28) rfl dB_out_26 ?_
      refine mp_getN hE.1 hI hX rfl gx_X 0 (by decide) (ct_nw hE (q := ("BindingBench", 129, "BindingBench$Text", "bytes", "[B")) (by decide +kernel)) rfl dB_out_29 ?_
      refine lv_iload_n hx hb dB_out_32 rfl (lv_at hl 1 rfl) ?_
      refine mp_bld hE.1 hI hA 1 rfl (vp_in_nI (by omega) (by omega)) dB_out_33 ?_
      rw [nI_clamp (by omega), hh k _ (List.getElem?_eq_getElem hkl)]
      exact vx_ret (ct_iret hE hI hr hk ⟨⟨k, _, rfl, by omega, List.getElem?_eq_getElem hkl, rfl⟩, bx.rf h⟩ (by decide) (by decide) dB_out_34)
    · rw [Int32.lt_iff_toInt_lt] at hq2
      exact bad (Or.inr (by omega)) ls hl
end KB5
