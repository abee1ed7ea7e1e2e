/-! what the calls do, by terms; free, apply, bind, put -/
abbrev oR : Type := Nat × Nat × (Nat → Std.Format)
abbrev lfm (n : Int) : Std.Format := .nest n .nil
def ck (c : Nat) (σ : Nat → Std.Format) (t : Nat) (X : Std.Format) : oR := match tm_chk X with
  | none => (c, 0, σ)
  | some u => (0, tm_sz u, su σ t u)
def op_free (σ : Nat → Std.Format) (to n : Int32) : oR := match rk to, fk n with
  | some t, some k => (0, 0, su σ t (lfm k))
  | _, _ => (1, 0, σ)
def op_apply (σ : Nat → Std.Format) (to a b : Int32) : oR := match rk to, rk a, rk b with
  | some t, some x, some y => ck 2 σ t (.append (σ x) (σ y))
  | _, _, _ => (1, 0, σ)
def op_bind (σ : Nat → Std.Format) (to a n : Int32) : oR := match rk to, rk a, fk n with
  | some t, some x, some k => ck 2 σ t (.tag 5000 (tm_sub k (lfm (-5001)) (σ x)))
  | _, _, _ => (1, 0, σ)
def op_put (σ : Nat → Std.Format) (to a n b : Int32) : oR := match rk to, rk a, fk n, rk b with
  | some t, some x, some k, some y => ck 2 σ t (tm_sub k (σ y) (σ x))
  | _, _, _, _ => (1, 0, σ)
theorem ck_some {c t : Nat} {σ : Nat → Std.Format} {X u : Std.Format} (h : tm_chk X = some u) : ck c σ t X = (0, tm_sz u, su σ t u) := by unfold ck; rw [h]
theorem ck_none {c t : Nat} {σ : Nat → Std.Format} {X : Std.Format} (h : tm_chk X = none) : ck c σ t X = (c, 0, σ) := by unfold ck; rw [h]
def ex_1 (k : Nat) : String := if k = 1 then nx_N else "java/lang/IllegalStateException"
def ex_2 (k : Nat) : String := if k = 1 then nx_N else if k = 2 then "java/lang/IllegalArgumentException" else "java/lang/IllegalStateException"
def ex_3 (k : Nat) : String := if k = 1 then nx_N else if k = 2 then "java/lang/IllegalStateException" else "java/lang/ArithmeticException"
abbrev po_B (K : Nat → ClassId) (w : mp_W) (f : Nat → Nat) (bc : Nat) (out : List Int) (r : oR) : Option Value → mp_W → Prop := fun v w' => r.1 = 0 ∧ v = some (.int (nI r.2.1)) ∧ bx K w f w' r.2.2 bc out
abbrev po_Bv (K : Nat → ClassId) (w : mp_W) (f : Nat → Nat) (bc : Nat) (out : List Int) (r : oR) : Option Value → mp_W → Prop := fun v w' => r.1 = 0 ∧ v = none ∧ bx K w f w' r.2.2 bc out
abbrev th_B (K : Nat → ClassId) (w : mp_W) (f : Nat → Nat) (bc : Nat) (out : List Int) (ex : Nat → String) (r : oR) : String → mp_W → Prop := fun E w' => r.1 ≠ 0 ∧ E = ex r.1 ∧ bx K w f w' r.2.2 bc out
section KB2
variable {l : Launch} {n0 : Nat} {D : va_G} {K : Nat → ClassId} {w : mp_W} {f : Nat → Nat} {mi bc : Nat} {σ : Nat → Std.Format} {out : List Int}
/-- a Workshop call made the row of X -/
theorem iv_B.made {w1 : mp_W} {X u : Std.Format} (h : iv_B K w f mi σ bc out) (hs : tm_sc X []) (hu : tm_chk X = some u) (ho : mp_off (fp_S f mi) w w1) (hS : pt_S K w1 f mi (tm_db X [])) : mp_off (fp_G f) w w1 ∧ iv_B K w1 f mi σ bc out ∧ pt_R K w1 (f (13 + 2 * mi)) (f (14 + 2 * mi)) 2000 (tm_db u []) ∧ tm_ok u := by
  obtain ⟨h1, h2, h3, h4, h5⟩ := tm_chk_ok hs hu
  have hG := fp_G_S h.2.2.2.1.1 ho
  refine ⟨hG, h.ws hG (pt_G.of h.1 h.2.2.2.1 ho hS), ⟨by rw [h2]; exact hS.2.1, by rw [h2, tm_db_len]; exact h4, Nat.le_refl _, by rw [h2]; exact tm_db_b hs h4⟩, h1⟩
theorem iv_B.reg (h : iv_B K w f mi σ bc out) {k : Nat} (hk : k < 16) : ∃ cap, pt_R K w (f (13 + 2 * k)) (f (14 + 2 * k)) cap (tm_db (σ k) []) := (h.2.2.2.2.1 k hk).1
theorem iv_B.ok (h : iv_B K w f mi σ bc out) {k : Nat} (hk : k < 16) : tm_ok (σ k) := (h.2.2.2.2.1 k hk).2
set_option maxRecDepth 100000 in
theorem kB_free (hl0 : l.stackTraces = false) (h : iv_B K w f mi σ bc out) (to n : Int32) : ct_X l n0 D K yB_free (Cond.code yB_free cB_free 4 none) 7 120 2 12 [.ref (f 0), .int to, .int n] w (po_Bv K w f bc out (op_free σ to n)) (th_B K w f bc out ex_1 (op_free σ to n)) := by
  have h0 := h.2.1
  refine ct_goX (own := nm_B) (by decide) rfl (Nat.le_of_ble_eq_true rfl) ?_
  intro p e s m below meth c ls hE hI hr hk hout hl
  have hx := hE.1.1.1
  have hb := hE.1.1.2.1
  have hl : lv_has ls 4 [(0, .ref (f 0)), (1, .int to), (2, .int n)] := hl
  refine lv_aload_n hx hb dB_free_0 rfl (lv_at hl 0 rfl) ?_
  refine lv_iload_n hx hb dB_free_1 rfl (lv_at hl 1 rfl) ?_
  refine ct_VX (n := 1) hE hI (kB_register hl0 h to) h0 rfl gm_B32 gi_B_register gs_B_B_register gz_B gc_B_register (by decide +kernel) ⟨Nat.le_of_ble_eq_true rfl, Nat.le_of_ble_eq_true rfl⟩ rfl hl.1 rfl (Nat.le_of_ble_eq_true rfl) dB_free_2 ⟨Nat.le_of_ble_eq_true rfl, Nat.le_of_ble_eq_true rfl⟩ (fun v w1 H locs hq hI => ?_) (fun E q ce w1 H locs ht hI hq hv hcl => ?_)
  · obtain ⟨hw, t, hrt, rfl⟩ := hq
    subst w1
    obtain ⟨ht16, -⟩ := rk_some hrt
    obtain ⟨cap, hR⟩ := h.reg ht16
    obtain ⟨g, kT, kA, kf, kc, kc2, kx⟩ := hR.out
    have hsz : 1 ≤ cap := Nat.le_trans (by rw [tm_db_len]; exact tm_sz_pos _) kc
    show W _ _ _ _ _ _ _ _ _ _ _ _ _ _ _ (F0 _ _ _ [.ref _])
    refine lv_astore_n hx hb dB_free_5 rfl hl (by decide) rfl (fun ls hl => ?_)
    refine lv_iload_n hx hb dB_free_6 rfl (lv_at hl 3 rfl) ?_
    refine ct_StX (n := 1) hE hI (kB_checkFree hl0 n) gm_B36 gt_B_checkFree gz_B gc_B_checkFree (by decide +kernel) ⟨Nat.le_of_ble_eq_true rfl, Nat.le_of_ble_eq_true rfl⟩ rfl hl.1 rfl (Nat.le_of_ble_eq_true rfl) dB_free_7 ⟨Nat.le_of_ble_eq_true rfl, Nat.le_of_ble_eq_true rfl⟩ (fun v w1 H locs hq hI => ?_) (fun E q ce w1 H locs ht hI hq hv hcl => ?_)
    · obtain ⟨hw, rfl, k, hfk⟩ := hq
      subst w1
      obtain ⟨hk100, hnk⟩ := fk_some hfk
      have er : op_free σ to n = (0, 0, su σ t (lfm k)) := by unfold op_free; rw [hrt, hfk]
      show W _ _ _ _ _ _ _ _ _ _ _ _ _ _ _ (F0 _ _ _ [])
      refine lv_aload_n hx hb dB_free_10 rfl (lv_at hl 0 rfl) ?_
      refine lv_iload_n hx hb dB_free_11 rfl (lv_at hl 3 rfl) ?_
      refine ct_V (n := 1) hE hI (kT_becomeFree (x := n) kT kA (by omega) (by omega)) kT rfl gm_B39 gi_T_becomeFree gs_T_T_becomeFree gz_T gc_T_becomeFree (by decide +kernel) ⟨Nat.le_of_ble_eq_true rfl, Nat.le_of_ble_eq_true rfl⟩ rfl hl.1 rfl (Nat.le_of_ble_eq_true rfl) dB_free_12 ⟨Nat.le_of_ble_eq_true rfl, Nat.le_of_ble_eq_true rfl⟩ (fun v w1 H locs hq hI => ?_)
      obtain ⟨rfl, hw⟩ := hq
      show W _ _ _ _ _ _ _ _ _ _ _ _ _ _ _ (F0 _ _ _ [])
      have hne : f (13 + 2 * t) ≠ f (14 + 2 * t) := h.1.ne (by omega) (by omega) (by omega)
      refine vx_ret (ct_vret hE hI hr hk ⟨by rw [er], rfl, ?_⟩ (by decide) (by decide) dB_free_15)
      rw [er]
      have hdb : tm_db (lfm (k : Int)) [] = [(k : Int)] := by
        rw [tm_db_leaf rfl, tm_lc_free (by show (0 : Int) ≤ (k : Int); omega)]
        rfl
      refine bx.set (cap := cap) h (mp_off.rf _ _) h ht16 (Or.inl rfl) (by rw [hw]; exact ((mp_off.rf _ _).up (by simp) _).up (by simp) _) ⟨⟨upd g 0 n, ?_, ?_, ?_⟩, ?_, kc2, ?_⟩ ?_
      · rw [hw, hdb]; exact mp_up_self ..
      · rw [hw, mp_up_ne _ _ (Ne.symm hne)]; exact mp_up_self ..
      · intro _ i y hy
        rw [hdb] at hy
        have : i = 0 := by
          have := (List.getElem?_eq_some_iff.mp hy).1
          simp at this
          omega
        subst this
        simp at hy
        subst hy
        unfold upd
        rw [if_pos rfl, ci_nat, hnk]
      · rw [hdb]; exact hsz
      · intro y hy
        rw [hdb] at hy
        simp at hy
        omega
      · refine ⟨?_, trivial, by show 1 ≤ 2000; omega, by show 1 ≤ 150; omega⟩
        show (0 ≤ (k : Int) ∧ (k : Int) ≤ 99) ∨ _
        exact Or.inl ⟨by omega, by omega⟩
    · obtain ⟨hw, hE1, hfk⟩ := ht
      subst w1
      have er : op_free σ to n = (1, 0, σ) := by unfold op_free; rw [hrt, hfk]
      exact ct_out hI hout hk hq hv hcl ⟨by rw [er]; simp, by rw [er]; exact hE1, by rw [er]; exact bx.rf h⟩ (by decide) (by decide)
  · obtain ⟨hw, hE1, hrt⟩ := ht
    subst w1
    have er : op_free σ to n = (1, 0, σ) := by unfold op_free; rw [hrt]
    exact ct_out hI hout hk hq hv hcl ⟨by rw [er]; simp, by rw [er]; exact hE1, by rw [er]; exact bx.rf h⟩ (by decide) (by decide)
set_option maxRecDepth 100000 in
set_option maxHeartbeats 1000000 in
theorem kB_apply (hl0 : l.stackTraces = false) (h : iv_B K w f mi σ bc out) (to a b : Int32) : ct_X l n0 D K yB_apply (Cond.code yB_apply cB_apply 5 (some .int)) 9 240 5 2024 [.ref (f 0), .int to, .int a, .int b] w (po_B K w f bc out (op_apply σ to a b)) (th_B K w f bc out ex_1 (op_apply σ to a b)) := by
  have h0 := h.2.1
  obtain ⟨M, hS⟩ := h.S
  refine ct_goX (own := nm_B) (by decide) rfl (Nat.le_of_ble_eq_true rfl) ?_
  intro p e s m below meth c ls hE hI hr hk hout hl
  have hx := hE.1.1.1
  have hb := hE.1.1.2.1
  have hl : lv_has ls 5 [(0, .ref (f 0)), (1, .int to), (2, .int a), (3, .int b)] := hl
  refine lv_aload_n hx hb dB_apply_0 rfl (lv_at hl 0 rfl) ?_
  refine lv_iload_n hx hb dB_apply_1 rfl (lv_at hl 1 rfl) ?_
  refine ct_VX (n := 1) hE hI (kB_register hl0 h to) h0 rfl gm_B32 gi_B_register gs_B_B_register gz_B gc_B_register (by decide +kernel) ⟨Nat.le_of_ble_eq_true rfl, Nat.le_of_ble_eq_true rfl⟩ rfl hl.1 rfl (Nat.le_of_ble_eq_true rfl) dB_apply_2 ⟨Nat.le_of_ble_eq_true rfl, Nat.le_of_ble_eq_true rfl⟩ (fun v w1 H locs hq hI => ?_) (fun E q ce w1 H locs ht hI hq hv hcl => ?_)
  · obtain ⟨hw, t, hrt, rfl⟩ := hq
    subst w1
    obtain ⟨ht16, -⟩ := rk_some hrt
    show W _ _ _ _ _ _ _ _ _ _ _ _ _ _ _ (F0 _ _ _ [.ref _])
    refine lv_astore hx hb dB_apply_5 hl (by decide) rfl (fun ls hl => ?_)
    refine lv_aload hx hb dB_apply_7 (lv_at hl 0 rfl) ?_
    refine lv_aload_n hx hb dB_apply_9 rfl (lv_at hl 1 rfl) ?_
    refine mp_get hE.1 hI h0 rfl gx_B 1 (by decide) (List.mem_cons_of_mem _ gf_B21) rfl dB_apply_10 ?_
    refine lv_aload_n hx hb dB_apply_13 rfl (lv_at hl 1 rfl) ?_
    refine lv_iload_n hx hb dB_apply_14 rfl (lv_at hl 3 rfl) ?_
    refine ct_VX (n := 1) hE hI (kB_register hl0 h a) h0 rfl gm_B32 gi_B_register gs_B_B_register gz_B gc_B_register (by decide +kernel) ⟨Nat.le_of_ble_eq_true rfl, Nat.le_of_ble_eq_true rfl⟩ rfl hl.1 rfl (Nat.le_of_ble_eq_true rfl) dB_apply_15 ⟨Nat.le_of_ble_eq_true rfl, Nat.le_of_ble_eq_true rfl⟩ (fun v w1 H locs hq hI => ?_) (fun E q ce w1 H locs ht hI hq hv hcl => ?_)
    · obtain ⟨hw, x, hrx, rfl⟩ := hq
      subst w1
      obtain ⟨hx16, -⟩ := rk_some hrx
      show W _ _ _ _ _ _ _ _ _ _ _ _ _ _ _ (F0 _ _ _ [.ref _, .ref _, .ref _])
      refine lv_aload_n hx hb dB_apply_18 rfl (lv_at hl 1 rfl) ?_
      refine lv_iload_n hx hb dB_apply_19 rfl (lv_at hl 4 rfl) ?_
      refine ct_VX (n := 1) hE hI (kB_register hl0 h b) h0 rfl gm_B32 gi_B_register gs_B_B_register gz_B gc_B_register (by decide +kernel) ⟨Nat.le_of_ble_eq_true rfl, Nat.le_of_ble_eq_true rfl⟩ rfl hl.1 rfl (Nat.le_of_ble_eq_true rfl) dB_apply_20 ⟨Nat.le_of_ble_eq_true rfl, Nat.le_of_ble_eq_true rfl⟩ (fun v w1 H locs hq hI => ?_) (fun E q ce w1 H locs ht hI hq hv hcl => ?_)
      · obtain ⟨hw, y, hry, rfl⟩ := hq
        subst w1
        obtain ⟨hy16, -⟩ := rk_some hry
        show W _ _ _ _ _ _ _ _ _ _ _ _ _ _ _ (F0 _ _ _ [.ref _, .ref _, .ref _, .ref _])
        obtain ⟨cx, hRx⟩ := h.reg hx16
        obtain ⟨cy, hRy⟩ := h.reg hy16
        have hm := h.2.2.2.1.1
        have hsc : tm_sc (.append (σ x) (σ y)) [] := ⟨(h.ok hx16).1, (h.ok hy16).1⟩
        have er : op_apply σ to a b = ck 2 σ t (.append (σ x) (σ y)) := by unfold op_apply; rw [hrt, hrx, hry]
        refine ct_VX (n := 2) hE hI (kS_join hl0 h.1 hm hS (i := x) (j := y) (by omega) (by omega) (by omega) (by omega) hRx hRy) hS.1 rfl gm_B42 gi_S_join gs_S_S_join gz_S gc_S_join (by decide +kernel) ⟨Nat.le_of_ble_eq_true rfl, Nat.le_of_ble_eq_true rfl⟩ rfl hl.1 rfl (Nat.le_of_ble_eq_true rfl) dB_apply_23 ⟨Nat.le_of_ble_eq_true rfl, Nat.le_of_ble_eq_true rfl⟩ (fun v w1 H locs hq hI => ?_) (fun E q ce w1 H locs ht hI hq hv hcl => ?_)
        · obtain ⟨rfl, hnb, ho, hS1⟩ := hq
          rw [← tm_db_app] at hnb hS1
          rw [tm_bad] at hnb
          show W _ _ _ _ _ _ _ _ _ _ _ _ _ _ _ (F0 _ _ _ [.ref _, .ref _])
          cases hu : tm_chk (.append (σ x) (σ y)) with
          | none => exact absurd hu hnb
          | some u =>
            obtain ⟨hoG, h1, hRm, hok⟩ := h.made hsc hu ho hS1
            obtain ⟨ct, hRt⟩ := h1.reg ht16
            obtain ⟨_, kT, -⟩ := hRt.out
            refine ct_V (n := 1) hE hI (kT_become hRt.V hRm) kT rfl gm_B46 gi_T_become gs_T_T_become gz_T gc_T_become (by decide +kernel) ⟨Nat.le_of_ble_eq_true rfl, Nat.le_of_ble_eq_true rfl⟩ rfl hl.1 rfl (Nat.le_of_ble_eq_true rfl) dB_apply_26 ⟨Nat.le_of_ble_eq_true rfl, Nat.le_of_ble_eq_true rfl⟩ (fun v w2 H locs hq hI => ?_)
            obtain ⟨rfl, ar', cap', har, -, ho2, hR2⟩ := hq
            show W _ _ _ _ _ _ _ _ _ _ _ _ _ _ _ (F0 _ _ _ [.int _])
            rw [tm_db_len]
            refine vx_ret (ct_iret hE hI hr hk ⟨by rw [er, ck_some hu], by rw [er, ck_some hu], ?_⟩ (by decide) (by decide) dB_apply_29)
            rw [er, ck_some hu]
            exact bx.set h hoG h1 ht16 har ho2 hR2 hok
        · obtain ⟨hE1, hbd, ho, M2, hS2⟩ := ht
          rw [← tm_db_app, tm_bad] at hbd
          exact ct_out hI hout hk hq hv hcl ⟨by rw [er, ck_none hbd]; simp, by rw [er, ck_none hbd]; exact hE1, by rw [er, ck_none hbd]; exact bx.ws h (fp_G_S hm ho) (pt_G.of h.1 h.2.2.2.1 ho hS2)⟩ (by decide) (by decide)
      · obtain ⟨hw, hE1, hry⟩ := ht
        subst w1
        have er : op_apply σ to a b = (1, 0, σ) := by unfold op_apply; rw [hrt, hrx, hry]
        exact ct_out hI hout hk hq hv hcl ⟨by rw [er]; simp, by rw [er]; exact hE1, by rw [er]; exact bx.rf h⟩ (by decide) (by decide)
    · obtain ⟨hw, hE1, hrx⟩ := ht
      subst w1
      have er : op_apply σ to a b = (1, 0, σ) := by unfold op_apply; rw [hrt, hrx]
      exact ct_out hI hout hk hq hv hcl ⟨by rw [er]; simp, by rw [er]; exact hE1, by rw [er]; exact bx.rf h⟩ (by decide) (by decide)
  · obtain ⟨hw, hE1, hrt⟩ := ht
    subst w1
    have er : op_apply σ to a b = (1, 0, σ) := by unfold op_apply; rw [hrt]
    exact ct_out hI hout hk hq hv hcl ⟨by rw [er]; simp, by rw [er]; exact hE1, by rw [er]; exact bx.rf h⟩ (by decide) (by decide)
end KB2
