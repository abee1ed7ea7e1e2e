/-! the face: bind, put, open -/
def op_open (σ : Nat → Std.Format) (to a b : Int32) : oR := match rk to, rk a, rk b with
  | some t, some x, some y => (match σ x with
    | .tag j c => ck 3 σ t (tm_sub (-1 - (j : Int)) (σ y) c)
    | _ => (2, 0, σ))
  | _, _, _ => (1, 0, σ)
theorem op_open_f {σ : Nat → Std.Format} {to a b : Int32} {t x y j : Nat} {c : Std.Format} (h1 : rk to = some t) (h2 : rk a = some x) (h3 : rk b = some y) (h4 : σ x = .tag j c) : op_open σ to a b = ck 3 σ t (tm_sub (-1 - (j : Int)) (σ y) c) := by
  unfold op_open
  rw [h1, h2, h3]
  show (match σ x with
    | .tag j c => ck 3 σ t (tm_sub (-1 - (j : Int)) (σ y) c)
    | _ => (2, 0, σ)) = _
  rw [h4]
theorem op_open_n {σ : Nat → Std.Format} {to a b : Int32} {t x y : Nat} (h1 : rk to = some t) (h2 : rk a = some x) (h3 : rk b = some y) (h4 : ∀ j c, σ x ≠ .tag j c) : op_open σ to a b = (2, 0, σ) := by
  unfold op_open
  rw [h1, h2, h3]
  show (match σ x with
    | .tag j c => ck 3 σ t (tm_sub (-1 - (j : Int)) (σ y) c)
    | _ => (2, 0, σ)) = _
  split
  · rename_i j c e
    exact absurd e (h4 j c)
  · rfl
theorem tm_hd (t : Std.Format) : ∃ x, (tm_db t [])[0]? = some x ∧ (x = -2 ↔ ∃ j c, t = .tag j c) ∧ (x = -1 ↔ ∃ a b, t = .append a b) := by
  rcases tm_cases t with h | ⟨j, a, rfl⟩ | ⟨a, b, rfl⟩
  · have := tm_lc_nn [] (tm_val t)
    refine ⟨tm_lc [] (tm_val t), by rw [tm_db_leaf h]; rfl, ⟨fun e => by omega, fun ⟨j, c, e⟩ => by subst e; cases h⟩, ⟨fun e => by omega, fun ⟨a, b, e⟩ => by subst e; cases h⟩⟩
  · exact ⟨-2, by rw [tm_db_fun]; rfl, ⟨fun _ => ⟨j, a, rfl⟩, fun _ => rfl⟩, ⟨fun e => by omega, fun ⟨a, b, e⟩ => by cases e⟩⟩
  · exact ⟨-1, by rw [tm_db_app]; rfl, ⟨fun e => by omega, fun ⟨j, c, e⟩ => by cases e⟩, ⟨fun _ => ⟨a, b, rfl⟩, fun _ => rfl⟩⟩
theorem tm_fl_one {p q : Nat} {g : Int → Nat → List Int} (hg : ∀ x c, (g x c).length = 1) (L : List Int) : ∀ s, (tm_fl p q g L s).length = L.length := by
  induction L with
  | nil => intro s; rfl
  | cons x L ih =>
    intro s
    rw [tm_fl_cons, List.length_append, hg, ih, List.length_cons, Nat.add_comm]
/-- binding, filling, by rows -/
theorem tm_bind_row {a : Std.Format} (hok : tm_ok a) {n : Nat} (hn : n < 100) : (-2 :: tm_fl 0 1 (tm_gb (n : Int)) (tm_db a []) ([], 0)) = tm_db (.tag 5000 (tm_sub n (lfm (-5001)) a)) [] ∧ tm_sc (.tag 5000 (tm_sub n (lfm (-5001)) a)) [] := by
  obtain ⟨h1, h2, h3, h4⟩ := hok
  have hz : 5000 ∉ tm_fn a := fun hm => by
    have := tm_cn_fn a 0 h2 5000 hm
    have := tm_nf_sz a
    omega
  refine ⟨?_, ?_⟩
  · rw [tm_db_fun]
    exact congrArg (List.cons (-2)) (tm_close (n := (n : Int)) (by omega) (by omega) 5000 a [] [] (by show 0 + tm_dp a ≤ 151; omega) h1 (by simp) hz)
  · show tm_sc (tm_sub n (lfm (-5001)) a) [5000]
    refine tm_sub_sc n (lfm (-5001)) [5000] ?_ [] (fun v hv => by cases hv) a [] h1
    exact Or.inr ⟨by decide, by decide⟩
theorem tm_open_row {j : Nat} {c b : Std.Format} (hc : tm_ok (.tag j c)) (hb : tm_ok b) : pt_fill ((tm_db (.tag j c) []).drop 1) (tm_db b []) ([], 0) = tm_db (tm_sub (-1 - (j : Int)) b c) [] ∧ tm_sc (tm_sub (-1 - (j : Int)) b c) [] := by
  obtain ⟨h1, h2, h3, h4⟩ := hc
  obtain ⟨b1, b2, b3, b4⟩ := hb
  have hj : j = 0 := h2.1
  have hcn : tm_cn c 1 := by have := h2.2; exact this
  rw [tm_dp_f] at h4
  refine ⟨?_, ?_⟩
  · rw [tm_db_fun]
    show tm_fl 0 1 (tm_gf (fun k => tm_fl 0 1 (tm_gr k) (tm_db b []) ([], 0))) (tm_db c [j]) ([], 0) = _
    have := tm_fill (fun k => tm_fl 0 1 (tm_gr k) (tm_db b []) ([], 0)) b j [] (fun F hF => ?_) c [] [] (by show 0 + _ ≤ 151; omega) h1 (by simp) (by simp) (fun n hn => ⟨fun e => ?_, by simp⟩)
    · exact this
    · exact tm_raise F.length b F [] rfl (by simp) [] [] (by show 0 + _ ≤ 151; omega) b1
    · have := tm_cn_fn c 1 hcn n hn
      omega
  · refine tm_sub_sc (-1 - (j : Int)) b [] b1 [j] (fun v hv => Or.inr ?_) c [] h1
    have : v = j := by simpa using hv
    rw [this]
section KB3
variable {l : Launch} {n0 : Nat} {D : va_G} {K : Nat → ClassId} {w : mp_W} {f : Nat → Nat} {mi bc : Nat} {σ : Nat → Std.Format} {out : List Int}
set_option maxRecDepth 100000 in
set_option maxHeartbeats 1000000 in
theorem kB_bind (hl0 : l.stackTraces = false) (h : iv_B K w f mi σ bc out) (to a n : Int32) : ct_X l n0 D K yB_bind (Cond.code yB_bind cB_bind 6 (some .int)) 9 240 5 2024 [.ref (f 0), .int to, .int a, .int n] w (po_B K w f bc out (op_bind σ to a n)) (th_B K w f bc out ex_1 (op_bind σ to a n)) := by
  have h0 := h.2.1
  obtain ⟨M, hS⟩ := h.S
  refine ct_goX (own := nm_B) (by decide) rfl (Nat.le_of_ble_eq_true rfl) ?_
  intro p e s m below meth c ls hE hI hr hk hout hl
  have hx := hE.1.1.1
  have hb := hE.1.1.2.1
  have hl : lv_has ls 6 [(0, .ref (f 0)), (1, .int to), (2, .int a), (3, .int n)] := hl
  refine lv_aload_n hx hb dB_bind_0 rfl (lv_at hl 0 rfl) ?_
  refine lv_iload_n hx hb dB_bind_1 rfl (lv_at hl 1 rfl) ?_
  refine ct_VX (n := 1) hE hI (kB_register hl0 h to) h0 rfl gm_B32 gi_B_register gs_B_B_register gz_B gc_B_register (by decide +kernel) ⟨Nat.le_of_ble_eq_true rfl, Nat.le_of_ble_eq_true rfl⟩ rfl hl.1 rfl (Nat.le_of_ble_eq_true rfl) dB_bind_2 ⟨Nat.le_of_ble_eq_true rfl, Nat.le_of_ble_eq_true rfl⟩ (fun v w1 H locs hq hI => ?_) (fun E q ce w1 H locs ht hI hq hv hcl => ?_)
  · obtain ⟨hw, t, hrt, rfl⟩ := hq
    subst w1
    obtain ⟨ht16, -⟩ := rk_some hrt
    show W _ _ _ _ _ _ _ _ _ _ _ _ _ _ _ (F0 _ _ _ [.ref _])
    refine lv_astore hx hb dB_bind_5 hl (by decide) rfl (fun ls hl => ?_)
    refine lv_aload_n hx hb dB_bind_7 rfl (lv_at hl 1 rfl) ?_
    refine lv_iload_n hx hb dB_bind_8 rfl (lv_at hl 3 rfl) ?_
    refine ct_VX (n := 1) hE hI (kB_register hl0 h a) h0 rfl gm_B32 gi_B_register gs_B_B_register gz_B gc_B_register (by decide +kernel) ⟨Nat.le_of_ble_eq_true rfl, Nat.le_of_ble_eq_true rfl⟩ rfl hl.1 rfl (Nat.le_of_ble_eq_true rfl) dB_bind_9 ⟨Nat.le_of_ble_eq_true rfl, Nat.le_of_ble_eq_true rfl⟩ (fun v w1 H locs hq hI => ?_) (fun E q ce w1 H locs ht hI hq hv hcl => ?_)
    · obtain ⟨hw, x, hrx, rfl⟩ := hq
      subst w1
      obtain ⟨hx16, -⟩ := rk_some hrx
      show W _ _ _ _ _ _ _ _ _ _ _ _ _ _ _ (F0 _ _ _ [.ref _])
      refine lv_astore hx hb dB_bind_12 hl (by decide) rfl (fun ls hl => ?_)
      refine lv_iload_n hx hb dB_bind_14 rfl (lv_at hl 5 rfl) ?_
      refine ct_StX (n := 1) hE hI (kB_checkFree hl0 n) gm_B36 gt_B_checkFree gz_B gc_B_checkFree (by decide +kernel) ⟨Nat.le_of_ble_eq_true rfl, Nat.le_of_ble_eq_true rfl⟩ rfl hl.1 rfl (Nat.le_of_ble_eq_true rfl) dB_bind_15 ⟨Nat.le_of_ble_eq_true rfl, Nat.le_of_ble_eq_true rfl⟩ (fun v w1 H locs hq hI => ?_) (fun E q ce w1 H locs ht hI hq hv hcl => ?_)
      · obtain ⟨hw, rfl, k, hfk⟩ := hq
        subst w1
        obtain ⟨hk100, hnk⟩ := fk_some hfk
        obtain ⟨cx, hRx⟩ := h.reg hx16
        have hm := h.2.2.2.1.1
        obtain ⟨erow, hsc⟩ := tm_bind_row (h.ok hx16) hk100
        have er : op_bind σ to a n = ck 2 σ t (.tag 5000 (tm_sub k (lfm (-5001)) (σ x))) := by unfold op_bind; rw [hrt, hrx, hfk]
        have hn' : n = ci_i (k : Int) := by rw [hnk, ci_nat]
        rw [hn'] at hl
        show W _ _ _ _ _ _ _ _ _ _ _ _ _ _ _ (F0 _ _ _ [])
        refine lv_aload hx hb dB_bind_18 (lv_at hl 1 rfl) ?_
        refine lv_aload_n hx hb dB_bind_20 rfl (lv_at hl 2 rfl) ?_
        refine mp_get hE.1 hI h0 rfl gx_B 1 (by decide) (List.mem_cons_of_mem _ gf_B21) rfl dB_bind_21 ?_
        refine lv_aload hx hb dB_bind_24 (lv_at hl 0 rfl) ?_
        refine lv_iload_n hx hb dB_bind_26 rfl (lv_at hl 5 rfl) ?_
        refine ct_VX (n := 2) hE hI (kS_close hl0 h.1 hm hS (i := x) (n := (k : Int)) (by omega) (by omega) hRx (by omega) (by omega) (by rw [erow]; intro y hy; have := tm_db_bd _ _ hsc y hy; rw [← tm_db_len _ [], ← erow] at this; have hl1 := hRx.2.1; have hl2 := hRx.2.2.1; rw [List.length_cons, tm_fl_one (fun _ _ => rfl)] at this; simp at this; omega)) hS.1 rfl gm_B50 gi_S_close gs_S_S_close gz_S gc_S_close (by decide +kernel) ⟨Nat.le_of_ble_eq_true rfl, Nat.le_of_ble_eq_true rfl⟩ rfl hl.1 rfl (Nat.le_of_ble_eq_true rfl) dB_bind_27 ⟨Nat.le_of_ble_eq_true rfl, Nat.le_of_ble_eq_true rfl⟩ (fun v w1 H locs hq hI => ?_) (fun E q ce w1 H locs ht hI hq hv hcl => ?_)
        · obtain ⟨rfl, hnb, ho, hS1⟩ := hq
          rw [erow] at hnb hS1
          rw [tm_bad] at hnb
          show W _ _ _ _ _ _ _ _ _ _ _ _ _ _ _ (F0 _ _ _ [.ref _, .ref _])
          cases hu : tm_chk (.tag 5000 (tm_sub k (lfm (-5001)) (σ x))) with
          | none => exact absurd hu hnb
          | some u =>
            obtain ⟨hoG, h1, hRm, hok⟩ := h.made hsc hu ho hS1
            obtain ⟨ct, hRt⟩ := h1.reg ht16
            obtain ⟨_, kT, -⟩ := hRt.out
            refine ct_V (n := 1) hE hI (kT_become hRt.V hRm) kT rfl gm_B46 gi_T_become gs_T_T_become gz_T gc_T_become (by decide +kernel) ⟨Nat.le_of_ble_eq_true rfl, Nat.le_of_ble_eq_true rfl⟩ rfl hl.1 rfl (Nat.le_of_ble_eq_true rfl) dB_bind_30 ⟨Nat.le_of_ble_eq_true rfl, Nat.le_of_ble_eq_true rfl⟩ (fun v w2 H locs hq hI => ?_)
            obtain ⟨rfl, ar', cap', har, -, ho2, hR2⟩ := hq
            show W _ _ _ _ _ _ _ _ _ _ _ _ _ _ _ (F0 _ _ _ [.int _])
            rw [tm_db_len]
            refine vx_ret (ct_iret hE hI hr hk ⟨by rw [er, ck_some hu], by rw [er, ck_some hu], ?_⟩ (by decide) (by decide) dB_bind_33)
            rw [er, ck_some hu]
            exact bx.set h hoG h1 ht16 har ho2 hR2 hok
        · obtain ⟨hE1, hbd, ho, M2, hS2⟩ := ht
          rw [erow, tm_bad] at hbd
          exact ct_out hI hout hk hq hv hcl ⟨by rw [er, ck_none hbd]; simp, by rw [er, ck_none hbd]; exact hE1, by rw [er, ck_none hbd]; exact bx.ws h (fp_G_S hm ho) (pt_G.of h.1 h.2.2.2.1 ho hS2)⟩ (by decide) (by decide)
      · obtain ⟨hw, hE1, hfk⟩ := ht
        subst w1
        have er : op_bind σ to a n = (1, 0, σ) := by unfold op_bind; rw [hrt, hrx, hfk]
        exact ct_out hI hout hk hq hv hcl ⟨by rw [er]; simp, by rw [er]; exact hE1, by rw [er]; exact bx.rf h⟩ (Nat.le_of_ble_eq_true rfl) (Nat.le_of_ble_eq_true rfl)
    · obtain ⟨hw, hE1, hrx⟩ := ht
      subst w1
      have er : op_bind σ to a n = (1, 0, σ) := by unfold op_bind; rw [hrt, hrx]
      exact ct_out hI hout hk hq hv hcl ⟨by rw [er]; simp, by rw [er]; exact hE1, by rw [er]; exact bx.rf h⟩ (Nat.le_of_ble_eq_true rfl) (Nat.le_of_ble_eq_true rfl)
  · obtain ⟨hw, hE1, hrt⟩ := ht
    subst w1
    have er : op_bind σ to a n = (1, 0, σ) := by unfold op_bind; rw [hrt]
    exact ct_out hI hout hk hq hv hcl ⟨by rw [er]; simp, by rw [er]; exact hE1, by rw [er]; exact bx.rf h⟩ (Nat.le_of_ble_eq_true rfl) (Nat.le_of_ble_eq_true rfl)
set_option maxRecDepth 100000 in
set_option maxHeartbeats 1000000 in
theorem kB_put (hl0 : l.stackTraces = false) (h : iv_B K w f mi σ bc out) (to a n b : Int32) : ct_X l n0 D K yB_put (Cond.code yB_put cB_put 7 (some .int)) 9 240 6 2030 [.ref (f 0), .int to, .int a, .int n, .int b] w (po_B K w f bc out (op_put σ to a n b)) (th_B K w f bc out ex_1 (op_put σ to a n b)) := by
  have h0 := h.2.1
  obtain ⟨M, hS⟩ := h.S
  refine ct_goX (own := nm_B) (by decide) rfl (Nat.le_of_ble_eq_true rfl) ?_
  intro p e s m below meth c ls hE hI hr hk hout hl
  have hx := hE.1.1.1
  have hb := hE.1.1.2.1
  have hl : lv_has ls 7 [(0, .ref (f 0)), (1, .int to), (2, .int a), (3, .int n), (4, .int b)] := hl
  refine lv_aload_n hx hb dB_put_0 rfl (lv_at hl 0 rfl) ?_
  refine lv_iload_n hx hb dB_put_1 rfl (lv_at hl 1 rfl) ?_
  refine ct_VX (n := 1) hE hI (kB_register hl0 h to) h0 rfl gm_B32 gi_B_register gs_B_B_register gz_B gc_B_register (by decide +kernel) ⟨Nat.le_of_ble_eq_true rfl, Nat.le_of_ble_eq_true rfl⟩ rfl hl.1 rfl (Nat.le_of_ble_eq_true rfl) dB_put_2 ⟨Nat.le_of_ble_eq_true rfl, Nat.le_of_ble_eq_true rfl⟩ (fun v w1 H locs hq hI => ?_) (fun E q ce w1 H locs ht hI hq hv hcl => ?_)
  · obtain ⟨hw, t, hrt, rfl⟩ := hq
    subst w1
    obtain ⟨ht16, -⟩ := rk_some hrt
    show W _ _ _ _ _ _ _ _ _ _ _ _ _ _ _ (F0 _ _ _ [.ref _])
    refine lv_astore hx hb dB_put_5 hl (by decide) rfl (fun ls hl => ?_)
    refine lv_aload_n hx hb dB_put_7 rfl (lv_at hl 1 rfl) ?_
    refine lv_iload_n hx hb dB_put_8 rfl (lv_at hl 3 rfl) ?_
    refine ct_VX (n := 1) hE hI (kB_register hl0 h a) h0 rfl gm_B32 gi_B_register gs_B_B_register gz_B gc_B_register (by decide +kernel) ⟨Nat.le_of_ble_eq_true rfl, Nat.le_of_ble_eq_true rfl⟩ rfl hl.1 rfl (Nat.le_of_ble_eq_true rfl) dB_put_9 ⟨Nat.le_of_ble_eq_true rfl, Nat.le_of_ble_eq_true rfl⟩ (fun v w1 H locs hq hI => ?_) (fun E q ce w1 H locs ht hI hq hv hcl => ?_)
    · obtain ⟨hw, x, hrx, rfl⟩ := hq
      subst w1
      obtain ⟨hx16, -⟩ := rk_some hrx
      show W _ _ _ _ _ _ _ _ _ _ _ _ _ _ _ (F0 _ _ _ [.ref _])
      refine lv_astore hx hb dB_put_12 hl (by decide) rfl (fun ls hl => ?_)
      refine lv_iload_n hx hb dB_put_14 rfl (lv_at hl 5 rfl) ?_
      refine ct_StX (n := 1) hE hI (kB_checkFree hl0 n) gm_B36 gt_B_checkFree gz_B gc_B_checkFree (by decide +kernel) ⟨Nat.le_of_ble_eq_true rfl, Nat.le_of_ble_eq_true rfl⟩ rfl hl.1 rfl (Nat.le_of_ble_eq_true rfl) dB_put_15 ⟨Nat.le_of_ble_eq_true rfl, Nat.le_of_ble_eq_true rfl⟩ (fun v w1 H locs hq hI => ?_) (fun E q ce w1 H locs ht hI hq hv hcl => ?_)
      · obtain ⟨hw, rfl, k, hfk⟩ := hq
        subst w1
        obtain ⟨hk100, hnk⟩ := fk_some hfk
        have hn' : n = ci_i (k : Int) := by rw [hnk, ci_nat]
        rw [hn'] at hl
        show W _ _ _ _ _ _ _ _ _ _ _ _ _ _ _ (F0 _ _ _ [])
        refine lv_aload hx hb dB_put_18 (lv_at hl 1 rfl) ?_
        refine lv_aload_n hx hb dB_put_20 rfl (lv_at hl 2 rfl) ?_
        refine mp_get hE.1 hI h0 rfl gx_B 1 (by decide) (List.mem_cons_of_mem _ gf_B21) rfl dB_put_21 ?_
        refine lv_aload hx hb dB_put_24 (lv_at hl 0 rfl) ?_
        refine lv_iload_n hx hb dB_put_26 rfl (lv_at hl 5 rfl) ?_
        refine lv_aload_n hx hb dB_put_27 rfl (lv_at hl 2 rfl) ?_
        refine lv_iload hx hb dB_put_28 (lv_at hl 6 rfl) ?_
        refine ct_VX (n := 1) hE hI (kB_register hl0 h b) h0 rfl gm_B32 gi_B_register gs_B_B_register gz_B gc_B_register (by decide +kernel) ⟨Nat.le_of_ble_eq_true rfl, Nat.le_of_ble_eq_true rfl⟩ rfl hl.1 rfl (Nat.le_of_ble_eq_true rfl) dB_put_30 ⟨Nat.le_of_ble_eq_true rfl, Nat.le_of_ble_eq_true rfl⟩ (fun v w1 H locs hq hI => ?_) (fun E q ce w1 H locs ht hI hq hv hcl => ?_)
        · obtain ⟨hw, y, hry, rfl⟩ := hq
          subst w1
          obtain ⟨hy16, -⟩ := rk_some hry
          show W _ _ _ _ _ _ _ _ _ _ _ _ _ _ _ (F0 _ _ _ [.ref _, .int _, .ref _, .ref _, .ref _])
          obtain ⟨cx, hRx⟩ := h.reg hx16
          obtain ⟨cy, hRy⟩ := h.reg hy16
          have hm := h.2.2.2.1.1
          have okx := h.ok hx16
          have oky := h.ok hy16
          have erow := tm_putdb (n := (k : Int)) (by omega) (by omega) (σ y) oky.1 (σ x) [] okx.1
          have hsc : tm_sc (tm_sub k (σ y) (σ x)) [] := tm_sub_sc k (σ y) [] oky.1 [] (fun v hv => by cases hv) (σ x) [] okx.1
          have er : op_put σ to a n b = ck 2 σ t (tm_sub k (σ y) (σ x)) := by unfold op_put; rw [hrt, hrx, hfk, hry]
          refine ct_VX (n := 3) hE hI (kS_replace hl0 h.1 hm hS (i := x) (j := y) (n := (k : Int)) (by omega) (by omega) (by omega) (by omega) hRx hRy (by omega) (by omega) (by intro z hz; rw [List.mem_flatMap] at hz; obtain ⟨r, hr1, hr2⟩ := hz; split at hr2; exact tm_db_b oky.1 oky.2.2.1 z hr2; simp at hr2; rw [hr2]; exact tm_db_b okx.1 okx.2.2.1 r hr1)) hS.1 rfl gm_B54 gi_S_replace gs_S_S_replace gz_S gc_S_replace (by decide +kernel) ⟨Nat.le_of_ble_eq_true rfl, Nat.le_of_ble_eq_true rfl⟩ rfl hl.1 rfl (Nat.le_of_ble_eq_true rfl) dB_put_33 ⟨Nat.le_of_ble_eq_true rfl, Nat.le_of_ble_eq_true rfl⟩ (fun v w1 H locs hq hI => ?_) (fun E q ce w1 H locs ht hI hq hv hcl => ?_)
          · obtain ⟨rfl, hnb, ho, hS1⟩ := hq
            rw [← erow] at hnb hS1
            rw [tm_bad] at hnb
            show W _ _ _ _ _ _ _ _ _ _ _ _ _ _ _ (F0 _ _ _ [.ref _, .ref _])
            cases hu : tm_chk (tm_sub k (σ y) (σ x)) with
            | none => exact absurd hu hnb
            | some u =>
              obtain ⟨hoG, h1, hRm, hok⟩ := h.made hsc hu ho hS1
              obtain ⟨ct, hRt⟩ := h1.reg ht16
              obtain ⟨_, kT, -⟩ := hRt.out
              refine ct_V (n := 1) hE hI (kT_become hRt.V hRm) kT rfl gm_B46 gi_T_become gs_T_T_become gz_T gc_T_become (by decide +kernel) ⟨Nat.le_of_ble_eq_true rfl, Nat.le_of_ble_eq_true rfl⟩ rfl hl.1 rfl (Nat.le_of_ble_eq_true rfl) dB_put_36 ⟨Nat.le_of_ble_eq_true rfl, Nat.le_of_ble_eq_true rfl⟩ (fun v w2 H locs hq hI => ?_)
              obtain ⟨rfl, ar', cap', har, -, ho2, hR2⟩ := hq
              show W _ _ _ _ _ _ _ _ _ _ _ _ _ _ _ (F0 _ _ _ [.int _])
              rw [tm_db_len]
              refine vx_ret (ct_iret hE hI hr hk ⟨by rw [er, ck_some hu], by rw [er, ck_some hu], ?_⟩ (by decide) (by decide) dB_put_39)
              rw [er, ck_some hu]
              exact bx.set h hoG h1 ht16 har ho2 hR2 hok
          · obtain ⟨hE1, hbd, ho, M2, hS2⟩ := ht
            rw [← erow, tm_bad] at hbd
            exact ct_out hI hout hk hq hv hcl ⟨by rw [er, ck_none hbd]; simp, by rw [er, ck_none hbd]; exact hE1, by rw [er, ck_none hbd]; exact bx.ws h (fp_G_S hm ho) (pt_G.of h.1 h.2.2.2.1 ho hS2)⟩ (by decide) (by decide)
        · obtain ⟨hw, hE1, hry⟩ := ht
          subst w1
          have er : op_put σ to a n b = (1, 0, σ) := by unfold op_put; rw [hrt, hrx, hfk, hry]
          exact ct_out hI hout hk hq hv hcl ⟨by rw [er]; simp, by rw [er]; exact hE1, by rw [er]; exact bx.rf h⟩ (Nat.le_of_ble_eq_true rfl) (Nat.le_of_ble_eq_true rfl)
      · obtain ⟨hw, hE1, hfk⟩ := ht
        subst w1
        have er : op_put σ to a n b = (1, 0, σ) := by unfold op_put; rw [hrt, hrx, hfk]
        exact ct_out hI hout hk hq hv hcl ⟨by rw [er]; simp, by rw [er]; exact hE1, by rw [er]; exact bx.rf h⟩ (Nat.le_of_ble_eq_true rfl) (Nat.le_of_ble_eq_true rfl)
    · obtain ⟨hw, hE1, hrx⟩ := ht
      subst w1
      have er : op_put σ to a n b = (1, 0, σ) := by unfold op_put; rw [hrt, hrx]
      exact ct_out hI hout hk hq hv hcl ⟨by rw [er]; simp, by rw [er]; exact hE1, by rw [er]; exact bx.rf h⟩ (Nat.le_of_ble_eq_true rfl) (Nat.le_of_ble_eq_true rfl)
  · obtain ⟨hw, hE1, hrt⟩ := ht
    subst w1
    have er : op_put σ to a n b = (1, 0, σ) := by unfold op_put; rw [hrt]
    exact ct_out hI hout hk hq hv hcl ⟨by rw [er]; simp, by rw [er]; exact hE1, by rw [er]; exact bx.rf h⟩ (Nat.le_of_ble_eq_true rfl) (Nat.le_of_ble_eq_true rfl)
set_option maxRecDepth 100000 in
set_option maxHeartbeats 1000000 in
theorem kB_open (hl0 : l.stackTraces = false) (h : iv_B K w f mi σ bc out) (to a b : Int32) : ct_X l n0 D K yB_open (Cond.code yB_open cB_open 7 (some .int)) 9 240 5 2024 [.ref (f 0), .int to, .int a, .int b] w (po_B K w f bc out (op_open σ to a b)) (th_B K w f bc out ex_2 (op_open σ to a b)) := by
  have h0 := h.2.1
  obtain ⟨M, hS⟩ := h.S
  refine ct_goX (own := nm_B) (by decide) rfl (Nat.le_of_ble_eq_true rfl) ?_
  intro p e s m below meth c ls hE hI hr hk hout hl
  have hx := hE.1.1.1
  have hb := hE.1.1.2.1
  have hl : lv_has ls 7 [(0, .ref (f 0)), (1, .int to), (2, .int a), (3, .int b)] := hl
  refine lv_aload_n hx hb dB_open_0 rfl (lv_at hl 0 rfl) ?_
  refine lv_iload_n hx hb dB_open_1 rfl (lv_at hl 1 rfl) ?_
  refine ct_VX (n := 1) hE hI (kB_register hl0 h to) h0 rfl gm_B32 gi_B_register gs_B_B_register gz_B gc_B_register (by decide +kernel) ⟨Nat.le_of_ble_eq_true rfl, Nat.le_of_ble_eq_true rfl⟩ rfl hl.1 rfl (Nat.le_of_ble_eq_true rfl) dB_open_2 ⟨Nat.le_of_ble_eq_true rfl, Nat.le_of_ble_eq_true rfl⟩ (fun v w1 H locs hq hI => ?_) (fun E q ce w1 H locs ht hI hq hv hcl => ?_)
  · obtain ⟨hw, t, hrt, rfl⟩ := hq
    subst w1
    obtain ⟨ht16, -⟩ := rk_some hrt
    show W _ _ _ _ _ _ _ _ _ _ _ _ _ _ _ (F0 _ _ _ [.ref _])
    refine lv_astore hx hb dB_open_5 hl (by decide) rfl (fun ls hl => ?_)
    refine lv_aload_n hx hb dB_open_7 rfl (lv_at hl 1 rfl) ?_
    refine lv_iload_n hx hb dB_open_8 rfl (lv_at hl 3 rfl) ?_
    refine ct_VX (n := 1) hE hI (kB_register hl0 h a) h0 rfl gm_B32 gi_B_register gs_B_B_register gz_B gc_B_register (by decide +kernel) ⟨Nat.le_of_ble_eq_true rfl, Nat.le_of_ble_eq_true rfl⟩ rfl hl.1 rfl (Nat.le_of_ble_eq_true rfl) dB_open_9 ⟨Nat.le_of_ble_eq_true rfl, Nat.le_of_ble_eq_true rfl⟩ (fun v w1 H locs hq hI => ?_) (fun E q ce w1 H locs ht hI hq hv hcl => ?_)
    · obtain ⟨hw, x, hrx, rfl⟩ := hq
      subst w1
      obtain ⟨hx16, -⟩ := rk_some hrx
      show W _ _ _ _ _ _ _ _ _ _ _ _ _ _ _ (F0 _ _ _ [.ref _])
      refine lv_astore hx hb dB_open_12 hl (by decide) rfl (fun ls hl => ?_)
      refine lv_aload_n hx hb dB_open_14 rfl (lv_at hl 2 rfl) ?_
      refine lv_iload_n hx hb dB_open_15 rfl (lv_at hl 5 rfl) ?_
      refine ct_VX (n := 1) hE hI (kB_register hl0 h b) h0 rfl gm_B32 gi_B_register gs_B_B_register gz_B gc_B_register (by decide +kernel) ⟨Nat.le_of_ble_eq_true rfl, Nat.le_of_ble_eq_true rfl⟩ rfl hl.1 rfl (Nat.le_of_ble_eq_true rfl) dB_open_16 ⟨Nat.le_of_ble_eq_true rfl, Nat.le_of_ble_eq_true rfl⟩ (fun v w1 H locs hq hI => ?_) (fun E q ce w1 H locs ht hI hq hv hcl => ?_)
      · obtain ⟨hw, y, hry, rfl⟩ := hq
        subst w1
        obtain ⟨hy16, -⟩ := rk_some hry
        show W _ _ _ _ _ _ _ _ _ _ _ _ _ _ _ (F0 _ _ _ [.ref _])
        obtain ⟨cx, hRx⟩ := h.reg hx16
        obtain ⟨cy, hRy⟩ := h.reg hy16
        have hm := h.2.2.2.1.1
        have okx := h.ok hx16
        have oky := h.ok hy16
        obtain ⟨g, kT, kA, kf, kc, kc2, kx⟩ := hRx.out
        obtain ⟨x0, e0, e2, -⟩ := tm_hd (σ x)
        have hb0 := kx x0 (List.mem_of_getElem? e0)
        have hcx : 1 ≤ cx := Nat.le_trans (by rw [tm_db_len]; exact tm_sz_pos _) kc
        refine lv_astore hx hb dB_open_19 hl (by decide) rfl (fun ls hl => ?_)
        refine lv_aload hx hb dB_open_21 (lv_at hl 1 rfl) ?_
        refine ct_V (n := 0) hE hI (kT_first kT kA (by omega) (by omega)) kT rfl gm_B58 gi_T_first gs_T_T_first gz_T gc_T_first (by decide +kernel) ⟨Nat.le_of_ble_eq_true rfl, Nat.le_of_ble_eq_true rfl⟩ rfl hl.1 rfl (Nat.le_of_ble_eq_true rfl) dB_open_23 ⟨Nat.le_of_ble_eq_true rfl, Nat.le_of_ble_eq_true rfl⟩ (fun v w1 H locs hq hI => ?_)
        obtain ⟨rfl, hw⟩ := hq
        subst w1
        show W _ _ _ _ _ _ _ _ _ _ _ _ _ _ _ (F0 _ _ _ [.int _])
        rw [kf 0 x0 e0]
        refine lv_bipush (v := ci_i (-2)) hx hb dB_open_26 (by decide) ?_
        refine lv_icmp_eq (tgt := 41) hx hb dB_open_28 (by decide) (fun hq => ?_) (fun hq => ?_)
        · rw [ci_eq (by omega) (by omega)] at hq
          obtain ⟨j, cc, ex⟩ := e2.mp hq
          obtain ⟨erow, hsc⟩ := tm_open_row (j := j) (c := cc) (b := σ y) (by rw [← ex]; exact okx) oky
          rw [← ex] at erow
          have er := op_open_f hrt hrx hry ex
          refine lv_aload hx hb dB_open_41 (lv_at hl 2 rfl) ?_
          refine lv_aload_n hx hb dB_open_43 rfl (lv_at hl 3 rfl) ?_
          refine mp_get hE.1 hI h0 rfl gx_B 1 (by decide) (List.mem_cons_of_mem _ gf_B21) rfl dB_open_44 ?_
          refine lv_aload hx hb dB_open_47 (lv_at hl 1 rfl) ?_
          refine lv_aload hx hb dB_open_49 (lv_at hl 0 rfl) ?_
          refine ct_VX (n := 2) hE hI (kS_fill hl0 h.1 hm hS (i := x) (j := y) (by omega) (by omega) (by omega) (by omega) hRx hRy (by rw [tm_db_len]; exact tm_sz_pos _) (by rw [erow]; intro hz; rw [tm_db_len] at hz; exact tm_db_b hsc hz)) hS.1 rfl gm_B69 gi_S_fill gs_S_S_fill gz_S gc_S_fill (by decide +kernel) ⟨Nat.le_of_ble_eq_true rfl, Nat.le_of_ble_eq_true rfl⟩ rfl hl.1 rfl (Nat.le_of_ble_eq_true rfl) dB_open_51 ⟨Nat.le_of_ble_eq_true rfl, Nat.le_of_ble_eq_true rfl⟩ (fun v w1 H locs hq hI => ?_) (fun E q ce w1 H locs ht hI hq hv hcl => ?_)
          · obtain ⟨rfl, hnb, ho, hS1⟩ := hq
            rw [erow] at hnb hS1
            rw [tm_bad] at hnb
            show W _ _ _ _ _ _ _ _ _ _ _ _ _ _ _ (F0 _ _ _ [.ref _, .ref _])
            cases hu : tm_chk (tm_sub (-1 - (j : Int)) (σ y) cc) with
            | none => exact absurd hu hnb
            | some u =>
              obtain ⟨hoG, h1, hRm, hok⟩ := h.made hsc hu ho hS1
              obtain ⟨ct, hRt⟩ := h1.reg ht16
              obtain ⟨_, kT, -⟩ := hRt.out
              refine ct_V (n := 1) hE hI (kT_become hRt.V hRm) kT rfl gm_B46 gi_T_become gs_T_T_become gz_T gc_T_become (by decide +kernel) ⟨Nat.le_of_ble_eq_true rfl, Nat.le_of_ble_eq_true rfl⟩ rfl hl.1 rfl (Nat.le_of_ble_eq_true rfl) dB_open_54 ⟨Nat.le_of_ble_eq_true rfl, Nat.le_of_ble_eq_true rfl⟩ (fun v w2 H locs hq hI => ?_)
              obtain ⟨rfl, ar', cap', har, -, ho2, hR2⟩ := hq
              show W _ _ _ _ _ _ _ _ _ _ _ _ _ _ _ (F0 _ _ _ [.int _])
              rw [tm_db_len]
              refine vx_ret (ct_iret hE hI hr hk ⟨by rw [er, ck_some hu], by rw [er, ck_some hu], ?_⟩ (by decide) (by decide) dB_open_57)
              rw [er, ck_some hu]
              exact bx.set h hoG h1 ht16 har ho2 hR2 hok
          · obtain ⟨hE1, hbd, ho, M2, hS2⟩ := ht
            rw [erow, tm_bad] at hbd
            exact ct_out hI hout hk hq hv hcl ⟨by rw [er, ck_none hbd]; simp, by rw [er, ck_none hbd]; exact hE1, by rw [er, ck_none hbd]; exact bx.ws h (fp_G_S hm ho) (pt_G.of h.1 h.2.2.2.1 ho hS2)⟩ (by decide) (by decide)
        · rw [ci_eq (by omega) (by omega)] at hq
          have er := op_open_n hrt hrx hry (fun j c e => hq (e2.mpr ⟨j, c, e⟩))
          exact ct_throw hE hl0 hI (cls := "java/lang/IllegalArgumentException") (text := "no FUNCTION") (names := ["java/lang/RuntimeException", "java/lang/Exception"]) (ic := 66) (by decide +kernel) (by decide +kernel) gk_B62 gz_Jg (by decide +kernel) oa_B62_66 og_B62_66 hl.1 dB_open_31 dB_open_34 dB_open_35 dB_open_37 dB_open_40 hout (Nat.le_of_ble_eq_true rfl) (Nat.le_of_ble_eq_true rfl) (Nat.le_of_ble_eq_true rfl) (Nat.le_of_ble_eq_true rfl) hk ⟨by rw [er]; simp, by rw [er]; rfl, by rw [er]; exact bx.rf h⟩ (Nat.le_of_ble_eq_true rfl) (Nat.le_of_ble_eq_true rfl)
      · obtain ⟨hw, hE1, hry⟩ := ht
        subst w1
        have er : op_open σ to a b = (1, 0, σ) := by unfold op_open; rw [hrt, hrx, hry]
        exact ct_out hI hout hk hq hv hcl ⟨by rw [er]; simp, by rw [er]; exact hE1, by rw [er]; exact bx.rf h⟩ (Nat.le_of_ble_eq_true rfl) (Nat.le_of_ble_eq_true rfl)
    · obtain ⟨hw, hE1, hrx⟩ := ht
      subst w1
      have er : op_open σ to a b = (1, 0, σ) := by unfold op_open; rw [hrt, hrx]
      exact ct_out hI hout hk hq hv hcl ⟨by rw [er]; simp, by rw [er]; exact hE1, by rw [er]; exact bx.rf h⟩ (Nat.le_of_ble_eq_true rfl) (Nat.le_of_ble_eq_true rfl)
  · obtain ⟨hw, hE1, hrt⟩ := ht
    subst w1
    have er : op_open σ to a b = (1, 0, σ) := by unfold op_open; rw [hrt]
    exact ct_out hI hout hk hq hv hcl ⟨by rw [er]; simp, by rw [er]; exact hE1, by rw [er]; exact bx.rf h⟩ (Nat.le_of_ble_eq_true rfl) (Nat.le_of_ble_eq_true rfl)
end KB3
