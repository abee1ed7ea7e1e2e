/-! constructors: Workshop(), Text() -/
theorem mp_some {w : mp_W} {q : Nat} {x : va_E} (h : w q = some x) : ∀ y ∈ [q], w y ≠ none := by
  intro y hy
  have : y = q := by simpa using hy
  subst this
  rw [h]
  simp
section KC2
variable {l : Launch} {n0 : Nat} {D : va_G} {K : Nat → ClassId} {w : mp_W}
def mk_S (K : Nat → ClassId) (w w' : mp_W) (s : Nat) : Prop := ∃ t1 a1 t2 a2 k1 b1 k2 b2 k3 b3, fz [s] [t1, a1, t2, a2, k1, b1, k2, b2, k3, b3] w w' ∧ w' s = some (.inr (3, [.ref t1, .ref t2, .ref k1, .ref k2, .ref k3])) ∧ w' t1 = some (ob_T a1 1) ∧ w' a1 = some (ob_I K 2000 (fun _ => 0)) ∧ w' t2 = some (ob_T a2 1) ∧ w' a2 = some (ob_I K 2000 (fun _ => 0)) ∧ pt_W K w' k1 b1 1 1 ([], 0) ∧ pt_W K w' k2 b2 0 1 ([], 0) ∧ pt_W K w' k3 b3 0 1 ([], 0)
set_option maxRecDepth 100000 in
set_option maxHeartbeats 1000000 in
theorem kS_init {s0 : Nat} (hS : w s0 = some (.inr (3, [.null, .null, .null, .null, .null]))) : ct_M l n0 D K yS_init (Cond.code yS_init cS_init 1 none) 2 80 10 4469 [.ref s0] w (fun v w' => v = none ∧ mk_S K w w' s0) := by
  refine ct_go (own := nm_S) (by decide) rfl (Nat.le_of_ble_eq_true rfl) ?_
  intro p e s m below meth c ls hE hI hr hk hn hl
  have hx := hE.1.1.1
  have hb := hE.1.1.2.1
  have hl : lv_has ls 1 [(0, .ref s0)] := hl
  refine lv_aload_n hx hb dS_init_0 rfl (lv_at hl 0 rfl) ?_
  refine W.objInit hx hb hE.1.1.2.2.2.1 (ct_w hE gm_S3) (ct_w hE gi_O_init) (ct_w hE gc_O_init) rfl (by rw [hE.1.1.2.2.1]; exact hl.1) rfl dS_init_1 (Nat.le_of_ble_eq_true rfl) (Nat.le_of_ble_eq_true rfl) ?_
  show W _ _ _ _ _ _ _ _ _ _ _ _ _ _ _ (F0 _ _ _ [])
  have z0 : fz [s0] [] w w := fz.nil (mp_some hS)
  have e0 := hS
  refine lv_aload_n hx hb dS_init_4 rfl (lv_at hl 0 rfl) ?_
  refine mp_new (ci := 0) (fs := [.null, .int 0]) hE.1 hI rfl gx_T ty_T to_T (List.mem_cons_of_mem _ gk_S9) (List.mem_cons_of_mem _ gn_T) (List.mem_cons_of_mem _ gz_T) nd_T (Nat.le_of_ble_eq_true rfl) (Nat.le_of_ble_eq_true rfl) dS_init_5 (fun t1 H hq0 hI => ?_)
  obtain ⟨x1, hx1⟩ : ∃ z, mp_up w t1 (.inr (0, [.null, .int 0])) = z := ⟨_, rfl⟩
  have hI : mp_I D cl_all (mp_A w s.heap.size) s.heap x1 H [] := by rw [← hx1]; exact hI
  have zn : fz [s0] [t1] w x1 := by rw [← hx1]; exact fz.one (mp_some e0) hq0
  have ht : x1 t1 = some (.inr (0, [.null, .int 0])) := by rw [← hx1]; exact mp_up_self ..
  refine lv_dup hx hb dS_init_8 rfl ?_
  refine lv_sipush (v := nI 2000) hx hb dS_init_9 (by decide) ?_
  refine ct_In (n := 1) hE hI (kT_init (n := 2000) ht (by decide)) rfl gm_S11 gi_T_init gz_T gc_T_init (by decide +kernel) ⟨Nat.le_of_ble_eq_true rfl, Nat.le_of_ble_eq_true rfl⟩ rfl hl.1 rfl (Nat.le_of_ble_eq_true rfl) dS_init_12 ⟨Nat.le_of_ble_eq_true rfl, Nat.le_of_ble_eq_true rfl⟩ (fun v y1 H locs hq hI => ?_)
  obtain ⟨rfl, a1, zc, hc1, hc2⟩ := hq
  show W _ _ _ _ _ _ _ _ _ _ _ _ _ _ _ (F0 _ _ _ [.ref _, .ref _])
  have zd := zn.tr zc (fun q hq => Or.inr hq)
  have es : y1 s0 = some (.inr (3, [.null, .null, .null, .null, .null])) := by
    have h1 : x1 s0 = some (.inr (3, [.null, .null, .null, .null, .null])) := by rw [← hx1, mp_up_ne _ _ (fun z => by rw [← z, e0] at hq0; cases hq0)]; exact e0
    exact zc.kp _ _ h1 (by simp; intro z; rw [z, ht] at h1; cases h1)
  refine mp_put hE.1 hI es rfl gx_S ty_S to_S tn_S 0 (by decide) (List.mem_cons_of_mem _ gf_S14) rfl rfl rfl (Nat.le_of_ble_eq_true rfl) dS_init_15 (fun H locs hI => ?_)
  obtain ⟨w1, hw1⟩ : ∃ z, mp_up y1 s0 (.inr (3, [.ref t1, .null, .null, .null, .null])) = z := ⟨_, rfl⟩
  have hI : mp_I D cl_all (mp_A w s.heap.size) s.heap w1 H locs := by rw [← hw1]; exact hI
  have e1 : w1 s0 = some (.inr (3, [.ref t1, .null, .null, .null, .null])) := by rw [← hw1]; exact mp_up_self ..
  have zp : fz [s0] [] y1 w1 := by rw [← hw1]; exact fz.upd (mp_some es) (by simp)
  have zw := zd.tr zp (fun q hq => Or.inl hq)
  have z1 := z0.tr zw (fun q hq => Or.inl hq)
  have n0 : t1 ∉ [s0] := by simp; intro z; rw [z, es] at hc1; cases hc1
  have n1 : a1 ∉ [s0] := by simp; intro z; rw [z, es] at hc2; cases hc2
  have q0A := zp.kp _ _ hc1 n0
  have q0B := zp.kp _ _ hc2 n1
  clear zn zc zd zp zw ht hc1 hq0 es hc2
  refine lv_aload_n hx hb dS_init_18 rfl (lv_at hl 0 rfl) ?_
  refine mp_new (ci := 0) (fs := [.null, .int 0]) hE.1 hI rfl gx_T ty_T to_T (List.mem_cons_of_mem _ gk_S9) (List.mem_cons_of_mem _ gn_T) (List.mem_cons_of_mem _ gz_T) nd_T (Nat.le_of_ble_eq_true rfl) (Nat.le_of_ble_eq_true rfl) dS_init_19 (fun t2 H hq0 hI => ?_)
  obtain ⟨x2, hx2⟩ : ∃ z, mp_up w1 t2 (.inr (0, [.null, .int 0])) = z := ⟨_, rfl⟩
  have hI : mp_I D cl_all (mp_A w s.heap.size) s.heap x2 H locs := by rw [← hx2]; exact hI
  have zn : fz [s0] [t2] w1 x2 := by rw [← hx2]; exact fz.one (mp_some e1) hq0
  have ht : x2 t2 = some (.inr (0, [.null, .int 0])) := by rw [← hx2]; exact mp_up_self ..
  refine lv_dup hx hb dS_init_22 rfl ?_
  refine lv_sipush (v := nI 2000) hx hb dS_init_23 (by decide) ?_
  refine ct_In (n := 1) hE hI (kT_init (n := 2000) ht (by decide)) rfl gm_S11 gi_T_init gz_T gc_T_init (by decide +kernel) ⟨Nat.le_of_ble_eq_true rfl, Nat.le_of_ble_eq_true rfl⟩ rfl hl.1 rfl (Nat.le_of_ble_eq_true rfl) dS_init_26 ⟨Nat.le_of_ble_eq_true rfl, Nat.le_of_ble_eq_true rfl⟩ (fun v y2 H locs hq hI => ?_)
  obtain ⟨rfl, a2, zc, hc1, hc2⟩ := hq
  show W _ _ _ _ _ _ _ _ _ _ _ _ _ _ _ (F0 _ _ _ [.ref _, .ref _])
  have zd := zn.tr zc (fun q hq => Or.inr hq)
  have es : y2 s0 = some (.inr (3, [.ref t1, .null, .null, .null, .null])) := by
    have h1 : x2 s0 = some (.inr (3, [.ref t1, .null, .null, .null, .null])) := by rw [← hx2, mp_up_ne _ _ (fun z => by rw [← z, e1] at hq0; cases hq0)]; exact e1
    exact zc.kp _ _ h1 (by simp; intro z; rw [z, ht] at h1; cases h1)
  refine mp_put hE.1 hI es rfl gx_S ty_S to_S tn_S 1 (by decide) (List.mem_cons_of_mem _ gf_S20) rfl rfl rfl (Nat.le_of_ble_eq_true rfl) dS_init_29 (fun H locs hI => ?_)
  obtain ⟨w2, hw2⟩ : ∃ z, mp_up y2 s0 (.inr (3, [.ref t1, .ref t2, .null, .null, .null])) = z := ⟨_, rfl⟩
  have hI : mp_I D cl_all (mp_A w s.heap.size) s.heap w2 H locs := by rw [← hw2]; exact hI
  have e2 : w2 s0 = some (.inr (3, [.ref t1, .ref t2, .null, .null, .null])) := by rw [← hw2]; exact mp_up_self ..
  have zp : fz [s0] [] y2 w2 := by rw [← hw2]; exact fz.upd (mp_some es) (by simp)
  have zw := zd.tr zp (fun q hq => Or.inl hq)
  have z2 := z1.tr zw (fun q hq => Or.inl hq)
  have n2 : t2 ∉ [s0] := by simp; intro z; rw [z, es] at hc1; cases hc1
  have n3 : a2 ∉ [s0] := by simp; intro z; rw [z, es] at hc2; cases hc2
  have q0A := zw.kp _ _ q0A n0
  have q0B := zw.kp _ _ q0B n1
  have q1A := zp.kp _ _ hc1 n2
  have q1B := zp.kp _ _ hc2 n3
  clear zn zc zd zp zw ht hc1 hq0 es hc2
  refine lv_aload_n hx hb dS_init_32 rfl (lv_at hl 0 rfl) ?_
  refine mp_new (ci := 2) (fs := [.int 0, .int 0, .null, .int 0, .int 0]) hE.1 hI rfl gx_W ty_W to_W (List.mem_cons_of_mem _ gk_S23) (List.mem_cons_of_mem _ gn_W) (List.mem_cons_of_mem _ gz_W) nd_W (Nat.le_of_ble_eq_true rfl) (Nat.le_of_ble_eq_true rfl) dS_init_33 (fun k1 H hq0 hI => ?_)
  obtain ⟨x3, hx3⟩ : ∃ z, mp_up w2 k1 (.inr (2, [.int 0, .int 0, .null, .int 0, .int 0])) = z := ⟨_, rfl⟩
  have hI : mp_I D cl_all (mp_A w s.heap.size) s.heap x3 H locs := by rw [← hx3]; exact hI
  have zn : fz [s0] [k1] w2 x3 := by rw [← hx3]; exact fz.one (mp_some e2) hq0
  have ht : x3 k1 = some (.inr (2, [.int 0, .int 0, .null, .int 0, .int 0])) := by rw [← hx3]; exact mp_up_self ..
  refine lv_dup hx hb dS_init_36 rfl ?_
  refine lv_iconst (v := nI 1) hx hb dS_init_37 (by decide) ?_
  refine lv_iconst (v := nI 1) hx hb dS_init_38 (by decide) ?_
  refine ct_In (n := 2) hE hI (kW_init (fa := 1) (ff := 1) ht) rfl gm_S25 gi_W_init gz_W gc_W_init (by decide +kernel) ⟨Nat.le_of_ble_eq_true rfl, Nat.le_of_ble_eq_true rfl⟩ rfl hl.1 rfl (Nat.le_of_ble_eq_true rfl) dS_init_39 ⟨Nat.le_of_ble_eq_true rfl, Nat.le_of_ble_eq_true rfl⟩ (fun v y3 H locs hq hI => ?_)
  obtain ⟨rfl, b1, zc, hc1⟩ := hq
  show W _ _ _ _ _ _ _ _ _ _ _ _ _ _ _ (F0 _ _ _ [.ref _, .ref _])
  have zd := zn.tr zc (fun q hq => Or.inr hq)
  have es : y3 s0 = some (.inr (3, [.ref t1, .ref t2, .null, .null, .null])) := by
    have h1 : x3 s0 = some (.inr (3, [.ref t1, .ref t2, .null, .null, .null])) := by rw [← hx3, mp_up_ne _ _ (fun z => by rw [← z, e2] at hq0; cases hq0)]; exact e2
    exact zc.kp _ _ h1 (by simp; intro z; rw [z, ht] at h1; cases h1)
  refine mp_putF hE.1 hI es rfl gx_S ty_S to_S tn_S 2 (by decide) (List.mem_cons_of_mem _ gf_S28) rfl hn rfl rfl rfl (Nat.le_of_ble_eq_true rfl) dS_init_42 (fun H locs hI => ?_)
  obtain ⟨w3, hw3⟩ : ∃ z, mp_up y3 s0 (.inr (3, [.ref t1, .ref t2, .ref k1, .null, .null])) = z := ⟨_, rfl⟩
  have hI : mp_I D cl_all (mp_A w s.heap.size) s.heap w3 H locs := by rw [← hw3]; exact hI
  have e3 : w3 s0 = some (.inr (3, [.ref t1, .ref t2, .ref k1, .null, .null])) := by rw [← hw3]; exact mp_up_self ..
  have zp : fz [s0] [] y3 w3 := by rw [← hw3]; exact fz.upd (mp_some es) (by simp)
  have zw := zd.tr zp (fun q hq => Or.inl hq)
  have z3 := z2.tr zw (fun q hq => Or.inl hq)
  have n4 : k1 ∉ [s0] := by simp; intro z; obtain ⟨_, r1, _⟩ := hc1; rw [z, es] at r1; cases r1
  have n5 : b1 ∉ [s0] := by simp; intro z; obtain ⟨_, _, r1, _⟩ := hc1; rw [z, es] at r1; cases r1
  have q0A := zw.kp _ _ q0A n0
  have q0B := zw.kp _ _ q0B n1
  have q1A := zw.kp _ _ q1A n2
  have q1B := zw.kp _ _ q1B n3
  have q2 := hc1.kp zp.kp n4 n5
  clear zn zc zd zp zw ht hc1 hq0 es
  refine lv_aload_n hx hb dS_init_45 rfl (lv_at hl 0 rfl) ?_
  refine mp_new (ci := 2) (fs := [.int 0, .int 0, .null, .int 0, .int 0]) hE.1 hI rfl gx_W ty_W to_W (List.mem_cons_of_mem _ gk_S23) (List.mem_cons_of_mem _ gn_W) (List.mem_cons_of_mem _ gz_W) nd_W (Nat.le_of_ble_eq_true rfl) (Nat.le_of_ble_eq_true rfl) dS_init_46 (fun k2 H hq0 hI => ?_)
  obtain ⟨x4, hx4⟩ : ∃ z, mp_up w3 k2 (.inr (2, [.int 0, .int 0, .null, .int 0, .int 0])) = z := ⟨_, rfl⟩
  have hI : mp_I D cl_all (mp_A w s.heap.size) s.heap x4 H locs := by rw [← hx4]; exact hI
  have zn : fz [s0] [k2] w3 x4 := by rw [← hx4]; exact fz.one (mp_some e3) hq0
  have ht : x4 k2 = some (.inr (2, [.int 0, .int 0, .null, .int 0, .int 0])) := by rw [← hx4]; exact mp_up_self ..
  refine lv_dup hx hb dS_init_49 rfl ?_
  refine lv_iconst (v := nI 0) hx hb dS_init_50 (by decide) ?_
  refine lv_iconst (v := nI 1) hx hb dS_init_51 (by decide) ?_
  refine ct_In (n := 2) hE hI (kW_init (fa := 0) (ff := 1) ht) rfl gm_S25 gi_W_init gz_W gc_W_init (by decide +kernel) ⟨Nat.le_of_ble_eq_true rfl, Nat.le_of_ble_eq_true rfl⟩ rfl hl.1 rfl (Nat.le_of_ble_eq_true rfl) dS_init_52 ⟨Nat.le_of_ble_eq_true rfl, Nat.le_of_ble_eq_true rfl⟩ (fun v y4 H locs hq hI => ?_)
  obtain ⟨rfl, b2, zc, hc1⟩ := hq
  show W _ _ _ _ _ _ _ _ _ _ _ _ _ _ _ (F0 _ _ _ [.ref _, .ref _])
  have zd := zn.tr zc (fun q hq => Or.inr hq)
  have es : y4 s0 = some (.inr (3, [.ref t1, .ref t2, .ref k1, .null, .null])) := by
    have h1 : x4 s0 = some (.inr (3, [.ref t1, .ref t2, .ref k1, .null, .null])) := by rw [← hx4, mp_up_ne _ _ (fun z => by rw [← z, e3] at hq0; cases hq0)]; exact e3
    exact zc.kp _ _ h1 (by simp; intro z; rw [z, ht] at h1; cases h1)
  refine mp_putF hE.1 hI es rfl gx_S ty_S to_S tn_S 3 (by decide) (List.mem_cons_of_mem _ gf_S32) rfl hn rfl rfl rfl (Nat.le_of_ble_eq_true rfl) dS_init_55 (fun H locs hI => ?_)
  obtain ⟨w4, hw4⟩ : ∃ z, mp_up y4 s0 (.inr (3, [.ref t1, .ref t2, .ref k1, .ref k2, .null])) = z := ⟨_, rfl⟩
  have hI : mp_I D cl_all (mp_A w s.heap.size) s.heap w4 H locs := by rw [← hw4]; exact hI
  have e4 : w4 s0 = some (.inr (3, [.ref t1, .ref t2, .ref k1, .ref k2, .null])) := by rw [← hw4]; exact mp_up_self ..
  have zp : fz [s0] [] y4 w4 := by rw [← hw4]; exact fz.upd (mp_some es) (by simp)
  have zw := zd.tr zp (fun q hq => Or.inl hq)
  have z4 := z3.tr zw (fun q hq => Or.inl hq)
  have n6 : k2 ∉ [s0] := by simp; intro z; obtain ⟨_, r1, _⟩ := hc1; rw [z, es] at r1; cases r1
  have n7 : b2 ∉ [s0] := by simp; intro z; obtain ⟨_, _, r1, _⟩ := hc1; rw [z, es] at r1; cases r1
  have q0A := zw.kp _ _ q0A n0
  have q0B := zw.kp _ _ q0B n1
  have q1A := zw.kp _ _ q1A n2
  have q1B := zw.kp _ _ q1B n3
  have q2 := q2.kp zw.kp n4 n5
  have q3 := hc1.kp zp.kp n6 n7
  clear zn zc zd zp zw ht hc1 hq0 es
  refine lv_aload_n hx hb dS_init_58 rfl (lv_at hl 0 rfl) ?_
  refine mp_new (ci := 2) (fs := [.int 0, .int 0, .null, .int 0, .int 0]) hE.1 hI rfl gx_W ty_W to_W (List.mem_cons_of_mem _ gk_S23) (List.mem_cons_of_mem _ gn_W) (List.mem_cons_of_mem _ gz_W) nd_W (Nat.le_of_ble_eq_true rfl) (Nat.le_of_ble_eq_true rfl) dS_init_59 (fun k3 H hq0 hI => ?_)
  obtain ⟨x5, hx5⟩ : ∃ z, mp_up w4 k3 (.inr (2, [.int 0, .int 0, .null, .int 0, .int 0])) = z := ⟨_, rfl⟩
  have hI : mp_I D cl_all (mp_A w s.heap.size) s.heap x5 H locs := by rw [← hx5]; exact hI
  have zn : fz [s0] [k3] w4 x5 := by rw [← hx5]; exact fz.one (mp_some e4) hq0
  have ht : x5 k3 = some (.inr (2, [.int 0, .int 0, .null, .int 0, .int 0])) := by rw [← hx5]; exact mp_up_self ..
  refine lv_dup hx hb dS_init_62 rfl ?_
  refine lv_iconst (v := nI 0) hx hb dS_init_63 (by decide) ?_
  refine lv_iconst (v := nI 1) hx hb dS_init_64 (by decide) ?_
  refine ct_In (n := 2) hE hI (kW_init (fa := 0) (ff := 1) ht) rfl gm_S25 gi_W_init gz_W gc_W_init (by decide +kernel) ⟨Nat.le_of_ble_eq_true rfl, Nat.le_of_ble_eq_true rfl⟩ rfl hl.1 rfl (Nat.le_of_ble_eq_true rfl) dS_init_65 ⟨Nat.le_of_ble_eq_true rfl, Nat.le_of_ble_eq_true rfl⟩ (fun v y5 H locs hq hI => ?_)
  obtain ⟨rfl, b3, zc, hc1⟩ := hq
  show W _ _ _ _ _ _ _ _ _ _ _ _ _ _ _ (F0 _ _ _ [.ref _, .ref _])
  have zd := zn.tr zc (fun q hq => Or.inr hq)
  have es : y5 s0 = some (.inr (3, [.ref t1, .ref t2, .ref k1, .ref k2, .null])) := by
    have h1 : x5 s0 = some (.inr (3, [.ref t1, .ref t2, .ref k1, .ref k2, .null])) := by rw [← hx5, mp_up_ne _ _ (fun z => by rw [← z, e4] at hq0; cases hq0)]; exact e4
    exact zc.kp _ _ h1 (by simp; intro z; rw [z, ht] at h1; cases h1)
  refine mp_putF hE.1 hI es rfl gx_S ty_S to_S tn_S 4 (by decide) (List.mem_cons_of_mem _ gf_S35) rfl hn rfl rfl rfl (Nat.le_of_ble_eq_true rfl) dS_init_68 (fun H locs hI => ?_)
  obtain ⟨w5, hw5⟩ : ∃ z, mp_up y5 s0 (.inr (3, [.ref t1, .ref t2, .ref k1, .ref k2, .ref k3])) = z := ⟨_, rfl⟩
  have hI : mp_I D cl_all (mp_A w s.heap.size) s.heap w5 H locs := by rw [← hw5]; exact hI
  have e5 : w5 s0 = some (.inr (3, [.ref t1, .ref t2, .ref k1, .ref k2, .ref k3])) := by rw [← hw5]; exact mp_up_self ..
  have zp : fz [s0] [] y5 w5 := by rw [← hw5]; exact fz.upd (mp_some es) (by simp)
  have zw := zd.tr zp (fun q hq => Or.inl hq)
  have z5 := z4.tr zw (fun q hq => Or.inl hq)
  have n8 : k3 ∉ [s0] := by simp; intro z; obtain ⟨_, r1, _⟩ := hc1; rw [z, es] at r1; cases r1
  have n9 : b3 ∉ [s0] := by simp; intro z; obtain ⟨_, _, r1, _⟩ := hc1; rw [z, es] at r1; cases r1
  have q0A := zw.kp _ _ q0A n0
  have q0B := zw.kp _ _ q0B n1
  have q1A := zw.kp _ _ q1A n2
  have q1B := zw.kp _ _ q1B n3
  have q2 := q2.kp zw.kp n4 n5
  have q3 := q3.kp zw.kp n6 n7
  have q4 := hc1.kp zp.kp n8 n9
  clear zn zc zd zp zw ht hc1 hq0 es
  exact ct_vret hE hI hr hk ⟨rfl, t1, a1, t2, a2, k1, b1, k2, b2, k3, b3, z5, e5, q0A, q0B, q1A, q1B, q2, q3, q4⟩ (by decide) (by decide) dS_init_71
abbrev ob_Y (K : Nat → ClassId) (cap : Nat) (g : Nat → Int32) : va_E := .inl (K 1, cap, .inl g)
def mk_X (K : Nat → ClassId) (w w' : mp_W) (s : Nat) : Prop := ∃ by0 k1 b1, fz [s] [by0, k1, b1] w w' ∧ w' s = some (.inr (1, [.ref by0, .int 0, .ref k1])) ∧ w' by0 = some (ob_Y K 64 (fun _ => 0)) ∧ pt_W K w' k1 b1 1 0 ([], 0)
set_option maxRecDepth 100000 in
set_option maxHeartbeats 1000000 in
theorem kX_init {s0 : Nat} (hS : w s0 = some (.inr (1, [.null, .int 0, .null]))) : ct_M l n0 D K yX_init (Cond.code yX_init cX_init 1 none) 2 80 3 219 [.ref s0] w (fun v w' => v = none ∧ mk_X K w w' s0) := by
  refine ct_go (own := nm_X) (by decide) rfl (Nat.le_of_ble_eq_true rfl) ?_
  intro p e s m below meth c ls hE hI hr hk hn hl
  have hx := hE.1.1.1
  have hb := hE.1.1.2.1
  have hl : lv_has ls 1 [(0, .ref s0)] := hl
  refine lv_aload_n hx hb dX_init_0 rfl (lv_at hl 0 rfl) ?_
  refine W.objInit hx hb hE.1.1.2.2.2.1 (ct_w hE gm_X3) (ct_w hE gi_O_init) (ct_w hE gc_O_init) rfl (by rw [hE.1.1.2.2.1]; exact hl.1) rfl dX_init_1 (Nat.le_of_ble_eq_true rfl) (Nat.le_of_ble_eq_true rfl) ?_
  show W _ _ _ _ _ _ _ _ _ _ _ _ _ _ _ (F0 _ _ _ [])
  refine lv_aload_n hx hb dX_init_4 rfl (lv_at hl 0 rfl) ?_
  refine lv_bipush (v := nI 64) hx hb dX_init_5 (by decide) ?_
  refine mp_newa (atype := .byte) hE.1 hI (List.mem_cons_of_mem _ ga_byte) rfl 1 rfl (a0 := (64, .inl (fun _ => 0))) (fun _ => rfl) (nI_pos (by omega)) (nI_clamp (by omega)) (Nat.le_of_ble_eq_true rfl) (Nat.le_of_ble_eq_true rfl) (Nat.le_of_ble_eq_true rfl) dX_init_7 (fun by0 H hq0 hI => ?_)
  obtain ⟨x1, hx1⟩ : ∃ z, mp_up w by0 (ob_Y K 64 (fun _ => 0)) = z := ⟨_, rfl⟩
  have hI : mp_I D cl_all (mp_A w s.heap.size) s.heap x1 H [] := by rw [← hx1]; exact hI
  have z1 : fz [s0] [by0] w x1 := by rw [← hx1]; exact fz.one (mp_some hS) hq0
  have b1 : x1 by0 = some (ob_Y K 64 (fun _ => 0)) := by rw [← hx1]; exact mp_up_self ..
  have e1 : x1 s0 = some (.inr (1, [.null, .int 0, .null])) := by rw [← hx1, mp_up_ne _ _ (fun z => by rw [← z, hS] at hq0; cases hq0)]; exact hS
  have nb : by0 ∉ [s0] := by simp; intro z; rw [z, e1] at b1; cases b1
  refine mp_put hE.1 hI e1 rfl gx_X ty_X to_X tn_X 0 (by decide) (List.mem_cons_of_mem _ gf_X9) rfl rfl rfl (Nat.le_of_ble_eq_true rfl) dX_init_9 (fun H locs hI => ?_)
  obtain ⟨x2, hx2⟩ : ∃ z, mp_up x1 s0 (.inr (1, [.ref by0, .int 0, .null])) = z := ⟨_, rfl⟩
  have hI : mp_I D cl_all (mp_A w s.heap.size) s.heap x2 H locs := by rw [← hx2]; exact hI
  have z2 : fz [s0] [] x1 x2 := by rw [← hx2]; exact fz.upd (mp_some e1) (by simp)
  have e2 : x2 s0 = some (.inr (1, [.ref by0, .int 0, .null])) := by rw [← hx2]; exact mp_up_self ..
  have b2 := z2.kp _ _ b1 nb
  refine lv_aload_n hx hb dX_init_12 rfl (lv_at hl 0 rfl) ?_
  refine lv_iconst (v := 0) hx hb dX_init_13 (by decide) ?_
  refine mp_put hE.1 hI e2 rfl gx_X ty_X to_X tn_X 1 (by decide) (List.mem_cons_of_mem _ gf_X15) rfl rfl rfl (Nat.le_of_ble_eq_true rfl) dX_init_14 (fun H locs hI => ?_)
  obtain ⟨x3, hx3⟩ : ∃ z, mp_up x2 s0 (.inr (1, [.ref by0, .int 0, .null])) = z := ⟨_, rfl⟩
  have hI : mp_I D cl_all (mp_A w s.heap.size) s.heap x3 H locs := by rw [← hx3]; exact hI
  have z3 : fz [s0] [] x2 x3 := by rw [← hx3]; exact fz.upd (mp_some e2) (by simp)
  have e3 : x3 s0 = some (.inr (1, [.ref by0, .int 0, .null])) := by rw [← hx3]; exact mp_up_self ..
  have b3 := z3.kp _ _ b2 nb
  refine lv_aload_n hx hb dX_init_17 rfl (lv_at hl 0 rfl) ?_
  refine mp_new (ci := 2) (fs := [.int 0, .int 0, .null, .int 0, .int 0]) hE.1 hI rfl gx_W ty_W to_W (List.mem_cons_of_mem _ gk_X19) (List.mem_cons_of_mem _ gn_W) (List.mem_cons_of_mem _ gz_W) nd_W (Nat.le_of_ble_eq_true rfl) (Nat.le_of_ble_eq_true rfl) dX_init_18 (fun k1 H hq0 hI => ?_)
  obtain ⟨x4, hx4⟩ : ∃ z, mp_up x3 k1 (.inr (2, [.int 0, .int 0, .null, .int 0, .int 0])) = z := ⟨_, rfl⟩
  have hI : mp_I D cl_all (mp_A w s.heap.size) s.heap x4 H locs := by rw [← hx4]; exact hI
  have z4 : fz [s0] [k1] x3 x4 := by rw [← hx4]; exact fz.one (mp_some e3) hq0
  have ht : x4 k1 = some (.inr (2, [.int 0, .int 0, .null, .int 0, .int 0])) := by rw [← hx4]; exact mp_up_self ..
  have e4 : x4 s0 = some (.inr (1, [.ref by0, .int 0, .null])) := by rw [← hx4, mp_up_ne _ _ (fun z => by rw [← z, e3] at hq0; cases hq0)]; exact e3
  have b4 := z4.kp _ _ b3 nb
  refine lv_dup hx hb dX_init_21 rfl ?_
  refine lv_iconst (v := nI 1) hx hb dX_init_22 (by decide) ?_
  refine lv_iconst (v := nI 0) hx hb dX_init_23 (by decide) ?_
  refine ct_In (n := 2) hE hI (kW_init (fa := 1) (ff := 0) ht) rfl gm_X21 gi_W_init gz_W gc_W_init (by decide +kernel) ⟨Nat.le_of_ble_eq_true rfl, Nat.le_of_ble_eq_true rfl⟩ rfl hl.1 rfl (Nat.le_of_ble_eq_true rfl) dX_init_24 ⟨Nat.le_of_ble_eq_true rfl, Nat.le_of_ble_eq_true rfl⟩ (fun v x5 H locs hq hI => ?_)
  obtain ⟨rfl, kr, zc, hc1⟩ := hq
  show W _ _ _ _ _ _ _ _ _ _ _ _ _ _ _ (F0 _ _ _ [.ref _, .ref _])
  have e5 := zc.kp _ _ e4 (by simp; intro z; rw [z, ht] at e4; cases e4)
  have b5 := zc.kp _ _ b4 (by simp; intro z; rw [z, ht] at b4; cases b4)
  refine mp_putF hE.1 hI e5 rfl gx_X ty_X to_X tn_X 2 (by decide) (List.mem_cons_of_mem _ gf_X24) rfl hn rfl rfl rfl (Nat.le_of_ble_eq_true rfl) dX_init_27 (fun H locs hI => ?_)
  have z6 : fz [s0] [] x5 (mp_up x5 s0 (.inr (1, [.ref by0, .int 0, .ref k1]))) := fz.upd (mp_some e5) (by simp)
  have n1 : k1 ∉ [s0] := by simp; intro z; obtain ⟨_, r1, _⟩ := hc1; rw [z, e5] at r1; cases r1
  have n2 : kr ∉ [s0] := by simp; intro z; obtain ⟨_, _, r1, _⟩ := hc1; rw [z, e5] at r1; cases r1
  have hz := (((z1.tr z2 (fun q hq => Or.inl hq)).tr z3 (fun q hq => Or.inl hq)).tr (z4.tr zc (fun q hq => Or.inr hq)) (fun q hq => Or.inl hq)).tr z6 (fun q hq => Or.inl hq)
  exact ct_vret hE hI hr hk ⟨rfl, by0, k1, kr, hz, mp_up_self .., z6.kp _ _ b5 nb, hc1.kp z6.kp n1 n2⟩ (by decide) (by decide) dX_init_30
end KC2