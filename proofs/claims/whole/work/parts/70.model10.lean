/-! the reference's face: step, all, head, normal -/
def fnd (hd : Bool) (t : Std.Format) (r : Int32) : Prop := (∃ q, r = nI q ∧ (if hd = true then tm_h1 (tm_ks t) else tm_f1 (tm_ks t)) = some q ∧ tm_rx t q) ∨ (r = -1 ∧ (if hd = true then tm_h1 (tm_ks t) else tm_f1 (tm_ks t)) = none)
section KM10
variable {l : Launch} {n0 : Nat} {D : va_G} {K : Nat → ClassId} {w : mp_W} {h : Nat → Nat} {I : mI} {A : mA} {σ : Nat → Std.Format} {O : List Int} {c0 : Nat}
set_option maxRecDepth 100000 in
set_option maxHeartbeats 2000000 in
theorem kM_step (s0 : st K h w w I A σ O c0) (to a : Int32) : ct_M l n0 D K yM_step (Cond.code yM_step cM_step 4 (some .boolean)) 154 4700 0 0 [.ref (h 0), .int to, .int a] w (po_M K h w O (op_step σ to a)) := by
  refine ct_go (own := nm_M) (by decide) rfl (Nat.le_of_ble_eq_true rfl) ?_
  intro p e s m below meth c ls hE hI hr hk hn hl
  have hx := hE.1.1.1
  have hb := hE.1.1.2.1
  have hl : lv_has ls 4 [(0, .ref (h 0)), (1, .int to), (2, .int a)] := hl
  refine lv_aload_n hx hb dM_step_0 rfl (lv_at hl 0 rfl) ?_
  refine lv_iload_n hx hb dM_step_1 rfl (lv_at hl 1 rfl) ?_
  refine ct_V (n := 1) hE hI (kM_none s0.1.1 to) s0.o rfl gm_M100 gi_M_none gs_M_M_none gz_M gc_M_none (by decide +kernel) ⟨Nat.le_of_ble_eq_true rfl, Nat.le_of_ble_eq_true rfl⟩ rfl hl.1 rfl (Nat.le_of_ble_eq_true rfl) dM_step_2 ⟨Nat.le_of_ble_eq_true rfl, Nat.le_of_ble_eq_true rfl⟩ (fun v w1 H locs hq hI => ?_)
  obtain ⟨I1, rfl, hm1, e1, ei1⟩ := hq
  show W _ _ _ _ _ _ _ _ _ _ _ _ _ _ _ (F0 _ _ _ [.int _])
  refine lv_if_ne (tgt := 16) hx hb dM_step_5 (by decide) (fun hq => ?_) (fun hq => ?_)
  · have hz := rk_t hq
    have er : op_step σ to a = (1, 0, σ) := by unfold op_step; rw [hz]
    have s9 := s0.no1 hm1 e1 ei1 hz
    refine lv_iconst (v := 0) hx hb dM_step_16 (by decide) ?_
    exact ct_zret hE hI hr hk (Or.inl rfl) (s9.fin0 er) (by decide) (by decide) dM_step_17
  obtain ⟨kto, hrto⟩ := rk_f hq
  have s1 := s0.no0 hm1 e1 ei1 hrto
  refine lv_aload_n hx hb dM_step_8 rfl (lv_at hl 0 rfl) ?_
  refine lv_iload_n hx hb dM_step_9 rfl (lv_at hl 2 rfl) ?_
  refine ct_V (n := 1) hE hI (kM_none s1.1.1 a) s1.o rfl gm_M100 gi_M_none gs_M_M_none gz_M gc_M_none (by decide +kernel) ⟨Nat.le_of_ble_eq_true rfl, Nat.le_of_ble_eq_true rfl⟩ rfl hl.1 rfl (Nat.le_of_ble_eq_true rfl) dM_step_10 ⟨Nat.le_of_ble_eq_true rfl, Nat.le_of_ble_eq_true rfl⟩ (fun v w2 H locs hq hI => ?_)
  obtain ⟨I2, rfl, hm2, e2, ei2⟩ := hq
  show W _ _ _ _ _ _ _ _ _ _ _ _ _ _ _ (F0 _ _ _ [.int _])
  refine lv_if_eq (tgt := 18) hx hb dM_step_13 (by decide) (fun hq => ?_) (fun hq => ?_)
  rotate_left
  · have hz := rk_t hq
    have er : op_step σ to a = (1, 0, σ) := by unfold op_step; rw [hrto, hz]
    have s9 := s1.no1 hm2 e2 ei2 hz
    refine lv_iconst (v := 0) hx hb dM_step_16 (by decide) ?_
    exact ct_zret hE hI hr hk (Or.inl rfl) (s9.fin0 er) (by decide) (by decide) dM_step_17
  obtain ⟨ka, hra⟩ := rk_f hq
  have s2 := s1.no0 hm2 e2 ei2 hra
  obtain ⟨hto16, rfl⟩ := rk_some hrto
  obtain ⟨ha16, rfl⟩ := rk_some hra
  have r2 := s2.2.1 ka ha16
  have za := s2.b ka ha16
  refine lv_aload_n hx hb dM_step_18 rfl (lv_at hl 0 rfl) ?_
  refine lv_iload_n hx hb dM_step_19 rfl (lv_at hl 2 rfl) ?_
  refine ct_V (n := 1) hE hI (kM_begins (u := σ ka) (k := ka) s2.1.1 ha16 r2.1 r2.2.1 r2.2.2) s2.o rfl gm_M124 gi_M_begins gs_M_M_begins gz_M gc_M_begins (by decide +kernel) ⟨Nat.le_of_ble_eq_true rfl, Nat.le_of_ble_eq_true rfl⟩ rfl hl.1 rfl (Nat.le_of_ble_eq_true rfl) dM_step_20 ⟨Nat.le_of_ble_eq_true rfl, Nat.le_of_ble_eq_true rfl⟩ (fun v w3 H locs hq hI => ?_)
  obtain ⟨rfl, I3, A3, hm3, ei3, ea3, hn3⟩ := hq
  show W _ _ _ _ _ _ _ _ _ _ _ _ _ _ _ (F0 _ _ _ [])
  have s3 := s2.nx hm3 (ei3.mono (by decide)) (ea3.mono (by decide))
  refine lv_aload_n hx hb dM_step_23 rfl (lv_at hl 0 rfl) ?_
  refine ct_V (n := 0) hE hI (kM_first s3.1.1 hn3) s3.o rfl gm_M127 gi_M_first gs_M_M_first gz_M gc_M_first (by decide +kernel) ⟨Nat.le_of_ble_eq_true rfl, Nat.le_of_ble_eq_true rfl⟩ rfl hl.1 rfl (Nat.le_of_ble_eq_true rfl) dM_step_24 ⟨Nat.le_of_ble_eq_true rfl, Nat.le_of_ble_eq_true rfl⟩ (fun v w4 H locs hq hI => ?_)
  obtain ⟨hw, r0, rfl, hf⟩ := hq
  subst w4
  show W _ _ _ _ _ _ _ _ _ _ _ _ _ _ _ (F0 _ _ _ [.int _])
  rcases hf with ⟨q0, rfl, hf1, hrx⟩ | ⟨rfl, hf1⟩
  · have hq0 := tm_rx_lt hrx
    refine lv_istore_n hx hb dM_step_27 rfl hl (by decide) rfl (fun ls hl => ?_)
    refine lv_iload_n hx hb dM_step_28 rfl (lv_at hl 0 rfl) ?_
    refine lv_if_lt (tgt := 55) hx hb dM_step_29 (by decide) (fun hq => ?_) (fun hq => ?_)
    · exact absurd hq (nI_pos (by omega))
    · refine lv_aload_n hx hb dM_step_32 rfl (lv_at hl 1 rfl) ?_
      refine lv_iconst (v := 2) hx hb dM_step_33 (by decide) ?_
      refine lv_aload_n hx hb dM_step_34 rfl (lv_at hl 1 rfl) ?_
      refine lv_iload_n hx hb dM_step_35 rfl (lv_at hl 0 rfl) ?_
      refine ct_V (n := 1) hE hI (kM_stepped s3.1.1 hn3 hrx) s3.o rfl gm_M131 gi_M_stepped gs_M_M_stepped gz_M gc_M_stepped (by decide +kernel) ⟨Nat.le_of_ble_eq_true rfl, Nat.le_of_ble_eq_true rfl⟩ rfl hl.1 rfl (Nat.le_of_ble_eq_true rfl) dM_step_36 ⟨Nat.le_of_ble_eq_true rfl, Nat.le_of_ble_eq_true rfl⟩ (fun v w5 H locs hq hI => ?_)
      obtain ⟨rfl, I5, A5, hm5, ei5, ea5, hu5⟩ := hq
      show W _ _ _ _ _ _ _ _ _ _ _ _ _ _ _ (F0 _ _ _ [.int _, .int _, .ref (h 0)])
      have s5 := s3.nx hm5 (ei5.mono (by decide)) (ea5.mono (by decide))
      by_cases hc : tm_chk (tm_ct (σ ka) q0) = none
      · have er : op_step σ (nI kto) (nI ka) = (2, 0, σ) := by unfold op_step; simp only [hrto, hra, hf1, hc]
        rw [if_pos hc]
        refine lv_if_ne (tgt := 46) hx hb dM_step_39 (by decide) (fun hq => ?_) (fun hq => ?_)
        · exact absurd rfl hq
        · refine lv_iconst (v := 1) hx hb dM_step_42 (by decide) ?_
          refine lv_goto (tgt := 47) hx hb dM_step_43 (by decide) ?_
          refine ct_V (n := 2) hE hI (kM_refuse s5.1.1 2 1 (Or.inr rfl)) s5.o rfl gm_M67 gi_M_refuse gs_M_M_refuse gz_M gc_M_refuse (by decide +kernel) ⟨Nat.le_of_ble_eq_true rfl, Nat.le_of_ble_eq_true rfl⟩ rfl hl.1 rfl (Nat.le_of_ble_eq_true rfl) dM_step_47 ⟨Nat.le_of_ble_eq_true rfl, Nat.le_of_ble_eq_true rfl⟩ (fun v w6 H locs hq hI => ?_)
          obtain ⟨rfl, hm6⟩ := hq
          show W _ _ _ _ _ _ _ _ _ _ _ _ _ _ _ (F0 _ _ _ [.int _])
          rw [if_neg (by decide)] at hm6
          have s6 := s5.cd (c' := 2) hm6 rfl
          refine lv_if_eq (tgt := 55) hx hb dM_step_50 (by decide) (fun hq => ?_) (fun hq => ?_)
          · exact absurd hq (by decide)
          · refine lv_iconst (v := 0) hx hb dM_step_53 (by decide) ?_
            exact ct_zret hE hI hr hk (Or.inl rfl) (s6.fin0 er) (by decide) (by decide) dM_step_54
      · obtain ⟨u, hu⟩ := Option.ne_none_iff_exists'.mp hc
        have er : op_step σ (nI kto) (nI ka) = (0, 1, su σ kto u) := by unfold op_step; simp only [hrto, hra, hf1, hu]
        rw [if_neg hc]
        refine lv_if_ne (tgt := 46) hx hb dM_step_39 (by decide) (fun hq => ?_) (fun hq => ?_)
        · refine lv_iconst (v := 0) hx hb dM_step_46 (by decide) ?_
          refine ct_V (n := 2) hE hI (kM_refuse s5.1.1 2 0 (Or.inl rfl)) s5.o rfl gm_M67 gi_M_refuse gs_M_M_refuse gz_M gc_M_refuse (by decide +kernel) ⟨Nat.le_of_ble_eq_true rfl, Nat.le_of_ble_eq_true rfl⟩ rfl hl.1 rfl (Nat.le_of_ble_eq_true rfl) dM_step_47 ⟨Nat.le_of_ble_eq_true rfl, Nat.le_of_ble_eq_true rfl⟩ (fun v w6 H locs hq hI => ?_)
          obtain ⟨rfl, hm6⟩ := hq
          show W _ _ _ _ _ _ _ _ _ _ _ _ _ _ _ (F0 _ _ _ [.int _])
          rw [if_pos rfl] at hm6
          have s6 := s5.kp hm6
          refine lv_if_eq (tgt := 55) hx hb dM_step_50 (by decide) (fun hq => ?_) (fun hq => ?_)
          · refine lv_aload_n hx hb dM_step_55 rfl (lv_at hl 1 rfl) ?_
            refine lv_iload_n hx hb dM_step_56 rfl (lv_at hl 2 rfl) ?_
            refine ct_V (n := 1) hE hI (kM_keepNow (u := u) (k := kto) s6.1.1 hto16 (hu5 u hu)) s6.o rfl gm_M134 gi_M_keepNow gs_M_M_keepNow gz_M gc_M_keepNow (by decide +kernel) ⟨Nat.le_of_ble_eq_true rfl, Nat.le_of_ble_eq_true rfl⟩ rfl hl.1 rfl (Nat.le_of_ble_eq_true rfl) dM_step_57 ⟨Nat.le_of_ble_eq_true rfl, Nat.le_of_ble_eq_true rfl⟩ (fun v w7 H locs hq hI => ?_)
            obtain ⟨rfl, A7, hm7, ea7, e7, ph7⟩ := hq
            show W _ _ _ _ _ _ _ _ _ _ _ _ _ _ _ (F0 _ _ _ [])
            refine lv_iload_n hx hb dM_step_60 rfl (lv_at hl 0 rfl) ?_
            refine lv_if_lt (tgt := 68) hx hb dM_step_61 (by decide) (fun hq => ?_) (fun hq => ?_)
            · exact absurd hq (nI_pos (by omega))
            · refine lv_iconst (v := nI 1) hx hb dM_step_64 (by decide) ?_
              refine lv_goto (tgt := 69) hx hb dM_step_65 (by decide) ?_
              exact ct_zret hE hI hr hk (Or.inr rfl) ((s6.keep hm7 ea7 e7 ph7 hto16 (hu5 u hu).2.2).fin er) (by decide) (by decide) dM_step_69
          · exact absurd rfl hq
        · exact absurd hq (by decide)
  · have er : op_step σ (nI kto) (nI ka) = (0, 0, su σ kto (σ ka)) := by unfold op_step; simp only [hrto, hra, hf1]
    refine lv_istore_n hx hb dM_step_27 rfl hl (by decide) rfl (fun ls hl => ?_)
    refine lv_iload_n hx hb dM_step_28 rfl (lv_at hl 0 rfl) ?_
    refine lv_if_lt (tgt := 55) hx hb dM_step_29 (by decide) (fun hq => ?_) (fun hq => ?_)
    · refine lv_aload_n hx hb dM_step_55 rfl (lv_at hl 1 rfl) ?_
      refine lv_iload_n hx hb dM_step_56 rfl (lv_at hl 2 rfl) ?_
      refine ct_V (n := 1) hE hI (kM_keepNow (u := σ ka) (k := kto) s3.1.1 hto16 hn3) s3.o rfl gm_M134 gi_M_keepNow gs_M_M_keepNow gz_M gc_M_keepNow (by decide +kernel) ⟨Nat.le_of_ble_eq_true rfl, Nat.le_of_ble_eq_true rfl⟩ rfl hl.1 rfl (Nat.le_of_ble_eq_true rfl) dM_step_57 ⟨Nat.le_of_ble_eq_true rfl, Nat.le_of_ble_eq_true rfl⟩ (fun v w7 H locs hq hI => ?_)
      obtain ⟨rfl, A7, hm7, ea7, e7, ph7⟩ := hq
      show W _ _ _ _ _ _ _ _ _ _ _ _ _ _ _ (F0 _ _ _ [])
      refine lv_iload_n hx hb dM_step_60 rfl (lv_at hl 0 rfl) ?_
      refine lv_if_lt (tgt := 68) hx hb dM_step_61 (by decide) (fun hq => ?_) (fun hq => ?_)
      · refine lv_iconst (v := 0) hx hb dM_step_68 (by decide) ?_
        exact ct_zret hE hI hr hk (Or.inl rfl) ((s3.keep hm7 ea7 e7 ph7 hto16 hn3.2.2).fin0 er) (by decide) (by decide) dM_step_69
      · exact absurd (by decide) hq
    · exact absurd (by decide) hq
set_option maxRecDepth 100000 in
set_option maxHeartbeats 4000000 in
theorem kM_all (s0 : st K h w w I A σ O c0) (to a v0 : Int32) (hd : Bool) (hv0 : v0 = 0 ↔ hd = false) : ct_M l n0 D K yM_all (Cond.code yM_all cM_all 6 (some .int)) 154 4700 0 0 [.ref (h 0), .int to, .int a, .int v0] w (po_M K h w O (op_all hd σ to a)) := by
  refine ct_go (own := nm_M) (by decide) rfl (Nat.le_of_ble_eq_true rfl) ?_
  intro p e s m below meth c ls hE hI hr hk hn hl
  have hx := hE.1.1.1
  have hb := hE.1.1.2.1
  have hl : lv_has ls 6 [(0, .ref (h 0)), (1, .int to), (2, .int a), (3, .int v0)] := hl
  refine lv_aload_n hx hb dM_all_0 rfl (lv_at hl 0 rfl) ?_
  refine lv_iload_n hx hb dM_all_1 rfl (lv_at hl 1 rfl) ?_
  refine ct_V (n := 1) hE hI (kM_none s0.1.1 to) s0.o rfl gm_M100 gi_M_none gs_M_M_none gz_M gc_M_none (by decide +kernel) ⟨Nat.le_of_ble_eq_true rfl, Nat.le_of_ble_eq_true rfl⟩ rfl hl.1 rfl (Nat.le_of_ble_eq_true rfl) dM_all_2 ⟨Nat.le_of_ble_eq_true rfl, Nat.le_of_ble_eq_true rfl⟩ (fun v w1 H locs hq hI => ?_)
  obtain ⟨I1, rfl, hm1, e1, ei1⟩ := hq
  show W _ _ _ _ _ _ _ _ _ _ _ _ _ _ _ (F0 _ _ _ [.int _])
  refine lv_if_ne (tgt := 16) hx hb dM_all_5 (by decide) (fun hq => ?_) (fun hq => ?_)
  · have hz := rk_t hq
    have er : op_all hd σ to a = (1, 0, σ) := by unfold op_all; rw [hz]
    have s9 := s0.no1 hm1 e1 ei1 hz
    refine lv_iconst (v := 0) hx hb dM_all_16 (by decide) ?_
    exact ct_iret hE hI hr hk (s9.fin0 er) (by decide) (by decide) dM_all_17
  obtain ⟨kto, hrto⟩ := rk_f hq
  have s1 := s0.no0 hm1 e1 ei1 hrto
  refine lv_aload_n hx hb dM_all_8 rfl (lv_at hl 0 rfl) ?_
  refine lv_iload_n hx hb dM_all_9 rfl (lv_at hl 2 rfl) ?_
  refine ct_V (n := 1) hE hI (kM_none s1.1.1 a) s1.o rfl gm_M100 gi_M_none gs_M_M_none gz_M gc_M_none (by decide +kernel) ⟨Nat.le_of_ble_eq_true rfl, Nat.le_of_ble_eq_true rfl⟩ rfl hl.1 rfl (Nat.le_of_ble_eq_true rfl) dM_all_10 ⟨Nat.le_of_ble_eq_true rfl, Nat.le_of_ble_eq_true rfl⟩ (fun v w2 H locs hq hI => ?_)
  obtain ⟨I2, rfl, hm2, e2, ei2⟩ := hq
  show W _ _ _ _ _ _ _ _ _ _ _ _ _ _ _ (F0 _ _ _ [.int _])
  refine lv_if_eq (tgt := 18) hx hb dM_all_13 (by decide) (fun hq => ?_) (fun hq => ?_)
  rotate_left
  · have hz := rk_t hq
    have er : op_all hd σ to a = (1, 0, σ) := by unfold op_all; rw [hrto, hz]
    have s9 := s1.no1 hm2 e2 ei2 hz
    refine lv_iconst (v := 0) hx hb dM_all_16 (by decide) ?_
    exact ct_iret hE hI hr hk (s9.fin0 er) (by decide) (by decide) dM_all_17
  obtain ⟨ka, hra⟩ := rk_f hq
  have s2 := s1.no0 hm2 e2 ei2 hra
  obtain ⟨hto16, rfl⟩ := rk_some hrto
  obtain ⟨ha16, rfl⟩ := rk_some hra
  have r2 := s2.2.1 ka ha16
  have za := s2.b ka ha16
  refine lv_aload_n hx hb dM_all_18 rfl (lv_at hl 0 rfl) ?_
  refine lv_iload_n hx hb dM_all_19 rfl (lv_at hl 2 rfl) ?_
  refine ct_V (n := 1) hE hI (kM_begins (u := σ ka) (k := ka) s2.1.1 ha16 r2.1 r2.2.1 r2.2.2) s2.o rfl gm_M124 gi_M_begins gs_M_M_begins gz_M gc_M_begins (by decide +kernel) ⟨Nat.le_of_ble_eq_true rfl, Nat.le_of_ble_eq_true rfl⟩ rfl hl.1 rfl (Nat.le_of_ble_eq_true rfl) dM_all_20 ⟨Nat.le_of_ble_eq_true rfl, Nat.le_of_ble_eq_true rfl⟩ (fun v w3 H locs hq hI => ?_)
  obtain ⟨rfl, I3, A3, hm3, ei3, ea3, hn3⟩ := hq
  show W _ _ _ _ _ _ _ _ _ _ _ _ _ _ _ (F0 _ _ _ [])
  have s3 := s2.nx hm3 (ei3.mono (by decide)) (ea3.mono (by decide))
  have loop : ∀ (kf n : Nat) (t : Std.Format) (w4 : mp_W) (I4 : mI) (A4 : mA) (H : Heap) (locs : List Loc) (r : Int32) (ls : Array Slot), kf + n = 300 → st K h w w4 I4 A4 σ O 0 → nw I4 A4 t → tm_rd hd 301 0 (σ ka) = tm_rd hd (kf + 1) n t → fnd hd t r → mp_I D cl_all (mp_A w s.heap.size) s.heap w4 H locs → lv_has ls 6 [(5, .int r), (4, .int (nI n)), (0, .ref (h 0)), (1, .int (nI kto)), (2, .int (nI ka)), (3, .int v0)] →
      W p l e { frames := 154, cells := 0, slots := 0, locals := 4700 } s m ([Value.ref (h 0), .int (nI kto), .int (nI ka), .int v0] : List Value).toArray below meth c H locs 0 0 (MQ below (ct_Q D w s.heap.size (po_M K h w O (op_all hd σ (nI kto) (nI ka)))) ([Value.ref (h 0), .int (nI kto), .int (nI ka), .int v0] : List Value).toArray s 0 0 (mp_A w s.heap.size)) (F0 m 43 ls []) := by
    intro kf
    induction kf using Nat.strongRecOn with
    | ind kf ih =>
    intro n t w4 I4 A4 H locs r ls hfu s4 hnw hrd hf hI hl
    refine lv_iload hx hb dM_all_43 (lv_at hl 0 rfl) ?_
    rcases hf with ⟨q0, rfl, hf1, hrx⟩ | ⟨rfl, hf1⟩
    · have hq0 := tm_rx_lt hrx
      have hzt := hnw.2.2.2.2.1
      refine lv_if_lt (tgt := 118) hx hb dM_all_45 (by decide) (fun hq => ?_) (fun hq => ?_)
      · exact absurd hq (nI_pos (by omega))
      · refine lv_aload_n hx hb dM_all_48 rfl (lv_at hl 2 rfl) ?_
        refine lv_iconst (v := 2) hx hb dM_all_49 (by decide) ?_
        refine lv_aload_n hx hb dM_all_50 rfl (lv_at hl 2 rfl) ?_
        refine lv_iload hx hb dM_all_51 (lv_at hl 0 rfl) ?_
        refine ct_V (n := 1) hE hI (kM_stepped s4.1.1 hnw hrx) s4.o rfl gm_M131 gi_M_stepped gs_M_M_stepped gz_M gc_M_stepped (by decide +kernel) ⟨Nat.le_of_ble_eq_true rfl, Nat.le_of_ble_eq_true rfl⟩ rfl hl.1 rfl (Nat.le_of_ble_eq_true rfl) dM_all_53 ⟨Nat.le_of_ble_eq_true rfl, Nat.le_of_ble_eq_true rfl⟩ (fun v w5 H locs hq hI => ?_)
        obtain ⟨rfl, I5, A5, hm5, ei5, ea5, hu5⟩ := hq
        show W _ _ _ _ _ _ _ _ _ _ _ _ _ _ _ (F0 _ _ _ [.int _, .int _, .ref (h 0)])
        have s5 := s4.nx hm5 (ei5.mono (by decide)) (ea5.mono (by decide))
        by_cases hc : tm_chk (tm_ct t q0) = none
        · have er : op_all hd σ (nI kto) (nI ka) = (2, 0, σ) := by
            have hrd := hrd.trans (tm_rd_bad hf1 hc)
            unfold op_all; simp only [hrto, hra, hrd]
          rw [if_pos hc]
          refine lv_if_ne (tgt := 63) hx hb dM_all_56 (by decide) (fun hq => ?_) (fun hq => ?_)
          · exact absurd rfl hq
          · refine lv_iconst (v := 1) hx hb dM_all_59 (by decide) ?_
            refine lv_goto (tgt := 64) hx hb dM_all_60 (by decide) ?_
            refine ct_V (n := 2) hE hI (kM_refuse s5.1.1 2 1 (Or.inr rfl)) s5.o rfl gm_M67 gi_M_refuse gs_M_M_refuse gz_M gc_M_refuse (by decide +kernel) ⟨Nat.le_of_ble_eq_true rfl, Nat.le_of_ble_eq_true rfl⟩ rfl hl.1 rfl (Nat.le_of_ble_eq_true rfl) dM_all_64 ⟨Nat.le_of_ble_eq_true rfl, Nat.le_of_ble_eq_true rfl⟩ (fun v w6 H locs hq hI => ?_)
            obtain ⟨rfl, hm6⟩ := hq
            show W _ _ _ _ _ _ _ _ _ _ _ _ _ _ _ (F0 _ _ _ [.int _])
            rw [if_neg (by decide)] at hm6
            have s6 := s5.cd (c' := 2) hm6 rfl
            refine lv_if_eq (tgt := 72) hx hb dM_all_67 (by decide) (fun hq => ?_) (fun hq => ?_)
            · exact absurd hq (by decide)
            · refine lv_iconst (v := 0) hx hb dM_all_70 (by decide) ?_
              exact ct_iret hE hI hr hk (s6.fin0 er) (by decide) (by decide) dM_all_71
        · obtain ⟨u, hu⟩ := Option.ne_none_iff_exists'.mp hc
          have hrd := hrd.trans (tm_rd_on hf1 hu)
          rw [if_neg hc]
          refine lv_if_ne (tgt := 63) hx hb dM_all_56 (by decide) (fun hq => ?_) (fun hq => ?_)
          · refine lv_iconst (v := 0) hx hb dM_all_63 (by decide) ?_
            refine ct_V (n := 2) hE hI (kM_refuse s5.1.1 2 0 (Or.inl rfl)) s5.o rfl gm_M67 gi_M_refuse gs_M_M_refuse gz_M gc_M_refuse (by decide +kernel) ⟨Nat.le_of_ble_eq_true rfl, Nat.le_of_ble_eq_true rfl⟩ rfl hl.1 rfl (Nat.le_of_ble_eq_true rfl) dM_all_64 ⟨Nat.le_of_ble_eq_true rfl, Nat.le_of_ble_eq_true rfl⟩ (fun v w6 H locs hq hI => ?_)
            obtain ⟨rfl, hm6⟩ := hq
            show W _ _ _ _ _ _ _ _ _ _ _ _ _ _ _ (F0 _ _ _ [.int _])
            rw [if_pos rfl] at hm6
            have s6 := s5.kp hm6
            refine lv_if_eq (tgt := 72) hx hb dM_all_67 (by decide) (fun hq => ?_) (fun hq => ?_)
            · refine lv_iinc (k := 1) (v := nI (n + 1)) hx hb dM_all_72 hl rfl (nI_1 n) (by decide) rfl (fun ls hl => ?_)
              refine lv_aload_n hx hb dM_all_75 rfl (lv_at hl 2 rfl) ?_
              refine lv_iconst (v := 3) hx hb dM_all_76 (by decide) ?_
              refine lv_iload hx hb dM_all_77 (lv_at hl 0 rfl) ?_
              refine lv_sipush (v := nI 300) hx hb dM_all_79 (by decide) ?_
              refine lv_icmp_le (tgt := 89) hx hb dM_all_82 (by decide) (fun hq => ?_) (fun hq => ?_)
              · have hq : n + 1 ≤ 300 := (nI_leI (by omega) (by omega)).mp hq
                obtain ⟨kg, rfl⟩ : ∃ kg, kf = kg + 1 := ⟨kf - 1, by omega⟩
                refine lv_iconst (v := 0) hx hb dM_all_89 (by decide) ?_
                refine ct_V (n := 2) hE hI (kM_refuse s6.1.1 3 0 (Or.inl rfl)) s6.o rfl gm_M67 gi_M_refuse gs_M_M_refuse gz_M gc_M_refuse (by decide +kernel) ⟨Nat.le_of_ble_eq_true rfl, Nat.le_of_ble_eq_true rfl⟩ rfl hl.1 rfl (Nat.le_of_ble_eq_true rfl) dM_all_90 ⟨Nat.le_of_ble_eq_true rfl, Nat.le_of_ble_eq_true rfl⟩ (fun v w7 H locs hq hI => ?_)
                obtain ⟨rfl, hm7⟩ := hq
                show W _ _ _ _ _ _ _ _ _ _ _ _ _ _ _ (F0 _ _ _ [.int _])
                rw [if_pos rfl] at hm7
                have s7 := s6.kp hm7
                have hn7 := hu5 u hu
                refine lv_if_eq (tgt := 98) hx hb dM_all_93 (by decide) (fun hq => ?_) (fun hq => ?_)
                · skip
                  refine lv_iload_n hx hb dM_all_98 rfl (lv_at hl 5 rfl) ?_
                  refine lv_if_eq (tgt := 109) hx hb dM_all_99 (by decide) (fun hqf => ?_) (fun hqf => ?_)
                  · have hdf := hv0.mp hqf
                    refine lv_aload_n hx hb dM_all_109 rfl (lv_at hl 2 rfl) ?_
                    refine ct_V (n := 0) hE hI (kM_first s7.1.1 hn7) s7.o rfl gm_M127 gi_M_first gs_M_M_first gz_M gc_M_first (by decide +kernel) ⟨Nat.le_of_ble_eq_true rfl, Nat.le_of_ble_eq_true rfl⟩ rfl hl.1 rfl (Nat.le_of_ble_eq_true rfl) dM_all_110 ⟨Nat.le_of_ble_eq_true rfl, Nat.le_of_ble_eq_true rfl⟩ (fun v w8 H locs hq hI => ?_)
                    obtain ⟨hw, r0, rfl, hf⟩ := hq
                    subst w8
                    show W _ _ _ _ _ _ _ _ _ _ _ _ _ _ _ (F0 _ _ _ [.int _])
                    refine lv_istore hx hb dM_all_113 hl (by decide) rfl (fun ls hl => ?_)
                    refine lv_goto (tgt := 43) hx hb dM_all_115 (by decide) ?_
                    exact ih kg (by omega) (n + 1) u _ _ _ _ _ r0 ls (by omega) s7 hn7 hrd (by subst hdf; exact hf) hI hl
                  · have hdf : hd = true := by
                      rcases hd with _ | _
                      · exact absurd (hv0.mpr rfl) hqf
                      · rfl
                    refine lv_aload_n hx hb dM_all_102 rfl (lv_at hl 2 rfl) ?_
                    refine ct_V (n := 0) hE hI (kM_atHead s7.1.1 hn7) s7.o rfl gm_M137 gi_M_atHead gs_M_M_atHead gz_M gc_M_atHead (by decide +kernel) ⟨Nat.le_of_ble_eq_true rfl, Nat.le_of_ble_eq_true rfl⟩ rfl hl.1 rfl (Nat.le_of_ble_eq_true rfl) dM_all_103 ⟨Nat.le_of_ble_eq_true rfl, Nat.le_of_ble_eq_true rfl⟩ (fun v w8 H locs hq hI => ?_)
                    obtain ⟨hw, r0, rfl, hf⟩ := hq
                    subst w8
                    show W _ _ _ _ _ _ _ _ _ _ _ _ _ _ _ (F0 _ _ _ [.int _])
                    refine lv_goto (tgt := 113) hx hb dM_all_106 (by decide) ?_
                    refine lv_istore hx hb dM_all_113 hl (by decide) rfl (fun ls hl => ?_)
                    refine lv_goto (tgt := 43) hx hb dM_all_115 (by decide) ?_
                    exact ih kg (by omega) (n + 1) u _ _ _ _ _ r0 ls (by omega) s7 hn7 hrd (by subst hdf; exact hf) hI hl
                · exact absurd rfl hq
              · have hq : ¬ n + 1 ≤ 300 := fun hh => hq ((nI_leI (by omega) (by omega)).mpr hh)
                have hkf : kf = 0 := by omega
                subst hkf
                have er : op_all hd σ (nI kto) (nI ka) = (3, 0, σ) := by
                  have hrd := hrd.trans (tm_rd_0 _ _ _)
                  unfold op_all; simp only [hrto, hra, hrd]
                refine lv_iconst (v := 1) hx hb dM_all_85 (by decide) ?_
                refine lv_goto (tgt := 90) hx hb dM_all_86 (by decide) ?_
                refine ct_V (n := 2) hE hI (kM_refuse s6.1.1 3 1 (Or.inr rfl)) s6.o rfl gm_M67 gi_M_refuse gs_M_M_refuse gz_M gc_M_refuse (by decide +kernel) ⟨Nat.le_of_ble_eq_true rfl, Nat.le_of_ble_eq_true rfl⟩ rfl hl.1 rfl (Nat.le_of_ble_eq_true rfl) dM_all_90 ⟨Nat.le_of_ble_eq_true rfl, Nat.le_of_ble_eq_true rfl⟩ (fun v w7 H locs hq hI => ?_)
                obtain ⟨rfl, hm7⟩ := hq
                show W _ _ _ _ _ _ _ _ _ _ _ _ _ _ _ (F0 _ _ _ [.int _])
                rw [if_neg (by decide)] at hm7
                have s7 := s6.cd (c' := 3) hm7 rfl
                refine lv_if_eq (tgt := 98) hx hb dM_all_93 (by decide) (fun hq => ?_) (fun hq => ?_)
                · exact absurd hq (by decide)
                · refine lv_iconst (v := 0) hx hb dM_all_96 (by decide) ?_
                  exact ct_iret hE hI hr hk (s7.fin0 er) (by decide) (by decide) dM_all_97
            · exact absurd rfl hq
          · exact absurd hq (by decide)
    · have er : op_all hd σ (nI kto) (nI ka) = (0, n, su σ kto t) := by
        have hrd := hrd.trans (tm_rd_no hf1)
        unfold op_all; simp only [hrto, hra, hrd]
      refine lv_if_lt (tgt := 118) hx hb dM_all_45 (by decide) (fun hq => ?_) (fun hq => ?_)
      · refine lv_aload_n hx hb dM_all_118 rfl (lv_at hl 2 rfl) ?_
        refine lv_iload_n hx hb dM_all_119 rfl (lv_at hl 3 rfl) ?_
        refine ct_V (n := 1) hE hI (kM_keepNow (u := t) (k := kto) s4.1.1 hto16 hnw) s4.o rfl gm_M134 gi_M_keepNow gs_M_M_keepNow gz_M gc_M_keepNow (by decide +kernel) ⟨Nat.le_of_ble_eq_true rfl, Nat.le_of_ble_eq_true rfl⟩ rfl hl.1 rfl (Nat.le_of_ble_eq_true rfl) dM_all_120 ⟨Nat.le_of_ble_eq_true rfl, Nat.le_of_ble_eq_true rfl⟩ (fun v w7 H locs hq hI => ?_)
        obtain ⟨rfl, A7, hm7, ea7, e7, ph7⟩ := hq
        show W _ _ _ _ _ _ _ _ _ _ _ _ _ _ _ (F0 _ _ _ [])
        refine lv_iload hx hb dM_all_123 (lv_at hl 1 rfl) ?_
        exact ct_iret hE hI hr hk ((s4.keep hm7 ea7 e7 ph7 hto16 hnw.2.2).fin er) (by decide) (by decide) dM_all_125
      · exact absurd (by decide) hq
  refine lv_iconst (v := nI 0) hx hb dM_all_23 (by decide) ?_
  refine lv_istore hx hb dM_all_24 hl (by decide) rfl (fun ls hl => ?_)
  refine lv_iload_n hx hb dM_all_26 rfl (lv_at hl 4 rfl) ?_
  refine lv_if_eq (tgt := 37) hx hb dM_all_27 (by decide) (fun hqf => ?_) (fun hqf => ?_)
  · have hdf := hv0.mp hqf
    refine lv_aload_n hx hb dM_all_37 rfl (lv_at hl 1 rfl) ?_
    refine ct_V (n := 0) hE hI (kM_first s3.1.1 hn3) s3.o rfl gm_M127 gi_M_first gs_M_M_first gz_M gc_M_first (by decide +kernel) ⟨Nat.le_of_ble_eq_true rfl, Nat.le_of_ble_eq_true rfl⟩ rfl hl.1 rfl (Nat.le_of_ble_eq_true rfl) dM_all_38 ⟨Nat.le_of_ble_eq_true rfl, Nat.le_of_ble_eq_true rfl⟩ (fun v w8 H locs hq hI => ?_)
    obtain ⟨hw, r0, rfl, hf⟩ := hq
    subst w8
    show W _ _ _ _ _ _ _ _ _ _ _ _ _ _ _ (F0 _ _ _ [.int _])
    refine lv_istore hx hb dM_all_41 hl (by decide) rfl (fun ls hl => ?_)
    exact loop 300 0 _ _ _ _ _ _ r0 ls (by omega) s3 hn3 rfl (by subst hdf; exact hf) hI hl
  · have hdf : hd = true := by
      rcases hd with _ | _
      · exact absurd (hv0.mpr rfl) hqf
      · rfl
    refine lv_aload_n hx hb dM_all_30 rfl (lv_at hl 1 rfl) ?_
    refine ct_V (n := 0) hE hI (kM_atHead s3.1.1 hn3) s3.o rfl gm_M137 gi_M_atHead gs_M_M_atHead gz_M gc_M_atHead (by decide +kernel) ⟨Nat.le_of_ble_eq_true rfl, Nat.le_of_ble_eq_true rfl⟩ rfl hl.1 rfl (Nat.le_of_ble_eq_true rfl) dM_all_31 ⟨Nat.le_of_ble_eq_true rfl, Nat.le_of_ble_eq_true rfl⟩ (fun v w8 H locs hq hI => ?_)
    obtain ⟨hw, r0, rfl, hf⟩ := hq
    subst w8
    show W _ _ _ _ _ _ _ _ _ _ _ _ _ _ _ (F0 _ _ _ [.int _])
    refine lv_goto (tgt := 41) hx hb dM_all_34 (by decide) ?_
    refine lv_istore hx hb dM_all_41 hl (by decide) rfl (fun ls hl => ?_)
    exact loop 300 0 _ _ _ _ _ _ r0 ls (by omega) s3 hn3 rfl (by subst hdf; exact hf) hI hl
set_option maxRecDepth 100000 in
theorem kM_head (s0 : st K h w w I A σ O c0) (to a : Int32) : ct_M l n0 D K yM_head (Cond.code yM_head cM_head 3 (some .int)) 155 4760 0 0 [.ref (h 0), .int to, .int a] w (po_M K h w O (op_all true σ to a)) := by
  refine ct_go (own := nm_M) (by decide) rfl (Nat.le_of_ble_eq_true rfl) ?_
  intro p e s m below meth c ls hE hI hr hk hn hl
  have hx := hE.1.1.1
  have hb := hE.1.1.2.1
  have hl : lv_has ls 3 [(0, .ref (h 0)), (1, .int to), (2, .int a)] := hl
  refine lv_aload_n hx hb dM_head_0 rfl (lv_at hl 0 rfl) ?_
  refine lv_iload_n hx hb dM_head_1 rfl (lv_at hl 1 rfl) ?_
  refine lv_iload_n hx hb dM_head_2 rfl (lv_at hl 2 rfl) ?_
  refine lv_iconst (v := 1) hx hb dM_head_3 (by decide) ?_
  refine ct_V (n := 3) hE hI (kM_all s0 to a 1 true (by decide)) s0.o rfl gm_M140 gi_M_all gs_M_M_all gz_M gc_M_all (by decide +kernel) ⟨Nat.le_of_ble_eq_true rfl, Nat.le_of_ble_eq_true rfl⟩ rfl hl.1 rfl (Nat.le_of_ble_eq_true rfl) dM_head_4 ⟨Nat.le_of_ble_eq_true rfl, Nat.le_of_ble_eq_true rfl⟩ (fun v w1 H locs hq hI => ?_)
  obtain ⟨rfl, I1, A1, s1⟩ := hq
  show W _ _ _ _ _ _ _ _ _ _ _ _ _ _ _ (F0 _ _ _ [.int _])
  exact ct_iret hE hI hr hk ⟨rfl, I1, A1, s1⟩ (by decide) (by decide) dM_head_7
set_option maxRecDepth 100000 in
theorem kM_normal (s0 : st K h w w I A σ O c0) (to a : Int32) : ct_M l n0 D K yM_normal (Cond.code yM_normal cM_normal 3 (some .int)) 155 4760 0 0 [.ref (h 0), .int to, .int a] w (po_M K h w O (op_all false σ to a)) := by
  refine ct_go (own := nm_M) (by decide) rfl (Nat.le_of_ble_eq_true rfl) ?_
  intro p e s m below meth c ls hE hI hr hk hn hl
  have hx := hE.1.1.1
  have hb := hE.1.1.2.1
  have hl : lv_has ls 3 [(0, .ref (h 0)), (1, .int to), (2, .int a)] := hl
  refine lv_aload_n hx hb dM_normal_0 rfl (lv_at hl 0 rfl) ?_
  refine lv_iload_n hx hb dM_normal_1 rfl (lv_at hl 1 rfl) ?_
  refine lv_iload_n hx hb dM_normal_2 rfl (lv_at hl 2 rfl) ?_
  refine lv_iconst (v := 0) hx hb dM_normal_3 (by decide) ?_
  refine ct_V (n := 3) hE hI (kM_all s0 to a 0 false (by decide)) s0.o rfl gm_M140 gi_M_all gs_M_M_all gz_M gc_M_all (by decide +kernel) ⟨Nat.le_of_ble_eq_true rfl, Nat.le_of_ble_eq_true rfl⟩ rfl hl.1 rfl (Nat.le_of_ble_eq_true rfl) dM_normal_4 ⟨Nat.le_of_ble_eq_true rfl, Nat.le_of_ble_eq_true rfl⟩ (fun v w1 H locs hq hI => ?_)
  obtain ⟨rfl, I1, A1, s1⟩ := hq
  show W _ _ _ _ _ _ _ _ _ _ _ _ _ _ _ (F0 _ _ _ [.int _])
  exact ct_iret hE hI hr hk ⟨rfl, I1, A1, s1⟩ (by decide) (by decide) dM_normal_7
end KM10
