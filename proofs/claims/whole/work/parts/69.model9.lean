/-! the reference's face: bind, put, open, part -/
theorem rw_hd {t : Std.Format} (hok : tm_ok t) : ∃ x r, tm_row t = x :: r ∧ (-1000000 ≤ x ∧ x ≤ 1000000) ∧ (2000 ≤ x ↔ ∃ j c, t = .tag j c) ∧ (x = 1000 ↔ ∃ a b, t = .append a b) := by
  have hbd := tm_ok_bd hok
  rcases tm_cases t with hlf | ⟨j, a, rfl⟩ | ⟨u, v, rfl⟩
  · refine ⟨tm_val t, [], tm_row_leaf hlf, hbd _ (by rw [tm_row_leaf hlf]; exact List.mem_singleton.mpr rfl), ⟨fun hh => ?_, fun hh => ?_⟩, ⟨fun hh => ?_, fun hh => ?_⟩⟩
    · have := hok.1
      rw [tm_sc_leaf hlf] at this
      rcases this with hq | ⟨-, hq⟩
      · omega
      · cases hq
    · obtain ⟨j, c, rfl⟩ := hh
      cases hlf
    · have := hok.1
      rw [tm_sc_leaf hlf] at this
      rcases this with hq | ⟨-, hq⟩
      · omega
      · cases hq
    · obtain ⟨j, c, rfl⟩ := hh
      cases hlf
  · refine ⟨2000 + (j : Int), tm_row a, tm_row_fun j a, hbd _ (by rw [tm_row_fun]; exact List.mem_cons_self ..), ⟨fun _ => ⟨j, a, rfl⟩, fun _ => by omega⟩, ⟨fun hh => by omega, fun hh => ?_⟩⟩
    obtain ⟨_, _, hh⟩ := hh
    cases hh
  · refine ⟨1000, tm_row u ++ tm_row v, tm_row_app u v, by decide, ⟨fun hh => absurd hh (by decide), fun hh => ?_⟩, ⟨fun _ => ⟨u, v, rfl⟩, fun _ => rfl⟩⟩
    obtain ⟨_, _, hh⟩ := hh
    cases hh
theorem row_fill {n : Int} (hn : n < 1000) (t b : Std.Format) : (((tm_row t).drop 0).take (tm_sz t - 0)).flatMap (fun x => if x = n then ((tm_row b).drop 0).take (tm_sz b - 0) else [x]) = tm_row (tm_sub n b t) := by
  rw [row_all, row_all, tm_row_sub hn]
section KM9
variable {l : Launch} {n0 : Nat} {D : va_G} {K : Nat → ClassId} {w : mp_W} {h : Nat → Nat} {I : mI} {A : mA} {σ : Nat → Std.Format} {O : List Int} {c0 : Nat}
set_option maxRecDepth 100000 in
set_option maxHeartbeats 2000000 in
theorem kM_bind (s0 : st K h w w I A σ O c0) (to a n : Int32) : ct_M l n0 D K yM_bind (Cond.code yM_bind cM_bind 4 (some .int)) 154 4700 0 0 [.ref (h 0), .int to, .int a, .int n] w (po_M K h w O (op_bind σ to a n)) := by
  refine ct_go (own := nm_M) (by decide) rfl (Nat.le_of_ble_eq_true rfl) ?_
  intro p e s m below meth c ls hE hI hr hk hn hl
  have hx := hE.1.1.1
  have hb := hE.1.1.2.1
  have hl : lv_has ls 4 [(0, .ref (h 0)), (1, .int to), (2, .int a), (3, .int n)] := hl
  refine lv_aload_n hx hb dM_bind_0 rfl (lv_at hl 0 rfl) ?_
  refine lv_iload_n hx hb dM_bind_1 rfl (lv_at hl 1 rfl) ?_
  refine ct_V (n := 1) hE hI (kM_none s0.1.1 to) s0.o rfl gm_M100 gi_M_none gs_M_M_none gz_M gc_M_none (by decide +kernel) ⟨Nat.le_of_ble_eq_true rfl, Nat.le_of_ble_eq_true rfl⟩ rfl hl.1 rfl (Nat.le_of_ble_eq_true rfl) dM_bind_2 ⟨Nat.le_of_ble_eq_true rfl, Nat.le_of_ble_eq_true rfl⟩ (fun v w1 H locs hq hI => ?_)
  obtain ⟨I1, rfl, hm1, e1, ei1⟩ := hq
  show W _ _ _ _ _ _ _ _ _ _ _ _ _ _ _ (F0 _ _ _ [.int _])
  refine lv_if_ne (tgt := 39) hx hb dM_bind_5 (by decide) (fun hq => ?_) (fun hq => ?_)
  · have hz := rk_t hq
    have er : op_bind σ to a n = (1, 0, σ) := by unfold op_bind; rw [hz]
    have s9 := s0.no1 hm1 e1 ei1 hz
    refine lv_iconst (v := 0) hx hb dM_bind_39 (by decide) ?_
    exact ct_iret hE hI hr hk (s9.fin0 er) (by decide) (by decide) dM_bind_40
  obtain ⟨kto, hrto⟩ := rk_f hq
  have s1 := s0.no0 hm1 e1 ei1 hrto
  refine lv_aload_n hx hb dM_bind_8 rfl (lv_at hl 0 rfl) ?_
  refine lv_iload_n hx hb dM_bind_9 rfl (lv_at hl 2 rfl) ?_
  refine ct_V (n := 1) hE hI (kM_none s1.1.1 a) s1.o rfl gm_M100 gi_M_none gs_M_M_none gz_M gc_M_none (by decide +kernel) ⟨Nat.le_of_ble_eq_true rfl, Nat.le_of_ble_eq_true rfl⟩ rfl hl.1 rfl (Nat.le_of_ble_eq_true rfl) dM_bind_10 ⟨Nat.le_of_ble_eq_true rfl, Nat.le_of_ble_eq_true rfl⟩ (fun v w2 H locs hq hI => ?_)
  obtain ⟨I2, rfl, hm2, e2, ei2⟩ := hq
  show W _ _ _ _ _ _ _ _ _ _ _ _ _ _ _ (F0 _ _ _ [.int _])
  refine lv_if_ne (tgt := 39) hx hb dM_bind_13 (by decide) (fun hq => ?_) (fun hq => ?_)
  · have hz := rk_t hq
    have er : op_bind σ to a n = (1, 0, σ) := by unfold op_bind; rw [hrto, hz]
    have s9 := s1.no1 hm2 e2 ei2 hz
    refine lv_iconst (v := 0) hx hb dM_bind_39 (by decide) ?_
    exact ct_iret hE hI hr hk (s9.fin0 er) (by decide) (by decide) dM_bind_40
  obtain ⟨ka, hra⟩ := rk_f hq
  have s2 := s1.no0 hm2 e2 ei2 hra
  refine W_jn (F0 m 33 ls [.int (if fk n = none then 1 else 0), .int 1, .ref (h 0)]) (fun jn => ?_) ?_
  · skip
    refine lv_aload_n hx hb dM_bind_16 rfl (lv_at hl 0 rfl) ?_
    refine lv_iconst (v := 1) hx hb dM_bind_17 (by decide) ?_
    refine lv_iload_n hx hb dM_bind_18 rfl (lv_at hl 3 rfl) ?_
    refine lv_if_lt (tgt := 28) hx hb dM_bind_19 (by decide) (fun hq => ?_) (fun hq => ?_)
    · refine lv_iconst (v := 1) hx hb dM_bind_28 (by decide) ?_
      refine lv_goto (tgt := 33) hx hb dM_bind_29 (by decide) ?_
      rw [if_pos (fk_lo hq)] at jn
      exact jn
    · refine lv_iload_n hx hb dM_bind_22 rfl (lv_at hl 3 rfl) ?_
      refine lv_bipush (v := 99) hx hb dM_bind_23 (by decide) ?_
      refine lv_icmp_le (tgt := 32) hx hb dM_bind_25 (by decide) (fun hq2 => ?_) (fun hq2 => ?_)
      · refine lv_iconst (v := 0) hx hb dM_bind_32 (by decide) ?_
        rw [if_neg (fk_in hq hq2)] at jn
        exact jn
      · refine lv_iconst (v := 1) hx hb dM_bind_28 (by decide) ?_
        refine lv_goto (tgt := 33) hx hb dM_bind_29 (by decide) ?_
        rw [if_pos (fk_hi hq2)] at jn
        exact jn
  refine ct_V (n := 2) hE hI (kM_refuse s2.1.1 1 _ (fk_01 n)) s2.o rfl gm_M67 gi_M_refuse gs_M_M_refuse gz_M gc_M_refuse (by decide +kernel) ⟨Nat.le_of_ble_eq_true rfl, Nat.le_of_ble_eq_true rfl⟩ rfl hl.1 rfl (Nat.le_of_ble_eq_true rfl) dM_bind_33 ⟨Nat.le_of_ble_eq_true rfl, Nat.le_of_ble_eq_true rfl⟩ (fun v w3 H locs hq hI => ?_)
  obtain ⟨rfl, hm3⟩ := hq
  show W _ _ _ _ _ _ _ _ _ _ _ _ _ _ _ (F0 _ _ _ [.int _])
  refine lv_if_eq (tgt := 41) hx hb dM_bind_36 (by decide) (fun hq => ?_) (fun hq => ?_)
  rotate_left
  · have hz := fk_t hq
    have er : op_bind σ to a n = (1, 0, σ) := by unfold op_bind; rw [hrto, hra, hz]
    rw [if_neg hq] at hm3
    have s9 := s2.cd (c' := 1) hm3 rfl
    refine lv_iconst (v := 0) hx hb dM_bind_39 (by decide) ?_
    exact ct_iret hE hI hr hk (s9.fin0 er) (by decide) (by decide) dM_bind_40
  rw [if_pos hq] at hm3
  obtain ⟨kn, hfn⟩ := fk_f hq
  have s3 := s2.kp hm3
  obtain ⟨hto16, rfl⟩ := rk_some hrto
  obtain ⟨ha16, rfl⟩ := rk_some hra
  obtain ⟨hn100, hnk⟩ := fk_some hfn
  have er : op_bind σ (nI kto) (nI ka) n = ck 2 σ kto (.tag 5000 (tm_sub kn (lfm (-5001)) (σ ka))) := by unfold op_bind; rw [hrto, hra, hfn]
  refine lv_aload_n hx hb dM_bind_41 rfl (lv_at hl 0 rfl) ?_
  refine ct_V (n := 0) hE hI (kM_begin s3.1.1) s3.o rfl gm_M104 gi_M_begin gs_M_M_begin gz_M gc_M_begin (by decide +kernel) ⟨Nat.le_of_ble_eq_true rfl, Nat.le_of_ble_eq_true rfl⟩ rfl hl.1 rfl (Nat.le_of_ble_eq_true rfl) dM_bind_42 ⟨Nat.le_of_ble_eq_true rfl, Nat.le_of_ble_eq_true rfl⟩ (fun v w4 H locs hq hI => ?_)
  obtain ⟨rfl, I4, hm4, hk4, ei4⟩ := hq
  show W _ _ _ _ _ _ _ _ _ _ _ _ _ _ _ (F0 _ _ _ [])
  have s4 := s3.nx hm4 (ei4.mono (by decide)) (eqA.rf _ _)
  refine lv_aload_n hx hb dM_bind_45 rfl (lv_at hl 0 rfl) ?_
  refine lv_sipush (v := ci_i 7000) hx hb dM_bind_46 (by decide) ?_
  refine ct_V (n := 1) hE hI (kM_add (z := 7000) s4.1.1 hk4) s4.o rfl gm_M71 gi_M_add gs_M_M_add gz_M gc_M_add (by decide +kernel) ⟨Nat.le_of_ble_eq_true rfl, Nat.le_of_ble_eq_true rfl⟩ rfl hl.1 rfl (Nat.le_of_ble_eq_true rfl) dM_bind_49 ⟨Nat.le_of_ble_eq_true rfl, Nat.le_of_ble_eq_true rfl⟩ (fun v w5 H locs hq hI => ?_)
  obtain ⟨rfl, I5, A5, hm5, hk5, ei5, ea5⟩ := hq
  show W _ _ _ _ _ _ _ _ _ _ _ _ _ _ _ (F0 _ _ _ [])
  have s5 := s4.nx hm5 (ei5.mono (by decide)) (ea5.mono (by decide))
  have za := s5.b ka ha16
  have hA4 : w5 (h 4) = some (ob_I K 2001 (A5 4)) := s5.1.1.2.2.2 4 (by decide) (by decide)
  refine lv_aload_n hx hb dM_bind_52 rfl (lv_at hl 0 rfl) ?_
  refine mp_get hE.1 hI s5.o rfl gx_M 4 (by decide) (List.mem_cons_of_mem _ gf_M25) rfl dM_bind_53 ?_
  refine lv_iconst (v := nI 0) hx hb dM_bind_56 (by decide) ?_
  refine lv_sipush (v := ci_i (-5001)) hx hb dM_bind_57 (by decide) ?_
  refine mp_ist hE.1 hI hA4 0 rfl (vp_in_nI (by omega) (by omega)) dM_bind_60 (fun H locs hI => ?_)
  rw [nI_clamp (by omega)] at hI
  have hv6 := s5.1.1.upA (k := 4) (by decide) (by decide) (upd (A5 4) 0 (ci_i (-5001)))
  obtain ⟨w6, hw6⟩ : ∃ z, mp_up w5 (h 4) (ob_A K 4 (upd (A5 4) 0 (ci_i (-5001)))) = z := ⟨_, rfl⟩
  rw [hw6] at hv6
  have hI : mp_I D cl_all (mp_A w s.heap.size) s.heap w6 H locs := by rw [← hw6]; exact hI
  have hf6 : fm h w5 w6 := by rw [← hw6]; exact (fm.rf _ _).up (by decide) _
  have s6 := s5.nx ⟨hv6, hf6⟩ (eqI.rf _ _) ((eqA.rf _ _).up (by decide) _)
  have hk6 : mk_m I5 (au A5 4 (upd (A5 4) 0 (ci_i (-5001)))) ([] ++ [7000]) := by
    refine ⟨hk5.1, hk5.2.1, ?_⟩
    rw [au_ne (by decide)]
    exact hk5.2.2
  have hB : pt_h (au A5 4 (upd (A5 4) 0 (ci_i (-5001))) 4) [-5001] := by
    intro i x hi
    rw [au_self]
    rcases i with _ | i
    · have : x = -5001 := by simpa using hi.symm
      subst this
      exact if_pos rfl
    · simp at hi
  have r6 := s6.2.1 ka ha16
  refine lv_aload_n hx hb dM_bind_61 rfl (lv_at hl 0 rfl) ?_
  refine lv_aload_n hx hb dM_bind_62 rfl (lv_at hl 0 rfl) ?_
  refine mp_get hE.1 hI s6.o rfl gx_M 1 (by decide) (List.mem_cons_of_mem _ gf_M15) rfl dM_bind_63 ?_
  refine lv_iload_n hx hb dM_bind_66 rfl (lv_at hl 2 rfl) ?_
  refine mp_aldA hE.1 hI s6.g 4 rfl (vp_in_nI (by omega) (by omega)) dM_bind_67 ?_
  rw [nI_clamp (by omega)]
  show W _ _ _ _ _ _ _ _ _ _ _ _ _ _ _ (F0 _ _ _ [.ref (h (9 + ka)), .ref (h 0)])
  refine lv_iconst (v := nI 0) hx hb dM_bind_68 (by decide) ?_
  refine lv_aload_n hx hb dM_bind_69 rfl (lv_at hl 0 rfl) ?_
  refine mp_get hE.1 hI s6.o rfl gx_M 2 (by decide) (List.mem_cons_of_mem _ gf_M18) rfl dM_bind_70 ?_
  refine lv_iload_n hx hb dM_bind_73 rfl (lv_at hl 2 rfl) ?_
  refine mp_ild hE.1 hI s6.z 0 rfl (vp_in_nI (by omega) (by omega)) dM_bind_74 ?_
  rw [nI_clamp (by omega), r6.1]
  have C := kM_add3 (l := l) (n0 := n0) (D := D) (k := 9 + ka) (k2 := 4) (a := 0) (b := tm_sz (σ ka)) (c := 0) (d := 1) (tk := (kn : Int)) s6.1.1 hk6 (by omega) (by omega) (by omega) (by omega) r6.2.1 (by omega) (by rw [tm_row_len]; omega) (by rw [tm_row_len, ml_r]; exact za) (by omega) (by omega) (by omega) (by omega) hB (by omega) (by decide) (by decide) (tm_ok_bd r6.2.2) (by omega)
  rw [ci_nat, ← hnk] at C
  refine lv_iload_n hx hb dM_bind_75 rfl (lv_at hl 3 rfl) ?_
  refine lv_aload_n hx hb dM_bind_76 rfl (lv_at hl 0 rfl) ?_
  refine mp_get hE.1 hI s6.o rfl gx_M 4 (by decide) (List.mem_cons_of_mem _ gf_M25) rfl dM_bind_77 ?_
  refine lv_iconst (v := nI 0) hx hb dM_bind_80 (by decide) ?_
  refine lv_iconst (v := nI 1) hx hb dM_bind_81 (by decide) ?_
  refine ct_V (n := 7) hE hI (C) s6.o rfl gm_M115 gi_M_add3 gs_M_M_add3 gz_M gc_M_add3 (by decide +kernel) ⟨Nat.le_of_ble_eq_true rfl, Nat.le_of_ble_eq_true rfl⟩ rfl hl.1 rfl (Nat.le_of_ble_eq_true rfl) dM_bind_82 ⟨Nat.le_of_ble_eq_true rfl, Nat.le_of_ble_eq_true rfl⟩ (fun v w7 H locs hq hI => ?_)
  obtain ⟨rfl, I7, A7, hm7, hk7, ei7, ea7⟩ := hq
  show W _ _ _ _ _ _ _ _ _ _ _ _ _ _ _ (F0 _ _ _ [])
  have hk7 : mk_m I7 A7 (tm_row (.tag 5000 (tm_sub kn (lfm (-5001)) (σ ka)))) := by
    rw [tm_row_fun, ← row_fill (by omega)]
    exact hk7
  have s7 := s6.nx hm7 (ei7.mono (by decide)) (ea7.mono (by decide))
  have hsX := (tm_bind_row r6.2.2 hn100).2
  have hfX : ∀ j ∈ tm_fn (.tag 5000 (tm_sub kn (lfm (-5001)) (σ ka))), j < 8000 := fun j hj => by
    rcases List.mem_cons.mp (show j ∈ 5000 :: tm_fn (tm_sub kn (lfm (-5001)) (σ ka)) from hj) with e1 | hj
    · omega
    · rcases tm_fn_sub _ _ _ j hj with h1 | h1
      · exact tm_ok_fn r6.2.2 j h1
      · cases h1
  refine lv_aload_n hx hb dM_bind_85 rfl (lv_at hl 0 rfl) ?_
  refine lv_iconst (v := 2) hx hb dM_bind_86 (by decide) ?_
  refine lv_aload_n hx hb dM_bind_87 rfl (lv_at hl 0 rfl) ?_
  refine ct_V (n := 0) hE hI (kM_whole (X := .tag 5000 (tm_sub kn (lfm (-5001)) (σ ka))) s7.1.1 hk7 hsX hfX) s7.o rfl gm_M111 gi_M_whole gs_M_M_whole gz_M gc_M_whole (by decide +kernel) ⟨Nat.le_of_ble_eq_true rfl, Nat.le_of_ble_eq_true rfl⟩ rfl hl.1 rfl (Nat.le_of_ble_eq_true rfl) dM_bind_88 ⟨Nat.le_of_ble_eq_true rfl, Nat.le_of_ble_eq_true rfl⟩ (fun v w90 H locs hq hI => ?_)
  obtain ⟨rfl, I90, A90, hm90, ei90, ea90, hu90⟩ := hq
  show W _ _ _ _ _ _ _ _ _ _ _ _ _ _ _ (F0 _ _ _ [.int _, .int _, .ref (h 0)])
  have s90 := s7.nx hm90 (ei90.mono (by decide)) (ea90.mono (by decide))
  by_cases hc : tm_chk (.tag 5000 (tm_sub kn (lfm (-5001)) (σ ka))) = none
  · rw [if_pos hc]
    refine lv_if_ne (tgt := 98) hx hb dM_bind_91 (by decide) (fun hq => ?_) (fun hq => ?_)
    · exact absurd rfl hq
    · refine lv_iconst (v := 1) hx hb dM_bind_94 (by decide) ?_
      refine lv_goto (tgt := 99) hx hb dM_bind_95 (by decide) ?_
      refine ct_V (n := 2) hE hI (kM_refuse s90.1.1 2 1 (Or.inr rfl)) s90.o rfl gm_M67 gi_M_refuse gs_M_M_refuse gz_M gc_M_refuse (by decide +kernel) ⟨Nat.le_of_ble_eq_true rfl, Nat.le_of_ble_eq_true rfl⟩ rfl hl.1 rfl (Nat.le_of_ble_eq_true rfl) dM_bind_99 ⟨Nat.le_of_ble_eq_true rfl, Nat.le_of_ble_eq_true rfl⟩ (fun v w91 H locs hq hI => ?_)
      obtain ⟨rfl, hm91⟩ := hq
      show W _ _ _ _ _ _ _ _ _ _ _ _ _ _ _ (F0 _ _ _ [.int _])
      rw [if_neg (by decide)] at hm91
      have s91 := s90.cd (c' := 2) hm91 rfl
      refine lv_if_eq (tgt := 107) hx hb dM_bind_102 (by decide) (fun hq => ?_) (fun hq => ?_)
      · exact absurd hq (by decide)
      · refine lv_iconst (v := 0) hx hb dM_bind_105 (by decide) ?_
        exact ct_iret hE hI hr hk (s91.fin0 (er.trans (ck_none hc))) (by decide) (by decide) dM_bind_106
  · obtain ⟨u, hu⟩ := Option.ne_none_iff_exists'.mp hc
    rw [if_neg hc]
    refine lv_if_ne (tgt := 98) hx hb dM_bind_91 (by decide) (fun hq => ?_) (fun hq => ?_)
    · refine lv_iconst (v := 0) hx hb dM_bind_98 (by decide) ?_
      refine ct_V (n := 2) hE hI (kM_refuse s90.1.1 2 0 (Or.inl rfl)) s90.o rfl gm_M67 gi_M_refuse gs_M_M_refuse gz_M gc_M_refuse (by decide +kernel) ⟨Nat.le_of_ble_eq_true rfl, Nat.le_of_ble_eq_true rfl⟩ rfl hl.1 rfl (Nat.le_of_ble_eq_true rfl) dM_bind_99 ⟨Nat.le_of_ble_eq_true rfl, Nat.le_of_ble_eq_true rfl⟩ (fun v w91 H locs hq hI => ?_)
      obtain ⟨rfl, hm91⟩ := hq
      show W _ _ _ _ _ _ _ _ _ _ _ _ _ _ _ (F0 _ _ _ [.int _])
      rw [if_pos rfl] at hm91
      have s91 := s90.kp hm91
      refine lv_if_eq (tgt := 107) hx hb dM_bind_102 (by decide) (fun hq => ?_) (fun hq => ?_)
      · refine lv_aload_n hx hb dM_bind_107 rfl (lv_at hl 0 rfl) ?_
        refine lv_iload_n hx hb dM_bind_108 rfl (lv_at hl 1 rfl) ?_
        obtain ⟨hok, -, -, -, -⟩ := tm_chk_ok hsX hu
        refine ct_V (n := 1) hE hI (kM_keep (u := u) (k := kto) s91.1.1 hto16 (hu90 u hu).1 (hu90 u hu).2 hok.2.2.1) s91.o rfl gm_M107 gi_M_keep gs_M_M_keep gz_M gc_M_keep (by decide +kernel) ⟨Nat.le_of_ble_eq_true rfl, Nat.le_of_ble_eq_true rfl⟩ rfl hl.1 rfl (Nat.le_of_ble_eq_true rfl) dM_bind_109 ⟨Nat.le_of_ble_eq_true rfl, Nat.le_of_ble_eq_true rfl⟩ (fun v w92 H locs hq hI => ?_)
        obtain ⟨rfl, A92, hm92, ea92, e292, ph92⟩ := hq
        show W _ _ _ _ _ _ _ _ _ _ _ _ _ _ _ (F0 _ _ _ [.int _])
        exact ct_iret hE hI hr hk ((s91.keep hm92 ea92 e292 ph92 hto16 hok).fin (er.trans (ck_some hu))) (by decide) (by decide) dM_bind_112
      · exact absurd rfl hq
    · exact absurd hq (by decide)
set_option maxRecDepth 100000 in
set_option maxHeartbeats 2000000 in
theorem kM_put (s0 : st K h w w I A σ O c0) (to a n b : Int32) : ct_M l n0 D K yM_put (Cond.code yM_put cM_put 5 (some .int)) 154 4700 0 0 [.ref (h 0), .int to, .int a, .int n, .int b] w (po_M K h w O (op_put σ to a n b)) := by
  refine ct_go (own := nm_M) (by decide) rfl (Nat.le_of_ble_eq_true rfl) ?_
  intro p e s m below meth c ls hE hI hr hk hn hl
  have hx := hE.1.1.1
  have hb := hE.1.1.2.1
  have hl : lv_has ls 5 [(0, .ref (h 0)), (1, .int to), (2, .int a), (3, .int n), (4, .int b)] := hl
  refine lv_aload_n hx hb dM_put_0 rfl (lv_at hl 0 rfl) ?_
  refine lv_iload_n hx hb dM_put_1 rfl (lv_at hl 1 rfl) ?_
  refine ct_V (n := 1) hE hI (kM_none s0.1.1 to) s0.o rfl gm_M100 gi_M_none gs_M_M_none gz_M gc_M_none (by decide +kernel) ⟨Nat.le_of_ble_eq_true rfl, Nat.le_of_ble_eq_true rfl⟩ rfl hl.1 rfl (Nat.le_of_ble_eq_true rfl) dM_put_2 ⟨Nat.le_of_ble_eq_true rfl, Nat.le_of_ble_eq_true rfl⟩ (fun v w1 H locs hq hI => ?_)
  obtain ⟨I1, rfl, hm1, e1, ei1⟩ := hq
  show W _ _ _ _ _ _ _ _ _ _ _ _ _ _ _ (F0 _ _ _ [.int _])
  refine lv_if_ne (tgt := 48) hx hb dM_put_5 (by decide) (fun hq => ?_) (fun hq => ?_)
  · have hz := rk_t hq
    have er : op_put σ to a n b = (1, 0, σ) := by unfold op_put; rw [hz]
    have s9 := s0.no1 hm1 e1 ei1 hz
    refine lv_iconst (v := 0) hx hb dM_put_48 (by decide) ?_
    exact ct_iret hE hI hr hk (s9.fin0 er) (by decide) (by decide) dM_put_49
  obtain ⟨kto, hrto⟩ := rk_f hq
  have s1 := s0.no0 hm1 e1 ei1 hrto
  refine lv_aload_n hx hb dM_put_8 rfl (lv_at hl 0 rfl) ?_
  refine lv_iload_n hx hb dM_put_9 rfl (lv_at hl 2 rfl) ?_
  refine ct_V (n := 1) hE hI (kM_none s1.1.1 a) s1.o rfl gm_M100 gi_M_none gs_M_M_none gz_M gc_M_none (by decide +kernel) ⟨Nat.le_of_ble_eq_true rfl, Nat.le_of_ble_eq_true rfl⟩ rfl hl.1 rfl (Nat.le_of_ble_eq_true rfl) dM_put_10 ⟨Nat.le_of_ble_eq_true rfl, Nat.le_of_ble_eq_true rfl⟩ (fun v w2 H locs hq hI => ?_)
  obtain ⟨I2, rfl, hm2, e2, ei2⟩ := hq
  show W _ _ _ _ _ _ _ _ _ _ _ _ _ _ _ (F0 _ _ _ [.int _])
  refine lv_if_ne (tgt := 48) hx hb dM_put_13 (by decide) (fun hq => ?_) (fun hq => ?_)
  · have hz := rk_t hq
    have er : op_put σ to a n b = (1, 0, σ) := by unfold op_put; rw [hrto, hz]
    have s9 := s1.no1 hm2 e2 ei2 hz
    refine lv_iconst (v := 0) hx hb dM_put_48 (by decide) ?_
    exact ct_iret hE hI hr hk (s9.fin0 er) (by decide) (by decide) dM_put_49
  obtain ⟨ka, hra⟩ := rk_f hq
  have s2 := s1.no0 hm2 e2 ei2 hra
  refine W_jn (F0 m 33 ls [.int (if fk n = none then 1 else 0), .int 1, .ref (h 0)]) (fun jn => ?_) ?_
  · skip
    refine lv_aload_n hx hb dM_put_16 rfl (lv_at hl 0 rfl) ?_
    refine lv_iconst (v := 1) hx hb dM_put_17 (by decide) ?_
    refine lv_iload_n hx hb dM_put_18 rfl (lv_at hl 3 rfl) ?_
    refine lv_if_lt (tgt := 28) hx hb dM_put_19 (by decide) (fun hq => ?_) (fun hq => ?_)
    · refine lv_iconst (v := 1) hx hb dM_put_28 (by decide) ?_
      refine lv_goto (tgt := 33) hx hb dM_put_29 (by decide) ?_
      rw [if_pos (fk_lo hq)] at jn
      exact jn
    · refine lv_iload_n hx hb dM_put_22 rfl (lv_at hl 3 rfl) ?_
      refine lv_bipush (v := 99) hx hb dM_put_23 (by decide) ?_
      refine lv_icmp_le (tgt := 32) hx hb dM_put_25 (by decide) (fun hq2 => ?_) (fun hq2 => ?_)
      · refine lv_iconst (v := 0) hx hb dM_put_32 (by decide) ?_
        rw [if_neg (fk_in hq hq2)] at jn
        exact jn
      · refine lv_iconst (v := 1) hx hb dM_put_28 (by decide) ?_
        refine lv_goto (tgt := 33) hx hb dM_put_29 (by decide) ?_
        rw [if_pos (fk_hi hq2)] at jn
        exact jn
  refine ct_V (n := 2) hE hI (kM_refuse s2.1.1 1 _ (fk_01 n)) s2.o rfl gm_M67 gi_M_refuse gs_M_M_refuse gz_M gc_M_refuse (by decide +kernel) ⟨Nat.le_of_ble_eq_true rfl, Nat.le_of_ble_eq_true rfl⟩ rfl hl.1 rfl (Nat.le_of_ble_eq_true rfl) dM_put_33 ⟨Nat.le_of_ble_eq_true rfl, Nat.le_of_ble_eq_true rfl⟩ (fun v w3 H locs hq hI => ?_)
  obtain ⟨rfl, hm3⟩ := hq
  show W _ _ _ _ _ _ _ _ _ _ _ _ _ _ _ (F0 _ _ _ [.int _])
  refine lv_if_ne (tgt := 48) hx hb dM_put_36 (by decide) (fun hq => ?_) (fun hq => ?_)
  · have hz := fk_t hq
    have er : op_put σ to a n b = (1, 0, σ) := by unfold op_put; rw [hrto, hra, hz]
    rw [if_neg hq] at hm3
    have s9 := s2.cd (c' := 1) hm3 rfl
    refine lv_iconst (v := 0) hx hb dM_put_48 (by decide) ?_
    exact ct_iret hE hI hr hk (s9.fin0 er) (by decide) (by decide) dM_put_49
  rw [if_pos hq] at hm3
  obtain ⟨kn, hfn⟩ := fk_f hq
  have s3 := s2.kp hm3
  refine lv_aload_n hx hb dM_put_39 rfl (lv_at hl 0 rfl) ?_
  refine lv_iload hx hb dM_put_40 (lv_at hl 4 rfl) ?_
  refine ct_V (n := 1) hE hI (kM_none s3.1.1 b) s3.o rfl gm_M100 gi_M_none gs_M_M_none gz_M gc_M_none (by decide +kernel) ⟨Nat.le_of_ble_eq_true rfl, Nat.le_of_ble_eq_true rfl⟩ rfl hl.1 rfl (Nat.le_of_ble_eq_true rfl) dM_put_42 ⟨Nat.le_of_ble_eq_true rfl, Nat.le_of_ble_eq_true rfl⟩ (fun v w4 H locs hq hI => ?_)
  obtain ⟨I4, rfl, hm4, e4, ei4⟩ := hq
  show W _ _ _ _ _ _ _ _ _ _ _ _ _ _ _ (F0 _ _ _ [.int _])
  refine lv_if_eq (tgt := 50) hx hb dM_put_45 (by decide) (fun hq => ?_) (fun hq => ?_)
  rotate_left
  · have hz := rk_t hq
    have er : op_put σ to a n b = (1, 0, σ) := by unfold op_put; rw [hrto, hra, hfn, hz]
    have s9 := s3.no1 hm4 e4 ei4 hz
    refine lv_iconst (v := 0) hx hb dM_put_48 (by decide) ?_
    exact ct_iret hE hI hr hk (s9.fin0 er) (by decide) (by decide) dM_put_49
  obtain ⟨kb, hrb⟩ := rk_f hq
  have s4 := s3.no0 hm4 e4 ei4 hrb
  obtain ⟨hto16, rfl⟩ := rk_some hrto
  obtain ⟨ha16, rfl⟩ := rk_some hra
  obtain ⟨hb16, rfl⟩ := rk_some hrb
  obtain ⟨hn100, hnk⟩ := fk_some hfn
  have er : op_put σ (nI kto) (nI ka) n (nI kb) = ck 2 σ kto (tm_sub kn (σ kb) (σ ka)) := by unfold op_put; rw [hrto, hra, hfn, hrb]
  refine lv_aload_n hx hb dM_put_50 rfl (lv_at hl 0 rfl) ?_
  refine ct_V (n := 0) hE hI (kM_begin s4.1.1) s4.o rfl gm_M104 gi_M_begin gs_M_M_begin gz_M gc_M_begin (by decide +kernel) ⟨Nat.le_of_ble_eq_true rfl, Nat.le_of_ble_eq_true rfl⟩ rfl hl.1 rfl (Nat.le_of_ble_eq_true rfl) dM_put_51 ⟨Nat.le_of_ble_eq_true rfl, Nat.le_of_ble_eq_true rfl⟩ (fun v w5 H locs hq hI => ?_)
  obtain ⟨rfl, I5, hm5, hk5, ei5⟩ := hq
  show W _ _ _ _ _ _ _ _ _ _ _ _ _ _ _ (F0 _ _ _ [])
  have s5 := s4.nx hm5 (ei5.mono (by decide)) (eqA.rf _ _)
  have za := s5.b ka ha16
  have zb := s5.b kb hb16
  have r5 := s5.2.1 ka ha16
  have q5 := s5.2.1 kb hb16
  refine lv_aload_n hx hb dM_put_54 rfl (lv_at hl 0 rfl) ?_
  refine lv_aload_n hx hb dM_put_55 rfl (lv_at hl 0 rfl) ?_
  refine mp_get hE.1 hI s5.o rfl gx_M 1 (by decide) (List.mem_cons_of_mem _ gf_M15) rfl dM_put_56 ?_
  refine lv_iload_n hx hb dM_put_59 rfl (lv_at hl 2 rfl) ?_
  refine mp_aldA hE.1 hI s5.g 4 rfl (vp_in_nI (by omega) (by omega)) dM_put_60 ?_
  rw [nI_clamp (by omega)]
  show W _ _ _ _ _ _ _ _ _ _ _ _ _ _ _ (F0 _ _ _ [.ref (h (9 + ka)), .ref (h 0)])
  refine lv_iconst (v := nI 0) hx hb dM_put_61 (by decide) ?_
  refine lv_aload_n hx hb dM_put_62 rfl (lv_at hl 0 rfl) ?_
  refine mp_get hE.1 hI s5.o rfl gx_M 2 (by decide) (List.mem_cons_of_mem _ gf_M18) rfl dM_put_63 ?_
  refine lv_iload_n hx hb dM_put_66 rfl (lv_at hl 2 rfl) ?_
  refine mp_ild hE.1 hI s5.z 0 rfl (vp_in_nI (by omega) (by omega)) dM_put_67 ?_
  rw [nI_clamp (by omega), r5.1]
  refine lv_iload_n hx hb dM_put_68 rfl (lv_at hl 3 rfl) ?_
  refine lv_aload_n hx hb dM_put_69 rfl (lv_at hl 0 rfl) ?_
  refine mp_get hE.1 hI s5.o rfl gx_M 1 (by decide) (List.mem_cons_of_mem _ gf_M15) rfl dM_put_70 ?_
  refine lv_iload hx hb dM_put_73 (lv_at hl 4 rfl) ?_
  refine mp_aldA hE.1 hI s5.g 4 rfl (vp_in_nI (by omega) (by omega)) dM_put_75 ?_
  rw [nI_clamp (by omega)]
  show W _ _ _ _ _ _ _ _ _ _ _ _ _ _ _ (F0 _ _ _ [.ref (h (9 + kb)), .int _, .int _, .int _, .ref (h (9 + ka)), .ref (h 0)])
  refine lv_iconst (v := nI 0) hx hb dM_put_76 (by decide) ?_
  refine lv_aload_n hx hb dM_put_77 rfl (lv_at hl 0 rfl) ?_
  refine mp_get hE.1 hI s5.o rfl gx_M 2 (by decide) (List.mem_cons_of_mem _ gf_M18) rfl dM_put_78 ?_
  refine lv_iload hx hb dM_put_81 (lv_at hl 4 rfl) ?_
  refine mp_ild hE.1 hI s5.z 0 rfl (vp_in_nI (by omega) (by omega)) dM_put_83 ?_
  rw [nI_clamp (by omega), q5.1]
  have C := kM_add3 (l := l) (n0 := n0) (D := D) (k := 9 + ka) (k2 := 9 + kb) (a := 0) (b := tm_sz (σ ka)) (c := 0) (d := tm_sz (σ kb)) (tk := (kn : Int)) s5.1.1 hk5 (by omega) (by omega) (by omega) (by omega) r5.2.1 (by omega) (by rw [tm_row_len]; omega) (by rw [tm_row_len, ml_r]; exact za) (by omega) (by omega) (by omega) (by omega) q5.2.1 (by omega) (by rw [tm_row_len]; omega) (by rw [tm_row_len, ml_r]; exact zb) (tm_ok_bd r5.2.2) (by omega)
  rw [ci_nat, ← hnk] at C
  refine ct_V (n := 7) hE hI (C) s5.o rfl gm_M115 gi_M_add3 gs_M_M_add3 gz_M gc_M_add3 (by decide +kernel) ⟨Nat.le_of_ble_eq_true rfl, Nat.le_of_ble_eq_true rfl⟩ rfl hl.1 rfl (Nat.le_of_ble_eq_true rfl) dM_put_84 ⟨Nat.le_of_ble_eq_true rfl, Nat.le_of_ble_eq_true rfl⟩ (fun v w6 H locs hq hI => ?_)
  obtain ⟨rfl, I6, A6, hm6, hk6, ei6, ea6⟩ := hq
  show W _ _ _ _ _ _ _ _ _ _ _ _ _ _ _ (F0 _ _ _ [])
  rw [List.nil_append, row_fill (by omega)] at hk6
  have s6 := s5.nx hm6 (ei6.mono (by decide)) (ea6.mono (by decide))
  have hsX : tm_sc (tm_sub kn (σ kb) (σ ka)) [] := tm_sub_sc _ _ [] q5.2.2.1 [] (fun v hv => by cases hv) _ [] r5.2.2.1
  have hfX : ∀ j ∈ tm_fn (tm_sub kn (σ kb) (σ ka)), j < 8000 := fun j hj => (tm_fn_sub _ _ _ j hj).elim (tm_ok_fn r5.2.2 j) (tm_ok_fn q5.2.2 j)
  refine lv_aload_n hx hb dM_put_87 rfl (lv_at hl 0 rfl) ?_
  refine lv_iconst (v := 2) hx hb dM_put_88 (by decide) ?_
  refine lv_aload_n hx hb dM_put_89 rfl (lv_at hl 0 rfl) ?_
  refine ct_V (n := 0) hE hI (kM_whole (X := tm_sub kn (σ kb) (σ ka)) s6.1.1 hk6 hsX hfX) s6.o rfl gm_M111 gi_M_whole gs_M_M_whole gz_M gc_M_whole (by decide +kernel) ⟨Nat.le_of_ble_eq_true rfl, Nat.le_of_ble_eq_true rfl⟩ rfl hl.1 rfl (Nat.le_of_ble_eq_true rfl) dM_put_90 ⟨Nat.le_of_ble_eq_true rfl, Nat.le_of_ble_eq_true rfl⟩ (fun v w90 H locs hq hI => ?_)
  obtain ⟨rfl, I90, A90, hm90, ei90, ea90, hu90⟩ := hq
  show W _ _ _ _ _ _ _ _ _ _ _ _ _ _ _ (F0 _ _ _ [.int _, .int _, .ref (h 0)])
  have s90 := s6.nx hm90 (ei90.mono (by decide)) (ea90.mono (by decide))
  by_cases hc : tm_chk (tm_sub kn (σ kb) (σ ka)) = none
  · rw [if_pos hc]
    refine lv_if_ne (tgt := 100) hx hb dM_put_93 (by decide) (fun hq => ?_) (fun hq => ?_)
    · exact absurd rfl hq
    · refine lv_iconst (v := 1) hx hb dM_put_96 (by decide) ?_
      refine lv_goto (tgt := 101) hx hb dM_put_97 (by decide) ?_
      refine ct_V (n := 2) hE hI (kM_refuse s90.1.1 2 1 (Or.inr rfl)) s90.o rfl gm_M67 gi_M_refuse gs_M_M_refuse gz_M gc_M_refuse (by decide +kernel) ⟨Nat.le_of_ble_eq_true rfl, Nat.le_of_ble_eq_true rfl⟩ rfl hl.1 rfl (Nat.le_of_ble_eq_true rfl) dM_put_101 ⟨Nat.le_of_ble_eq_true rfl, Nat.le_of_ble_eq_true rfl⟩ (fun v w91 H locs hq hI => ?_)
      obtain ⟨rfl, hm91⟩ := hq
      show W _ _ _ _ _ _ _ _ _ _ _ _ _ _ _ (F0 _ _ _ [.int _])
      rw [if_neg (by decide)] at hm91
      have s91 := s90.cd (c' := 2) hm91 rfl
      refine lv_if_eq (tgt := 109) hx hb dM_put_104 (by decide) (fun hq => ?_) (fun hq => ?_)
      · exact absurd hq (by decide)
      · refine lv_iconst (v := 0) hx hb dM_put_107 (by decide) ?_
        exact ct_iret hE hI hr hk (s91.fin0 (er.trans (ck_none hc))) (by decide) (by decide) dM_put_108
  · obtain ⟨u, hu⟩ := Option.ne_none_iff_exists'.mp hc
    rw [if_neg hc]
    refine lv_if_ne (tgt := 100) hx hb dM_put_93 (by decide) (fun hq => ?_) (fun hq => ?_)
    · refine lv_iconst (v := 0) hx hb dM_put_100 (by decide) ?_
      refine ct_V (n := 2) hE hI (kM_refuse s90.1.1 2 0 (Or.inl rfl)) s90.o rfl gm_M67 gi_M_refuse gs_M_M_refuse gz_M gc_M_refuse (by decide +kernel) ⟨Nat.le_of_ble_eq_true rfl, Nat.le_of_ble_eq_true rfl⟩ rfl hl.1 rfl (Nat.le_of_ble_eq_true rfl) dM_put_101 ⟨Nat.le_of_ble_eq_true rfl, Nat.le_of_ble_eq_true rfl⟩ (fun v w91 H locs hq hI => ?_)
      obtain ⟨rfl, hm91⟩ := hq
      show W _ _ _ _ _ _ _ _ _ _ _ _ _ _ _ (F0 _ _ _ [.int _])
      rw [if_pos rfl] at hm91
      have s91 := s90.kp hm91
      refine lv_if_eq (tgt := 109) hx hb dM_put_104 (by decide) (fun hq => ?_) (fun hq => ?_)
      · refine lv_aload_n hx hb dM_put_109 rfl (lv_at hl 0 rfl) ?_
        refine lv_iload_n hx hb dM_put_110 rfl (lv_at hl 1 rfl) ?_
        obtain ⟨hok, -, -, -, -⟩ := tm_chk_ok hsX hu
        refine ct_V (n := 1) hE hI (kM_keep (u := u) (k := kto) s91.1.1 hto16 (hu90 u hu).1 (hu90 u hu).2 hok.2.2.1) s91.o rfl gm_M107 gi_M_keep gs_M_M_keep gz_M gc_M_keep (by decide +kernel) ⟨Nat.le_of_ble_eq_true rfl, Nat.le_of_ble_eq_true rfl⟩ rfl hl.1 rfl (Nat.le_of_ble_eq_true rfl) dM_put_111 ⟨Nat.le_of_ble_eq_true rfl, Nat.le_of_ble_eq_true rfl⟩ (fun v w92 H locs hq hI => ?_)
        obtain ⟨rfl, A92, hm92, ea92, e292, ph92⟩ := hq
        show W _ _ _ _ _ _ _ _ _ _ _ _ _ _ _ (F0 _ _ _ [.int _])
        exact ct_iret hE hI hr hk ((s91.keep hm92 ea92 e292 ph92 hto16 hok).fin (er.trans (ck_some hu))) (by decide) (by decide) dM_put_114
      · exact absurd rfl hq
    · exact absurd hq (by decide)
set_option maxRecDepth 100000 in
set_option maxHeartbeats 2000000 in
theorem kM_open (s0 : st K h w w I A σ O c0) (to a b : Int32) : ct_M l n0 D K yM_open (Cond.code yM_open cM_open 4 (some .int)) 154 4700 0 0 [.ref (h 0), .int to, .int a, .int b] w (po_M K h w O (op_open σ to a b)) := by
  refine ct_go (own := nm_M) (by decide) rfl (Nat.le_of_ble_eq_true rfl) ?_
  intro p e s m below meth c ls hE hI hr hk hn hl
  have hx := hE.1.1.1
  have hb := hE.1.1.2.1
  have hl : lv_has ls 4 [(0, .ref (h 0)), (1, .int to), (2, .int a), (3, .int b)] := hl
  refine lv_aload_n hx hb dM_open_0 rfl (lv_at hl 0 rfl) ?_
  refine lv_iload_n hx hb dM_open_1 rfl (lv_at hl 1 rfl) ?_
  refine ct_V (n := 1) hE hI (kM_none s0.1.1 to) s0.o rfl gm_M100 gi_M_none gs_M_M_none gz_M gc_M_none (by decide +kernel) ⟨Nat.le_of_ble_eq_true rfl, Nat.le_of_ble_eq_true rfl⟩ rfl hl.1 rfl (Nat.le_of_ble_eq_true rfl) dM_open_2 ⟨Nat.le_of_ble_eq_true rfl, Nat.le_of_ble_eq_true rfl⟩ (fun v w1 H locs hq hI => ?_)
  obtain ⟨I1, rfl, hm1, e1, ei1⟩ := hq
  show W _ _ _ _ _ _ _ _ _ _ _ _ _ _ _ (F0 _ _ _ [.int _])
  refine lv_if_ne (tgt := 51) hx hb dM_open_5 (by decide) (fun hq => ?_) (fun hq => ?_)
  · have hz := rk_t hq
    have er : op_open σ to a b = (1, 0, σ) := by unfold op_open; rw [hz]
    have s9 := s0.no1 hm1 e1 ei1 hz
    refine lv_iconst (v := 0) hx hb dM_open_51 (by decide) ?_
    exact ct_iret hE hI hr hk (s9.fin0 er) (by decide) (by decide) dM_open_52
  obtain ⟨kto, hrto⟩ := rk_f hq
  have s1 := s0.no0 hm1 e1 ei1 hrto
  refine lv_aload_n hx hb dM_open_8 rfl (lv_at hl 0 rfl) ?_
  refine lv_iload_n hx hb dM_open_9 rfl (lv_at hl 2 rfl) ?_
  refine ct_V (n := 1) hE hI (kM_none s1.1.1 a) s1.o rfl gm_M100 gi_M_none gs_M_M_none gz_M gc_M_none (by decide +kernel) ⟨Nat.le_of_ble_eq_true rfl, Nat.le_of_ble_eq_true rfl⟩ rfl hl.1 rfl (Nat.le_of_ble_eq_true rfl) dM_open_10 ⟨Nat.le_of_ble_eq_true rfl, Nat.le_of_ble_eq_true rfl⟩ (fun v w2 H locs hq hI => ?_)
  obtain ⟨I2, rfl, hm2, e2, ei2⟩ := hq
  show W _ _ _ _ _ _ _ _ _ _ _ _ _ _ _ (F0 _ _ _ [.int _])
  refine lv_if_ne (tgt := 51) hx hb dM_open_13 (by decide) (fun hq => ?_) (fun hq => ?_)
  · have hz := rk_t hq
    have er : op_open σ to a b = (1, 0, σ) := by unfold op_open; rw [hrto, hz]
    have s9 := s1.no1 hm2 e2 ei2 hz
    refine lv_iconst (v := 0) hx hb dM_open_51 (by decide) ?_
    exact ct_iret hE hI hr hk (s9.fin0 er) (by decide) (by decide) dM_open_52
  obtain ⟨ka, hra⟩ := rk_f hq
  have s2 := s1.no0 hm2 e2 ei2 hra
  refine lv_aload_n hx hb dM_open_16 rfl (lv_at hl 0 rfl) ?_
  refine lv_iload_n hx hb dM_open_17 rfl (lv_at hl 3 rfl) ?_
  refine ct_V (n := 1) hE hI (kM_none s2.1.1 b) s2.o rfl gm_M100 gi_M_none gs_M_M_none gz_M gc_M_none (by decide +kernel) ⟨Nat.le_of_ble_eq_true rfl, Nat.le_of_ble_eq_true rfl⟩ rfl hl.1 rfl (Nat.le_of_ble_eq_true rfl) dM_open_18 ⟨Nat.le_of_ble_eq_true rfl, Nat.le_of_ble_eq_true rfl⟩ (fun v w3 H locs hq hI => ?_)
  obtain ⟨I3, rfl, hm3, e3, ei3⟩ := hq
  show W _ _ _ _ _ _ _ _ _ _ _ _ _ _ _ (F0 _ _ _ [.int _])
  refine lv_if_ne (tgt := 51) hx hb dM_open_21 (by decide) (fun hq => ?_) (fun hq => ?_)
  · have hz := rk_t hq
    have er : op_open σ to a b = (1, 0, σ) := by unfold op_open; rw [hrto, hra, hz]
    have s9 := s2.no1 hm3 e3 ei3 hz
    refine lv_iconst (v := 0) hx hb dM_open_51 (by decide) ?_
    exact ct_iret hE hI hr hk (s9.fin0 er) (by decide) (by decide) dM_open_52
  obtain ⟨kb, hrb⟩ := rk_f hq
  have s3 := s2.no0 hm3 e3 ei3 hrb
  obtain ⟨hto16, rfl⟩ := rk_some hrto
  obtain ⟨ha16, rfl⟩ := rk_some hra
  obtain ⟨hb16, rfl⟩ := rk_some hrb
  have r3 := s3.2.1 ka ha16
  have za := s3.b ka ha16
  have zb := s3.b kb hb16
  obtain ⟨x, rr, erow, hxb, hx1, -⟩ := rw_hd r3.2.2
  have e0 : (tm_row (σ ka))[0]? = some x := by rw [erow]; rfl
  refine lv_aload_n hx hb dM_open_24 rfl (lv_at hl 0 rfl) ?_
  refine lv_iconst (v := 2) hx hb dM_open_25 (by decide) ?_
  refine lv_aload_n hx hb dM_open_26 rfl (lv_at hl 0 rfl) ?_
  refine mp_get hE.1 hI s3.o rfl gx_M 1 (by decide) (List.mem_cons_of_mem _ gf_M15) rfl dM_open_27 ?_
  refine lv_iload_n hx hb dM_open_30 rfl (lv_at hl 2 rfl) ?_
  refine mp_aldA hE.1 hI s3.g 4 rfl (vp_in_nI (by omega) (by omega)) dM_open_31 ?_
  rw [nI_clamp (by omega)]
  show W _ _ _ _ _ _ _ _ _ _ _ _ _ _ _ (F0 _ _ _ [.ref (h (9 + ka)), .int _, .ref (h 0)])
  refine lv_iconst (v := nI 0) hx hb dM_open_32 (by decide) ?_
  refine mp_ild hE.1 hI (s3.r ha16) 0 rfl (vp_in_nI (by omega) (by omega)) dM_open_33 ?_
  rw [nI_clamp (by omega), r3.2.1 0 x e0]
  refine lv_sipush (v := ci_i 2000) hx hb dM_open_34 (by decide) ?_
  refine lv_icmp_ge (tgt := 44) hx hb dM_open_37 (by decide) (fun hq => ?_) (fun hq => ?_)
  · have hq : 2000 ≤ x := (ci_le (by omega) (by omega)).mp hq
    obtain ⟨j, t0, ef⟩ := hx1.mp hq
    have er := op_open_f (σ := σ) hrto hra hrb ef
    have exj : x = 2000 + (j : Int) := by
      rw [ef, tm_row_fun] at erow
      exact (List.cons.inj erow).1.symm
    refine lv_iconst (v := 0) hx hb dM_open_44 (by decide) ?_
    refine ct_V (n := 2) hE hI (kM_refuse s3.1.1 2 0 (Or.inl rfl)) s3.o rfl gm_M67 gi_M_refuse gs_M_M_refuse gz_M gc_M_refuse (by decide +kernel) ⟨Nat.le_of_ble_eq_true rfl, Nat.le_of_ble_eq_true rfl⟩ rfl hl.1 rfl (Nat.le_of_ble_eq_true rfl) dM_open_45 ⟨Nat.le_of_ble_eq_true rfl, Nat.le_of_ble_eq_true rfl⟩ (fun v w4 H locs hq hI => ?_)
    obtain ⟨rfl, hm4⟩ := hq
    show W _ _ _ _ _ _ _ _ _ _ _ _ _ _ _ (F0 _ _ _ [.int _])
    rw [if_pos rfl] at hm4
    have s4 := s3.kp hm4
    refine lv_if_eq (tgt := 53) hx hb dM_open_48 (by decide) (fun hq9 => ?_) (fun hq9 => ?_)
    · refine lv_aload_n hx hb dM_open_53 rfl (lv_at hl 0 rfl) ?_
      refine ct_V (n := 0) hE hI (kM_begin s4.1.1) s4.o rfl gm_M104 gi_M_begin gs_M_M_begin gz_M gc_M_begin (by decide +kernel) ⟨Nat.le_of_ble_eq_true rfl, Nat.le_of_ble_eq_true rfl⟩ rfl hl.1 rfl (Nat.le_of_ble_eq_true rfl) dM_open_54 ⟨Nat.le_of_ble_eq_true rfl, Nat.le_of_ble_eq_true rfl⟩ (fun v w5 H locs hq hI => ?_)
      obtain ⟨rfl, I5, hm5, hk5, ei5⟩ := hq
      show W _ _ _ _ _ _ _ _ _ _ _ _ _ _ _ (F0 _ _ _ [])
      have s5 := s4.nx hm5 (ei5.mono (by decide)) (eqA.rf _ _)
      have r5 := s5.2.1 ka ha16
      have q5 := s5.2.1 kb hb16
      refine lv_aload_n hx hb dM_open_57 rfl (lv_at hl 0 rfl) ?_
      refine lv_aload_n hx hb dM_open_58 rfl (lv_at hl 0 rfl) ?_
      refine mp_get hE.1 hI s5.o rfl gx_M 1 (by decide) (List.mem_cons_of_mem _ gf_M15) rfl dM_open_59 ?_
      refine lv_iload_n hx hb dM_open_62 rfl (lv_at hl 2 rfl) ?_
      refine mp_aldA hE.1 hI s5.g 4 rfl (vp_in_nI (by omega) (by omega)) dM_open_63 ?_
      rw [nI_clamp (by omega)]
      show W _ _ _ _ _ _ _ _ _ _ _ _ _ _ _ (F0 _ _ _ [.ref (h (9 + ka)), .ref (h 0)])
      refine lv_iconst (v := nI 1) hx hb dM_open_64 (by decide) ?_
      refine lv_aload_n hx hb dM_open_65 rfl (lv_at hl 0 rfl) ?_
      refine mp_get hE.1 hI s5.o rfl gx_M 2 (by decide) (List.mem_cons_of_mem _ gf_M18) rfl dM_open_66 ?_
      refine lv_iload_n hx hb dM_open_69 rfl (lv_at hl 2 rfl) ?_
      refine mp_ild hE.1 hI s5.z 0 rfl (vp_in_nI (by omega) (by omega)) dM_open_70 ?_
      rw [nI_clamp (by omega), r5.1]
      refine lv_iconst (v := ci_i (-1)) hx hb dM_open_71 (by decide) ?_
      refine lv_aload_n hx hb dM_open_72 rfl (lv_at hl 0 rfl) ?_
      refine mp_get hE.1 hI s5.o rfl gx_M 1 (by decide) (List.mem_cons_of_mem _ gf_M15) rfl dM_open_73 ?_
      refine lv_iload_n hx hb dM_open_76 rfl (lv_at hl 2 rfl) ?_
      refine mp_aldA hE.1 hI s5.g 4 rfl (vp_in_nI (by omega) (by omega)) dM_open_77 ?_
      rw [nI_clamp (by omega)]
      show W _ _ _ _ _ _ _ _ _ _ _ _ _ _ _ (F0 _ _ _ [.ref (h (9 + ka)), .int _, .int _, .int _, .ref (h (9 + ka)), .ref (h 0)])
      refine lv_iconst (v := nI 0) hx hb dM_open_78 (by decide) ?_
      refine mp_ild hE.1 hI (s5.r ha16) 0 rfl (vp_in_nI (by omega) (by omega)) dM_open_79 ?_
      rw [nI_clamp (by omega), r5.2.1 0 x e0]
      refine lv_sipush (v := ci_i 2000) hx hb dM_open_80 (by decide) ?_
      refine lv_isub hx hb dM_open_83 ?_
      refine lv_isub hx hb dM_open_84 ?_
      rw [ci_sub, ci_sub, show -1 - (x - 2000) = -1 - (j : Int) by omega]
      refine lv_aload_n hx hb dM_open_85 rfl (lv_at hl 0 rfl) ?_
      refine mp_get hE.1 hI s5.o rfl gx_M 1 (by decide) (List.mem_cons_of_mem _ gf_M15) rfl dM_open_86 ?_
      refine lv_iload_n hx hb dM_open_89 rfl (lv_at hl 3 rfl) ?_
      refine mp_aldA hE.1 hI s5.g 4 rfl (vp_in_nI (by omega) (by omega)) dM_open_90 ?_
      rw [nI_clamp (by omega)]
      show W _ _ _ _ _ _ _ _ _ _ _ _ _ _ _ (F0 _ _ _ [.ref (h (9 + kb)), .int _, .int _, .int _, .ref (h (9 + ka)), .ref (h 0)])
      refine lv_iconst (v := nI 0) hx hb dM_open_91 (by decide) ?_
      refine lv_aload_n hx hb dM_open_92 rfl (lv_at hl 0 rfl) ?_
      refine mp_get hE.1 hI s5.o rfl gx_M 2 (by decide) (List.mem_cons_of_mem _ gf_M18) rfl dM_open_93 ?_
      refine lv_iload_n hx hb dM_open_96 rfl (lv_at hl 3 rfl) ?_
      refine mp_ild hE.1 hI s5.z 0 rfl (vp_in_nI (by omega) (by omega)) dM_open_97 ?_
      rw [nI_clamp (by omega), q5.1]
      have hp1 := tm_sz_pos (σ ka)
      refine ct_V (n := 7) hE hI (kM_add3 (k := 9 + ka) (k2 := 9 + kb) (a := 1) (b := tm_sz (σ ka)) (c := 0) (d := tm_sz (σ kb)) (tk := -1 - (j : Int)) s5.1.1 hk5 (by omega) (by omega) (by omega) (by omega) r5.2.1 (by omega) (by rw [tm_row_len]; omega) (by rw [tm_row_len, ml_r]; exact za) (by omega) (by omega) (by omega) (by omega) q5.2.1 (by omega) (by rw [tm_row_len]; omega) (by rw [tm_row_len, ml_r]; exact zb) (tm_ok_bd r5.2.2) (by omega)) s5.o rfl gm_M115 gi_M_add3 gs_M_M_add3 gz_M gc_M_add3 (by decide +kernel) ⟨Nat.le_of_ble_eq_true rfl, Nat.le_of_ble_eq_true rfl⟩ rfl hl.1 rfl (Nat.le_of_ble_eq_true rfl) dM_open_98 ⟨Nat.le_of_ble_eq_true rfl, Nat.le_of_ble_eq_true rfl⟩ (fun v w6 H locs hq hI => ?_)
      obtain ⟨rfl, I6, A6, hm6, hk6, ei6, ea6⟩ := hq
      show W _ _ _ _ _ _ _ _ _ _ _ _ _ _ _ (F0 _ _ _ [])
      have hk6 : mk_m I6 A6 (tm_row (tm_sub (-1 - (j : Int)) (σ kb) t0)) := by
        rw [List.nil_append, row_all, ef] at hk6
        rw [tm_row_sub (by omega)]
        have ed : ((tm_row (Std.Format.tag j t0)).drop 1).take (tm_sz (Std.Format.tag j t0) - 1) = tm_row t0 := by
          rw [tm_row_fun, List.drop_succ_cons, List.drop_zero]
          exact List.take_of_length_le (by rw [tm_row_len]; show tm_sz t0 ≤ 1 + tm_sz t0 - 1; omega)
        rw [ed] at hk6
        exact hk6
      have s6 := s5.nx hm6 (ei6.mono (by decide)) (ea6.mono (by decide))
      have hokf : tm_ok (.tag j t0) := by rw [← ef]; exact r5.2.2
      have hsX := (tm_open_row hokf q5.2.2).2
      have hfX : ∀ i ∈ tm_fn (tm_sub (-1 - (j : Int)) (σ kb) t0), i < 8000 := fun i hi => (tm_fn_sub _ _ _ i hi).elim (fun hi => tm_ok_fn hokf i (List.mem_cons_of_mem _ hi)) (tm_ok_fn q5.2.2 i)
      refine lv_aload_n hx hb dM_open_101 rfl (lv_at hl 0 rfl) ?_
      refine lv_iconst (v := 3) hx hb dM_open_102 (by decide) ?_
      refine lv_aload_n hx hb dM_open_103 rfl (lv_at hl 0 rfl) ?_
      refine ct_V (n := 0) hE hI (kM_whole (X := tm_sub (-1 - (j : Int)) (σ kb) t0) s6.1.1 hk6 hsX hfX) s6.o rfl gm_M111 gi_M_whole gs_M_M_whole gz_M gc_M_whole (by decide +kernel) ⟨Nat.le_of_ble_eq_true rfl, Nat.le_of_ble_eq_true rfl⟩ rfl hl.1 rfl (Nat.le_of_ble_eq_true rfl) dM_open_104 ⟨Nat.le_of_ble_eq_true rfl, Nat.le_of_ble_eq_true rfl⟩ (fun v w90 H locs hq hI => ?_)
      obtain ⟨rfl, I90, A90, hm90, ei90, ea90, hu90⟩ := hq
      show W _ _ _ _ _ _ _ _ _ _ _ _ _ _ _ (F0 _ _ _ [.int _, .int _, .ref (h 0)])
      have s90 := s6.nx hm90 (ei90.mono (by decide)) (ea90.mono (by decide))
      by_cases hc : tm_chk (tm_sub (-1 - (j : Int)) (σ kb) t0) = none
      · rw [if_pos hc]
        refine lv_if_ne (tgt := 114) hx hb dM_open_107 (by decide) (fun hq => ?_) (fun hq => ?_)
        · exact absurd rfl hq
        · refine lv_iconst (v := 1) hx hb dM_open_110 (by decide) ?_
          refine lv_goto (tgt := 115) hx hb dM_open_111 (by decide) ?_
          refine ct_V (n := 2) hE hI (kM_refuse s90.1.1 3 1 (Or.inr rfl)) s90.o rfl gm_M67 gi_M_refuse gs_M_M_refuse gz_M gc_M_refuse (by decide +kernel) ⟨Nat.le_of_ble_eq_true rfl, Nat.le_of_ble_eq_true rfl⟩ rfl hl.1 rfl (Nat.le_of_ble_eq_true rfl) dM_open_115 ⟨Nat.le_of_ble_eq_true rfl, Nat.le_of_ble_eq_true rfl⟩ (fun v w91 H locs hq hI => ?_)
          obtain ⟨rfl, hm91⟩ := hq
          show W _ _ _ _ _ _ _ _ _ _ _ _ _ _ _ (F0 _ _ _ [.int _])
          rw [if_neg (by decide)] at hm91
          have s91 := s90.cd (c' := 3) hm91 rfl
          refine lv_if_eq (tgt := 123) hx hb dM_open_118 (by decide) (fun hq => ?_) (fun hq => ?_)
          · exact absurd hq (by decide)
          · refine lv_iconst (v := 0) hx hb dM_open_121 (by decide) ?_
            exact ct_iret hE hI hr hk (s91.fin0 (er.trans (ck_none hc))) (by decide) (by decide) dM_open_122
      · obtain ⟨u, hu⟩ := Option.ne_none_iff_exists'.mp hc
        rw [if_neg hc]
        refine lv_if_ne (tgt := 114) hx hb dM_open_107 (by decide) (fun hq => ?_) (fun hq => ?_)
        · refine lv_iconst (v := 0) hx hb dM_open_114 (by decide) ?_
          refine ct_V (n := 2) hE hI (kM_refuse s90.1.1 3 0 (Or.inl rfl)) s90.o rfl gm_M67 gi_M_refuse gs_M_M_refuse gz_M gc_M_refuse (by decide +kernel) ⟨Nat.le_of_ble_eq_true rfl, Nat.le_of_ble_eq_true rfl⟩ rfl hl.1 rfl (Nat.le_of_ble_eq_true rfl) dM_open_115 ⟨Nat.le_of_ble_eq_true rfl, Nat.le_of_ble_eq_true rfl⟩ (fun v w91 H locs hq hI => ?_)
          obtain ⟨rfl, hm91⟩ := hq
          show W _ _ _ _ _ _ _ _ _ _ _ _ _ _ _ (F0 _ _ _ [.int _])
          rw [if_pos rfl] at hm91
          have s91 := s90.kp hm91
          refine lv_if_eq (tgt := 123) hx hb dM_open_118 (by decide) (fun hq => ?_) (fun hq => ?_)
          · refine lv_aload_n hx hb dM_open_123 rfl (lv_at hl 0 rfl) ?_
            refine lv_iload_n hx hb dM_open_124 rfl (lv_at hl 1 rfl) ?_
            obtain ⟨hok, -, -, -, -⟩ := tm_chk_ok hsX hu
            refine ct_V (n := 1) hE hI (kM_keep (u := u) (k := kto) s91.1.1 hto16 (hu90 u hu).1 (hu90 u hu).2 hok.2.2.1) s91.o rfl gm_M107 gi_M_keep gs_M_M_keep gz_M gc_M_keep (by decide +kernel) ⟨Nat.le_of_ble_eq_true rfl, Nat.le_of_ble_eq_true rfl⟩ rfl hl.1 rfl (Nat.le_of_ble_eq_true rfl) dM_open_125 ⟨Nat.le_of_ble_eq_true rfl, Nat.le_of_ble_eq_true rfl⟩ (fun v w92 H locs hq hI => ?_)
            obtain ⟨rfl, A92, hm92, ea92, e292, ph92⟩ := hq
            show W _ _ _ _ _ _ _ _ _ _ _ _ _ _ _ (F0 _ _ _ [.int _])
            exact ct_iret hE hI hr hk ((s91.keep hm92 ea92 e292 ph92 hto16 hok).fin (er.trans (ck_some hu))) (by decide) (by decide) dM_open_128
          · exact absurd rfl hq
        · exact absurd hq (by decide)
    · exact absurd rfl hq9
  · have hq : ¬ 2000 ≤ x := fun hh => hq ((ci_le (by omega) (by omega)).mpr hh)
    have er := op_open_n (σ := σ) hrto hra hrb (fun j t0 ef => hq (hx1.mpr ⟨j, t0, ef⟩))
    refine lv_iconst (v := 1) hx hb dM_open_40 (by decide) ?_
    refine lv_goto (tgt := 45) hx hb dM_open_41 (by decide) ?_
    refine ct_V (n := 2) hE hI (kM_refuse s3.1.1 2 1 (Or.inr rfl)) s3.o rfl gm_M67 gi_M_refuse gs_M_M_refuse gz_M gc_M_refuse (by decide +kernel) ⟨Nat.le_of_ble_eq_true rfl, Nat.le_of_ble_eq_true rfl⟩ rfl hl.1 rfl (Nat.le_of_ble_eq_true rfl) dM_open_45 ⟨Nat.le_of_ble_eq_true rfl, Nat.le_of_ble_eq_true rfl⟩ (fun v w4 H locs hq hI => ?_)
    obtain ⟨rfl, hm4⟩ := hq
    show W _ _ _ _ _ _ _ _ _ _ _ _ _ _ _ (F0 _ _ _ [.int _])
    rw [if_neg (by decide)] at hm4
    have s4 := s3.cd (c' := 2) hm4 rfl
    refine lv_if_eq (tgt := 53) hx hb dM_open_48 (by decide) (fun hq9 => ?_) (fun hq9 => ?_)
    · exact absurd hq9 (by decide)
    · refine lv_iconst (v := 0) hx hb dM_open_51 (by decide) ?_
      exact ct_iret hE hI hr hk (s4.fin0 er) (by decide) (by decide) dM_open_52
set_option maxRecDepth 100000 in
set_option maxHeartbeats 2000000 in
theorem kM_part (s0 : st K h w w I A σ O c0) (to a v0 : Int32) : ct_M l n0 D K yM_part (Cond.code yM_part cM_part 5 none) 154 4700 0 0 [.ref (h 0), .int to, .int a, .int v0] w (po_Mv K h w O (op_part σ to a v0)) := by
  refine ct_go (own := nm_M) (by decide) rfl (Nat.le_of_ble_eq_true rfl) ?_
  intro p e s m below meth c ls hE hI hr hk hn hl
  have hx := hE.1.1.1
  have hb := hE.1.1.2.1
  have hl : lv_has ls 5 [(0, .ref (h 0)), (1, .int to), (2, .int a), (3, .int v0)] := hl
  refine lv_aload_n hx hb dM_part_0 rfl (lv_at hl 0 rfl) ?_
  refine lv_iload_n hx hb dM_part_1 rfl (lv_at hl 1 rfl) ?_
  refine ct_V (n := 1) hE hI (kM_none s0.1.1 to) s0.o rfl gm_M100 gi_M_none gs_M_M_none gz_M gc_M_none (by decide +kernel) ⟨Nat.le_of_ble_eq_true rfl, Nat.le_of_ble_eq_true rfl⟩ rfl hl.1 rfl (Nat.le_of_ble_eq_true rfl) dM_part_2 ⟨Nat.le_of_ble_eq_true rfl, Nat.le_of_ble_eq_true rfl⟩ (fun v w1 H locs hq hI => ?_)
  obtain ⟨I1, rfl, hm1, e1, ei1⟩ := hq
  show W _ _ _ _ _ _ _ _ _ _ _ _ _ _ _ (F0 _ _ _ [.int _])
  refine lv_if_ne (tgt := 43) hx hb dM_part_5 (by decide) (fun hq => ?_) (fun hq => ?_)
  · have hz := rk_t hq
    have er : op_part σ to a v0 = (1, 0, σ) := by unfold op_part; rw [hz]
    have s9 := s0.no1 hm1 e1 ei1 hz
    exact ct_vret hE hI hr hk (s9.finv er) (by decide) (by decide) dM_part_43
  obtain ⟨kto, hrto⟩ := rk_f hq
  have s1 := s0.no0 hm1 e1 ei1 hrto
  refine lv_aload_n hx hb dM_part_8 rfl (lv_at hl 0 rfl) ?_
  refine lv_iload_n hx hb dM_part_9 rfl (lv_at hl 2 rfl) ?_
  refine ct_V (n := 1) hE hI (kM_none s1.1.1 a) s1.o rfl gm_M100 gi_M_none gs_M_M_none gz_M gc_M_none (by decide +kernel) ⟨Nat.le_of_ble_eq_true rfl, Nat.le_of_ble_eq_true rfl⟩ rfl hl.1 rfl (Nat.le_of_ble_eq_true rfl) dM_part_10 ⟨Nat.le_of_ble_eq_true rfl, Nat.le_of_ble_eq_true rfl⟩ (fun v w2 H locs hq hI => ?_)
  obtain ⟨I2, rfl, hm2, e2, ei2⟩ := hq
  show W _ _ _ _ _ _ _ _ _ _ _ _ _ _ _ (F0 _ _ _ [.int _])
  refine lv_if_ne (tgt := 43) hx hb dM_part_13 (by decide) (fun hq => ?_) (fun hq => ?_)
  · have hz := rk_t hq
    have er : op_part σ to a v0 = (1, 0, σ) := by unfold op_part; rw [hrto, hz]
    have s9 := s1.no1 hm2 e2 ei2 hz
    exact ct_vret hE hI hr hk (s9.finv er) (by decide) (by decide) dM_part_43
  obtain ⟨ka, hra⟩ := rk_f hq
  have s2 := s1.no0 hm2 e2 ei2 hra
  obtain ⟨hto16, rfl⟩ := rk_some hrto
  obtain ⟨ha16, rfl⟩ := rk_some hra
  have r2 := s2.2.1 ka ha16
  have za := s2.b ka ha16
  obtain ⟨x, rr, erow, hxb, -, hx1⟩ := rw_hd r2.2.2
  have e0 : (tm_row (σ ka))[0]? = some x := by rw [erow]; rfl
  refine lv_aload_n hx hb dM_part_16 rfl (lv_at hl 0 rfl) ?_
  refine lv_iconst (v := 2) hx hb dM_part_17 (by decide) ?_
  refine lv_aload_n hx hb dM_part_18 rfl (lv_at hl 0 rfl) ?_
  refine mp_get hE.1 hI s2.o rfl gx_M 1 (by decide) (List.mem_cons_of_mem _ gf_M15) rfl dM_part_19 ?_
  refine lv_iload_n hx hb dM_part_22 rfl (lv_at hl 2 rfl) ?_
  refine mp_aldA hE.1 hI s2.g 4 rfl (vp_in_nI (by omega) (by omega)) dM_part_23 ?_
  rw [nI_clamp (by omega)]
  show W _ _ _ _ _ _ _ _ _ _ _ _ _ _ _ (F0 _ _ _ [.ref (h (9 + ka)), .int _, .ref (h 0)])
  refine lv_iconst (v := nI 0) hx hb dM_part_24 (by decide) ?_
  refine mp_ild hE.1 hI (s2.r ha16) 0 rfl (vp_in_nI (by omega) (by omega)) dM_part_25 ?_
  rw [nI_clamp (by omega), r2.2.1 0 x e0]
  refine lv_sipush (v := ci_i 1000) hx hb dM_part_26 (by decide) ?_
  refine lv_icmp_eq (tgt := 36) hx hb dM_part_29 (by decide) (fun hq => ?_) (fun hq => ?_)
  · have hq : x = 1000 := (ci_eq (by omega) (by omega)).mp hq
    obtain ⟨t1, t2, ef⟩ := hx1.mp hq
    have er := op_part_a (σ := σ) (s := v0) hrto hra ef
    have hoka : tm_ok (.append t1 t2) := by rw [← ef]; exact r2.2.2
    have hza : 1 + tm_sz t1 + tm_sz t2 ≤ 2000 := hoka.2.2.1
    have hda : 1 + max (tm_dp t1) (tm_dp t2) ≤ 150 := hoka.2.2.2
    have esz : tm_sz (σ ka) = 1 + tm_sz t1 + tm_sz t2 := by rw [ef]; rfl
    have erw : tm_row (σ ka) = 1000 :: (tm_row t1 ++ tm_row t2) := by rw [ef, tm_row_app]
    refine lv_iconst (v := 0) hx hb dM_part_36 (by decide) ?_
    refine ct_V (n := 2) hE hI (kM_refuse s2.1.1 2 0 (Or.inl rfl)) s2.o rfl gm_M67 gi_M_refuse gs_M_M_refuse gz_M gc_M_refuse (by decide +kernel) ⟨Nat.le_of_ble_eq_true rfl, Nat.le_of_ble_eq_true rfl⟩ rfl hl.1 rfl (Nat.le_of_ble_eq_true rfl) dM_part_37 ⟨Nat.le_of_ble_eq_true rfl, Nat.le_of_ble_eq_true rfl⟩ (fun v w3 H locs hq hI => ?_)
    obtain ⟨rfl, hm3⟩ := hq
    show W _ _ _ _ _ _ _ _ _ _ _ _ _ _ _ (F0 _ _ _ [.int _])
    rw [if_pos rfl] at hm3
    have s3 := s2.kp hm3
    refine lv_if_eq (tgt := 44) hx hb dM_part_40 (by decide) (fun hq9 => ?_) (fun hq9 => ?_)
    · refine lv_aload_n hx hb dM_part_44 rfl (lv_at hl 0 rfl) ?_
      refine mp_get hE.1 hI s3.o rfl gx_M 1 (by decide) (List.mem_cons_of_mem _ gf_M15) rfl dM_part_45 ?_
      refine lv_iload_n hx hb dM_part_48 rfl (lv_at hl 2 rfl) ?_
      refine mp_aldA hE.1 hI s3.g 4 rfl (vp_in_nI (by omega) (by omega)) dM_part_49 ?_
      rw [nI_clamp (by omega)]
      show W _ _ _ _ _ _ _ _ _ _ _ _ _ _ _ (F0 _ _ _ [.ref (h (9 + ka))])
      refine lv_iconst (v := nI 1) hx hb dM_part_50 (by decide) ?_
      refine ct_St (n := 2) hE hI (kM_end (k := 9 + ka) (a := 1) (t := t1) (E := []) (r := tm_row t2) s3.1.1 (by omega) (by omega) (by omega) r2.2.1 (by rw [tm_row_len, ml_r]; exact za) (tm_ok_bd r2.2.2) (by rw [erw]; rfl) hoka.1.1 (by rw [tm_row_len]; exact tm_sz_pos _)) gm_M118 gt_M_end gz_M gc_M_end (by decide +kernel) ⟨Nat.le_of_ble_eq_true rfl, Nat.le_of_ble_eq_true rfl⟩ rfl hl.1 rfl (Nat.le_of_ble_eq_true rfl) dM_part_51 ⟨Nat.le_of_ble_eq_true rfl, Nat.le_of_ble_eq_true rfl⟩ (fun v w1 H locs hq hI => ?_)
      obtain ⟨hw, rfl⟩ := hq
      subst w1
      show W _ _ _ _ _ _ _ _ _ _ _ _ _ _ _ (F0 _ _ _ [.int _])
      refine lv_istore hx hb dM_part_54 hl (by decide) rfl (fun ls hl => ?_)
      refine lv_aload_n hx hb dM_part_56 rfl (lv_at hl 1 rfl) ?_
      refine ct_V (n := 0) hE hI (kM_begin s3.1.1) s3.o rfl gm_M104 gi_M_begin gs_M_M_begin gz_M gc_M_begin (by decide +kernel) ⟨Nat.le_of_ble_eq_true rfl, Nat.le_of_ble_eq_true rfl⟩ rfl hl.1 rfl (Nat.le_of_ble_eq_true rfl) dM_part_57 ⟨Nat.le_of_ble_eq_true rfl, Nat.le_of_ble_eq_true rfl⟩ (fun v w4 H locs hq hI => ?_)
      obtain ⟨rfl, I4, hm4, hk4, ei4⟩ := hq
      show W _ _ _ _ _ _ _ _ _ _ _ _ _ _ _ (F0 _ _ _ [])
      have s4 := s3.nx hm4 (ei4.mono (by decide)) (eqA.rf _ _)
      have r4 := s4.2.1 ka ha16
      refine lv_iload_n hx hb dM_part_60 rfl (lv_at hl 4 rfl) ?_
      refine lv_if_eq (tgt := 85) hx hb dM_part_61 (by decide) (fun hqv => ?_) (fun hqv => ?_)
      · rw [if_pos hqv] at er
        refine lv_aload_n hx hb dM_part_85 rfl (lv_at hl 1 rfl) ?_
        refine lv_aload_n hx hb dM_part_86 rfl (lv_at hl 1 rfl) ?_
        refine mp_get hE.1 hI s4.o rfl gx_M 1 (by decide) (List.mem_cons_of_mem _ gf_M15) rfl dM_part_87 ?_
        refine lv_iload_n hx hb dM_part_90 rfl (lv_at hl 3 rfl) ?_
        refine mp_aldA hE.1 hI s4.g 4 rfl (vp_in_nI (by omega) (by omega)) dM_part_91 ?_
        rw [nI_clamp (by omega)]
        show W _ _ _ _ _ _ _ _ _ _ _ _ _ _ _ (F0 _ _ _ [.ref (h (9 + ka)), .ref (h 0)])
        refine lv_iconst (v := nI 1) hx hb dM_part_92 (by decide) ?_
        refine lv_iload hx hb dM_part_93 (lv_at hl 0 rfl) ?_
        refine ct_V (n := 3) hE hI (kM_add2 (k := 9 + ka) (a := 1) (b := 1 + tm_sz t1) s4.1.1 hk4 (by omega) (by omega) (by omega) (by omega) r4.2.1 (by omega) (by rw [tm_row_len]; omega) (by rw [tm_row_len, ml_r]; exact za)) s4.o rfl gm_M75 gi_M_add2 gs_M_M_add2 gz_M gc_M_add2 (by decide +kernel) ⟨Nat.le_of_ble_eq_true rfl, Nat.le_of_ble_eq_true rfl⟩ rfl hl.1 rfl (Nat.le_of_ble_eq_true rfl) dM_part_95 ⟨Nat.le_of_ble_eq_true rfl, Nat.le_of_ble_eq_true rfl⟩ (fun v w5 H locs hq hI => ?_)
        obtain ⟨rfl, I5, A5, hm5, hk5, ei5, ea5⟩ := hq
        show W _ _ _ _ _ _ _ _ _ _ _ _ _ _ _ (F0 _ _ _ [])
        have hk5 : mk_m I5 A5 (tm_row t1) := by
          rw [List.nil_append, erw, List.drop_succ_cons, List.drop_zero, Nat.add_sub_cancel_left, ← tm_row_len, List.take_left] at hk5
          exact hk5
        have s5 := s4.nx hm5 (ei5.mono (by decide)) (ea5.mono (by decide))
        have z1 : tm_sz t1 ≤ 2000 := by omega
        have d1 : tm_dp t1 ≤ 150 := by omega
        obtain ⟨i5, p5⟩ := mk_3 hk5 z1
        refine lv_aload_n hx hb dM_part_98 rfl (lv_at hl 1 rfl) ?_
        refine ct_V (n := 0) hE hI (kM_renamed (X := t1) s5.1.1 p5 z1 d1 hoka.1.1 (fun j hj => tm_ok_fn hoka j (List.mem_append_left _ hj))) s5.o rfl gm_M91 gi_M_renamed gs_M_M_renamed gz_M gc_M_renamed (by decide +kernel) ⟨Nat.le_of_ble_eq_true rfl, Nat.le_of_ble_eq_true rfl⟩ rfl hl.1 rfl (Nat.le_of_ble_eq_true rfl) dM_part_99 ⟨Nat.le_of_ble_eq_true rfl, Nat.le_of_ble_eq_true rfl⟩ (fun v w6 H locs hq hI => ?_)
        obtain ⟨rfl, I6, A6, hm6, ei6, ea6, p6⟩ := hq
        show W _ _ _ _ _ _ _ _ _ _ _ _ _ _ _ (F0 _ _ _ [])
        have s6 := s5.nx hm6 (ei6.mono (by decide)) (ea6.mono (by decide))
        have hok6 := (tm_can_ok hoka.1.1 z1 d1).1
        refine lv_aload_n hx hb dM_part_102 rfl (lv_at hl 1 rfl) ?_
        refine lv_iload_n hx hb dM_part_103 rfl (lv_at hl 2 rfl) ?_
        refine ct_V (n := 1) hE hI (kM_keep (u := tm_can t1) (k := kto) s6.1.1 hto16 (by rw [ei6 1 (by decide), i5]; unfold tm_can; rw [tm_rn_sz]) p6 hok6.2.2.1) s6.o rfl gm_M107 gi_M_keep gs_M_M_keep gz_M gc_M_keep (by decide +kernel) ⟨Nat.le_of_ble_eq_true rfl, Nat.le_of_ble_eq_true rfl⟩ rfl hl.1 rfl (Nat.le_of_ble_eq_true rfl) dM_part_104 ⟨Nat.le_of_ble_eq_true rfl, Nat.le_of_ble_eq_true rfl⟩ (fun v w7 H locs hq hI => ?_)
        obtain ⟨rfl, A7, hm7, ea7, e7, ph7⟩ := hq
        show W _ _ _ _ _ _ _ _ _ _ _ _ _ _ _ (F0 _ _ _ [.int _])
        refine lv_pop hx hb dM_part_107 rfl ?_
        exact ct_vret hE hI hr hk ((s6.keep hm7 ea7 e7 ph7 hto16 hok6).finv er) (by decide) (by decide) dM_part_108
      · rw [if_neg hqv] at er
        refine lv_aload_n hx hb dM_part_64 rfl (lv_at hl 1 rfl) ?_
        refine lv_aload_n hx hb dM_part_65 rfl (lv_at hl 1 rfl) ?_
        refine mp_get hE.1 hI s4.o rfl gx_M 1 (by decide) (List.mem_cons_of_mem _ gf_M15) rfl dM_part_66 ?_
        refine lv_iload_n hx hb dM_part_69 rfl (lv_at hl 3 rfl) ?_
        refine mp_aldA hE.1 hI s4.g 4 rfl (vp_in_nI (by omega) (by omega)) dM_part_70 ?_
        rw [nI_clamp (by omega)]
        show W _ _ _ _ _ _ _ _ _ _ _ _ _ _ _ (F0 _ _ _ [.ref (h (9 + ka)), .ref (h 0)])
        refine lv_iload hx hb dM_part_71 (lv_at hl 0 rfl) ?_
        refine lv_aload_n hx hb dM_part_73 rfl (lv_at hl 1 rfl) ?_
        refine mp_get hE.1 hI s4.o rfl gx_M 2 (by decide) (List.mem_cons_of_mem _ gf_M18) rfl dM_part_74 ?_
        refine lv_iload_n hx hb dM_part_77 rfl (lv_at hl 3 rfl) ?_
        refine mp_ild hE.1 hI s4.z 0 rfl (vp_in_nI (by omega) (by omega)) dM_part_78 ?_
        rw [nI_clamp (by omega), r4.1]
        refine ct_V (n := 3) hE hI (kM_add2 (k := 9 + ka) (a := 1 + tm_sz t1) (b := tm_sz (σ ka)) s4.1.1 hk4 (by omega) (by omega) (by omega) (by omega) r4.2.1 (by omega) (by rw [tm_row_len]; omega) (by rw [tm_row_len, ml_r]; exact za)) s4.o rfl gm_M75 gi_M_add2 gs_M_M_add2 gz_M gc_M_add2 (by decide +kernel) ⟨Nat.le_of_ble_eq_true rfl, Nat.le_of_ble_eq_true rfl⟩ rfl hl.1 rfl (Nat.le_of_ble_eq_true rfl) dM_part_79 ⟨Nat.le_of_ble_eq_true rfl, Nat.le_of_ble_eq_true rfl⟩ (fun v w5 H locs hq hI => ?_)
        obtain ⟨rfl, I5, A5, hm5, hk5, ei5, ea5⟩ := hq
        show W _ _ _ _ _ _ _ _ _ _ _ _ _ _ _ (F0 _ _ _ [])
        have hk5 : mk_m I5 A5 (tm_row t2) := by
          rw [List.nil_append, erw, Nat.add_comm 1, List.drop_succ_cons, ← tm_row_len t1, List.drop_left, tm_row_len, List.take_of_length_le (by rw [tm_row_len]; omega)] at hk5
          exact hk5
        have s5 := s4.nx hm5 (ei5.mono (by decide)) (ea5.mono (by decide))
        have z1 : tm_sz t2 ≤ 2000 := by omega
        have d1 : tm_dp t2 ≤ 150 := by omega
        obtain ⟨i5, p5⟩ := mk_3 hk5 z1
        refine lv_goto (tgt := 98) hx hb dM_part_82 (by decide) ?_
        refine lv_aload_n hx hb dM_part_98 rfl (lv_at hl 1 rfl) ?_
        refine ct_V (n := 0) hE hI (kM_renamed (X := t2) s5.1.1 p5 z1 d1 hoka.1.2 (fun j hj => tm_ok_fn hoka j (List.mem_append_right _ hj))) s5.o rfl gm_M91 gi_M_renamed gs_M_M_renamed gz_M gc_M_renamed (by decide +kernel) ⟨Nat.le_of_ble_eq_true rfl, Nat.le_of_ble_eq_true rfl⟩ rfl hl.1 rfl (Nat.le_of_ble_eq_true rfl) dM_part_99 ⟨Nat.le_of_ble_eq_true rfl, Nat.le_of_ble_eq_true rfl⟩ (fun v w6 H locs hq hI => ?_)
        obtain ⟨rfl, I6, A6, hm6, ei6, ea6, p6⟩ := hq
        show W _ _ _ _ _ _ _ _ _ _ _ _ _ _ _ (F0 _ _ _ [])
        have s6 := s5.nx hm6 (ei6.mono (by decide)) (ea6.mono (by decide))
        have hok6 := (tm_can_ok hoka.1.2 z1 d1).1
        refine lv_aload_n hx hb dM_part_102 rfl (lv_at hl 1 rfl) ?_
        refine lv_iload_n hx hb dM_part_103 rfl (lv_at hl 2 rfl) ?_
        refine ct_V (n := 1) hE hI (kM_keep (u := tm_can t2) (k := kto) s6.1.1 hto16 (by rw [ei6 1 (by decide), i5]; unfold tm_can; rw [tm_rn_sz]) p6 hok6.2.2.1) s6.o rfl gm_M107 gi_M_keep gs_M_M_keep gz_M gc_M_keep (by decide +kernel) ⟨Nat.le_of_ble_eq_true rfl, Nat.le_of_ble_eq_true rfl⟩ rfl hl.1 rfl (Nat.le_of_ble_eq_true rfl) dM_part_104 ⟨Nat.le_of_ble_eq_true rfl, Nat.le_of_ble_eq_true rfl⟩ (fun v w7 H locs hq hI => ?_)
        obtain ⟨rfl, A7, hm7, ea7, e7, ph7⟩ := hq
        show W _ _ _ _ _ _ _ _ _ _ _ _ _ _ _ (F0 _ _ _ [.int _])
        refine lv_pop hx hb dM_part_107 rfl ?_
        exact ct_vret hE hI hr hk ((s6.keep hm7 ea7 e7 ph7 hto16 hok6).finv er) (by decide) (by decide) dM_part_108
    · exact absurd rfl hq9
  · have hq : ¬ x = 1000 := fun hh => hq (by rw [hh])
    have er := op_part_n (σ := σ) (s := v0) hrto hra (fun t1 t2 ef => hq (hx1.mpr ⟨t1, t2, ef⟩))
    refine lv_iconst (v := 1) hx hb dM_part_32 (by decide) ?_
    refine lv_goto (tgt := 37) hx hb dM_part_33 (by decide) ?_
    refine ct_V (n := 2) hE hI (kM_refuse s2.1.1 2 1 (Or.inr rfl)) s2.o rfl gm_M67 gi_M_refuse gs_M_M_refuse gz_M gc_M_refuse (by decide +kernel) ⟨Nat.le_of_ble_eq_true rfl, Nat.le_of_ble_eq_true rfl⟩ rfl hl.1 rfl (Nat.le_of_ble_eq_true rfl) dM_part_37 ⟨Nat.le_of_ble_eq_true rfl, Nat.le_of_ble_eq_true rfl⟩ (fun v w3 H locs hq hI => ?_)
    obtain ⟨rfl, hm3⟩ := hq
    show W _ _ _ _ _ _ _ _ _ _ _ _ _ _ _ (F0 _ _ _ [.int _])
    rw [if_neg (by decide)] at hm3
    have s3 := s2.cd (c' := 2) hm3 rfl
    refine lv_if_eq (tgt := 44) hx hb dM_part_40 (by decide) (fun hq9 => ?_) (fun hq9 => ?_)
    · exact absurd hq9 (by decide)
    · exact ct_vret hE hI hr hk (s3.finv er) (by decide) (by decide) dM_part_43
end KM9
