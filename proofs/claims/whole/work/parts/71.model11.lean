/-! the reference's face: same, has, about, write, out -/
theorem nc_count (x : Int) : ∀ L : List Int, nc_n (fun i => decide (L[i]? = some x)) L.length = L.count x
  | [] => rfl
  | y :: L => by
    have h1 : nc_n (fun i => decide ((y :: L)[1 + i]? = some x)) L.length = L.count x := by
      rw [← nc_count x L]
      refine nc_ext _ (fun i _ => ?_)
      rw [Nat.add_comm 1 i, List.getElem?_cons_succ]
    rw [List.length_cons, Nat.add_comm L.length 1, nc_add, h1, List.count_cons]
    have h2 : nc_n (fun i => decide ((y :: L)[i]? = some x)) 1 = if (y == x) = true then 1 else 0 := by
      by_cases e : y = x
      · rw [nc_t (by simpa using e), if_pos (by simpa using e)]; rfl
      · rw [nc_f (by simpa using e), if_neg (by simpa using e)]; rfl
    rw [h2, Nat.add_comm]
theorem nc_dbrow {t : Std.Format} (hok : tm_ok t) {n : Nat} (hn : n < 100) : nc_n (fun i => decide ((tm_row t)[i]? = some (n : Int))) (tm_sz t) = nc_n (fun i => decide ((tm_db t [])[i]? = some (n : Int))) (tm_sz t) := by
  have a := nc_count (n : Int) (tm_row t)
  have b := nc_count (n : Int) (tm_db t [])
  rw [tm_row_len] at a
  rw [tm_db_len] at b
  rw [a, b, tm_count _ (by omega) (by omega) t [] hok.1]
theorem nc_mem {t : Std.Format} (hok : tm_ok t) {n : Nat} (hn : n < 100) : 0 < nc_n (fun i => decide ((tm_row t)[i]? = some (n : Int))) (tm_sz t) ↔ (n : Int) ∈ tm_db t [] := by
  rw [nc_dbrow hok hn]
  have b := nc_count (n : Int) (tm_db t [])
  rw [tm_db_len] at b
  rw [b]
  exact List.count_pos_iff
theorem tm_kind_0 {t : Std.Format} (h1 : ¬ ∃ j c, t = .tag j c) (h2 : ¬ ∃ a b, t = .append a b) : tm_kind t = 0 := by
  rcases tm_cases t with hlf | ⟨j, c, e⟩ | ⟨a, b, e⟩
  · cases t <;> first | rfl | cases hlf
  · exact absurd ⟨j, c, e⟩ h1
  · exact absurd ⟨a, b, e⟩ h2
section KM11
variable {l : Launch} {n0 : Nat} {D : va_G} {K : Nat → ClassId} {w : mp_W} {h : Nat → Nat} {I : mI} {A : mA} {σ : Nat → Std.Format} {O : List Int} {c0 : Nat}
set_option maxRecDepth 100000 in
set_option maxHeartbeats 2000000 in
theorem kM_same (s0 : st K h w w I A σ O c0) (a b : Int32) : ct_M l n0 D K yM_same (Cond.code yM_same cM_same 4 (some .boolean)) 154 4700 0 0 [.ref (h 0), .int a, .int b] w (po_M K h w O (op_same σ a b)) := by
  refine ct_go (own := nm_M) (by decide) rfl (Nat.le_of_ble_eq_true rfl) ?_
  intro p e s m below meth c ls hE hI hr hk hn hl
  have hx := hE.1.1.1
  have hb := hE.1.1.2.1
  have hl : lv_has ls 4 [(0, .ref (h 0)), (1, .int a), (2, .int b)] := hl
  refine lv_aload_n hx hb dM_same_0 rfl (lv_at hl 0 rfl) ?_
  refine lv_iload_n hx hb dM_same_1 rfl (lv_at hl 1 rfl) ?_
  refine ct_V (n := 1) hE hI (kM_none s0.1.1 a) s0.o rfl gm_M100 gi_M_none gs_M_M_none gz_M gc_M_none (by decide +kernel) ⟨Nat.le_of_ble_eq_true rfl, Nat.le_of_ble_eq_true rfl⟩ rfl hl.1 rfl (Nat.le_of_ble_eq_true rfl) dM_same_2 ⟨Nat.le_of_ble_eq_true rfl, Nat.le_of_ble_eq_true rfl⟩ (fun v w1 H locs hq hI => ?_)
  obtain ⟨I1, rfl, hm1, e1, ei1⟩ := hq
  show W _ _ _ _ _ _ _ _ _ _ _ _ _ _ _ (F0 _ _ _ [.int _])
  refine lv_if_ne (tgt := 16) hx hb dM_same_5 (by decide) (fun hq => ?_) (fun hq => ?_)
  · have hz := rk_t hq
    have er : op_same σ a b = (1, 0, σ) := by unfold op_same; rw [hz]
    have s9 := s0.no1 hm1 e1 ei1 hz
    refine lv_iconst (v := 0) hx hb dM_same_16 (by decide) ?_
    exact ct_zret hE hI hr hk (Or.inl rfl) (s9.fin0 er) (by decide) (by decide) dM_same_17
  obtain ⟨ka, hra⟩ := rk_f hq
  have s1 := s0.no0 hm1 e1 ei1 hra
  refine lv_aload_n hx hb dM_same_8 rfl (lv_at hl 0 rfl) ?_
  refine lv_iload_n hx hb dM_same_9 rfl (lv_at hl 2 rfl) ?_
  refine ct_V (n := 1) hE hI (kM_none s1.1.1 b) s1.o rfl gm_M100 gi_M_none gs_M_M_none gz_M gc_M_none (by decide +kernel) ⟨Nat.le_of_ble_eq_true rfl, Nat.le_of_ble_eq_true rfl⟩ rfl hl.1 rfl (Nat.le_of_ble_eq_true rfl) dM_same_10 ⟨Nat.le_of_ble_eq_true rfl, Nat.le_of_ble_eq_true rfl⟩ (fun v w2 H locs hq hI => ?_)
  obtain ⟨I2, rfl, hm2, e2, ei2⟩ := hq
  show W _ _ _ _ _ _ _ _ _ _ _ _ _ _ _ (F0 _ _ _ [.int _])
  refine lv_if_eq (tgt := 18) hx hb dM_same_13 (by decide) (fun hq => ?_) (fun hq => ?_)
  rotate_left
  · have hz := rk_t hq
    have er : op_same σ a b = (1, 0, σ) := by unfold op_same; rw [hra, hz]
    have s9 := s1.no1 hm2 e2 ei2 hz
    refine lv_iconst (v := 0) hx hb dM_same_16 (by decide) ?_
    exact ct_zret hE hI hr hk (Or.inl rfl) (s9.fin0 er) (by decide) (by decide) dM_same_17
  obtain ⟨kb, hrb⟩ := rk_f hq
  have s2 := s1.no0 hm2 e2 ei2 hrb
  obtain ⟨ha16, rfl⟩ := rk_some hra
  obtain ⟨hb16, rfl⟩ := rk_some hrb
  have er : op_same σ (nI ka) (nI kb) = (0, if tm_db (σ ka) [] = tm_db (σ kb) [] then 1 else 0, σ) := by unfold op_same; rw [hra, hrb]
  have ra := s2.2.1 ka ha16
  have rb := s2.2.1 kb hb16
  have za := s2.b ka ha16
  have zb := s2.b kb hb16
  have hsm := tm_same ra.2.2.2.1 rb.2.2.2.1 ra.2.2.1 rb.2.2.1
  have la := tm_row_len (σ ka)
  have lb := tm_row_len (σ kb)
  refine lv_aload_n hx hb dM_same_18 rfl (lv_at hl 0 rfl) ?_
  refine mp_get hE.1 hI s2.o rfl gx_M 2 (by decide) (List.mem_cons_of_mem _ gf_M18) rfl dM_same_19 ?_
  refine lv_iload_n hx hb dM_same_22 rfl (lv_at hl 1 rfl) ?_
  refine mp_ild hE.1 hI s2.z 0 rfl (vp_in_nI (by omega) (by omega)) dM_same_23 ?_
  rw [nI_clamp (by omega), ra.1]
  refine lv_aload_n hx hb dM_same_24 rfl (lv_at hl 0 rfl) ?_
  refine mp_get hE.1 hI s2.o rfl gx_M 2 (by decide) (List.mem_cons_of_mem _ gf_M18) rfl dM_same_25 ?_
  refine lv_iload_n hx hb dM_same_28 rfl (lv_at hl 2 rfl) ?_
  refine mp_ild hE.1 hI s2.z 0 rfl (vp_in_nI (by omega) (by omega)) dM_same_29 ?_
  rw [nI_clamp (by omega), rb.1]
  refine lv_icmp_eq (tgt := 35) hx hb dM_same_30 (by decide) (fun hq => ?_) (fun hq => ?_)
  · have hq : tm_sz (σ ka) = tm_sz (σ kb) := (nI_eq (by omega) (by omega)).mp hq
    have loop : ∀ (q i : Nat) (ls : Array Slot), i + q = tm_sz (σ ka) → (∀ j, j < i → (tm_row (σ ka))[j]? = (tm_row (σ kb))[j]?) → lv_has ls 4 [(3, .int (nI i)), (0, .ref (h 0)), (1, .int (nI ka)), (2, .int (nI kb))] →
        W p l e { frames := 154, cells := 0, slots := 0, locals := 4700 } s m ([Value.ref (h 0), .int (nI ka), .int (nI kb)] : List Value).toArray below meth c H locs 0 0 (MQ below (ct_Q D w s.heap.size (po_M K h w O (op_same σ (nI ka) (nI kb)))) ([Value.ref (h 0), .int (nI ka), .int (nI kb)] : List Value).toArray s 0 0 (mp_A w s.heap.size)) (F0 m 37 ls []) := by
      intro q
      induction q with
      | zero =>
        intro i ls hiq hall hl
        have hi : i = tm_sz (σ ka) := by omega
        subst hi
        have hrow : tm_row (σ ka) = tm_row (σ kb) := by
          apply List.ext_getElem?
          intro j
          by_cases hj : j < tm_sz (σ ka)
          · exact hall j hj
          · rw [List.getElem?_eq_none (by omega), List.getElem?_eq_none (by omega)]
        refine lv_iload_n hx hb dM_same_37 rfl (lv_at hl 0 rfl) ?_
        refine lv_aload_n hx hb dM_same_38 rfl (lv_at hl 1 rfl) ?_
        refine mp_get hE.1 hI s2.o rfl gx_M 2 (by decide) (List.mem_cons_of_mem _ gf_M18) rfl dM_same_39 ?_
        refine lv_iload_n hx hb dM_same_42 rfl (lv_at hl 2 rfl) ?_
        refine mp_ild hE.1 hI s2.z 0 rfl (vp_in_nI (by omega) (by omega)) dM_same_43 ?_
        rw [nI_clamp (by omega), ra.1]
        refine lv_icmp_ge (tgt := 74) hx hb dM_same_44 (by decide) (fun hq2 => ?_) (fun hq2 => ?_)
        · refine lv_iconst (v := nI 1) hx hb dM_same_74 (by decide) ?_
          exact ct_zret hE hI hr hk (Or.inr rfl) (s2.fin (er.trans (by rw [if_pos (hsm.mpr hrow)]))) (by decide) (by decide) dM_same_75
        · exact absurd (nI_le (Nat.le_refl _) (by omega)) hq2
      | succ q ih =>
        intro i ls hiq hall hl
        obtain ⟨x, e1, m1⟩ := pt_at (show i < (tm_row (σ ka)).length by omega)
        obtain ⟨y, e2, m2⟩ := pt_at (show i < (tm_row (σ kb)).length by omega)
        have hxb := tm_ok_bd ra.2.2 x m1
        have hyb := tm_ok_bd rb.2.2 y m2
        refine lv_iload_n hx hb dM_same_37 rfl (lv_at hl 0 rfl) ?_
        refine lv_aload_n hx hb dM_same_38 rfl (lv_at hl 1 rfl) ?_
        refine mp_get hE.1 hI s2.o rfl gx_M 2 (by decide) (List.mem_cons_of_mem _ gf_M18) rfl dM_same_39 ?_
        refine lv_iload_n hx hb dM_same_42 rfl (lv_at hl 2 rfl) ?_
        refine mp_ild hE.1 hI s2.z 0 rfl (vp_in_nI (by omega) (by omega)) dM_same_43 ?_
        rw [nI_clamp (by omega), ra.1]
        refine lv_icmp_ge (tgt := 74) hx hb dM_same_44 (by decide) (fun hq2 => ?_) (fun hq2 => ?_)
        · exact absurd ((nI_leI (by omega) (by omega)).mp hq2) (by omega)
        · skip
          refine lv_aload_n hx hb dM_same_47 rfl (lv_at hl 1 rfl) ?_
          refine mp_get hE.1 hI s2.o rfl gx_M 1 (by decide) (List.mem_cons_of_mem _ gf_M15) rfl dM_same_48 ?_
          refine lv_iload_n hx hb dM_same_51 rfl (lv_at hl 2 rfl) ?_
          refine mp_aldA hE.1 hI s2.g 4 rfl (vp_in_nI (by omega) (by omega)) dM_same_52 ?_
          rw [nI_clamp (by omega)]
          show W _ _ _ _ _ _ _ _ _ _ _ _ _ _ _ (F0 _ _ _ [.ref (h (9 + ka))])
          refine lv_iload_n hx hb dM_same_53 rfl (lv_at hl 0 rfl) ?_
          refine mp_ild hE.1 hI (s2.r ha16) 0 rfl (vp_in_nI (by omega) (by omega)) dM_same_54 ?_
          rw [nI_clamp (by omega), ra.2.1 i x e1]
          refine lv_aload_n hx hb dM_same_55 rfl (lv_at hl 1 rfl) ?_
          refine mp_get hE.1 hI s2.o rfl gx_M 1 (by decide) (List.mem_cons_of_mem _ gf_M15) rfl dM_same_56 ?_
          refine lv_iload_n hx hb dM_same_59 rfl (lv_at hl 3 rfl) ?_
          refine mp_aldA hE.1 hI s2.g 4 rfl (vp_in_nI (by omega) (by omega)) dM_same_60 ?_
          rw [nI_clamp (by omega)]
          show W _ _ _ _ _ _ _ _ _ _ _ _ _ _ _ (F0 _ _ _ [.ref (h (9 + kb)), .int _])
          refine lv_iload_n hx hb dM_same_61 rfl (lv_at hl 0 rfl) ?_
          refine mp_ild hE.1 hI (s2.r hb16) 0 rfl (vp_in_nI (by omega) (by omega)) dM_same_62 ?_
          rw [nI_clamp (by omega), rb.2.1 i y e2]
          refine lv_icmp_eq (tgt := 68) hx hb dM_same_63 (by decide) (fun hq3 => ?_) (fun hq3 => ?_)
          · have hq3 : x = y := (ci_eq (by omega) (by omega)).mp hq3
            subst hq3
            refine lv_iinc (k := 0) (v := nI (i + 1)) hx hb dM_same_68 hl rfl (nI_1 i) (by decide) rfl (fun ls hl => ?_)
            refine lv_goto (tgt := 37) hx hb dM_same_71 (by decide) ?_
            refine ih (i + 1) ls (by omega) (fun j hj => ?_) hl
            by_cases e3 : j = i
            · subst e3; rw [e1, e2]
            · exact hall j (by omega)
          · have hne : ¬ tm_row (σ ka) = tm_row (σ kb) := fun hh => hq3 (by
              rw [hh] at e1
              rw [Option.some.inj (e1.symm.trans e2)])
            refine lv_iconst (v := 0) hx hb dM_same_66 (by decide) ?_
            exact ct_zret hE hI hr hk (Or.inl rfl) (s2.fin0 (er.trans (by rw [if_neg (fun hh => hne (hsm.mp hh))]))) (by decide) (by decide) dM_same_67
    refine lv_iconst (v := nI 0) hx hb dM_same_35 (by decide) ?_
    refine lv_istore_n hx hb dM_same_36 rfl hl (by decide) rfl (fun ls hl => ?_)
    exact loop (tm_sz (σ ka)) 0 ls (by omega) (fun j hj => absurd hj (by omega)) hl
  · have hq : ¬ tm_sz (σ ka) = tm_sz (σ kb) := fun hh => hq (by rw [hh])
    have hne : ¬ tm_row (σ ka) = tm_row (σ kb) := fun hh => hq (by rw [← la, ← lb, hh])
    refine lv_iconst (v := 0) hx hb dM_same_33 (by decide) ?_
    exact ct_zret hE hI hr hk (Or.inl rfl) (s2.fin0 (er.trans (by rw [if_neg (fun hh => hne (hsm.mp hh))]))) (by decide) (by decide) dM_same_34
set_option maxRecDepth 100000 in
theorem kM_has (s0 : st K h w w I A σ O c0) (a n : Int32) : ct_M l n0 D K yM_has (Cond.code yM_has cM_has 3 (some .int)) 154 4700 0 0 [.ref (h 0), .int a, .int n] w (po_M K h w O (op_has σ a n)) := by
  refine ct_go (own := nm_M) (by decide) rfl (Nat.le_of_ble_eq_true rfl) ?_
  intro p e s m below meth c ls hE hI hr hk hn hl
  have hx := hE.1.1.1
  have hb := hE.1.1.2.1
  have hl : lv_has ls 3 [(0, .ref (h 0)), (1, .int a), (2, .int n)] := hl
  refine lv_aload_n hx hb dM_has_0 rfl (lv_at hl 0 rfl) ?_
  refine lv_iload_n hx hb dM_has_1 rfl (lv_at hl 1 rfl) ?_
  refine ct_V (n := 1) hE hI (kM_none s0.1.1 a) s0.o rfl gm_M100 gi_M_none gs_M_M_none gz_M gc_M_none (by decide +kernel) ⟨Nat.le_of_ble_eq_true rfl, Nat.le_of_ble_eq_true rfl⟩ rfl hl.1 rfl (Nat.le_of_ble_eq_true rfl) dM_has_2 ⟨Nat.le_of_ble_eq_true rfl, Nat.le_of_ble_eq_true rfl⟩ (fun v w1 H locs hq hI => ?_)
  obtain ⟨I1, rfl, hm1, e1, ei1⟩ := hq
  show W _ _ _ _ _ _ _ _ _ _ _ _ _ _ _ (F0 _ _ _ [.int _])
  refine lv_if_ne (tgt := 31) hx hb dM_has_5 (by decide) (fun hq => ?_) (fun hq => ?_)
  · have hz := rk_t hq
    have er : op_has σ a n = (1, 0, σ) := by unfold op_has; rw [hz]
    have s9 := s0.no1 hm1 e1 ei1 hz
    refine lv_iconst (v := 0) hx hb dM_has_31 (by decide) ?_
    exact ct_iret hE hI hr hk (s9.fin0 er) (by decide) (by decide) dM_has_32
  obtain ⟨ka, hra⟩ := rk_f hq
  have s1 := s0.no0 hm1 e1 ei1 hra
  refine W_jn (F0 m 25 ls [.int (if fk n = none then 1 else 0), .int 1, .ref (h 0)]) (fun jn => ?_) ?_
  · skip
    refine lv_aload_n hx hb dM_has_8 rfl (lv_at hl 0 rfl) ?_
    refine lv_iconst (v := 1) hx hb dM_has_9 (by decide) ?_
    refine lv_iload_n hx hb dM_has_10 rfl (lv_at hl 2 rfl) ?_
    refine lv_if_lt (tgt := 20) hx hb dM_has_11 (by decide) (fun hq => ?_) (fun hq => ?_)
    · refine lv_iconst (v := 1) hx hb dM_has_20 (by decide) ?_
      refine lv_goto (tgt := 25) hx hb dM_has_21 (by decide) ?_
      rw [if_pos (fk_lo hq)] at jn
      exact jn
    · refine lv_iload_n hx hb dM_has_14 rfl (lv_at hl 2 rfl) ?_
      refine lv_bipush (v := 99) hx hb dM_has_15 (by decide) ?_
      refine lv_icmp_le (tgt := 24) hx hb dM_has_17 (by decide) (fun hq2 => ?_) (fun hq2 => ?_)
      · refine lv_iconst (v := 0) hx hb dM_has_24 (by decide) ?_
        rw [if_neg (fk_in hq hq2)] at jn
        exact jn
      · refine lv_iconst (v := 1) hx hb dM_has_20 (by decide) ?_
        refine lv_goto (tgt := 25) hx hb dM_has_21 (by decide) ?_
        rw [if_pos (fk_hi hq2)] at jn
        exact jn
  refine ct_V (n := 2) hE hI (kM_refuse s1.1.1 1 _ (fk_01 n)) s1.o rfl gm_M67 gi_M_refuse gs_M_M_refuse gz_M gc_M_refuse (by decide +kernel) ⟨Nat.le_of_ble_eq_true rfl, Nat.le_of_ble_eq_true rfl⟩ rfl hl.1 rfl (Nat.le_of_ble_eq_true rfl) dM_has_25 ⟨Nat.le_of_ble_eq_true rfl, Nat.le_of_ble_eq_true rfl⟩ (fun v w2 H locs hq hI => ?_)
  obtain ⟨rfl, hm2⟩ := hq
  show W _ _ _ _ _ _ _ _ _ _ _ _ _ _ _ (F0 _ _ _ [.int _])
  refine lv_if_eq (tgt := 33) hx hb dM_has_28 (by decide) (fun hq => ?_) (fun hq => ?_)
  rotate_left
  · have hz := fk_t hq
    have er : op_has σ a n = (1, 0, σ) := by unfold op_has; rw [hra, hz]
    rw [if_neg hq] at hm2
    have s9 := s1.cd (c' := 1) hm2 rfl
    refine lv_iconst (v := 0) hx hb dM_has_31 (by decide) ?_
    exact ct_iret hE hI hr hk (s9.fin0 er) (by decide) (by decide) dM_has_32
  rw [if_pos hq] at hm2
  obtain ⟨kn, hfn⟩ := fk_f hq
  have s2 := s1.kp hm2
  obtain ⟨ha16, rfl⟩ := rk_some hra
  obtain ⟨hn100, rfl⟩ := fk_some hfn
  have r2 := s2.2.1 ka ha16
  have er : op_has σ (nI ka) (nI kn) = (0, nc_n (fun i => decide ((tm_db (σ ka) [])[i]? = some (kn : Int))) (tm_sz (σ ka)), σ) := by unfold op_has; rw [hra, hfn]
  refine lv_aload_n hx hb dM_has_33 rfl (lv_at hl 0 rfl) ?_
  refine lv_iload_n hx hb dM_has_34 rfl (lv_at hl 1 rfl) ?_
  refine lv_iload_n hx hb dM_has_35 rfl (lv_at hl 2 rfl) ?_
  refine ct_V (n := 2) hE hI (kM_places (u := σ ka) (k := ka) (n := kn) s2.1.1 ha16 r2.1 r2.2.1 r2.2.2 hn100) s2.o rfl gm_M144 gi_M_places gs_M_M_places gz_M gc_M_places (by decide +kernel) ⟨Nat.le_of_ble_eq_true rfl, Nat.le_of_ble_eq_true rfl⟩ rfl hl.1 rfl (Nat.le_of_ble_eq_true rfl) dM_has_36 ⟨Nat.le_of_ble_eq_true rfl, Nat.le_of_ble_eq_true rfl⟩ (fun v w3 H locs hq hI => ?_)
  obtain ⟨hw, rfl⟩ := hq
  subst w3
  show W _ _ _ _ _ _ _ _ _ _ _ _ _ _ _ (F0 _ _ _ [.int _])
  exact ct_iret hE hI hr hk (s2.fin (er.trans (by rw [nc_dbrow r2.2.2 hn100]))) (by decide) (by decide) dM_has_39
set_option maxRecDepth 100000 in
set_option maxHeartbeats 2000000 in
theorem kM_about (s0 : st K h w w I A σ O c0) (a what : Int32) : ct_M l n0 D K yM_about (Cond.code yM_about cM_about 5 (some .int)) 154 4700 0 0 [.ref (h 0), .int a, .int what] w (po_M K h w O (op_about σ a what)) := by
  have e0 : (0 : Int32).toInt = 0 := rfl
  have e4 : (4 : Int32).toInt = 4 := rfl
  refine ct_go (own := nm_M) (by decide) rfl (Nat.le_of_ble_eq_true rfl) ?_
  intro p e s m below meth c ls hE hI hr hk hn hl
  have hx := hE.1.1.1
  have hb := hE.1.1.2.1
  have hl : lv_has ls 5 [(0, .ref (h 0)), (1, .int a), (2, .int what)] := hl
  refine lv_aload_n hx hb dM_about_0 rfl (lv_at hl 0 rfl) ?_
  refine lv_iload_n hx hb dM_about_1 rfl (lv_at hl 1 rfl) ?_
  refine ct_V (n := 1) hE hI (kM_none s0.1.1 a) s0.o rfl gm_M100 gi_M_none gs_M_M_none gz_M gc_M_none (by decide +kernel) ⟨Nat.le_of_ble_eq_true rfl, Nat.le_of_ble_eq_true rfl⟩ rfl hl.1 rfl (Nat.le_of_ble_eq_true rfl) dM_about_2 ⟨Nat.le_of_ble_eq_true rfl, Nat.le_of_ble_eq_true rfl⟩ (fun v w1 H locs hq hI => ?_)
  obtain ⟨I1, rfl, hm1, e1, ei1⟩ := hq
  show W _ _ _ _ _ _ _ _ _ _ _ _ _ _ _ (F0 _ _ _ [.int _])
  refine lv_if_ne (tgt := 30) hx hb dM_about_5 (by decide) (fun hq => ?_) (fun hq => ?_)
  · have hz := rk_t hq
    have er : op_about σ a what = (1, 0, σ) := by unfold op_about; rw [hz]
    have s9 := s0.no1 hm1 e1 ei1 hz
    refine lv_iconst (v := 0) hx hb dM_about_30 (by decide) ?_
    exact ct_iret hE hI hr hk (s9.fin0 er) (by decide) (by decide) dM_about_31
  obtain ⟨ka, hra⟩ := rk_f hq
  have s1 := s0.no0 hm1 e1 ei1 hra
  obtain ⟨ha16, rfl⟩ := rk_some hra
  by_cases hw0 : 0 ≤ what.toInt ∧ what.toInt ≤ 4
  · have er : op_about σ (nI ka) what = (0, ab_v (σ ka) what.toInt.toNat, σ) := by unfold op_about; simp only [hra]; rw [if_pos hw0]
    refine lv_aload_n hx hb dM_about_8 rfl (lv_at hl 0 rfl) ?_
    refine lv_iconst (v := 2) hx hb dM_about_9 (by decide) ?_
    refine lv_iload_n hx hb dM_about_10 rfl (lv_at hl 2 rfl) ?_
    refine lv_if_lt (tgt := 19) hx hb dM_about_11 (by decide) (fun hq => ?_) (fun hq => ?_)
    · rw [Int32.lt_iff_toInt_lt] at hq
      omega
    · refine lv_iload_n hx hb dM_about_14 rfl (lv_at hl 2 rfl) ?_
      refine lv_iconst (v := 4) hx hb dM_about_15 (by decide) ?_
      refine lv_icmp_le (tgt := 23) hx hb dM_about_16 (by decide) (fun hq => ?_) (fun hq => ?_)
      · refine lv_iconst (v := 0) hx hb dM_about_23 (by decide) ?_
        refine ct_V (n := 2) hE hI (kM_refuse s1.1.1 2 0 (Or.inl rfl)) s1.o rfl gm_M67 gi_M_refuse gs_M_M_refuse gz_M gc_M_refuse (by decide +kernel) ⟨Nat.le_of_ble_eq_true rfl, Nat.le_of_ble_eq_true rfl⟩ rfl hl.1 rfl (Nat.le_of_ble_eq_true rfl) dM_about_24 ⟨Nat.le_of_ble_eq_true rfl, Nat.le_of_ble_eq_true rfl⟩ (fun v w2 H locs hq hI => ?_)
        obtain ⟨rfl, hm2⟩ := hq
        show W _ _ _ _ _ _ _ _ _ _ _ _ _ _ _ (F0 _ _ _ [.int _])
        rw [if_pos rfl] at hm2
        have s2 := s1.kp hm2
        refine lv_if_eq (tgt := 32) hx hb dM_about_27 (by decide) (fun hq => ?_) (fun hq => ?_)
        · have r2 := s2.2.1 ka ha16
          have za := s2.b ka ha16
          have bd2 := tm_ok_bd r2.2.2
          obtain ⟨x, rr, erow, hxb, hx2, hx1⟩ := rw_hd r2.2.2
          have ex0 : (tm_row (σ ka))[0]? = some x := by rw [erow]; rfl
          obtain ⟨k, hk0⟩ : ∃ k : Nat, what.toInt = (k : Int) := ⟨what.toInt.toNat, by omega⟩
          have hkk : what.toInt.toNat = k := by omega
          rw [hkk] at er
          have hoff : (what.toInt - 0).toNat = k := by omega
          have hk5' : k = 0 ∨ k = 1 ∨ k = 2 ∨ k = 3 ∨ k = 4 := by omega
          refine lv_iconst (v := nI 0) hx hb dM_about_32 (by decide) ?_
          refine lv_istore_n hx hb dM_about_33 rfl hl (by decide) rfl (fun ls hl => ?_)
          refine lv_iload_n hx hb dM_about_34 rfl (lv_at hl 3 rfl) ?_
          rcases hk5' with rfl | rfl | rfl | rfl | rfl
          · refine lv_tableIn (tgt := 64) (off := 29) hx hb dM_about_35 (by omega) (by omega) (by rw [hoff]; rfl) (by decide) ?_
            refine lv_aload_n hx hb dM_about_64 rfl (lv_at hl 1 rfl) ?_
            refine mp_get hE.1 hI s2.o rfl gx_M 2 (by decide) (List.mem_cons_of_mem _ gf_M18) rfl dM_about_65 ?_
            refine lv_iload_n hx hb dM_about_68 rfl (lv_at hl 2 rfl) ?_
            refine mp_ild hE.1 hI s2.z 0 rfl (vp_in_nI (by omega) (by omega)) dM_about_69 ?_
            rw [nI_clamp (by omega), r2.1]
            exact ct_iret hE hI hr hk (s2.fin er) (by decide) (by decide) dM_about_70
          · refine lv_tableIn (tgt := 71) (off := 36) hx hb dM_about_35 (by omega) (by omega) (by rw [hoff]; rfl) (by decide) ?_
            refine lv_aload_n hx hb dM_about_71 rfl (lv_at hl 1 rfl) ?_
            refine lv_aload_n hx hb dM_about_72 rfl (lv_at hl 1 rfl) ?_
            refine mp_get hE.1 hI s2.o rfl gx_M 1 (by decide) (List.mem_cons_of_mem _ gf_M15) rfl dM_about_73 ?_
            refine lv_iload_n hx hb dM_about_76 rfl (lv_at hl 2 rfl) ?_
            refine mp_aldA hE.1 hI s2.g 4 rfl (vp_in_nI (by omega) (by omega)) dM_about_77 ?_
            rw [nI_clamp (by omega)]
            show W _ _ _ _ _ _ _ _ _ _ _ _ _ _ _ (F0 _ _ _ [.ref (h (9 + ka)), .ref (h 0)])
            refine lv_aload_n hx hb dM_about_78 rfl (lv_at hl 1 rfl) ?_
            refine mp_get hE.1 hI s2.o rfl gx_M 2 (by decide) (List.mem_cons_of_mem _ gf_M18) rfl dM_about_79 ?_
            refine lv_iload_n hx hb dM_about_82 rfl (lv_at hl 2 rfl) ?_
            refine mp_ild hE.1 hI s2.z 0 rfl (vp_in_nI (by omega) (by omega)) dM_about_83 ?_
            rw [nI_clamp (by omega), r2.1]
            refine ct_V (n := 2) hE hI (kM_depth (k := 9 + ka) (t := σ ka) s2.1.1 (by omega) (by omega) (by omega) (by omega) r2.2.1 (by rw [ml_r]; exact za) za bd2 r2.2.2.1) s2.o rfl gm_M87 gi_M_depth gs_M_M_depth gz_M gc_M_depth (by decide +kernel) ⟨Nat.le_of_ble_eq_true rfl, Nat.le_of_ble_eq_true rfl⟩ rfl hl.1 rfl (Nat.le_of_ble_eq_true rfl) dM_about_84 ⟨Nat.le_of_ble_eq_true rfl, Nat.le_of_ble_eq_true rfl⟩ (fun v w3 H locs hq hI => ?_)
            obtain ⟨rfl, A3, hm3, ea3⟩ := hq
            show W _ _ _ _ _ _ _ _ _ _ _ _ _ _ _ (F0 _ _ _ [.int _])
            have s3 := s2.nx hm3 (eqI.rf _ _) (ea3.mono (by decide))
            exact ct_iret hE hI hr hk (s3.fin er) (by decide) (by decide) dM_about_87
          · refine lv_tableIn (tgt := 88) (off := 53) hx hb dM_about_35 (by omega) (by omega) (by rw [hoff]; rfl) (by decide) ?_
            refine lv_aload_n hx hb dM_about_88 rfl (lv_at hl 1 rfl) ?_
            refine mp_get hE.1 hI s2.o rfl gx_M 1 (by decide) (List.mem_cons_of_mem _ gf_M15) rfl dM_about_89 ?_
            refine lv_iload_n hx hb dM_about_92 rfl (lv_at hl 2 rfl) ?_
            refine mp_aldA hE.1 hI s2.g 4 rfl (vp_in_nI (by omega) (by omega)) dM_about_93 ?_
            rw [nI_clamp (by omega)]
            show W _ _ _ _ _ _ _ _ _ _ _ _ _ _ _ (F0 _ _ _ [.ref (h (9 + ka))])
            refine lv_iconst (v := nI 0) hx hb dM_about_94 (by decide) ?_
            refine mp_ild hE.1 hI (s2.r ha16) 0 rfl (vp_in_nI (by omega) (by omega)) dM_about_95 ?_
            refine lv_sipush (v := ci_i 1000) hx hb dM_about_96 (by decide) ?_
            rw [nI_clamp (by omega), r2.2.1 0 x ex0]
            refine lv_icmp_ne (tgt := 106) hx hb dM_about_99 (by decide) (fun hq2 => ?_) (fun hq2 => ?_)
            · have hq2 : ¬ x = 1000 := fun hh => hq2 (by rw [hh])
              refine lv_aload_n hx hb dM_about_106 rfl (lv_at hl 1 rfl) ?_
              refine mp_get hE.1 hI s2.o rfl gx_M 1 (by decide) (List.mem_cons_of_mem _ gf_M15) rfl dM_about_107 ?_
              refine lv_iload_n hx hb dM_about_110 rfl (lv_at hl 2 rfl) ?_
              refine mp_aldA hE.1 hI s2.g 4 rfl (vp_in_nI (by omega) (by omega)) dM_about_111 ?_
              rw [nI_clamp (by omega)]
              show W _ _ _ _ _ _ _ _ _ _ _ _ _ _ _ (F0 _ _ _ [.ref (h (9 + ka))])
              refine lv_iconst (v := nI 0) hx hb dM_about_112 (by decide) ?_
              refine mp_ild hE.1 hI (s2.r ha16) 0 rfl (vp_in_nI (by omega) (by omega)) dM_about_113 ?_
              refine lv_sipush (v := ci_i 2000) hx hb dM_about_114 (by decide) ?_
              rw [nI_clamp (by omega), r2.2.1 0 x ex0]
              refine lv_icmp_lt (tgt := 124) hx hb dM_about_117 (by decide) (fun hq3 => ?_) (fun hq3 => ?_)
              · have hq3 : x < 2000 := (ci_lt (by omega) (by omega)).mp hq3
                have hkd : tm_kind (σ ka) = 0 := tm_kind_0 (fun hh => absurd (hx2.mpr hh) (by omega)) (fun hh => hq2 (hx1.mpr hh))
                refine lv_iconst (v := 0) hx hb dM_about_124 (by decide) ?_
                exact ct_iret hE hI hr hk (s2.fin0 (er.trans (by show (0, tm_kind (σ ka), σ) = _; rw [hkd]))) (by decide) (by decide) dM_about_125
              · have hq3 : 2000 ≤ x := by
                  have : ¬ x < 2000 := fun hh => hq3 ((ci_lt (by omega) (by omega)).mpr hh)
                  omega
                obtain ⟨j, t1, ef⟩ := hx2.mp hq3
                refine lv_iconst (v := nI 2) hx hb dM_about_120 (by decide) ?_
                refine lv_goto (tgt := 125) hx hb dM_about_121 (by decide) ?_
                exact ct_iret hE hI hr hk (s2.fin (er.trans (by show (0, tm_kind (σ ka), σ) = _; rw [ef]; rfl))) (by decide) (by decide) dM_about_125
            · have hq2 : x = 1000 := (ci_eq (by omega) (by omega)).mp hq2
              obtain ⟨t1, t2, ef⟩ := hx1.mp hq2
              refine lv_iconst (v := nI 1) hx hb dM_about_102 (by decide) ?_
              refine lv_goto (tgt := 125) hx hb dM_about_103 (by decide) ?_
              exact ct_iret hE hI hr hk (s2.fin (er.trans (by show (0, tm_kind (σ ka), σ) = _; rw [ef]; rfl))) (by decide) (by decide) dM_about_125
          · refine lv_tableIn (tgt := 126) (off := 91) hx hb dM_about_35 (by omega) (by omega) (by rw [hoff]; rfl) (by decide) ?_
            refine lv_iconst (v := nI 0) hx hb dM_about_126 (by decide) ?_
            refine lv_istore hx hb dM_about_127 hl (by decide) rfl (fun ls hl => ?_)
            have loop : ∀ (q i : Nat) (H : Heap) (locs : List Loc) (ls : Array Slot), i + q = 100 → mp_I D cl_all (mp_A w s.heap.size) s.heap w2 H locs → lv_has ls 5 [(4, .int (nI i)), (3, .int (nI (nc_n (fun i => decide ((i : Int) ∈ tm_db (σ ka) [])) i))), (0, .ref (h 0)), (1, .int (nI ka)), (2, .int what)] →
                W p l e { frames := 154, cells := 0, slots := 0, locals := 4700 } s m ([Value.ref (h 0), .int (nI ka), .int what] : List Value).toArray below meth c H locs 0 0 (MQ below (ct_Q D w s.heap.size (po_M K h w O (op_about σ (nI ka) what))) ([Value.ref (h 0), .int (nI ka), .int what] : List Value).toArray s 0 0 (mp_A w s.heap.size)) (F0 m 129 ls []) := by
              intro q
              induction q with
              | zero =>
                intro i H locs ls hiq hI hl
                have hi : i = 100 := by omega
                subst hi
                refine lv_iload hx hb dM_about_129 (lv_at hl 0 rfl) ?_
                refine lv_bipush (v := nI 100) hx hb dM_about_131 (by decide) ?_
                refine lv_icmp_ge (tgt := 155) hx hb dM_about_133 (by decide) (fun hq2 => ?_) (fun hq2 => ?_)
                · refine lv_iload_n hx hb dM_about_155 rfl (lv_at hl 1 rfl) ?_
                  exact ct_iret hE hI hr hk (s2.fin er) (by decide) (by decide) dM_about_156
                · exact absurd (nI_le (Nat.le_refl _) (by omega)) hq2
              | succ q ih =>
                intro i H locs ls hiq hI hl
                refine lv_iload hx hb dM_about_129 (lv_at hl 0 rfl) ?_
                refine lv_bipush (v := nI 100) hx hb dM_about_131 (by decide) ?_
                refine lv_icmp_ge (tgt := 155) hx hb dM_about_133 (by decide) (fun hq2 => ?_) (fun hq2 => ?_)
                · exact absurd ((nI_leI (by omega) (by omega)).mp hq2) (by omega)
                · refine lv_aload_n hx hb dM_about_136 rfl (lv_at hl 2 rfl) ?_
                  refine lv_iload_n hx hb dM_about_137 rfl (lv_at hl 3 rfl) ?_
                  refine lv_iload hx hb dM_about_138 (lv_at hl 0 rfl) ?_
                  refine ct_V (n := 2) hE hI (kM_places (u := σ ka) (k := ka) (n := i) s2.1.1 ha16 r2.1 r2.2.1 r2.2.2 (by omega)) s2.o rfl gm_M144 gi_M_places gs_M_M_places gz_M gc_M_places (by decide +kernel) ⟨Nat.le_of_ble_eq_true rfl, Nat.le_of_ble_eq_true rfl⟩ rfl hl.1 rfl (Nat.le_of_ble_eq_true rfl) dM_about_140 ⟨Nat.le_of_ble_eq_true rfl, Nat.le_of_ble_eq_true rfl⟩ (fun v w3 H locs hq hI => ?_)
                  obtain ⟨hw, rfl⟩ := hq
                  subst w3
                  show W _ _ _ _ _ _ _ _ _ _ _ _ _ _ _ (F0 _ _ _ [.int _])
                  have hnm := nc_mem r2.2.2 (show i < 100 by omega)
                  have hnl := nc_le (fun j => decide ((tm_row (σ ka))[j]? = some (i : Int))) (tm_sz (σ ka))
                  refine lv_if_le (tgt := 149) hx hb dM_about_143 (by decide) (fun hq3 => ?_) (fun hq3 => ?_)
                  · have hq3 : ¬ (i : Int) ∈ tm_db (σ ka) [] := fun hh => by
                      have := hnm.mpr hh
                      exact nI_nle this (by omega) hq3
                    refine lv_iinc (k := 0) (v := nI (i + 1)) hx hb dM_about_149 hl rfl (nI_1 i) (by decide) rfl (fun ls hl => ?_)
                    refine lv_goto (tgt := 129) hx hb dM_about_152 (by decide) ?_
                    refine ih (i + 1) _ _ ls (by omega) hI ?_
                    rw [nc_f (by simpa using hq3)]
                    exact hl
                  · have hq3 : (i : Int) ∈ tm_db (σ ka) [] := hnm.mp (Nat.pos_of_ne_zero (fun hh => hq3 (by rw [hh]; decide)))
                    refine lv_iinc (k := 1) (v := nI (nc_n (fun i => decide ((i : Int) ∈ tm_db (σ ka) [])) i + 1)) hx hb dM_about_146 hl rfl (nI_1 _) (by decide) rfl (fun ls hl => ?_)
                    refine lv_iinc (k := 1) (v := nI (i + 1)) hx hb dM_about_149 hl rfl (nI_1 i) (by decide) rfl (fun ls hl => ?_)
                    refine lv_goto (tgt := 129) hx hb dM_about_152 (by decide) ?_
                    refine ih (i + 1) _ _ ls (by omega) hI ?_
                    rw [nc_t (by simpa using hq3)]
                    exact hl
            exact loop 100 0 _ _ ls (by omega) hI hl
          · refine lv_tableOut (tgt := 157) hx hb dM_about_35 (by omega) (by decide) ?_
            refine lv_aload_n hx hb dM_about_157 rfl (lv_at hl 1 rfl) ?_
            refine lv_iload_n hx hb dM_about_158 rfl (lv_at hl 2 rfl) ?_
            refine ct_V (n := 1) hE hI (kM_begins (u := σ ka) (k := ka) s2.1.1 ha16 r2.1 r2.2.1 r2.2.2) s2.o rfl gm_M124 gi_M_begins gs_M_M_begins gz_M gc_M_begins (by decide +kernel) ⟨Nat.le_of_ble_eq_true rfl, Nat.le_of_ble_eq_true rfl⟩ rfl hl.1 rfl (Nat.le_of_ble_eq_true rfl) dM_about_159 ⟨Nat.le_of_ble_eq_true rfl, Nat.le_of_ble_eq_true rfl⟩ (fun v w3 H locs hq hI => ?_)
            obtain ⟨rfl, I3, A3, hm3, ei3, ea3, hn3⟩ := hq
            show W _ _ _ _ _ _ _ _ _ _ _ _ _ _ _ (F0 _ _ _ [])
            have s3 := s2.nx hm3 (ei3.mono (by decide)) (ea3.mono (by decide))
            have hp1 := tm_sz_pos (σ ka)
            have hlast : nc_n (pt_rxb (tm_db (σ ka) [])) (tm_sz (σ ka)) = nc_n (pt_rxb (tm_db (σ ka) [])) (tm_sz (σ ka) - 1) := by
              obtain ⟨z, hz⟩ : ∃ z, tm_sz (σ ka) = z + 1 := ⟨tm_sz (σ ka) - 1, by omega⟩
              have hn0 : pt_rxb (tm_db (σ ka) []) z = false := pt_rxb_f (fun hh => by
                have := tm_rx_lt ((tm_rx_db (σ ka) [] z).mpr hh)
                omega)
              rw [hz, nc_f hn0]
              rfl
            refine lv_iconst (v := nI 0) hx hb dM_about_162 (by decide) ?_
            refine lv_istore hx hb dM_about_163 hl (by decide) rfl (fun ls hl => ?_)
            have loop : ∀ (q i : Nat) (H : Heap) (locs : List Loc) (ls : Array Slot), i + q = tm_sz (σ ka) → mp_I D cl_all (mp_A w s.heap.size) s.heap w3 H locs → lv_has ls 5 [(4, .int (nI i)), (3, .int (nI (nc_n (pt_rxb (tm_db (σ ka) [])) i))), (0, .ref (h 0)), (1, .int (nI ka)), (2, .int what)] →
                W p l e { frames := 154, cells := 0, slots := 0, locals := 4700 } s m ([Value.ref (h 0), .int (nI ka), .int what] : List Value).toArray below meth c H locs 0 0 (MQ below (ct_Q D w s.heap.size (po_M K h w O (op_about σ (nI ka) what))) ([Value.ref (h 0), .int (nI ka), .int what] : List Value).toArray s 0 0 (mp_A w s.heap.size)) (F0 m 165 ls []) := by
              intro q
              induction q with
              | zero =>
                intro i H locs ls hiq hI hl
                have hi : i = tm_sz (σ ka) := by omega
                subst hi
                refine lv_iload hx hb dM_about_165 (lv_at hl 0 rfl) ?_
                refine lv_aload_n hx hb dM_about_167 rfl (lv_at hl 2 rfl) ?_
                refine mp_get hE.1 hI s3.o rfl gx_M 7 (by decide) (List.mem_cons_of_mem _ gf_M34) rfl dM_about_168 ?_
                rw [hn3.1]
                refine lv_icmp_ge (tgt := 192) hx hb dM_about_171 (by decide) (fun hq2 => ?_) (fun hq2 => ?_)
                · refine lv_iload_n hx hb dM_about_192 rfl (lv_at hl 1 rfl) ?_
                  exact ct_iret hE hI hr hk (s3.fin (er.trans (by show (0, nc_n (pt_rxb (tm_db (σ ka) [])) (tm_sz (σ ka) - 1), σ) = _; rw [hlast]))) (by decide) (by decide) dM_about_193
                · exact absurd (nI_le (Nat.le_refl _) (by omega)) hq2
              | succ q ih =>
                intro i H locs ls hiq hI hl
                refine lv_iload hx hb dM_about_165 (lv_at hl 0 rfl) ?_
                refine lv_aload_n hx hb dM_about_167 rfl (lv_at hl 2 rfl) ?_
                refine mp_get hE.1 hI s3.o rfl gx_M 7 (by decide) (List.mem_cons_of_mem _ gf_M34) rfl dM_about_168 ?_
                rw [hn3.1]
                refine lv_icmp_ge (tgt := 192) hx hb dM_about_171 (by decide) (fun hq2 => ?_) (fun hq2 => ?_)
                · exact absurd ((nI_leI (by omega) (by omega)).mp hq2) (by omega)
                · refine lv_aload_n hx hb dM_about_174 rfl (lv_at hl 2 rfl) ?_
                  refine lv_iload hx hb dM_about_175 (lv_at hl 0 rfl) ?_
                  refine ct_V (n := 1) hE hI (kM_isStep s3.1.1 hn3 (show i < tm_sz (σ ka) by omega)) s3.o rfl gm_M121 gi_M_isStep gs_M_M_isStep gz_M gc_M_isStep (by decide +kernel) ⟨Nat.le_of_ble_eq_true rfl, Nat.le_of_ble_eq_true rfl⟩ rfl hl.1 rfl (Nat.le_of_ble_eq_true rfl) dM_about_177 ⟨Nat.le_of_ble_eq_true rfl, Nat.le_of_ble_eq_true rfl⟩ (fun v w4 H locs hq hI => ?_)
                  obtain ⟨hw, r0, rfl, hr0⟩ := hq
                  subst w4
                  show W _ _ _ _ _ _ _ _ _ _ _ _ _ _ _ (F0 _ _ _ [.int _])
                  refine lv_if_eq (tgt := 186) hx hb dM_about_180 (by decide) (fun hq3 => ?_) (fun hq3 => ?_)
                  · have hnx : ¬ tm_rx (σ ka) i := by
                      rcases hr0 with ⟨h1, -⟩ | ⟨-, h1⟩
                      · rw [h1] at hq3; exact absurd hq3 (by decide)
                      · exact h1
                    refine lv_iinc (k := 0) (v := nI (i + 1)) hx hb dM_about_186 hl rfl (nI_1 i) (by decide) rfl (fun ls hl => ?_)
                    refine lv_goto (tgt := 165) hx hb dM_about_189 (by decide) ?_
                    refine ih (i + 1) _ _ ls (by omega) hI ?_
                    rw [nc_f (pt_rxb_f (fun hh => hnx ((tm_rx_db (σ ka) [] i).mpr hh)))]
                    exact hl
                  · have hnx : tm_rx (σ ka) i := by
                      rcases hr0 with ⟨-, h1⟩ | ⟨h1, -⟩
                      · exact h1
                      · exact absurd h1 hq3
                    refine lv_iinc (k := 1) (v := nI (nc_n (pt_rxb (tm_db (σ ka) [])) i + 1)) hx hb dM_about_183 hl rfl (nI_1 _) (by decide) rfl (fun ls hl => ?_)
                    refine lv_iinc (k := 1) (v := nI (i + 1)) hx hb dM_about_186 hl rfl (nI_1 i) (by decide) rfl (fun ls hl => ?_)
                    refine lv_goto (tgt := 165) hx hb dM_about_189 (by decide) ?_
                    refine ih (i + 1) _ _ ls (by omega) hI ?_
                    rw [nc_t (pt_rxb_t.mpr ((tm_rx_db (σ ka) [] i).mp hnx))]
                    exact hl
            exact loop (tm_sz (σ ka)) 0 _ _ ls (by omega) hI hl
        · exact absurd rfl hq
      · rw [Int32.le_iff_toInt_le] at hq
        omega
  · have er : op_about σ (nI ka) what = (2, 0, σ) := by unfold op_about; simp only [hra]; rw [if_neg hw0]
    refine W_jn (F0 m 24 ls [.int 1, .int 2, .ref (h 0)]) (fun jn => ?_) ?_
    · skip
      refine lv_aload_n hx hb dM_about_8 rfl (lv_at hl 0 rfl) ?_
      refine lv_iconst (v := 2) hx hb dM_about_9 (by decide) ?_
      refine lv_iload_n hx hb dM_about_10 rfl (lv_at hl 2 rfl) ?_
      refine lv_if_lt (tgt := 19) hx hb dM_about_11 (by decide) (fun hq => ?_) (fun hq => ?_)
      · refine lv_iconst (v := 1) hx hb dM_about_19 (by decide) ?_
        refine lv_goto (tgt := 24) hx hb dM_about_20 (by decide) ?_
        exact jn
      · refine lv_iload_n hx hb dM_about_14 rfl (lv_at hl 2 rfl) ?_
        refine lv_iconst (v := 4) hx hb dM_about_15 (by decide) ?_
        refine lv_icmp_le (tgt := 23) hx hb dM_about_16 (by decide) (fun hq2 => ?_) (fun hq2 => ?_)
        · rw [Int32.lt_iff_toInt_lt] at hq
          rw [Int32.le_iff_toInt_le] at hq2
          omega
        · refine lv_iconst (v := 1) hx hb dM_about_19 (by decide) ?_
          refine lv_goto (tgt := 24) hx hb dM_about_20 (by decide) ?_
          exact jn
    refine ct_V (n := 2) hE hI (kM_refuse s1.1.1 2 1 (Or.inr rfl)) s1.o rfl gm_M67 gi_M_refuse gs_M_M_refuse gz_M gc_M_refuse (by decide +kernel) ⟨Nat.le_of_ble_eq_true rfl, Nat.le_of_ble_eq_true rfl⟩ rfl hl.1 rfl (Nat.le_of_ble_eq_true rfl) dM_about_24 ⟨Nat.le_of_ble_eq_true rfl, Nat.le_of_ble_eq_true rfl⟩ (fun v w2 H locs hq hI => ?_)
    obtain ⟨rfl, hm2⟩ := hq
    show W _ _ _ _ _ _ _ _ _ _ _ _ _ _ _ (F0 _ _ _ [.int _])
    rw [if_neg (by decide)] at hm2
    have s2 := s1.cd (c' := 2) hm2 rfl
    refine lv_if_eq (tgt := 32) hx hb dM_about_27 (by decide) (fun hq => ?_) (fun hq => ?_)
    · exact absurd hq (by decide)
    · refine lv_iconst (v := 0) hx hb dM_about_30 (by decide) ?_
      exact ct_iret hE hI hr hk (s2.fin0 er) (by decide) (by decide) dM_about_31
set_option maxRecDepth 100000 in
set_option maxHeartbeats 2000000 in
theorem kM_write (s0 : st K h w w I A σ O c0) (a : Int32) : ct_M l n0 D K yM_write (Cond.code yM_write cM_write 2 (some .int)) 154 4700 0 0 [.ref (h 0), .int a] w (fun v w' => (∃ x : Int32, v = some (.int x) ∧ (rk a ≠ none → x = nI (wr_o σ O a).length)) ∧ ∃ I A, st K h w w' I A σ (wr_o σ O a) (if rk a = none then 1 else 0)) := by
  refine ct_go (own := nm_M) (by decide) rfl (Nat.le_of_ble_eq_true rfl) ?_
  intro p e s m below meth c ls hE hI hr hk hn hl
  have hx := hE.1.1.1
  have hb := hE.1.1.2.1
  have hl : lv_has ls 2 [(0, .ref (h 0)), (1, .int a)] := hl
  refine lv_aload_n hx hb dM_write_0 rfl (lv_at hl 0 rfl) ?_
  refine lv_iload_n hx hb dM_write_1 rfl (lv_at hl 1 rfl) ?_
  refine ct_V (n := 1) hE hI (kM_none s0.1.1 a) s0.o rfl gm_M100 gi_M_none gs_M_M_none gz_M gc_M_none (by decide +kernel) ⟨Nat.le_of_ble_eq_true rfl, Nat.le_of_ble_eq_true rfl⟩ rfl hl.1 rfl (Nat.le_of_ble_eq_true rfl) dM_write_2 ⟨Nat.le_of_ble_eq_true rfl, Nat.le_of_ble_eq_true rfl⟩ (fun v w1 H locs hq hI => ?_)
  obtain ⟨I1, rfl, hm1, e1, ei1⟩ := hq
  show W _ _ _ _ _ _ _ _ _ _ _ _ _ _ _ (F0 _ _ _ [.int _])
  refine lv_if_eq (tgt := 10) hx hb dM_write_5 (by decide) (fun hq => ?_) (fun hq => ?_)
  rotate_left
  · have hz := rk_t hq
    have s9 := s0.no1 hm1 e1 ei1 hz
    refine lv_iconst (v := 0) hx hb dM_write_8 (by decide) ?_
    refine ct_iret hE hI hr hk ⟨⟨_, rfl, fun hh => absurd hz hh⟩, I1, A, ?_⟩ (by decide) (by decide) dM_write_9
    rw [if_pos hz, show wr_o σ O a = O by unfold wr_o; rw [hz]]
    exact s9
  obtain ⟨ka, hra⟩ := rk_f hq
  have s1 := s0.no0 hm1 e1 ei1 hra
  obtain ⟨ha16, rfl⟩ := rk_some hra
  have ewr : wr_o σ O (nI ka) = tm_tx (σ ka) [] := by unfold wr_o; rw [hra]
  refine lv_aload_n hx hb dM_write_10 rfl (lv_at hl 0 rfl) ?_
  refine lv_iconst (v := 0) hx hb dM_write_11 (by decide) ?_
  refine mp_put hE.1 hI s1.o rfl gx_M ty_M to_M tn_M 10 (by decide) (List.mem_cons_of_mem _ gf_M46) rfl rfl rfl (Nat.le_of_ble_eq_true rfl) dM_write_12 (fun H locs hI => ?_)
  have hv2 := s1.1.1.upI (iu I1 4 0)
  obtain ⟨w2, hw2⟩ : ∃ z, mp_up w1 (h 0) (ob_M h (iu I1 4 0)) = z := ⟨_, rfl⟩
  rw [hw2] at hv2
  have hI : mp_I D cl_all (mp_A w s.heap.size) s.heap w2 H locs := by rw [← hw2]; exact hI
  have hf2 : fm h w1 w2 := by rw [← hw2]; exact (fm.rf _ _).up (by decide) _
  have s2 : st K h w w2 (iu I1 4 0) A σ [] 0 := by
    refine ⟨⟨hv2, s1.1.2.tr hf2⟩, s1.2.1, ⟨iu_self, ?_, by decide⟩, ?_⟩
    · intro i x hi
      cases hi
    · rw [iu_ne (by decide)]
      exact s1.2.2.2
  have r2 := s2.2.1 ka ha16
  have za := s2.b ka ha16
  have hda := r2.2.2.2.2.2
  have htx := tm_tx_len (σ ka) [] (by show 0 + tm_dp (σ ka) ≤ 150; omega) r2.2.2.1
  have htx2 : (tm_tx (σ ka) []).length ≤ 300000 := by omega
  refine lv_aload_n hx hb dM_write_15 rfl (lv_at hl 0 rfl) ?_
  refine lv_iload_n hx hb dM_write_16 rfl (lv_at hl 1 rfl) ?_
  refine lv_iconst (v := nI 0) hx hb dM_write_17 (by decide) ?_
  refine lv_iconst (v := nI 0) hx hb dM_write_18 (by decide) ?_
  refine ct_V (n := 3) hE hI (kM_written ha16 (σ ka) [] 0 (tm_row (σ ka)) [] [] w2 _ A r2.2.2.1 s2.1.1 r2.2.1 (by rw [tm_row_len]; exact za) (by rw [List.drop_zero, List.append_nil]) (fun i v hv => by cases hv) (by show 0 + tm_dp (σ ka) ≤ 2000; omega) (fun v hv => by cases hv) (tm_ok_fn r2.2.2) s2.2.2.1 (by show 0 + (tm_tx (σ ka) []).length ≤ 310000; omega)) s2.o rfl gm_M150 gi_M_written gs_M_M_written gz_M gc_M_written (by decide +kernel) ⟨by show tm_dp (σ ka) + 1 ≤ 154; omega, by show 8 + (7 + 11) + 30 * tm_dp (σ ka) ≤ 4700; omega⟩ rfl hl.1 rfl (Nat.le_of_ble_eq_true rfl) dM_write_19 ⟨Nat.le_refl _, Nat.le_refl _⟩ (fun v w3 H locs hq hI => ?_)
  obtain ⟨rfl, I3, A3, hm3, ho3, ei3, ea3, -⟩ := hq
  show W _ _ _ _ _ _ _ _ _ _ _ _ _ _ _ (F0 _ _ _ [.int _])
  rw [List.nil_append] at ho3
  have s3 : st K h w w3 I3 A3 σ (tm_tx (σ ka) []) 0 := by
    refine ⟨⟨hm3.1, s2.1.2.tr hm3.2⟩, fun i hi => ?_, ho3, ?_⟩
    · rw [ea3 2 (by decide), ea3 (9 + i) (by simp; omega)]
      exact s2.2.1 i hi
    · rw [ei3 0 (by decide)]
      exact s2.2.2.2
  refine lv_pop hx hb dM_write_22 rfl ?_
  refine lv_aload_n hx hb dM_write_23 rfl (lv_at hl 0 rfl) ?_
  refine mp_get hE.1 hI s3.o rfl gx_M 10 (by decide) (List.mem_cons_of_mem _ gf_M46) rfl dM_write_24 ?_
  refine ct_iret hE hI hr hk ⟨⟨_, rfl, fun _ => ?_⟩, I3, A3, ?_⟩ (by decide) (by decide) dM_write_27
  · rw [ewr]
    exact ho3.1
  · rw [ewr, if_neg (by rw [hra]; simp)]
    exact s3
set_option maxRecDepth 100000 in
set_option maxHeartbeats 2000000 in
theorem kM_out (s0 : st K h w w I A σ O c0) (i : Int32) : ct_M l n0 D K yM_out (Cond.code yM_out cM_out 2 (some .int)) 154 4700 0 0 [.ref (h 0), .int i] w (fun v w' => ((∃ (k : Nat) (x : Int), i = nI k ∧ k < 2147483648 ∧ O[k]? = some x ∧ v = some (.int (ci_i x))) ∧ ∃ I A, st K h w w' I A σ O 0) ∨ ((i.toInt < 0 ∨ (O.length : Int) ≤ i.toInt) ∧ v = some (.int 0) ∧ ∃ I A, st K h w w' I A σ O 1)) := by
  have e0 : (0 : Int32).toInt = 0 := rfl
  have hri := ci_rng i
  refine ct_go (own := nm_M) (by decide) rfl (Nat.le_of_ble_eq_true rfl) ?_
  intro p e s m below meth c ls hE hI hr hk hn hl
  have hx := hE.1.1.1
  have hb := hE.1.1.2.1
  have hl : lv_has ls 2 [(0, .ref (h 0)), (1, .int i)] := hl
  refine lv_aload_n hx hb dM_out_0 rfl (lv_at hl 0 rfl) ?_
  refine lv_iconst (v := 0) hx hb dM_out_1 (by decide) ?_
  refine mp_put hE.1 hI s0.o rfl gx_M ty_M to_M tn_M 0 (by decide) (List.mem_cons_of_mem _ gf_M7) rfl rfl rfl (Nat.le_of_ble_eq_true rfl) dM_out_2 (fun H locs hI => ?_)
  have hv1 := s0.1.1.upI (iu I 0 0)
  obtain ⟨w1, hw1⟩ : ∃ z, mp_up w (h 0) (ob_M h (iu I 0 0)) = z := ⟨_, rfl⟩
  rw [hw1] at hv1
  have hI : mp_I D cl_all (mp_A w s.heap.size) s.heap w1 H locs := by rw [← hw1]; exact hI
  have hf1 : fm h w w1 := by rw [← hw1]; exact (fm.rf _ _).up (by decide) _
  have s1 := s0.cd (c' := 0) ⟨hv1, hf1⟩ rfl
  have ho := s1.2.2.1
  have hol := ho.2.2
  by_cases hin : 0 ≤ i.toInt ∧ i.toInt < (O.length : Int)
  · obtain ⟨k, hk0⟩ : ∃ k : Nat, i.toInt = (k : Int) := ⟨i.toInt.toNat, by omega⟩
    have hik : i = nI k := by
      rw [← ci_nat, ← hk0]
      exact ci_of i
    subst hik
    have hkO : k < O.length := by omega
    refine lv_aload_n hx hb dM_out_5 rfl (lv_at hl 0 rfl) ?_
    refine lv_iconst (v := 1) hx hb dM_out_6 (by decide) ?_
    refine lv_iload_n hx hb dM_out_7 rfl (lv_at hl 1 rfl) ?_
    refine lv_if_lt (tgt := 19) hx hb dM_out_8 (by decide) (fun hq => ?_) (fun hq => ?_)
    · exact absurd hq (nI_pos (by omega))
    · refine lv_iload_n hx hb dM_out_11 rfl (lv_at hl 1 rfl) ?_
      refine lv_aload_n hx hb dM_out_12 rfl (lv_at hl 0 rfl) ?_
      refine mp_get hE.1 hI s1.o rfl gx_M 10 (by decide) (List.mem_cons_of_mem _ gf_M46) rfl dM_out_13 ?_
      rw [ho.1]
      refine lv_icmp_lt (tgt := 23) hx hb dM_out_16 (by decide) (fun hq => ?_) (fun hq => ?_)
      · refine lv_iconst (v := 0) hx hb dM_out_23 (by decide) ?_
        refine ct_V (n := 2) hE hI (kM_refuse s1.1.1 1 0 (Or.inl rfl)) s1.o rfl gm_M67 gi_M_refuse gs_M_M_refuse gz_M gc_M_refuse (by decide +kernel) ⟨Nat.le_of_ble_eq_true rfl, Nat.le_of_ble_eq_true rfl⟩ rfl hl.1 rfl (Nat.le_of_ble_eq_true rfl) dM_out_24 ⟨Nat.le_of_ble_eq_true rfl, Nat.le_of_ble_eq_true rfl⟩ (fun v w2 H locs hq hI => ?_)
        obtain ⟨rfl, hm2⟩ := hq
        show W _ _ _ _ _ _ _ _ _ _ _ _ _ _ _ (F0 _ _ _ [.int _])
        rw [if_pos rfl] at hm2
        have s2 := s1.kp hm2
        have h6 : w2 (h 6) = some (.inl (K 1, 310000, .inl (A 6))) := s2.1.1.2.2.2 6 (by decide) (by decide)
        obtain ⟨x, ex⟩ : ∃ x, O[k]? = some x := ⟨O[k], List.getElem?_eq_getElem hkO⟩
        refine lv_if_eq (tgt := 32) hx hb dM_out_27 (by decide) (fun hq => ?_) (fun hq => ?_)
        · refine lv_aload_n hx hb dM_out_32 rfl (lv_at hl 0 rfl) ?_
          refine mp_get hE.1 hI s2.o rfl gx_M 9 (by decide) (List.mem_cons_of_mem _ gf_M42) rfl dM_out_33 ?_
          refine lv_iload_n hx hb dM_out_36 rfl (lv_at hl 1 rfl) ?_
          refine mp_bld hE.1 hI h6 1 rfl (vp_in_nI (show k < 310000 by omega) (by omega)) dM_out_37 ?_
          rw [nI_clamp (by omega), ho.2.1 k x ex]
          exact ct_iret hE hI hr hk (Or.inl ⟨⟨k, x, rfl, by omega, ex, rfl⟩, _, _, s2⟩) (by decide) (by decide) dM_out_38
        · exact absurd rfl hq
      · exact absurd (nI_lt hkO (by omega)) hq
  · refine W_jn (F0 m 24 ls [.int 1, .int 1, .ref (h 0)]) (fun jn => ?_) ?_
    · skip
      refine lv_aload_n hx hb dM_out_5 rfl (lv_at hl 0 rfl) ?_
      refine lv_iconst (v := 1) hx hb dM_out_6 (by decide) ?_
      refine lv_iload_n hx hb dM_out_7 rfl (lv_at hl 1 rfl) ?_
      refine lv_if_lt (tgt := 19) hx hb dM_out_8 (by decide) (fun hq => ?_) (fun hq => ?_)
      · refine lv_iconst (v := 1) hx hb dM_out_19 (by decide) ?_
        refine lv_goto (tgt := 24) hx hb dM_out_20 (by decide) ?_
        exact jn
      · refine lv_iload_n hx hb dM_out_11 rfl (lv_at hl 1 rfl) ?_
        refine lv_aload_n hx hb dM_out_12 rfl (lv_at hl 0 rfl) ?_
        refine mp_get hE.1 hI s1.o rfl gx_M 10 (by decide) (List.mem_cons_of_mem _ gf_M46) rfl dM_out_13 ?_
        rw [ho.1]
        refine lv_icmp_lt (tgt := 23) hx hb dM_out_16 (by decide) (fun hq2 => ?_) (fun hq2 => ?_)
        · rw [Int32.lt_iff_toInt_lt] at hq hq2
          rw [nI_toInt (by omega)] at hq2
          omega
        · refine lv_iconst (v := 1) hx hb dM_out_19 (by decide) ?_
          refine lv_goto (tgt := 24) hx hb dM_out_20 (by decide) ?_
          exact jn
    refine ct_V (n := 2) hE hI (kM_refuse s1.1.1 1 1 (Or.inr rfl)) s1.o rfl gm_M67 gi_M_refuse gs_M_M_refuse gz_M gc_M_refuse (by decide +kernel) ⟨Nat.le_of_ble_eq_true rfl, Nat.le_of_ble_eq_true rfl⟩ rfl hl.1 rfl (Nat.le_of_ble_eq_true rfl) dM_out_24 ⟨Nat.le_of_ble_eq_true rfl, Nat.le_of_ble_eq_true rfl⟩ (fun v w2 H locs hq hI => ?_)
    obtain ⟨rfl, hm2⟩ := hq
    show W _ _ _ _ _ _ _ _ _ _ _ _ _ _ _ (F0 _ _ _ [.int _])
    rw [if_neg (by decide)] at hm2
    have s2 := s1.cd (c' := 1) hm2 rfl
    refine lv_if_eq (tgt := 32) hx hb dM_out_27 (by decide) (fun hq => ?_) (fun hq => ?_)
    · exact absurd hq (by decide)
    · refine lv_iconst (v := 0) hx hb dM_out_30 (by decide) ?_
      exact ct_iret hE hI hr hk (Or.inr ⟨by omega, rfl, _, _, s2⟩) (by decide) (by decide) dM_out_31
end KM11
