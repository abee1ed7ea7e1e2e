/-! the reference's face: σ the terms of the registers, O what OUT holds, the code thrown -/
theorem W_jn {p : Program} {l : Launch} {e : Env} {R : Room} {s : State} {m : MethodId} {args : Array Value} {below : List Frame} {meth : Method} {c : Code} {H : Heap} {locs : List Loc} {cells slots : Nat} {Q : State → Prop} {f0 : JFrame} (fr : JFrame) (k2 : W p l e R s m args below meth c H locs cells slots Q fr → W p l e R s m args below meth c H locs cells slots Q f0) (kk : W p l e R s m args below meth c H locs cells slots Q fr) : W p l e R s m args below meth c H locs cells slots Q f0 := k2 kk
theorem rk_t {i : Int32} (h : ¬ (if rk i = none then (1 : Int32) else 0) = 0) : rk i = none := by
  by_cases hz : rk i = none
  · exact hz
  · rw [if_neg hz] at h; exact absurd rfl h
theorem rk_f {i : Int32} (h : (if rk i = none then (1 : Int32) else 0) = 0) : ∃ k, rk i = some k := by
  by_cases hz : rk i = none
  · rw [if_pos hz] at h; exact absurd h (by decide)
  · exact Option.ne_none_iff_exists'.mp hz
theorem fk_t {i : Int32} (h : ¬ (if fk i = none then (1 : Int32) else 0) = 0) : fk i = none := by
  by_cases hz : fk i = none
  · exact hz
  · rw [if_neg hz] at h; exact absurd rfl h
theorem fk_f {i : Int32} (h : (if fk i = none then (1 : Int32) else 0) = 0) : ∃ k, fk i = some k := by
  by_cases hz : fk i = none
  · rw [if_pos hz] at h; exact absurd h (by decide)
  · exact Option.ne_none_iff_exists'.mp hz
theorem fk_01 (i : Int32) : (if fk i = none then (1 : Int32) else 0) = 0 ∨ (if fk i = none then (1 : Int32) else 0) = 1 := by
  split
  · exact Or.inr rfl
  · exact Or.inl rfl
theorem fk_lo {i : Int32} (h : i < 0) : fk i = none := by
  rw [Int32.lt_iff_toInt_lt] at h
  have e0 : (0 : Int32).toInt = 0 := rfl
  unfold fk
  rw [if_neg (by omega)]
theorem fk_in {i : Int32} (h : ¬ i < 0) (h2 : i ≤ 99) : ¬ fk i = none := by
  rw [Int32.lt_iff_toInt_lt] at h
  rw [Int32.le_iff_toInt_le] at h2
  have e0 : (0 : Int32).toInt = 0 := rfl
  have e1 : (99 : Int32).toInt = 99 := rfl
  unfold fk
  rw [if_pos (by omega)]
  simp
theorem fk_hi {i : Int32} (h2 : ¬ i ≤ 99) : fk i = none := by
  rw [Int32.le_iff_toInt_le] at h2
  have e1 : (99 : Int32).toInt = 99 := rfl
  unfold fk
  rw [if_neg (by omega)]
def rg (A : mA) (σ : Nat → Std.Format) : Prop := ∀ i, i < 16 → A 2 i = nI (tm_sz (σ i)) ∧ pt_h (A (9 + i)) (tm_row (σ i)) ∧ tm_ok (σ i)
def st (K : Nat → ClassId) (h : Nat → Nat) (w0 w' : mp_W) (I : mI) (A : mA) (σ : Nat → Std.Format) (O : List Int) (c : Nat) : Prop := mo K h w0 w' I A ∧ rg A σ ∧ ou I A O ∧ I 0 = nI c
abbrev po_M (K : Nat → ClassId) (h : Nat → Nat) (w0 : mp_W) (O : List Int) (r : oR) : Option Value → mp_W → Prop := fun v w' => v = some (.int (nI r.2.1)) ∧ ∃ I A, st K h w0 w' I A r.2.2 O r.1
abbrev po_Mv (K : Nat → ClassId) (h : Nat → Nat) (w0 : mp_W) (O : List Int) (r : oR) : Option Value → mp_W → Prop := fun v w' => v = none ∧ ∃ I A, st K h w0 w' I A r.2.2 O r.1
section ST
variable {K : Nat → ClassId} {h : Nat → Nat} {w0 w1 w2 : mp_W} {I I' : mI} {A A' : mA} {σ : Nat → Std.Format} {O : List Int} {c : Nat}
theorem st.o (a : st K h w0 w1 I A σ O c) : w1 (h 0) = some (ob_M h I) := a.1.1.2.1
theorem st.g (a : st K h w0 w1 I A σ O c) : w1 (h 1) = some (ob_G K h) := a.1.1.2.2.1
theorem st.z (a : st K h w0 w1 I A σ O c) : w1 (h 2) = some (ob_I K 16 (A 2)) := a.1.1.2.2.2 2 (by decide) (by decide)
theorem st.r (a : st K h w0 w1 I A σ O c) {k : Nat} (hk : k < 16) : w1 (h (9 + k)) = some (ob_I K 2000 (A (9 + k))) := by
  have := a.1.1.row (k := 9 + k) (by omega) (by omega) (by omega)
  rwa [ml_r] at this
theorem st.b (a : st K h w0 w1 I A σ O c) : ∀ i, i < 16 → tm_sz (σ i) ≤ 2000 := fun i hi => (a.2.1 i hi).2.2.2.2.1
theorem st.nx (a : st K h w0 w1 I A σ O c) (hm : mo K h w1 w2 I' A') (ei : eqI [1, 2, 3, 5, 6] I I') (ea : eqA [3, 4, 5, 7, 8] A A') : st K h w0 w2 I' A' σ O c := by
  obtain ⟨a1, a2, a3, a4⟩ := a
  refine ⟨⟨hm.1, a1.2.tr hm.2⟩, fun i hi => ?_, ?_, ?_⟩
  · rw [ea 2 (by decide), ea (9 + i) (by simp; omega)]; exact a2 i hi
  · unfold ou; rw [ei 4 (by decide), ea 6 (by decide)]; exact a3
  · rw [ei 0 (by decide)]; exact a4
theorem st.cd {c' : Nat} {x : Int32} (a : st K h w0 w1 I A σ O c) (hm : mo K h w1 w2 (iu I 0 x) A) (hx : x = nI c') : st K h w0 w2 (iu I 0 x) A σ O c' := by
  obtain ⟨a1, a2, a3, a4⟩ := a
  refine ⟨⟨hm.1, a1.2.tr hm.2⟩, a2, ?_, ?_⟩
  · unfold ou; rw [iu_ne (by decide)]; exact a3
  · rw [iu_self]; exact hx
theorem st.kp (a : st K h w0 w1 I A σ O c) (hm : mo K h w1 w2 I A) : st K h w0 w2 I A σ O c := ⟨⟨hm.1, a.1.2.tr hm.2⟩, a.2⟩
theorem st.no (a : st K h w0 w1 I A σ O c) (hm : mo K h w1 w2 I' A) (ei : eqI [0] I I') {c' : Nat} (e0 : I' 0 = nI c') : st K h w0 w2 I' A σ O c' := by
  obtain ⟨a1, a2, a3, a4⟩ := a
  refine ⟨⟨hm.1, a1.2.tr hm.2⟩, a2, ?_, e0⟩
  unfold ou; rw [ei 4 (by decide)]; exact a3
theorem st.no1 {i : Int32} (a : st K h w0 w1 I A σ O c) (hm : mo K h w1 w2 I' A) (e0 : I' 0 = if rk i = none then 1 else 0) (ei : eqI [0] I I') (hz : rk i = none) : st K h w0 w2 I' A σ O 1 := a.no hm ei (by rw [e0, if_pos hz]; rfl)
theorem st.no0 {i : Int32} {k : Nat} (a : st K h w0 w1 I A σ O c) (hm : mo K h w1 w2 I' A) (e0 : I' 0 = if rk i = none then 1 else 0) (ei : eqI [0] I I') (hz : rk i = some k) : st K h w0 w2 I' A σ O 0 := a.no hm ei (by rw [e0, if_neg (by rw [hz]; simp)]; rfl)
theorem st.keep {u : Std.Format} {k : Nat} (a : st K h w0 w1 I A σ O c) (hm : mo K h w1 w2 I A') (ea : eqA [2, 9 + k] A A') (e2 : A' 2 = upd (A 2) k (nI (tm_sz u))) (ph : pt_h (A' (9 + k)) (tm_row u)) (hk16 : k < 16) (hok : tm_ok u) : st K h w0 w2 I A' (su σ k u) O c := by
  obtain ⟨a1, a2, a3, a4⟩ := a
  refine ⟨⟨hm.1, a1.2.tr hm.2⟩, fun i hi => ?_, ?_, a4⟩
  · by_cases e : i = k
    · subst e
      rw [e2]
      show upd (A 2) i (nI (tm_sz u)) i = nI (tm_sz (if i = i then u else σ i)) ∧ pt_h (A' (9 + i)) (tm_row (if i = i then u else σ i)) ∧ tm_ok (if i = i then u else σ i)
      rw [if_pos rfl]
      exact ⟨if_pos rfl, ph, hok⟩
    · rw [e2, ea (9 + i) (by simp; omega)]
      show (if i = k then nI (tm_sz u) else A 2 i) = nI (tm_sz (if i = k then u else σ i)) ∧ pt_h (A (9 + i)) (tm_row (if i = k then u else σ i)) ∧ tm_ok (if i = k then u else σ i)
      rw [if_neg e, if_neg e]
      exact a2 i hi
  · unfold ou; rw [ea 6 (by simp; omega)]; exact a3
theorem st.fin {x : Nat} {r : oR} (a : st K h w0 w1 I A σ O c) (er : r = (c, x, σ)) : po_M K h w0 O r (some (.int (nI x))) w1 := by
  subst er
  exact ⟨rfl, _, _, a⟩
theorem st.fin0 {r : oR} (a : st K h w0 w1 I A σ O c) (er : r = (c, 0, σ)) : po_M K h w0 O r (some (.int 0)) w1 := by
  subst er
  exact ⟨rfl, _, _, a⟩
theorem st.finv {x : Nat} {r : oR} (a : st K h w0 w1 I A σ O c) (er : r = (c, x, σ)) : po_Mv K h w0 O r none w1 := by
  subst er
  exact ⟨rfl, _, _, a⟩
end ST
theorem row_all (t : Std.Format) : ((tm_row t).drop 0).take (tm_sz t - 0) = tm_row t := by
  rw [List.drop_zero, Nat.sub_zero]
  exact List.take_of_length_le (by rw [tm_row_len]; exact Nat.le_refl _)
theorem mk_3 {I : mI} {A : mA} {t : Std.Format} (hm : mk_m I A (tm_row t)) (hz : tm_sz t ≤ 2000) : I 1 = nI (tm_sz t) ∧ pt_h (A 3) (tm_row t) := by
  obtain ⟨h1, -, h3⟩ := hm
  rw [tm_row_len, Nat.min_eq_left hz] at h1
  rw [List.take_of_length_le (by rw [tm_row_len]; exact hz)] at h3
  exact ⟨h1, h3⟩
section KM8
variable {l : Launch} {n0 : Nat} {D : va_G} {K : Nat → ClassId} {w : mp_W} {h : Nat → Nat} {I : mI} {A : mA} {σ : Nat → Std.Format} {O : List Int} {c0 : Nat}
set_option maxRecDepth 100000 in
theorem kM_free (s0 : st K h w w I A σ O c0) (to n : Int32) : ct_M l n0 D K yM_free (Cond.code yM_free cM_free 3 none) 154 4700 0 0 [.ref (h 0), .int to, .int n] w (po_Mv K h w O (op_free σ to n)) := by
  refine ct_go (own := nm_M) (by decide) rfl (Nat.le_of_ble_eq_true rfl) ?_
  intro p e s m below meth c ls hE hI hr hk hn hl
  have hx := hE.1.1.1
  have hb := hE.1.1.2.1
  have hl : lv_has ls 3 [(0, .ref (h 0)), (1, .int to), (2, .int n)] := hl
  refine lv_aload_n hx hb dM_free_0 rfl (lv_at hl 0 rfl) ?_
  refine lv_iload_n hx hb dM_free_1 rfl (lv_at hl 1 rfl) ?_
  refine ct_V (n := 1) hE hI (kM_none s0.1.1 to) s0.o rfl gm_M100 gi_M_none gs_M_M_none gz_M gc_M_none (by decide +kernel) ⟨Nat.le_of_ble_eq_true rfl, Nat.le_of_ble_eq_true rfl⟩ rfl hl.1 rfl (Nat.le_of_ble_eq_true rfl) dM_free_2 ⟨Nat.le_of_ble_eq_true rfl, Nat.le_of_ble_eq_true rfl⟩ (fun v w1 H locs hq hI => ?_)
  obtain ⟨I1, rfl, hm1, e1, ei1⟩ := hq
  show W _ _ _ _ _ _ _ _ _ _ _ _ _ _ _ (F0 _ _ _ [.int _])
  refine lv_if_ne (tgt := 31) hx hb dM_free_5 (by decide) (fun hq => ?_) (fun hq => ?_)
  · have hz := rk_t hq
    have er : op_free σ to n = (1, 0, σ) := by unfold op_free; rw [hz]
    have s9 := s0.no1 hm1 e1 ei1 hz
    exact ct_vret hE hI hr hk (s9.finv er) (by decide) (by decide) dM_free_31
  obtain ⟨kto, hrto⟩ := rk_f hq
  have s1 := s0.no0 hm1 e1 ei1 hrto
  refine W_jn (F0 m 25 ls [.int (if fk n = none then 1 else 0), .int 1, .ref (h 0)]) (fun jn => ?_) ?_
  · skip
    refine lv_aload_n hx hb dM_free_8 rfl (lv_at hl 0 rfl) ?_
    refine lv_iconst (v := 1) hx hb dM_free_9 (by decide) ?_
    refine lv_iload_n hx hb dM_free_10 rfl (lv_at hl 2 rfl) ?_
    refine lv_if_lt (tgt := 20) hx hb dM_free_11 (by decide) (fun hq => ?_) (fun hq => ?_)
    · refine lv_iconst (v := 1) hx hb dM_free_20 (by decide) ?_
      refine lv_goto (tgt := 25) hx hb dM_free_21 (by decide) ?_
      rw [if_pos (fk_lo hq)] at jn
      exact jn
    · refine lv_iload_n hx hb dM_free_14 rfl (lv_at hl 2 rfl) ?_
      refine lv_bipush (v := 99) hx hb dM_free_15 (by decide) ?_
      refine lv_icmp_le (tgt := 24) hx hb dM_free_17 (by decide) (fun hq2 => ?_) (fun hq2 => ?_)
      · refine lv_iconst (v := 0) hx hb dM_free_24 (by decide) ?_
        rw [if_neg (fk_in hq hq2)] at jn
        exact jn
      · refine lv_iconst (v := 1) hx hb dM_free_20 (by decide) ?_
        refine lv_goto (tgt := 25) hx hb dM_free_21 (by decide) ?_
        rw [if_pos (fk_hi hq2)] at jn
        exact jn
  refine ct_V (n := 2) hE hI (kM_refuse s1.1.1 1 _ (fk_01 n)) s1.o rfl gm_M67 gi_M_refuse gs_M_M_refuse gz_M gc_M_refuse (by decide +kernel) ⟨Nat.le_of_ble_eq_true rfl, Nat.le_of_ble_eq_true rfl⟩ rfl hl.1 rfl (Nat.le_of_ble_eq_true rfl) dM_free_25 ⟨Nat.le_of_ble_eq_true rfl, Nat.le_of_ble_eq_true rfl⟩ (fun v w2 H locs hq hI => ?_)
  obtain ⟨rfl, hm2⟩ := hq
  show W _ _ _ _ _ _ _ _ _ _ _ _ _ _ _ (F0 _ _ _ [.int _])
  refine lv_if_eq (tgt := 32) hx hb dM_free_28 (by decide) (fun hq => ?_) (fun hq => ?_)
  rotate_left
  · have hz := fk_t hq
    have er : op_free σ to n = (1, 0, σ) := by unfold op_free; rw [hrto, hz]
    rw [if_neg hq] at hm2
    have s9 := s1.cd (c' := 1) hm2 rfl
    exact ct_vret hE hI hr hk (s9.finv er) (by decide) (by decide) dM_free_31
  rw [if_pos hq] at hm2
  obtain ⟨kn, hfn⟩ := fk_f hq
  have s2 := s1.kp hm2
  obtain ⟨hto16, rfl⟩ := rk_some hrto
  obtain ⟨hn100, hnk⟩ := fk_some hfn
  have er : op_free σ (nI kto) n = (0, 0, su σ kto (lfm kn)) := by unfold op_free; rw [hrto, hfn]
  refine lv_aload_n hx hb dM_free_32 rfl (lv_at hl 0 rfl) ?_
  refine ct_V (n := 0) hE hI (kM_begin s2.1.1) s2.o rfl gm_M104 gi_M_begin gs_M_M_begin gz_M gc_M_begin (by decide +kernel) ⟨Nat.le_of_ble_eq_true rfl, Nat.le_of_ble_eq_true rfl⟩ rfl hl.1 rfl (Nat.le_of_ble_eq_true rfl) dM_free_33 ⟨Nat.le_of_ble_eq_true rfl, Nat.le_of_ble_eq_true rfl⟩ (fun v w3 H locs hq hI => ?_)
  obtain ⟨rfl, I3, hm3, hk3, ei3⟩ := hq
  show W _ _ _ _ _ _ _ _ _ _ _ _ _ _ _ (F0 _ _ _ [])
  have s3 := s2.nx hm3 (ei3.mono (by decide)) (eqA.rf _ _)
  refine lv_aload_n hx hb dM_free_36 rfl (lv_at hl 0 rfl) ?_
  refine lv_iload_n hx hb dM_free_37 rfl (lv_at hl 2 rfl) ?_
  have C := kM_add (l := l) (n0 := n0) (D := D) (z := (kn : Int)) s3.1.1 hk3
  rw [ci_nat, ← hnk] at C
  refine ct_V (n := 1) hE hI (C) s3.o rfl gm_M71 gi_M_add gs_M_M_add gz_M gc_M_add (by decide +kernel) ⟨Nat.le_of_ble_eq_true rfl, Nat.le_of_ble_eq_true rfl⟩ rfl hl.1 rfl (Nat.le_of_ble_eq_true rfl) dM_free_38 ⟨Nat.le_of_ble_eq_true rfl, Nat.le_of_ble_eq_true rfl⟩ (fun v w4 H locs hq hI => ?_)
  obtain ⟨rfl, I4, A4, hm4, hk4, ei4, ea4⟩ := hq
  show W _ _ _ _ _ _ _ _ _ _ _ _ _ _ _ (F0 _ _ _ [])
  have s4 := s3.nx hm4 (ei4.mono (by decide)) (ea4.mono (by decide))
  have hok : tm_ok (lfm kn) := ⟨Or.inl ⟨by show (0 : Int) ≤ (kn : Int); omega, by show (kn : Int) ≤ 99; omega⟩, trivial, by show 1 ≤ 2000; omega, by show 1 ≤ 150; omega⟩
  obtain ⟨i4, p4⟩ := mk_3 (t := lfm kn) hk4 hok.2.2.1
  refine lv_aload_n hx hb dM_free_41 rfl (lv_at hl 0 rfl) ?_
  refine lv_iload_n hx hb dM_free_42 rfl (lv_at hl 1 rfl) ?_
  refine ct_V (n := 1) hE hI (kM_keep (u := lfm kn) (k := kto) s4.1.1 hto16 i4 p4 hok.2.2.1) s4.o rfl gm_M107 gi_M_keep gs_M_M_keep gz_M gc_M_keep (by decide +kernel) ⟨Nat.le_of_ble_eq_true rfl, Nat.le_of_ble_eq_true rfl⟩ rfl hl.1 rfl (Nat.le_of_ble_eq_true rfl) dM_free_43 ⟨Nat.le_of_ble_eq_true rfl, Nat.le_of_ble_eq_true rfl⟩ (fun v w5 H locs hq hI => ?_)
  obtain ⟨rfl, A5, hm5, ea5, e5, ph5⟩ := hq
  show W _ _ _ _ _ _ _ _ _ _ _ _ _ _ _ (F0 _ _ _ [.int _])
  refine lv_pop hx hb dM_free_46 rfl ?_
  exact ct_vret hE hI hr hk ((s4.keep hm5 ea5 e5 ph5 hto16 hok).finv er) (by decide) (by decide) dM_free_47
set_option maxRecDepth 100000 in
set_option maxHeartbeats 2000000 in
theorem kM_apply (s0 : st K h w w I A σ O c0) (to a b : Int32) : ct_M l n0 D K yM_apply (Cond.code yM_apply cM_apply 4 (some .int)) 154 4700 0 0 [.ref (h 0), .int to, .int a, .int b] w (po_M K h w O (op_apply σ to a b)) := by
  refine ct_go (own := nm_M) (by decide) rfl (Nat.le_of_ble_eq_true rfl) ?_
  intro p e s m below meth c ls hE hI hr hk hn hl
  have hx := hE.1.1.1
  have hb := hE.1.1.2.1
  have hl : lv_has ls 4 [(0, .ref (h 0)), (1, .int to), (2, .int a), (3, .int b)] := hl
  refine lv_aload_n hx hb dM_apply_0 rfl (lv_at hl 0 rfl) ?_
  refine lv_iload_n hx hb dM_apply_1 rfl (lv_at hl 1 rfl) ?_
  refine ct_V (n := 1) hE hI (kM_none s0.1.1 to) s0.o rfl gm_M100 gi_M_none gs_M_M_none gz_M gc_M_none (by decide +kernel) ⟨Nat.le_of_ble_eq_true rfl, Nat.le_of_ble_eq_true rfl⟩ rfl hl.1 rfl (Nat.le_of_ble_eq_true rfl) dM_apply_2 ⟨Nat.le_of_ble_eq_true rfl, Nat.le_of_ble_eq_true rfl⟩ (fun v w1 H locs hq hI => ?_)
  obtain ⟨I1, rfl, hm1, e1, ei1⟩ := hq
  show W _ _ _ _ _ _ _ _ _ _ _ _ _ _ _ (F0 _ _ _ [.int _])
  refine lv_if_ne (tgt := 24) hx hb dM_apply_5 (by decide) (fun hq => ?_) (fun hq => ?_)
  · have hz := rk_t hq
    have er : op_apply σ to a b = (1, 0, σ) := by unfold op_apply; rw [hz]
    have s9 := s0.no1 hm1 e1 ei1 hz
    refine lv_iconst (v := 0) hx hb dM_apply_24 (by decide) ?_
    exact ct_iret hE hI hr hk (s9.fin0 er) (by decide) (by decide) dM_apply_25
  obtain ⟨kto, hrto⟩ := rk_f hq
  have s1 := s0.no0 hm1 e1 ei1 hrto
  refine lv_aload_n hx hb dM_apply_8 rfl (lv_at hl 0 rfl) ?_
  refine lv_iload_n hx hb dM_apply_9 rfl (lv_at hl 2 rfl) ?_
  refine ct_V (n := 1) hE hI (kM_none s1.1.1 a) s1.o rfl gm_M100 gi_M_none gs_M_M_none gz_M gc_M_none (by decide +kernel) ⟨Nat.le_of_ble_eq_true rfl, Nat.le_of_ble_eq_true rfl⟩ rfl hl.1 rfl (Nat.le_of_ble_eq_true rfl) dM_apply_10 ⟨Nat.le_of_ble_eq_true rfl, Nat.le_of_ble_eq_true rfl⟩ (fun v w2 H locs hq hI => ?_)
  obtain ⟨I2, rfl, hm2, e2, ei2⟩ := hq
  show W _ _ _ _ _ _ _ _ _ _ _ _ _ _ _ (F0 _ _ _ [.int _])
  refine lv_if_ne (tgt := 24) hx hb dM_apply_13 (by decide) (fun hq => ?_) (fun hq => ?_)
  · have hz := rk_t hq
    have er : op_apply σ to a b = (1, 0, σ) := by unfold op_apply; rw [hrto, hz]
    have s9 := s1.no1 hm2 e2 ei2 hz
    refine lv_iconst (v := 0) hx hb dM_apply_24 (by decide) ?_
    exact ct_iret hE hI hr hk (s9.fin0 er) (by decide) (by decide) dM_apply_25
  obtain ⟨ka, hra⟩ := rk_f hq
  have s2 := s1.no0 hm2 e2 ei2 hra
  refine lv_aload_n hx hb dM_apply_16 rfl (lv_at hl 0 rfl) ?_
  refine lv_iload_n hx hb dM_apply_17 rfl (lv_at hl 3 rfl) ?_
  refine ct_V (n := 1) hE hI (kM_none s2.1.1 b) s2.o rfl gm_M100 gi_M_none gs_M_M_none gz_M gc_M_none (by decide +kernel) ⟨Nat.le_of_ble_eq_true rfl, Nat.le_of_ble_eq_true rfl⟩ rfl hl.1 rfl (Nat.le_of_ble_eq_true rfl) dM_apply_18 ⟨Nat.le_of_ble_eq_true rfl, Nat.le_of_ble_eq_true rfl⟩ (fun v w3 H locs hq hI => ?_)
  obtain ⟨I3, rfl, hm3, e3, ei3⟩ := hq
  show W _ _ _ _ _ _ _ _ _ _ _ _ _ _ _ (F0 _ _ _ [.int _])
  refine lv_if_eq (tgt := 26) hx hb dM_apply_21 (by decide) (fun hq => ?_) (fun hq => ?_)
  rotate_left
  · have hz := rk_t hq
    have er : op_apply σ to a b = (1, 0, σ) := by unfold op_apply; rw [hrto, hra, hz]
    have s9 := s2.no1 hm3 e3 ei3 hz
    refine lv_iconst (v := 0) hx hb dM_apply_24 (by decide) ?_
    exact ct_iret hE hI hr hk (s9.fin0 er) (by decide) (by decide) dM_apply_25
  obtain ⟨kb, hrb⟩ := rk_f hq
  have s3 := s2.no0 hm3 e3 ei3 hrb
  obtain ⟨hto16, rfl⟩ := rk_some hrto
  obtain ⟨ha16, rfl⟩ := rk_some hra
  obtain ⟨hb16, rfl⟩ := rk_some hrb
  have er : op_apply σ (nI kto) (nI ka) (nI kb) = ck 2 σ kto (.append (σ ka) (σ kb)) := by unfold op_apply; rw [hrto, hra, hrb]
  refine lv_aload_n hx hb dM_apply_26 rfl (lv_at hl 0 rfl) ?_
  refine ct_V (n := 0) hE hI (kM_begin s3.1.1) s3.o rfl gm_M104 gi_M_begin gs_M_M_begin gz_M gc_M_begin (by decide +kernel) ⟨Nat.le_of_ble_eq_true rfl, Nat.le_of_ble_eq_true rfl⟩ rfl hl.1 rfl (Nat.le_of_ble_eq_true rfl) dM_apply_27 ⟨Nat.le_of_ble_eq_true rfl, Nat.le_of_ble_eq_true rfl⟩ (fun v w4 H locs hq hI => ?_)
  obtain ⟨rfl, I4, hm4, hk4, ei4⟩ := hq
  show W _ _ _ _ _ _ _ _ _ _ _ _ _ _ _ (F0 _ _ _ [])
  have s4 := s3.nx hm4 (ei4.mono (by decide)) (eqA.rf _ _)
  refine lv_aload_n hx hb dM_apply_30 rfl (lv_at hl 0 rfl) ?_
  refine lv_sipush (v := ci_i 1000) hx hb dM_apply_31 (by decide) ?_
  refine ct_V (n := 1) hE hI (kM_add (z := 1000) s4.1.1 hk4) s4.o rfl gm_M71 gi_M_add gs_M_M_add gz_M gc_M_add (by decide +kernel) ⟨Nat.le_of_ble_eq_true rfl, Nat.le_of_ble_eq_true rfl⟩ rfl hl.1 rfl (Nat.le_of_ble_eq_true rfl) dM_apply_34 ⟨Nat.le_of_ble_eq_true rfl, Nat.le_of_ble_eq_true rfl⟩ (fun v w5 H locs hq hI => ?_)
  obtain ⟨rfl, I5, A5, hm5, hk5, ei5, ea5⟩ := hq
  show W _ _ _ _ _ _ _ _ _ _ _ _ _ _ _ (F0 _ _ _ [])
  have s5 := s4.nx hm5 (ei5.mono (by decide)) (ea5.mono (by decide))
  have za := s5.b ka ha16
  have zb := s5.b kb hb16
  have r5 := s5.2.1 ka ha16
  refine lv_aload_n hx hb dM_apply_37 rfl (lv_at hl 0 rfl) ?_
  refine lv_aload_n hx hb dM_apply_38 rfl (lv_at hl 0 rfl) ?_
  refine mp_get hE.1 hI s5.o rfl gx_M 1 (by decide) (List.mem_cons_of_mem _ gf_M15) rfl dM_apply_39 ?_
  refine lv_iload_n hx hb dM_apply_42 rfl (lv_at hl 2 rfl) ?_
  refine mp_aldA hE.1 hI s5.g 4 rfl (vp_in_nI (by omega) (by omega)) dM_apply_43 ?_
  rw [nI_clamp (by omega)]
  show W _ _ _ _ _ _ _ _ _ _ _ _ _ _ _ (F0 _ _ _ [.ref (h (9 + ka)), .ref (h 0)])
  refine lv_iconst (v := nI 0) hx hb dM_apply_44 (by decide) ?_
  refine lv_aload_n hx hb dM_apply_45 rfl (lv_at hl 0 rfl) ?_
  refine mp_get hE.1 hI s5.o rfl gx_M 2 (by decide) (List.mem_cons_of_mem _ gf_M18) rfl dM_apply_46 ?_
  refine lv_iload_n hx hb dM_apply_49 rfl (lv_at hl 2 rfl) ?_
  refine mp_ild hE.1 hI s5.z 0 rfl (vp_in_nI (by omega) (by omega)) dM_apply_50 ?_
  rw [nI_clamp (by omega), r5.1]
  refine ct_V (n := 3) hE hI (kM_add2 (k := 9 + ka) (a := 0) (b := tm_sz (σ ka)) s5.1.1 hk5 (by omega) (by omega) (by omega) (by omega) r5.2.1 (by omega) (by rw [tm_row_len]; omega) (by rw [tm_row_len, ml_r]; exact za)) s5.o rfl gm_M75 gi_M_add2 gs_M_M_add2 gz_M gc_M_add2 (by decide +kernel) ⟨Nat.le_of_ble_eq_true rfl, Nat.le_of_ble_eq_true rfl⟩ rfl hl.1 rfl (Nat.le_of_ble_eq_true rfl) dM_apply_51 ⟨Nat.le_of_ble_eq_true rfl, Nat.le_of_ble_eq_true rfl⟩ (fun v w6 H locs hq hI => ?_)
  obtain ⟨rfl, I6, A6, hm6, hk6, ei6, ea6⟩ := hq
  show W _ _ _ _ _ _ _ _ _ _ _ _ _ _ _ (F0 _ _ _ [])
  rw [row_all] at hk6
  have s6 := s5.nx hm6 (ei6.mono (by decide)) (ea6.mono (by decide))
  have r6 := s6.2.1 kb hb16
  refine lv_aload_n hx hb dM_apply_54 rfl (lv_at hl 0 rfl) ?_
  refine lv_aload_n hx hb dM_apply_55 rfl (lv_at hl 0 rfl) ?_
  refine mp_get hE.1 hI s6.o rfl gx_M 1 (by decide) (List.mem_cons_of_mem _ gf_M15) rfl dM_apply_56 ?_
  refine lv_iload_n hx hb dM_apply_59 rfl (lv_at hl 3 rfl) ?_
  refine mp_aldA hE.1 hI s6.g 4 rfl (vp_in_nI (by omega) (by omega)) dM_apply_60 ?_
  rw [nI_clamp (by omega)]
  show W _ _ _ _ _ _ _ _ _ _ _ _ _ _ _ (F0 _ _ _ [.ref (h (9 + kb)), .ref (h 0)])
  refine lv_iconst (v := nI 0) hx hb dM_apply_61 (by decide) ?_
  refine lv_aload_n hx hb dM_apply_62 rfl (lv_at hl 0 rfl) ?_
  refine mp_get hE.1 hI s6.o rfl gx_M 2 (by decide) (List.mem_cons_of_mem _ gf_M18) rfl dM_apply_63 ?_
  refine lv_iload_n hx hb dM_apply_66 rfl (lv_at hl 3 rfl) ?_
  refine mp_ild hE.1 hI s6.z 0 rfl (vp_in_nI (by omega) (by omega)) dM_apply_67 ?_
  rw [nI_clamp (by omega), r6.1]
  refine ct_V (n := 3) hE hI (kM_add2 (k := 9 + kb) (a := 0) (b := tm_sz (σ kb)) s6.1.1 hk6 (by omega) (by omega) (by omega) (by omega) r6.2.1 (by omega) (by rw [tm_row_len]; omega) (by rw [tm_row_len, ml_r]; exact zb)) s6.o rfl gm_M75 gi_M_add2 gs_M_M_add2 gz_M gc_M_add2 (by decide +kernel) ⟨Nat.le_of_ble_eq_true rfl, Nat.le_of_ble_eq_true rfl⟩ rfl hl.1 rfl (Nat.le_of_ble_eq_true rfl) dM_apply_68 ⟨Nat.le_of_ble_eq_true rfl, Nat.le_of_ble_eq_true rfl⟩ (fun v w7 H locs hq hI => ?_)
  obtain ⟨rfl, I7, A7, hm7, hk7, ei7, ea7⟩ := hq
  show W _ _ _ _ _ _ _ _ _ _ _ _ _ _ _ (F0 _ _ _ [])
  rw [row_all, show [] ++ [(1000 : Int)] ++ tm_row (σ ka) ++ tm_row (σ kb) = tm_row (.append (σ ka) (σ kb)) by rw [tm_row_app]; simp] at hk7
  have s7 := s6.nx hm7 (ei7.mono (by decide)) (ea7.mono (by decide))
  have hsX : tm_sc (.append (σ ka) (σ kb)) [] := ⟨r5.2.2.1, r6.2.2.1⟩
  have hfX : ∀ j ∈ tm_fn (.append (σ ka) (σ kb)), j < 8000 := fun j hj => (List.mem_append.mp hj).elim (tm_ok_fn r5.2.2 j) (tm_ok_fn r6.2.2 j)
  refine lv_aload_n hx hb dM_apply_71 rfl (lv_at hl 0 rfl) ?_
  refine lv_iconst (v := 2) hx hb dM_apply_72 (by decide) ?_
  refine lv_aload_n hx hb dM_apply_73 rfl (lv_at hl 0 rfl) ?_
  refine ct_V (n := 0) hE hI (kM_whole (X := .append (σ ka) (σ kb)) s7.1.1 hk7 hsX hfX) s7.o rfl gm_M111 gi_M_whole gs_M_M_whole gz_M gc_M_whole (by decide +kernel) ⟨Nat.le_of_ble_eq_true rfl, Nat.le_of_ble_eq_true rfl⟩ rfl hl.1 rfl (Nat.le_of_ble_eq_true rfl) dM_apply_74 ⟨Nat.le_of_ble_eq_true rfl, Nat.le_of_ble_eq_true rfl⟩ (fun v w90 H locs hq hI => ?_)
  obtain ⟨rfl, I90, A90, hm90, ei90, ea90, hu90⟩ := hq
  show W _ _ _ _ _ _ _ _ _ _ _ _ _ _ _ (F0 _ _ _ [.int _, .int _, .ref (h 0)])
  have s90 := s7.nx hm90 (ei90.mono (by decide)) (ea90.mono (by decide))
  by_cases hc : tm_chk (.append (σ ka) (σ kb)) = none
  · rw [if_pos hc]
    refine lv_if_ne (tgt := 84) hx hb dM_apply_77 (by decide) (fun hq => ?_) (fun hq => ?_)
    · exact absurd rfl hq
    · refine lv_iconst (v := 1) hx hb dM_apply_80 (by decide) ?_
      refine lv_goto (tgt := 85) hx hb dM_apply_81 (by decide) ?_
      refine ct_V (n := 2) hE hI (kM_refuse s90.1.1 2 1 (Or.inr rfl)) s90.o rfl gm_M67 gi_M_refuse gs_M_M_refuse gz_M gc_M_refuse (by decide +kernel) ⟨Nat.le_of_ble_eq_true rfl, Nat.le_of_ble_eq_true rfl⟩ rfl hl.1 rfl (Nat.le_of_ble_eq_true rfl) dM_apply_85 ⟨Nat.le_of_ble_eq_true rfl, Nat.le_of_ble_eq_true rfl⟩ (fun v w91 H locs hq hI => ?_)
      obtain ⟨rfl, hm91⟩ := hq
      show W _ _ _ _ _ _ _ _ _ _ _ _ _ _ _ (F0 _ _ _ [.int _])
      rw [if_neg (by decide)] at hm91
      have s91 := s90.cd (c' := 2) hm91 rfl
      refine lv_if_eq (tgt := 93) hx hb dM_apply_88 (by decide) (fun hq => ?_) (fun hq => ?_)
      · exact absurd hq (by decide)
      · refine lv_iconst (v := 0) hx hb dM_apply_91 (by decide) ?_
        exact ct_iret hE hI hr hk (s91.fin0 (er.trans (ck_none hc))) (by decide) (by decide) dM_apply_92
  · obtain ⟨u, hu⟩ := Option.ne_none_iff_exists'.mp hc
    rw [if_neg hc]
    refine lv_if_ne (tgt := 84) hx hb dM_apply_77 (by decide) (fun hq => ?_) (fun hq => ?_)
    · refine lv_iconst (v := 0) hx hb dM_apply_84 (by decide) ?_
      refine ct_V (n := 2) hE hI (kM_refuse s90.1.1 2 0 (Or.inl rfl)) s90.o rfl gm_M67 gi_M_refuse gs_M_M_refuse gz_M gc_M_refuse (by decide +kernel) ⟨Nat.le_of_ble_eq_true rfl, Nat.le_of_ble_eq_true rfl⟩ rfl hl.1 rfl (Nat.le_of_ble_eq_true rfl) dM_apply_85 ⟨Nat.le_of_ble_eq_true rfl, Nat.le_of_ble_eq_true rfl⟩ (fun v w91 H locs hq hI => ?_)
      obtain ⟨rfl, hm91⟩ := hq
      show W _ _ _ _ _ _ _ _ _ _ _ _ _ _ _ (F0 _ _ _ [.int _])
      rw [if_pos rfl] at hm91
      have s91 := s90.kp hm91
      refine lv_if_eq (tgt := 93) hx hb dM_apply_88 (by decide) (fun hq => ?_) (fun hq => ?_)
      · refine lv_aload_n hx hb dM_apply_93 rfl (lv_at hl 0 rfl) ?_
        refine lv_iload_n hx hb dM_apply_94 rfl (lv_at hl 1 rfl) ?_
        obtain ⟨hok, -, -, -, -⟩ := tm_chk_ok hsX hu
        refine ct_V (n := 1) hE hI (kM_keep (u := u) (k := kto) s91.1.1 hto16 (hu90 u hu).1 (hu90 u hu).2 hok.2.2.1) s91.o rfl gm_M107 gi_M_keep gs_M_M_keep gz_M gc_M_keep (by decide +kernel) ⟨Nat.le_of_ble_eq_true rfl, Nat.le_of_ble_eq_true rfl⟩ rfl hl.1 rfl (Nat.le_of_ble_eq_true rfl) dM_apply_95 ⟨Nat.le_of_ble_eq_true rfl, Nat.le_of_ble_eq_true rfl⟩ (fun v w92 H locs hq hI => ?_)
        obtain ⟨rfl, A92, hm92, ea92, e292, ph92⟩ := hq
        show W _ _ _ _ _ _ _ _ _ _ _ _ _ _ _ (F0 _ _ _ [.int _])
        exact ct_iret hE hI hr hk ((s91.keep hm92 ea92 e292 ph92 hto16 hok).fin (er.trans (ck_some hu))) (by decide) (by decide) dM_apply_98
      · exact absurd rfl hq
    · exact absurd hq (by decide)
end KM8
