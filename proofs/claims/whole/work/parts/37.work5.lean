/-! Workshop: close, replace -/
theorem tm_fl_lenb (n : Int) (P : List Int) : ∀ u, (tm_fl 0 1 (tm_gb n) P u).length = P.length := by
  induction P with
  | nil => intro u; rfl
  | cons x P ih => intro u; rw [tm_fl_cons, List.length_append, ih, List.length_cons]; show 1 + _ = _; omega
section KS5
variable {l : Launch} {n0 : Nat} {D : va_G} {K : Nat → ClassId} {w : mp_W} {f : Nat → Nat} {mi : Nat}
theorem pt_S.clear {w1 : mp_W} {M : List Int} {g : Nat → Int32} {n : Int32} (h : pt_S K w f mi M) (hf : ph_i f) (hm : mi = 16 ∨ mi = 17) (kA : w (f (14 + 2 * mi)) = some (ob_I K 2000 g)) (hw1 : w1 = mp_up w (f (13 + 2 * mi)) (ob_T (f (14 + 2 * mi)) 0)) : pt_S K w1 f mi [] ∧ mp_off [f (13 + 2 * mi), f (14 + 2 * mi)] w w1 := by
  have ho1 : mp_off [f (13 + 2 * mi), f (14 + 2 * mi)] w w1 := by rw [hw1]; exact (mp_off.rf _ _).up (by simp) _
  have hp1 : pt_T K w1 (f (13 + 2 * mi)) (f (14 + 2 * mi)) 2000 [] := ⟨g, by rw [hw1]; exact mp_up_self .., by rw [hw1, mp_up_ne _ _ (hf.ne (by omega) (by omega) (by omega))]; exact kA, fun _ a x h => by simp at h⟩
  exact ⟨h.made hf hm ho1 hp1, ho1⟩
set_option maxRecDepth 100000 in
theorem kS_close (hl0 : l.stackTraces = false) {i ci : Nat} {n : Int} {M A : List Int} (hf : ph_i f) (hm : mi = 16 ∨ mi = 17) (hS : pt_S K w f mi M) (hi : i < 18) (him : i ≠ mi) (ha : pt_R K w (f (13 + 2 * i)) (f (14 + 2 * i)) ci A) (hn0 : 0 ≤ n) (hn9 : n ≤ 99) (hres : ∀ x ∈ (-2 :: tm_fl 0 1 (tm_gb n) A ([], 0)), -2 ≤ x ∧ x ≤ 1000000) :
    ct_X l n0 D K yS_close (Cond.code yS_close cS_close 5 (some (.object "BindingBench$Term"))) 7 180 1 6 [.ref (f 2), .ref (f (13 + 2 * i)), .int (ci_i n)] w (fun v w' => v = some (.ref (f (13 + 2 * mi))) ∧ ¬ pt_bad (-2 :: tm_fl 0 1 (tm_gb n) A ([], 0)) ∧ mp_off (fp_S f mi) w w' ∧ pt_S K w' f mi (-2 :: tm_fl 0 1 (tm_gb n) A ([], 0))) (fun E w' => E = "java/lang/IllegalStateException" ∧ pt_bad (-2 :: tm_fl 0 1 (tm_gb n) A ([], 0)) ∧ mp_off (fp_S f mi) w w' ∧ ∃ M', pt_S K w' f mi M') := by
  have hA2 : A.length ≤ 2000 := Nat.le_trans ha.2.1 ha.2.2.1
  have nm : ∀ x, x < 49 → x ≠ 13 + 2 * mi → x ≠ 14 + 2 * mi → f x ∉ [f (13 + 2 * mi), f (14 + 2 * mi)] := fun x h q1 q2 => hf.nin h [13 + 2 * mi, 14 + 2 * mi] (by intro b hb; simp at hb; omega)
  have nf : ∀ x, 12 < x → x < 49 → x ≠ 13 + 2 * mi → x ≠ 14 + 2 * mi → f x ∉ fp_S f mi := fun x h0 h q3 q4 => hf.nin h [5, 6, 7, 8, 9, 10, 13 + 2 * mi, 14 + 2 * mi] (by intro b hb; simp at hb; omega)
  have sub2 : ∀ {x y : mp_W}, mp_off [f (13 + 2 * mi), f (14 + 2 * mi)] x y → mp_off (fp_S f mi) x y := fun h => h.mono (fun q hq => by simp at hq ⊢; omega)
  have sub1 : ∀ {x y : mp_W}, mp_off [f 5, f 6] x y → mp_off (fp_S f mi) x y := fun h => h.mono (fun q hq => by simp at hq ⊢; omega)
  have sub7 : ∀ {x y : mp_W}, mp_off [f 7, f 8] x y → mp_off (fp_S f mi) x y := fun h => h.mono (fun q hq => by simp at hq ⊢; omega)
  obtain ⟨g, kT, kA, kf⟩ := id hS.2.1
  refine ct_goX (own := nm_S) (by decide) rfl (Nat.le_of_ble_eq_true rfl) ?_
  intro p e s m below meth c ls hE hI hr hk hout hl
  have hx := hE.1.1.1
  have hb := hE.1.1.2.1
  have hl : lv_has ls 5 [(0, .ref (f 2)), (1, .ref (f (13 + 2 * i))), (2, .int (ci_i n))] := hl
  refine lv_aload_n hx hb dS_close_0 rfl (lv_at hl 0 rfl) ?_
  refine mp_get hE.1 hI hS.1 rfl gx_S 0 (by decide) (List.mem_cons_of_mem _ gf_S14) rfl dS_close_1 ?_
  refine ct_V (n := 0) hE hI (kT_clear kT) kT rfl gm_S38 gi_T_clear gs_T_T_clear gz_T gc_T_clear (by decide +kernel) ⟨Nat.le_of_ble_eq_true rfl, Nat.le_of_ble_eq_true rfl⟩ rfl hl.1 rfl (Nat.le_of_ble_eq_true rfl) dS_close_4 ⟨Nat.le_of_ble_eq_true rfl, Nat.le_of_ble_eq_true rfl⟩ (fun v w1 H locs hq hI => ?_)
  obtain ⟨rfl, hw1⟩ := hq
  obtain ⟨hS1, ho1⟩ := hS.clear (n := 0) hf hm kA hw1
  clear hw1
  show W _ _ _ _ _ _ _ _ _ _ _ _ _ _ _ (F0 _ _ _ [])
  obtain ⟨g1, kT1, kA1, kf1⟩ := id hS1.2.1
  refine lv_aload_n hx hb dS_close_7 rfl (lv_at hl 0 rfl) ?_
  refine mp_get hE.1 hI hS1.1 rfl gx_S 0 (by decide) (List.mem_cons_of_mem _ gf_S14) rfl dS_close_8 ?_
  refine lv_bipush (v := ci_i (-2)) hx hb dS_close_11 (by decide) ?_
  refine ct_V (n := 1) hE hI (kT_add (z := -2) hS1.2.1 (by decide) (by simp)) kT1 rfl gm_S41 gi_T_add gs_T_T_add gz_T gc_T_add (by decide +kernel) ⟨Nat.le_of_ble_eq_true rfl, Nat.le_of_ble_eq_true rfl⟩ rfl hl.1 rfl (Nat.le_of_ble_eq_true rfl) dS_close_13 ⟨Nat.le_of_ble_eq_true rfl, Nat.le_of_ble_eq_true rfl⟩ (fun v w2 H locs hq hI => ?_)
  obtain ⟨rfl, ho2, hp2⟩ := hq
  have hS2 := hS1.made hf hm ho2 hp2
  show W _ _ _ _ _ _ _ _ _ _ _ _ _ _ _ (F0 _ _ _ [])
  obtain ⟨u0, hw0⟩ := id hS2.2.2.2.1
  obtain ⟨gw, iT, iA⟩ := id hw0
  refine lv_aload_n hx hb dS_close_16 rfl (lv_at hl 0 rfl) ?_
  refine mp_get hE.1 hI hS2.1 rfl gx_S 3 (by decide) (List.mem_cons_of_mem _ gf_S32) rfl dS_close_17 ?_
  refine ct_V (n := 0) hE hI (kW_start hw0) iT rfl gm_S56 gi_W_start gs_W_W_start gz_W gc_W_start (by decide +kernel) ⟨Nat.le_of_ble_eq_true rfl, Nat.le_of_ble_eq_true rfl⟩ rfl hl.1 rfl (Nat.le_of_ble_eq_true rfl) dS_close_20 ⟨Nat.le_of_ble_eq_true rfl, Nat.le_of_ble_eq_true rfl⟩ (fun v w3 H locs hq hI => ?_)
  obtain ⟨rfl, ho3, hw3⟩ := hq
  have hS3 := hS2.bin hf hm ho3 ⟨_, hw3⟩
  show W _ _ _ _ _ _ _ _ _ _ _ _ _ _ _ (F0 _ _ _ [])
  refine lv_iconst (v := 0) hx hb dS_close_23 (by decide) ?_
  refine lv_istore_n hx hb dS_close_24 rfl hl (by decide) rfl (fun ls hl => ?_)
  refine lp_4 (G := fun ls w2 H locs => W p l e _ s m _ below meth c H locs 0 0 _ (F0 m 25 ls [])) (I := fun k ls w2 H locs => ∃ r u M', k = A.length - r ∧ r ≤ A.length ∧ M'.length = r + 1 ∧ pt_ub u r ∧ M' ++ tm_fl 0 1 (tm_gb n) (A.drop r) u = -2 :: tm_fl 0 1 (tm_gb n) A ([], 0) ∧ lv_has ls 5 [(3, .int (nI r)), (0, .ref (f 2)), (1, .ref (f (13 + 2 * i))), (2, .int (ci_i n))] ∧ mp_off (fp_S f mi) w w2 ∧ pt_S K w2 f mi M' ∧ pt_W K w2 (f 7) (f 8) 0 1 u ∧ mp_I D cl_all (mp_A w s.heap.size) s.heap w2 H locs) ?_ (A.length - 0) ls w3 H locs ⟨0, ([], 0), [] ++ [-2], rfl, by omega, by simp, pt_ub0, rfl, hl, ((sub2 ho1).tr (sub2 ho2)).tr (sub7 ho3), hS3, hw3, hI⟩
  clear hl hI ho1 ho2 ho3 hw3 hw0 iT iA hS1 hS2 hS3 kT1 kA1 kf1 hp2
  intro k ls w2 H locs hk0 ih
  obtain ⟨r, u, M', rfl, hrb, hM', hub, heq, hl, ho, hS2, hw2, hI⟩ := hk0
  obtain ⟨ga, aT, aA, af, ac, ac2, ax⟩ := (ha.off ho (nf _ (by omega) (by omega) (by omega) (by omega)) (nf _ (by omega) (by omega) (by omega) (by omega))).out
  obtain ⟨g2, iT, iA⟩ := id hw2
  refine lv_iload_n hx hb dS_close_25 rfl (lv_at hl 0 rfl) ?_
  refine lv_aload_n hx hb dS_close_26 rfl (lv_at hl 2 rfl) ?_
  refine mp_getN hE.1 hI aT rfl gx_T 1 (by decide) (ct_nw hE (q := ("BindingBench$Workshop", 44, "BindingBench$Term", "size", "I")) (by decide +kernel)) rfl dS_close_27 ?_
  refine lv_icmp_ge (tgt := 84) hx hb dS_close_30 (by decide) (fun hq => ?_) (fun hq => ?_)
  · have hq : A.length ≤ r := (nI_leI (by omega) (by omega)).mp hq
    have : r = A.length := by omega
    subst this
    rw [List.drop_length] at heq
    have heq : M' ++ [] = _ := heq
    rw [List.append_nil] at heq
    subst heq
    refine lv_aload_n hx hb dS_close_84 rfl (lv_at hl 1 rfl) ?_
    obtain ⟨u4, hw4⟩ := hS2.2.2.1
    refine ct_VX (n := 0) hE hI (kS_checked hl0 hf hm hS2.1 hS2.2.1 (by rw [List.length_cons, tm_fl_lenb]; omega) (fun _ => hres) hw4) hS2.1 rfl gm_S52 gi_S_checked gs_S_S_checked gz_S gc_S_checked (by decide +kernel) ⟨Nat.le_of_ble_eq_true rfl, Nat.le_of_ble_eq_true rfl⟩ rfl hl.1 rfl (Nat.le_of_ble_eq_true rfl) dS_close_85 ⟨Nat.le_of_ble_eq_true rfl, Nat.le_of_ble_eq_true rfl⟩ (fun v w5 H locs hq hI => ?_) (fun E q ce w5 H locs ht hI hq hv hcl => ?_)
    · obtain ⟨rfl, hn, ho5, hu5⟩ := hq
      exact vx_ret (ct_aret hE hI hr (Or.inl ⟨_, rfl⟩) hk ⟨rfl, hn, ho.tr (sub1 ho5), hS2.lev hf hm ho5 hu5⟩ (by decide) (by decide) dS_close_88)
    · obtain ⟨rfl, hn, ho5, hu5⟩ := ht
      exact ct_out hI hout hk hq hv hcl ⟨rfl, hn, ho.tr (sub1 ho5), _, hS2.lev hf hm ho5 hu5⟩ (by decide) (by decide)
  · have hq : r < A.length := Nat.lt_of_not_le (fun h => hq (nI_le h (by omega)))
    obtain ⟨x, e1, m1⟩ := pt_at hq
    have b1 := ax x m1
    have hu2 := hub.1
    rw [pt_drop e1, tm_fl_cons] at heq
    obtain ⟨gm, mT, mA, mf⟩ := id hS2.2.1
    refine lv_aload_n hx hb dS_close_33 rfl (lv_at hl 2 rfl) ?_
    refine mp_getN hE.1 hI aT rfl gx_T 0 (by decide) (ct_nw hE (q := ("BindingBench$Workshop", 59, "BindingBench$Term", "cells", "[I")) (by decide +kernel)) rfl dS_close_34 ?_
    refine lv_iload_n hx hb dS_close_37 rfl (lv_at hl 0 rfl) ?_
    refine mp_ild hE.1 hI aA 0 rfl (vp_in_nI (by omega) (by omega)) dS_close_38 ?_
    rw [nI_clamp (by omega), af r x e1]
    refine lv_istore hx hb dS_close_39 hl (by decide) rfl (fun ls hl => ?_)
    refine lv_aload_n hx hb dS_close_41 rfl (lv_at hl 2 rfl) ?_
    refine mp_get hE.1 hI hS2.1 rfl gx_S 0 (by decide) (List.mem_cons_of_mem _ gf_S14) rfl dS_close_42 ?_
    refine lv_iload hx hb dS_close_45 (lv_at hl 0 rfl) ?_
    refine lv_iload_n hx hb dS_close_47 rfl (lv_at hl 4 rfl) ?_
    have adding : ∀ z, tm_gb n x u.2 = [z] → ∀ ls, lv_has ls 5 [(4, .int (ci_i x)), (3, .int (nI r)), (0, .ref (f 2)), (1, .ref (f (13 + 2 * i))), (2, .int (ci_i n))] → W p l e { frames := 7, cells := 1, slots := 6, locals := 180 } s m ([Value.ref (f 2), .ref (f (13 + 2 * i)), .int (ci_i n)] : List Value).toArray below meth c H locs 0 0 (vx_MQ below (ct_Q D w s.heap.size (fun v w' => v = some (.ref (f (13 + 2 * mi))) ∧ ¬ pt_bad (-2 :: tm_fl 0 1 (tm_gb n) A ([], 0)) ∧ mp_off (fp_S f mi) w w' ∧ pt_S K w' f mi (-2 :: tm_fl 0 1 (tm_gb n) A ([], 0)))) (ct_C D w s.heap.size (fun E w' => E = "java/lang/IllegalStateException" ∧ pt_bad (-2 :: tm_fl 0 1 (tm_gb n) A ([], 0)) ∧ mp_off (fp_S f mi) w w' ∧ ∃ M', pt_S K w' f mi M')) ([Value.ref (f 2), .ref (f (13 + 2 * i)), .int (ci_i n)] : List Value).toArray s 1 6 (mp_A w s.heap.size)) (F0 m 66 ls [.int (ci_i z), .ref (f (13 + 2 * mi))]) := by
      intro z hz ls hl
      refine ct_V (n := 1) hE hI (kT_add (z := z) hS2.2.1 (by decide) (by omega)) mT rfl gm_S41 gi_T_add gs_T_T_add gz_T gc_T_add (by decide +kernel) ⟨Nat.le_of_ble_eq_true rfl, Nat.le_of_ble_eq_true rfl⟩ rfl hl.1 rfl (Nat.le_of_ble_eq_true rfl) dS_close_66 ⟨Nat.le_of_ble_eq_true rfl, Nat.le_of_ble_eq_true rfl⟩ (fun v w3 H locs hq hI => ?_)
      obtain ⟨rfl, ho3, hp3⟩ := hq
      have hS3 := hS2.made hf hm ho3 hp3
      have hw3 : pt_W K w3 (f 7) (f 8) 0 1 u := hw2.off ho3 (nm _ (by omega) (by omega) (by omega)) (nm _ (by omega) (by omega) (by omega))
      obtain ⟨g3, iT3, iA3⟩ := id hw3
      show W _ _ _ _ _ _ _ _ _ _ _ _ _ _ _ (F0 _ _ _ [])
      refine lv_aload_n hx hb dS_close_69 rfl (lv_at hl 2 rfl) ?_
      refine mp_get hE.1 hI hS3.1 rfl gx_S 3 (by decide) (List.mem_cons_of_mem _ gf_S32) rfl dS_close_70 ?_
      refine lv_iload hx hb dS_close_73 (lv_at hl 0 rfl) ?_
      refine ct_V (n := 1) hE hI (kW_pass (x := x) hw3 b1 (by omega)) iT3 rfl gm_S66 gi_W_pass gs_W_W_pass gz_W gc_W_pass (by decide +kernel) ⟨Nat.le_of_ble_eq_true rfl, Nat.le_of_ble_eq_true rfl⟩ rfl hl.1 rfl (Nat.le_of_ble_eq_true rfl) dS_close_75 ⟨Nat.le_of_ble_eq_true rfl, Nat.le_of_ble_eq_true rfl⟩ (fun v w4 H locs hq hI => ?_)
      obtain ⟨rfl, ho4, hw4⟩ := hq
      show W _ _ _ _ _ _ _ _ _ _ _ _ _ _ _ (F0 _ _ _ [])
      refine lv_iinc (k := 1) (v := nI (r + 1)) hx hb dS_close_78 hl rfl (nI_1 r) (by decide) rfl (fun ls hl => ?_)
      refine lv_goto (tgt := 25) hx hb dS_close_81 (by decide) ?_
      have hl := lv_sub hl [0, 2, 3, 4] rfl
      refine ih (A.length - (r + 1)) ls w4 H locs (by omega) ⟨r + 1, tm_wk 0 1 u x, M' ++ [z], rfl, by omega, by rw [List.length_append]; show M'.length + 1 = _; omega, hub.wk (by omega) (by omega) x, ?_, hl, (ho.tr (sub2 ho3)).tr (sub7 ho4), hS3.bin hf hm ho4 ⟨_, hw4⟩, hw4, hI⟩
      rw [← heq, hz, List.append_assoc]
    refine lv_icmp_ne (tgt := 64) hx hb dS_close_48 (by decide) (fun hy => ?_) (fun hy => ?_)
    · have hy : ¬ x = n := fun q => hy (by rw [q])
      refine lv_iload hx hb dS_close_64 (lv_at hl 0 rfl) ?_
      exact adding x (by unfold tm_gb; rw [if_neg hy]) ls hl
    · have hy : x = n := (ci_eq (by omega) (by omega)).mp hy
      refine lv_bipush (v := nI 100) hx hb dS_close_51 (by decide) ?_
      refine lv_aload_n hx hb dS_close_53 rfl (lv_at hl 2 rfl) ?_
      refine mp_get hE.1 hI hS2.1 rfl gx_S 3 (by decide) (List.mem_cons_of_mem _ gf_S32) rfl dS_close_54 ?_
      refine mp_getN hE.1 hI iT rfl gx_W 4 (by decide) (ct_nw hE (q := ("BindingBench$Workshop", 63, "BindingBench$Walk", "count", "I")) (by decide +kernel)) rfl dS_close_57 ?_
      refine lv_iadd hx hb dS_close_60 ?_
      rw [nI_add, ← ci_nat]
      refine lv_goto (tgt := 66) hx hb dS_close_61 (by decide) ?_
      exact adding _ (by unfold tm_gb; rw [if_pos hy]; rfl) ls hl
end KS5
