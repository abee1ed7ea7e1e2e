/-! Workshop: replace, fill, cut, contract -/
section KS6
variable {l : Launch} {n0 : Nat} {D : va_G} {K : Nat → ClassId} {w : mp_W} {f : Nat → Nat} {mi : Nat}
/-- how a call of the Workshop that makes the row N ends -/
abbrev po_N (K : Nat → ClassId) (f : Nat → Nat) (mi : Nat) (w : mp_W) (N : List Int) : Option Value → mp_W → Prop := fun v w' => v = some (.ref (f (13 + 2 * mi))) ∧ ¬ pt_bad N ∧ mp_off (fp_S f mi) w w' ∧ pt_S K w' f mi N
abbrev th_N (K : Nat → ClassId) (f : Nat → Nat) (mi : Nat) (w : mp_W) (N : List Int) : String → mp_W → Prop := fun E w' => E = "java/lang/IllegalStateException" ∧ pt_bad N ∧ mp_off (fp_S f mi) w w' ∧ ∃ M', pt_S K w' f mi M'
theorem pt_fill_len (La Lb : List Int) : ∀ u, (pt_fill La Lb u).length ≤ La.length * (Lb.length + 1) := by
  induction La with
  | nil => intro u; exact Nat.zero_le _
  | cons x La ih =>
    intro u
    have e : pt_fill (x :: La) Lb u = tm_gf (fun k => tm_fl 0 1 (tm_gr k) Lb ([], 0)) x u.2 ++ pt_fill La Lb (tm_wk 0 1 u x) := tm_fl_cons ..
    rw [e, List.length_append, List.length_cons, Nat.add_mul, Nat.one_mul]
    have h1 := ih (tm_wk 0 1 u x)
    have h2 : (tm_gf (fun k => tm_fl 0 1 (tm_gr k) Lb ([], 0)) x u.2).length ≤ Lb.length + 1 := by
      unfold tm_gf
      split
      · rw [tm_fl_len1]; omega
      · simp
    omega
theorem pt_fill_len2 {La Lb : List Int} (ha : La.length ≤ 2000) (hb : Lb.length ≤ 2000) (u : List Nat × Nat) : (pt_fill La Lb u).length ≤ 4002000 := Nat.le_trans (pt_fill_len La Lb u) (Nat.le_trans (Nat.mul_le_mul ha (Nat.add_le_add_right hb 1)) (by decide))
set_option maxRecDepth 100000 in
theorem kS_replace (hl0 : l.stackTraces = false) {i j ci cj : Nat} {n : Int} {M A B : List Int} (hf : ph_i f) (hm : mi = 16 ∨ mi = 17) (hS : pt_S K w f mi M) (hi : i < 18) (him : i ≠ mi) (hj : j < 18) (hjm : j ≠ mi) (ha : pt_R K w (f (13 + 2 * i)) (f (14 + 2 * i)) ci A) (hb' : pt_R K w (f (13 + 2 * j)) (f (14 + 2 * j)) cj B) (hn0 : 0 ≤ n) (hn9 : n ≤ 99) (hres : ∀ x ∈ A.flatMap (fun x => if x = n then B else [x]), -2 ≤ x ∧ x ≤ 1000000) :
    ct_X l n0 D K yS_replace (Cond.code yS_replace cS_replace 5 (some (.object "BindingBench$Term"))) 7 180 1 6 [.ref (f 2), .ref (f (13 + 2 * i)), .int (ci_i n), .ref (f (13 + 2 * j))] w (po_N K f mi w (A.flatMap (fun x => if x = n then B else [x]))) (th_N K f mi w (A.flatMap (fun x => if x = n then B else [x]))) := by
  have hA2 : A.length ≤ 2000 := Nat.le_trans ha.2.1 ha.2.2.1
  have hB2 : B.length ≤ 2000 := Nat.le_trans hb'.2.1 hb'.2.2.1
  have nf : ∀ x, 12 < x → x < 49 → x ≠ 13 + 2 * mi → x ≠ 14 + 2 * mi → f x ∉ fp_S f mi := fun x h0 h q3 q4 => hf.nin h [5, 6, 7, 8, 9, 10, 13 + 2 * mi, 14 + 2 * mi] (by intro b hb; simp at hb; omega)
  have sub2 : ∀ {x y : mp_W}, mp_off [f (13 + 2 * mi), f (14 + 2 * mi)] x y → mp_off (fp_S f mi) x y := fun h => h.mono (fun q hq => by simp at hq ⊢; omega)
  have sub1 : ∀ {x y : mp_W}, mp_off [f 5, f 6] x y → mp_off (fp_S f mi) x y := fun h => h.mono (fun q hq => by simp at hq ⊢; omega)
  obtain ⟨g, kT, kA, kf⟩ := id hS.2.1
  refine ct_goX (own := nm_S) (by decide) rfl (Nat.le_of_ble_eq_true rfl) ?_
  intro p e s m below meth c ls hE hI hr hk hout hl
  have hx := hE.1.1.1
  have hb := hE.1.1.2.1
  have hl : lv_has ls 5 [(0, .ref (f 2)), (1, .ref (f (13 + 2 * i))), (2, .int (ci_i n)), (3, .ref (f (13 + 2 * j)))] := hl
  refine lv_aload_n hx hb dS_replace_0 rfl (lv_at hl 0 rfl) ?_
  refine mp_get hE.1 hI hS.1 rfl gx_S 0 (by decide) (List.mem_cons_of_mem _ gf_S14) rfl dS_replace_1 ?_
  refine ct_V (n := 0) hE hI (kT_clear kT) kT rfl gm_S38 gi_T_clear gs_T_T_clear gz_T gc_T_clear (by decide +kernel) ⟨Nat.le_of_ble_eq_true rfl, Nat.le_of_ble_eq_true rfl⟩ rfl hl.1 rfl (Nat.le_of_ble_eq_true rfl) dS_replace_4 ⟨Nat.le_of_ble_eq_true rfl, Nat.le_of_ble_eq_true rfl⟩ (fun v w1 H locs hq hI => ?_)
  obtain ⟨rfl, hw1⟩ := hq
  obtain ⟨hS1, ho1⟩ := hS.clear (n := 0) hf hm kA hw1
  clear hw1
  show W _ _ _ _ _ _ _ _ _ _ _ _ _ _ _ (F0 _ _ _ [])
  refine lv_iconst (v := 0) hx hb dS_replace_7 (by decide) ?_
  refine lv_istore hx hb dS_replace_8 hl (by decide) rfl (fun ls hl => ?_)
  refine lp_4 (G := fun ls w2 H locs => W p l e _ s m _ below meth c H locs 0 0 _ (F0 m 10 ls [])) (I := fun k ls w2 H locs => ∃ r M', k = A.length - r ∧ r ≤ A.length ∧ M'.length ≤ 2000 * r ∧ M' ++ (A.drop r).flatMap (fun x => if x = n then B else [x]) = A.flatMap (fun x => if x = n then B else [x]) ∧ lv_has ls 5 [(4, .int (nI r)), (0, .ref (f 2)), (1, .ref (f (13 + 2 * i))), (2, .int (ci_i n)), (3, .ref (f (13 + 2 * j)))] ∧ mp_off (fp_S f mi) w w2 ∧ pt_S K w2 f mi M' ∧ mp_I D cl_all (mp_A w s.heap.size) s.heap w2 H locs) ?_ (A.length - 0) ls w1 H locs ⟨0, [], rfl, by omega, by simp, rfl, hl, sub2 ho1, hS1, hI⟩
  clear hl hI ho1 hS1
  intro k ls w2 H locs hk0 ih
  obtain ⟨r, M', rfl, hrb, hM', heq, hl, ho, hS2, hI⟩ := hk0
  obtain ⟨ga, aT, aA, af, ac, ac2, ax⟩ := (ha.off ho (nf _ (by omega) (by omega) (by omega) (by omega)) (nf _ (by omega) (by omega) (by omega) (by omega))).out
  obtain ⟨gb, bT, bA, bf, bc, bc2, bx⟩ := (hb'.off ho (nf _ (by omega) (by omega) (by omega) (by omega)) (nf _ (by omega) (by omega) (by omega) (by omega))).out
  refine lv_iload hx hb dS_replace_10 (lv_at hl 0 rfl) ?_
  refine lv_aload_n hx hb dS_replace_12 rfl (lv_at hl 2 rfl) ?_
  refine mp_getN hE.1 hI aT rfl gx_T 1 (by decide) (ct_nw hE (q := ("BindingBench$Workshop", 44, "BindingBench$Term", "size", "I")) (by decide +kernel)) rfl dS_replace_13 ?_
  refine lv_icmp_ge (tgt := 66) hx hb dS_replace_16 (by decide) (fun hq => ?_) (fun hq => ?_)
  · have hq : A.length ≤ r := (nI_leI (by omega) (by omega)).mp hq
    have : r = A.length := by omega
    subst this
    rw [List.drop_length] at heq
    have heq : M' ++ [] = _ := heq
    rw [List.append_nil] at heq
    subst heq
    refine lv_aload_n hx hb dS_replace_66 rfl (lv_at hl 1 rfl) ?_
    obtain ⟨u4, hw4⟩ := hS2.2.2.1
    refine ct_VX (n := 0) hE hI (kS_checked hl0 hf hm hS2.1 hS2.2.1 (by omega) (fun _ => hres) hw4) hS2.1 rfl gm_S52 gi_S_checked gs_S_S_checked gz_S gc_S_checked (by decide +kernel) ⟨Nat.le_of_ble_eq_true rfl, Nat.le_of_ble_eq_true rfl⟩ rfl hl.1 rfl (Nat.le_of_ble_eq_true rfl) dS_replace_67 ⟨Nat.le_of_ble_eq_true rfl, Nat.le_of_ble_eq_true rfl⟩ (fun v w5 H locs hq hI => ?_) (fun E q ce w5 H locs ht hI hq hv hcl => ?_)
    · obtain ⟨rfl, hn, ho5, hu5⟩ := hq
      exact vx_ret (ct_aret hE hI hr (Or.inl ⟨_, rfl⟩) hk ⟨rfl, hn, ho.tr (sub1 ho5), hS2.lev hf hm ho5 hu5⟩ (by decide) (by decide) dS_replace_70)
    · obtain ⟨rfl, hn, ho5, hu5⟩ := ht
      exact ct_out hI hout hk hq hv hcl ⟨rfl, hn, ho.tr (sub1 ho5), _, hS2.lev hf hm ho5 hu5⟩ (by decide) (by decide)
  · have hq : r < A.length := Nat.lt_of_not_le (fun h => hq (nI_le h (by omega)))
    obtain ⟨x, e1, m1⟩ := pt_at hq
    have b1 := ax x m1
    rw [pt_drop e1, List.flatMap_cons] at heq
    obtain ⟨gm, mT, mA, mf⟩ := id hS2.2.1
    refine lv_aload_n hx hb dS_replace_19 rfl (lv_at hl 2 rfl) ?_
    refine mp_getN hE.1 hI aT rfl gx_T 0 (by decide) (ct_nw hE (q := ("BindingBench$Workshop", 59, "BindingBench$Term", "cells", "[I")) (by decide +kernel)) rfl dS_replace_20 ?_
    refine lv_iload hx hb dS_replace_23 (lv_at hl 0 rfl) ?_
    refine mp_ild hE.1 hI aA 0 rfl (vp_in_nI (by omega) (by omega)) dS_replace_25 ?_
    rw [nI_clamp (by omega), af r x e1]
    refine lv_iload_n hx hb dS_replace_26 rfl (lv_at hl 3 rfl) ?_
    refine lv_icmp_ne (tgt := 46) hx hb dS_replace_27 (by decide) (fun hy => ?_) (fun hy => ?_)
    · have hy : ¬ x = n := fun q => hy (by rw [q])
      rw [if_neg hy] at heq
      refine lv_aload_n hx hb dS_replace_46 rfl (lv_at hl 1 rfl) ?_
      refine mp_get hE.1 hI hS2.1 rfl gx_S 0 (by decide) (List.mem_cons_of_mem _ gf_S14) rfl dS_replace_47 ?_
      refine lv_aload_n hx hb dS_replace_50 rfl (lv_at hl 2 rfl) ?_
      refine mp_getN hE.1 hI aT rfl gx_T 0 (by decide) (ct_nw hE (q := ("BindingBench$Workshop", 59, "BindingBench$Term", "cells", "[I")) (by decide +kernel)) rfl dS_replace_51 ?_
      refine lv_iload hx hb dS_replace_54 (lv_at hl 0 rfl) ?_
      refine mp_ild hE.1 hI aA 0 rfl (vp_in_nI (by omega) (by omega)) dS_replace_56 ?_
      rw [nI_clamp (by omega), af r x e1]
      refine ct_V (n := 1) hE hI (kT_add (z := x) hS2.2.1 (by decide) (by omega)) mT rfl gm_S41 gi_T_add gs_T_T_add gz_T gc_T_add (by decide +kernel) ⟨Nat.le_of_ble_eq_true rfl, Nat.le_of_ble_eq_true rfl⟩ rfl hl.1 rfl (Nat.le_of_ble_eq_true rfl) dS_replace_57 ⟨Nat.le_of_ble_eq_true rfl, Nat.le_of_ble_eq_true rfl⟩ (fun v w3 H locs hq hI => ?_)
      obtain ⟨rfl, ho3, hp3⟩ := hq
      show W _ _ _ _ _ _ _ _ _ _ _ _ _ _ _ (F0 _ _ _ [])
      refine lv_iinc (k := 0) (v := nI (r + 1)) hx hb dS_replace_60 hl rfl (nI_1 r) (by decide) rfl (fun ls hl => ?_)
      refine lv_goto (tgt := 10) hx hb dS_replace_63 (by decide) ?_
      refine ih (A.length - (r + 1)) ls w3 H locs (by omega) ⟨r + 1, M' ++ [x], rfl, by omega, by rw [List.length_append]; show M'.length + 1 ≤ _; omega, ?_, hl, ho.tr (sub2 ho3), hS2.made hf hm ho3 hp3, hI⟩
      rw [← heq, List.append_assoc]
    · have hy : x = n := (ci_eq (by omega) (by omega)).mp hy
      rw [if_pos hy] at heq
      refine lv_aload_n hx hb dS_replace_30 rfl (lv_at hl 1 rfl) ?_
      refine mp_get hE.1 hI hS2.1 rfl gx_S 0 (by decide) (List.mem_cons_of_mem _ gf_S14) rfl dS_replace_31 ?_
      refine lv_aload_n hx hb dS_replace_34 rfl (lv_at hl 4 rfl) ?_
      refine lv_iconst (v := nI 0) hx hb dS_replace_35 (by decide) ?_
      refine lv_aload_n hx hb dS_replace_36 rfl (lv_at hl 4 rfl) ?_
      refine mp_getN hE.1 hI bT rfl gx_T 1 (by decide) (ct_nw hE (q := ("BindingBench$Workshop", 44, "BindingBench$Term", "size", "I")) (by decide +kernel)) rfl dS_replace_37 ?_
      refine ct_V (n := 3) hE hI (kT_addAll (a := 0) (b := B.length) hS2.2.1 bT bA bf bc (by omega) (by omega) (by decide) (by omega) (by omega)) mT rfl gm_S48 gi_T_addAll gs_T_T_addAll gz_T gc_T_addAll (by decide +kernel) ⟨Nat.le_of_ble_eq_true rfl, Nat.le_of_ble_eq_true rfl⟩ rfl hl.1 rfl (Nat.le_of_ble_eq_true rfl) dS_replace_40 ⟨Nat.le_of_ble_eq_true rfl, Nat.le_of_ble_eq_true rfl⟩ (fun v w3 H locs hq hI => ?_)
      obtain ⟨rfl, ho3, hp3⟩ := hq
      rw [show List.take (B.length - 0) (List.drop 0 B) = B by simp] at hp3
      show W _ _ _ _ _ _ _ _ _ _ _ _ _ _ _ (F0 _ _ _ [])
      refine lv_goto (tgt := 60) hx hb dS_replace_43 (by decide) ?_
      refine lv_iinc (k := 0) (v := nI (r + 1)) hx hb dS_replace_60 hl rfl (nI_1 r) (by decide) rfl (fun ls hl => ?_)
      refine lv_goto (tgt := 10) hx hb dS_replace_63 (by decide) ?_
      refine ih (A.length - (r + 1)) ls w3 H locs (by omega) ⟨r + 1, M' ++ B, rfl, by omega, by rw [List.length_append]; omega, ?_, hl, ho.tr (sub2 ho3), hS2.made hf hm ho3 hp3, hI⟩
      rw [← heq, List.append_assoc]
set_option maxRecDepth 100000 in
theorem kS_fill (hl0 : l.stackTraces = false) {i j ci cj : Nat} {M A B : List Int} (hf : ph_i f) (hm : mi = 16 ∨ mi = 17) (hS : pt_S K w f mi M) (hi : i < 18) (him : i ≠ mi) (hj : j < 18) (hjm : j ≠ mi) (ha : pt_R K w (f (13 + 2 * i)) (f (14 + 2 * i)) ci A) (hb' : pt_R K w (f (13 + 2 * j)) (f (14 + 2 * j)) cj B) (hA1 : 1 ≤ A.length) (hres : (pt_fill (A.drop 1) B ([], 0)).length ≤ 2000 → ∀ x ∈ pt_fill (A.drop 1) B ([], 0), -2 ≤ x ∧ x ≤ 1000000) :
    ct_X l n0 D K yS_fill (Cond.code yS_fill cS_fill 3 (some (.object "BindingBench$Term"))) 7 200 1 6 [.ref (f 2), .ref (f (13 + 2 * i)), .ref (f (13 + 2 * j))] w (po_N K f mi w (pt_fill (A.drop 1) B ([], 0))) (th_N K f mi w (pt_fill (A.drop 1) B ([], 0))) := by
  have hA2 : A.length ≤ 2000 := Nat.le_trans ha.2.1 ha.2.2.1
  have hB2 : B.length ≤ 2000 := Nat.le_trans hb'.2.1 hb'.2.2.1
  have nf : ∀ x, 12 < x → x < 49 → x ≠ 13 + 2 * mi → x ≠ 14 + 2 * mi → f x ∉ fp_S f mi := fun x h0 h q3 q4 => hf.nin h [5, 6, 7, 8, 9, 10, 13 + 2 * mi, 14 + 2 * mi] (by intro b hb; simp at hb; omega)
  have sub2 : ∀ {x y : mp_W}, mp_off [f (13 + 2 * mi), f (14 + 2 * mi)] x y → mp_off (fp_S f mi) x y := fun h => h.mono (fun q hq => by simp at hq ⊢; omega)
  have sub1 : ∀ {x y : mp_W}, mp_off [f 5, f 6] x y → mp_off (fp_S f mi) x y := fun h => h.mono (fun q hq => by simp at hq ⊢; omega)
  have sub3 : ∀ {x y : mp_W}, mp_off (fp_F f mi) x y → mp_off (fp_S f mi) x y := fun h => h.mono (fun q hq => by simp at hq ⊢; omega)
  obtain ⟨g, kT, kA, kf⟩ := id hS.2.1
  refine ct_goX (own := nm_S) (by decide) rfl (Nat.le_of_ble_eq_true rfl) ?_
  intro p e s m below meth c ls hE hI hr hk hout hl
  have hx := hE.1.1.1
  have hb := hE.1.1.2.1
  have hl : lv_has ls 3 [(0, .ref (f 2)), (1, .ref (f (13 + 2 * i))), (2, .ref (f (13 + 2 * j)))] := hl
  refine lv_aload_n hx hb dS_fill_0 rfl (lv_at hl 0 rfl) ?_
  refine mp_get hE.1 hI hS.1 rfl gx_S 0 (by decide) (List.mem_cons_of_mem _ gf_S14) rfl dS_fill_1 ?_
  refine ct_V (n := 0) hE hI (kT_clear kT) kT rfl gm_S38 gi_T_clear gs_T_T_clear gz_T gc_T_clear (by decide +kernel) ⟨Nat.le_of_ble_eq_true rfl, Nat.le_of_ble_eq_true rfl⟩ rfl hl.1 rfl (Nat.le_of_ble_eq_true rfl) dS_fill_4 ⟨Nat.le_of_ble_eq_true rfl, Nat.le_of_ble_eq_true rfl⟩ (fun v w1 H locs hq hI => ?_)
  obtain ⟨rfl, hw1⟩ := hq
  obtain ⟨hS1, ho1⟩ := hS.clear (n := 0) hf hm kA hw1
  clear hw1
  show W _ _ _ _ _ _ _ _ _ _ _ _ _ _ _ (F0 _ _ _ [])
  have ha1 := ha.off (sub2 ho1) (nf _ (by omega) (by omega) (by omega) (by omega)) (nf _ (by omega) (by omega) (by omega) (by omega))
  have hb1 := hb'.off (sub2 ho1) (nf _ (by omega) (by omega) (by omega) (by omega)) (nf _ (by omega) (by omega) (by omega) (by omega))
  obtain ⟨ga, aT, -⟩ := ha1.out
  obtain ⟨gb, bT, -⟩ := hb1.out
  refine lv_aload_n hx hb dS_fill_7 rfl (lv_at hl 0 rfl) ?_
  refine lv_aload_n hx hb dS_fill_8 rfl (lv_at hl 1 rfl) ?_
  refine lv_iconst (v := nI 1) hx hb dS_fill_9 (by decide) ?_
  refine lv_aload_n hx hb dS_fill_10 rfl (lv_at hl 1 rfl) ?_
  refine mp_getN hE.1 hI aT rfl gx_T 1 (by decide) (ct_nw hE (q := ("BindingBench$Workshop", 44, "BindingBench$Term", "size", "I")) (by decide +kernel)) rfl dS_fill_11 ?_
  refine lv_aload_n hx hb dS_fill_14 rfl (lv_at hl 2 rfl) ?_
  refine lv_iconst (v := nI 0) hx hb dS_fill_15 (by decide) ?_
  refine lv_aload_n hx hb dS_fill_16 rfl (lv_at hl 2 rfl) ?_
  refine mp_getN hE.1 hI bT rfl gx_T 1 (by decide) (ct_nw hE (q := ("BindingBench$Workshop", 44, "BindingBench$Term", "size", "I")) (by decide +kernel)) rfl dS_fill_17 ?_
  refine ct_V (n := 6) hE hI (kS_addFilled (a := 1) (b := A.length) (c := 0) (d := B.length) hf hm hS1 hi him hj hjm ha1 hb1 hA1 (by omega) (by omega) (by omega) (by simp)) hS1.1 rfl gm_S69 gi_S_addFilled gs_S_S_addFilled gz_S gc_S_addFilled (by decide +kernel) ⟨Nat.le_of_ble_eq_true rfl, Nat.le_of_ble_eq_true rfl⟩ rfl hl.1 rfl (Nat.le_of_ble_eq_true rfl) dS_fill_20 ⟨Nat.le_of_ble_eq_true rfl, Nat.le_of_ble_eq_true rfl⟩ (fun v w2 H locs hq hI => ?_)
  obtain ⟨rfl, ho2, hS2⟩ := hq
  have e2 : [] ++ pt_fill (List.take (A.length - 1) (List.drop 1 A)) (List.take (B.length - 0) (List.drop 0 B)) ([], 0) = pt_fill (A.drop 1) B ([], 0) := by
    rw [List.nil_append, show List.take (B.length - 0) (List.drop 0 B) = B by simp, List.take_of_length_le (by rw [List.length_drop]; omega)]
  rw [e2] at hS2
  show W _ _ _ _ _ _ _ _ _ _ _ _ _ _ _ (F0 _ _ _ [])
  refine lv_aload_n hx hb dS_fill_23 rfl (lv_at hl 0 rfl) ?_
  obtain ⟨u4, hw4⟩ := hS2.2.2.1
  have hlen := pt_fill_len2 (La := A.drop 1) (Lb := B) (by rw [List.length_drop]; omega) hB2 ([], 0)
  refine ct_VX (n := 0) hE hI (kS_checked hl0 hf hm hS2.1 hS2.2.1 (by omega) hres hw4) hS2.1 rfl gm_S52 gi_S_checked gs_S_S_checked gz_S gc_S_checked (by decide +kernel) ⟨Nat.le_of_ble_eq_true rfl, Nat.le_of_ble_eq_true rfl⟩ rfl hl.1 rfl (Nat.le_of_ble_eq_true rfl) dS_fill_24 ⟨Nat.le_of_ble_eq_true rfl, Nat.le_of_ble_eq_true rfl⟩ (fun v w5 H locs hq hI => ?_) (fun E q ce w5 H locs ht hI hq hv hcl => ?_)
  · obtain ⟨rfl, hn, ho5, hu5⟩ := hq
    exact vx_ret (ct_aret hE hI hr (Or.inl ⟨_, rfl⟩) hk ⟨rfl, hn, ((sub2 ho1).tr (sub3 ho2)).tr (sub1 ho5), hS2.lev hf hm ho5 hu5⟩ (by decide) (by decide) dS_fill_27)
  · obtain ⟨rfl, hn, ho5, hu5⟩ := ht
    exact ct_out hI hout hk hq hv hcl ⟨rfl, hn, ((sub2 ho1).tr (sub3 ho2)).tr (sub1 ho5), _, hS2.lev hf hm ho5 hu5⟩ (by decide) (by decide)
end KS6
