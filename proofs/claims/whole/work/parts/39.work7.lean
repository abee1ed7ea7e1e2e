/-! Workshop: cut, contract, reduced -/
section KS7
variable {l : Launch} {n0 : Nat} {D : va_G} {K : Nat → ClassId} {w : mp_W} {f : Nat → Nat} {mi : Nat}
set_option maxRecDepth 100000 in
theorem kS_cut {i ci e1 : Nat} {v0 : Int32} {M A : List Int} (hf : ph_i f) (hm : mi = 16 ∨ mi = 17) (hS : pt_S K w f mi M) (hi : i < 18) (him : i ≠ mi) (ha : pt_R K w (f (13 + 2 * i)) (f (14 + 2 * i)) ci A) (he : 1 + tm_en tm_kc (A.drop 1) 1 = e1) (hA1 : e1 ≤ A.length) :
    ct_M l n0 D K yS_cut (Cond.code yS_cut cS_cut 4 (some (.object "BindingBench$Term"))) 2 90 0 0 [.ref (f 2), .ref (f (13 + 2 * i)), .int v0] w (fun v w' => v = some (.ref (f (13 + 2 * mi))) ∧ mp_off (fp_S f mi) w w' ∧ pt_S K w' f mi (if v0 = 0 then (A.drop 1).take (e1 - 1) else A.drop e1)) := by
  have hA2 : A.length ≤ 2000 := Nat.le_trans ha.2.1 ha.2.2.1
  have nf : ∀ x, 12 < x → x < 49 → x ≠ 13 + 2 * mi → x ≠ 14 + 2 * mi → f x ∉ fp_S f mi := fun x h0 h q3 q4 => hf.nin h [5, 6, 7, 8, 9, 10, 13 + 2 * mi, 14 + 2 * mi] (by intro b hb; simp at hb; omega)
  have sub2 : ∀ {x y : mp_W}, mp_off [f (13 + 2 * mi), f (14 + 2 * mi)] x y → mp_off (fp_S f mi) x y := fun h => h.mono (fun q hq => by simp at hq ⊢; omega)
  obtain ⟨g, kT, kA, kf⟩ := id hS.2.1
  obtain ⟨ga0, aT0, -⟩ := ha.out
  refine ct_go (own := nm_S) (by decide) rfl (Nat.le_of_ble_eq_true rfl) ?_
  intro p e s m below meth c ls hE hI hr hk hn hl
  have hx := hE.1.1.1
  have hb := hE.1.1.2.1
  have hl : lv_has ls 4 [(0, .ref (f 2)), (1, .ref (f (13 + 2 * i))), (2, .int v0)] := hl
  refine lv_aload_n hx hb dS_cut_0 rfl (lv_at hl 1 rfl) ?_
  refine lv_iconst (v := nI 1) hx hb dS_cut_1 (by decide) ?_
  refine ct_V (n := 1) hE hI (kT_endOf (a := 1) ha (by omega)) aT0 rfl gm_S73 gi_T_endOf gs_T_T_endOf gz_T gc_T_endOf (by decide +kernel) ⟨Nat.le_of_ble_eq_true rfl, Nat.le_of_ble_eq_true rfl⟩ rfl hl.1 rfl (Nat.le_of_ble_eq_true rfl) dS_cut_2 ⟨Nat.le_of_ble_eq_true rfl, Nat.le_of_ble_eq_true rfl⟩ (fun v w1 H locs hq hI => ?_)
  obtain ⟨hw, rfl⟩ := hq
  subst w1
  rw [he]
  show W _ _ _ _ _ _ _ _ _ _ _ _ _ _ _ (F0 _ _ _ [.int _])
  refine lv_istore_n hx hb dS_cut_5 rfl hl (by decide) rfl (fun ls hl => ?_)
  refine lv_aload_n hx hb dS_cut_6 rfl (lv_at hl 1 rfl) ?_
  refine mp_get hE.1 hI hS.1 rfl gx_S 0 (by decide) (List.mem_cons_of_mem _ gf_S14) rfl dS_cut_7 ?_
  refine ct_V (n := 0) hE hI (kT_clear kT) kT rfl gm_S38 gi_T_clear gs_T_T_clear gz_T gc_T_clear (by decide +kernel) ⟨Nat.le_of_ble_eq_true rfl, Nat.le_of_ble_eq_true rfl⟩ rfl hl.1 rfl (Nat.le_of_ble_eq_true rfl) dS_cut_10 ⟨Nat.le_of_ble_eq_true rfl, Nat.le_of_ble_eq_true rfl⟩ (fun v w1 H locs hq hI => ?_)
  obtain ⟨rfl, hw1⟩ := hq
  obtain ⟨hS1, ho1⟩ := hS.clear (n := 0) hf hm kA hw1
  clear hw1
  show W _ _ _ _ _ _ _ _ _ _ _ _ _ _ _ (F0 _ _ _ [])
  obtain ⟨ga, aT, aA, af, ac, ac2, ax⟩ := (ha.off (sub2 ho1) (nf _ (by omega) (by omega) (by omega) (by omega)) (nf _ (by omega) (by omega) (by omega) (by omega))).out
  obtain ⟨gm, mT, mA, mf⟩ := id hS1.2.1
  refine lv_iload_n hx hb dS_cut_13 rfl (lv_at hl 3 rfl) ?_
  refine lv_if_eq (tgt := 33) hx hb dS_cut_14 (by decide) (fun hz => ?_) (fun hz => ?_)
  · skip
    refine lv_aload_n hx hb dS_cut_33 rfl (lv_at hl 1 rfl) ?_
    refine mp_get hE.1 hI hS1.1 rfl gx_S 0 (by decide) (List.mem_cons_of_mem _ gf_S14) rfl dS_cut_34 ?_
    refine lv_aload_n hx hb dS_cut_37 rfl (lv_at hl 2 rfl) ?_
    refine lv_iconst (v := nI 1) hx hb dS_cut_38 (by decide) ?_
    refine lv_iload_n hx hb dS_cut_39 rfl (lv_at hl 0 rfl) ?_
    refine ct_V (n := 3) hE hI (kT_addAll (a := 1) (b := e1) hS1.2.1 aT aA af ac (by omega) hA1 (by decide) (by omega) (by simp)) mT rfl gm_S48 gi_T_addAll gs_T_T_addAll gz_T gc_T_addAll (by decide +kernel) ⟨Nat.le_of_ble_eq_true rfl, Nat.le_of_ble_eq_true rfl⟩ rfl hl.1 rfl (Nat.le_of_ble_eq_true rfl) dS_cut_40 ⟨Nat.le_of_ble_eq_true rfl, Nat.le_of_ble_eq_true rfl⟩ (fun v w2 H locs hq hI => ?_)
    obtain ⟨rfl, ho2, hp2⟩ := hq
    have hS2 := hS1.made hf hm ho2 hp2
    show W _ _ _ _ _ _ _ _ _ _ _ _ _ _ _ (F0 _ _ _ [])
    refine lv_aload_n hx hb dS_cut_43 rfl (lv_at hl 1 rfl) ?_
    refine mp_get hE.1 hI hS2.1 rfl gx_S 0 (by decide) (List.mem_cons_of_mem _ gf_S14) rfl dS_cut_44 ?_
    exact ct_aret hE hI hr (Or.inl ⟨_, rfl⟩) hk ⟨rfl, (sub2 ho1).tr (sub2 ho2), by rw [if_pos hz]; exact hS2⟩ (by decide) (by decide) dS_cut_47
  · skip
    refine lv_aload_n hx hb dS_cut_17 rfl (lv_at hl 1 rfl) ?_
    refine mp_get hE.1 hI hS1.1 rfl gx_S 0 (by decide) (List.mem_cons_of_mem _ gf_S14) rfl dS_cut_18 ?_
    refine lv_aload_n hx hb dS_cut_21 rfl (lv_at hl 2 rfl) ?_
    refine lv_iload_n hx hb dS_cut_22 rfl (lv_at hl 0 rfl) ?_
    refine lv_aload_n hx hb dS_cut_23 rfl (lv_at hl 2 rfl) ?_
    refine mp_getN hE.1 hI aT rfl gx_T 1 (by decide) (ct_nw hE (q := ("BindingBench$Workshop", 44, "BindingBench$Term", "size", "I")) (by decide +kernel)) rfl dS_cut_24 ?_
    refine ct_V (n := 3) hE hI (kT_addAll (a := e1) (b := A.length) hS1.2.1 aT aA af ac hA1 (by omega) (by decide) (by omega) (by simp)) mT rfl gm_S48 gi_T_addAll gs_T_T_addAll gz_T gc_T_addAll (by decide +kernel) ⟨Nat.le_of_ble_eq_true rfl, Nat.le_of_ble_eq_true rfl⟩ rfl hl.1 rfl (Nat.le_of_ble_eq_true rfl) dS_cut_27 ⟨Nat.le_of_ble_eq_true rfl, Nat.le_of_ble_eq_true rfl⟩ (fun v w2 H locs hq hI => ?_)
    obtain ⟨rfl, ho2, hp2⟩ := hq
    rw [List.nil_append, List.take_of_length_le (by rw [List.length_drop]; omega)] at hp2
    have hS2 := hS1.made hf hm ho2 hp2
    show W _ _ _ _ _ _ _ _ _ _ _ _ _ _ _ (F0 _ _ _ [])
    refine lv_goto (tgt := 43) hx hb dS_cut_30 (by decide) ?_
    refine lv_aload_n hx hb dS_cut_43 rfl (lv_at hl 1 rfl) ?_
    refine mp_get hE.1 hI hS2.1 rfl gx_S 0 (by decide) (List.mem_cons_of_mem _ gf_S14) rfl dS_cut_44 ?_
    exact ct_aret hE hI hr (Or.inl ⟨_, rfl⟩) hk ⟨rfl, (sub2 ho1).tr (sub2 ho2), by rw [if_neg hz]; exact hS2⟩ (by decide) (by decide) dS_cut_47
set_option maxRecDepth 100000 in
theorem kS_contract (hl0 : l.stackTraces = false) {i ci r e1 e2 : Nat} {M A : List Int} (hf : ph_i f) (hm : mi = 16 ∨ mi = 17) (hS : pt_S K w f mi M) (hi : i < 18) (him : i ≠ mi) (ha : pt_R K w (f (13 + 2 * i)) (f (14 + 2 * i)) ci A) (he1 : r + 1 + tm_en tm_kc (A.drop (r + 1)) 1 = e1) (he2 : e1 + tm_en tm_kc (A.drop e1) 1 = e2) (h1 : r + 2 ≤ e1) (h2 : e2 ≤ A.length)
    {N : List Int} (hN : A.take r ++ (pt_fill ((A.drop (r + 2)).take (e1 - (r + 2))) ((A.drop e1).take (e2 - e1)) ([], 0) ++ A.drop e2) = N) (hres : N.length ≤ 2000 → ∀ x ∈ N, -2 ≤ x ∧ x ≤ 1000000) :
    ct_X l n0 D K yS_contract (Cond.code yS_contract cS_contract 5 (some (.object "BindingBench$Term"))) 7 200 1 6 [.ref (f 2), .ref (f (13 + 2 * i)), .int (nI r)] w (po_N K f mi w N) (th_N K f mi w N) := by
  have hA2 : A.length ≤ 2000 := Nat.le_trans ha.2.1 ha.2.2.1
  have nf : ∀ x, 12 < x → x < 49 → x ≠ 13 + 2 * mi → x ≠ 14 + 2 * mi → f x ∉ fp_S f mi := fun x h0 h q3 q4 => hf.nin h [5, 6, 7, 8, 9, 10, 13 + 2 * mi, 14 + 2 * mi] (by intro b hb; simp at hb; omega)
  have sub2 : ∀ {x y : mp_W}, mp_off [f (13 + 2 * mi), f (14 + 2 * mi)] x y → mp_off (fp_S f mi) x y := fun h => h.mono (fun q hq => by simp at hq ⊢; omega)
  have sub1 : ∀ {x y : mp_W}, mp_off [f 5, f 6] x y → mp_off (fp_S f mi) x y := fun h => h.mono (fun q hq => by simp at hq ⊢; omega)
  have sub3 : ∀ {x y : mp_W}, mp_off (fp_F f mi) x y → mp_off (fp_S f mi) x y := fun h => h.mono (fun q hq => by simp at hq ⊢; omega)
  have h12 : e1 ≤ e2 := by omega
  have hl1 : ((A.drop (r + 2)).take (e1 - (r + 2))).length ≤ 2000 := by rw [List.length_take, List.length_drop]; omega
  have hl2 : ((A.drop e1).take (e2 - e1)).length ≤ 2000 := by rw [List.length_take, List.length_drop]; omega
  have hfl := pt_fill_len2 hl1 hl2 ([], 0)
  obtain ⟨g, kT, kA, kf⟩ := id hS.2.1
  obtain ⟨ga0, aT0, -⟩ := ha.out
  refine ct_goX (own := nm_S) (by decide) rfl (Nat.le_of_ble_eq_true rfl) ?_
  intro p e s m below meth c ls hE hI hr hk hout hl
  have hx := hE.1.1.1
  have hb := hE.1.1.2.1
  have hl : lv_has ls 5 [(0, .ref (f 2)), (1, .ref (f (13 + 2 * i))), (2, .int (nI r))] := hl
  refine lv_aload_n hx hb dS_contract_0 rfl (lv_at hl 1 rfl) ?_
  refine lv_iload_n hx hb dS_contract_1 rfl (lv_at hl 2 rfl) ?_
  refine lv_iconst (v := nI 1) hx hb dS_contract_2 (by decide) ?_
  refine lv_iadd hx hb dS_contract_3 ?_
  rw [nI_add]
  refine ct_V (n := 1) hE hI (kT_endOf (a := r + 1) ha (by omega)) aT0 rfl gm_S73 gi_T_endOf gs_T_T_endOf gz_T gc_T_endOf (by decide +kernel) ⟨Nat.le_of_ble_eq_true rfl, Nat.le_of_ble_eq_true rfl⟩ rfl hl.1 rfl (Nat.le_of_ble_eq_true rfl) dS_contract_4 ⟨Nat.le_of_ble_eq_true rfl, Nat.le_of_ble_eq_true rfl⟩ (fun v w1 H locs hq hI => ?_)
  obtain ⟨hw, rfl⟩ := hq
  subst w1
  rw [he1]
  show W _ _ _ _ _ _ _ _ _ _ _ _ _ _ _ (F0 _ _ _ [.int _])
  refine lv_istore_n hx hb dS_contract_7 rfl hl (by decide) rfl (fun ls hl => ?_)
  refine lv_aload_n hx hb dS_contract_8 rfl (lv_at hl 2 rfl) ?_
  refine lv_iload_n hx hb dS_contract_9 rfl (lv_at hl 0 rfl) ?_
  refine ct_V (n := 1) hE hI (kT_endOf (a := e1) ha (by omega)) aT0 rfl gm_S73 gi_T_endOf gs_T_T_endOf gz_T gc_T_endOf (by decide +kernel) ⟨Nat.le_of_ble_eq_true rfl, Nat.le_of_ble_eq_true rfl⟩ rfl hl.1 rfl (Nat.le_of_ble_eq_true rfl) dS_contract_10 ⟨Nat.le_of_ble_eq_true rfl, Nat.le_of_ble_eq_true rfl⟩ (fun v w1 H locs hq hI => ?_)
  obtain ⟨hw, rfl⟩ := hq
  subst w1
  rw [he2]
  show W _ _ _ _ _ _ _ _ _ _ _ _ _ _ _ (F0 _ _ _ [.int _])
  refine lv_istore hx hb dS_contract_13 hl (by decide) rfl (fun ls hl => ?_)
  refine lv_aload_n hx hb dS_contract_15 rfl (lv_at hl 2 rfl) ?_
  refine mp_get hE.1 hI hS.1 rfl gx_S 0 (by decide) (List.mem_cons_of_mem _ gf_S14) rfl dS_contract_16 ?_
  refine ct_V (n := 0) hE hI (kT_clear kT) kT rfl gm_S38 gi_T_clear gs_T_T_clear gz_T gc_T_clear (by decide +kernel) ⟨Nat.le_of_ble_eq_true rfl, Nat.le_of_ble_eq_true rfl⟩ rfl hl.1 rfl (Nat.le_of_ble_eq_true rfl) dS_contract_19 ⟨Nat.le_of_ble_eq_true rfl, Nat.le_of_ble_eq_true rfl⟩ (fun v w1 H locs hq hI => ?_)
  obtain ⟨rfl, hw1⟩ := hq
  obtain ⟨hS1, ho1⟩ := hS.clear (n := 0) hf hm kA hw1
  clear hw1
  show W _ _ _ _ _ _ _ _ _ _ _ _ _ _ _ (F0 _ _ _ [])
  obtain ⟨ga, aT, aA, af, ac, ac2, ax⟩ := (ha.off (sub2 ho1) (nf _ (by omega) (by omega) (by omega) (by omega)) (nf _ (by omega) (by omega) (by omega) (by omega))).out
  obtain ⟨gm, mT, mA, mf⟩ := id hS1.2.1
  refine lv_aload_n hx hb dS_contract_22 rfl (lv_at hl 2 rfl) ?_
  refine mp_get hE.1 hI hS1.1 rfl gx_S 0 (by decide) (List.mem_cons_of_mem _ gf_S14) rfl dS_contract_23 ?_
  refine lv_aload_n hx hb dS_contract_26 rfl (lv_at hl 3 rfl) ?_
  refine lv_iconst (v := nI 0) hx hb dS_contract_27 (by decide) ?_
  refine lv_iload_n hx hb dS_contract_28 rfl (lv_at hl 4 rfl) ?_
  refine ct_V (n := 3) hE hI (kT_addAll (a := 0) (b := r) hS1.2.1 aT aA af ac (by omega) (by omega) (by decide) (by omega) (by simp)) mT rfl gm_S48 gi_T_addAll gs_T_T_addAll gz_T gc_T_addAll (by decide +kernel) ⟨Nat.le_of_ble_eq_true rfl, Nat.le_of_ble_eq_true rfl⟩ rfl hl.1 rfl (Nat.le_of_ble_eq_true rfl) dS_contract_29 ⟨Nat.le_of_ble_eq_true rfl, Nat.le_of_ble_eq_true rfl⟩ (fun v w2 H locs hq hI => ?_)
  obtain ⟨rfl, ho2, hp2⟩ := hq
  rw [show [] ++ List.take (r - 0) (List.drop 0 A) = A.take r by simp] at hp2
  have hS2 := hS1.made hf hm ho2 hp2
  show W _ _ _ _ _ _ _ _ _ _ _ _ _ _ _ (F0 _ _ _ [])
  have ho2' := (sub2 ho1).tr (sub2 ho2)
  have ha2 := ha.off ho2' (nf _ (by omega) (by omega) (by omega) (by omega)) (nf _ (by omega) (by omega) (by omega) (by omega))
  refine lv_aload_n hx hb dS_contract_32 rfl (lv_at hl 2 rfl) ?_
  refine lv_aload_n hx hb dS_contract_33 rfl (lv_at hl 3 rfl) ?_
  refine lv_iload_n hx hb dS_contract_34 rfl (lv_at hl 4 rfl) ?_
  refine lv_iconst (v := nI 2) hx hb dS_contract_35 (by decide) ?_
  refine lv_iadd hx hb dS_contract_36 ?_
  rw [nI_add]
  refine lv_iload_n hx hb dS_contract_37 rfl (lv_at hl 1 rfl) ?_
  refine lv_aload_n hx hb dS_contract_38 rfl (lv_at hl 3 rfl) ?_
  refine lv_iload_n hx hb dS_contract_39 rfl (lv_at hl 1 rfl) ?_
  refine lv_iload hx hb dS_contract_40 (lv_at hl 0 rfl) ?_
  refine ct_V (n := 6) hE hI (kS_addFilled (a := r + 2) (b := e1) (c := e1) (d := e2) hf hm hS2 hi him hi him ha2 ha2 h1 (by omega) h12 h2 (by rw [List.length_take]; omega)) hS2.1 rfl gm_S69 gi_S_addFilled gs_S_S_addFilled gz_S gc_S_addFilled (by decide +kernel) ⟨Nat.le_of_ble_eq_true rfl, Nat.le_of_ble_eq_true rfl⟩ rfl hl.1 rfl (Nat.le_of_ble_eq_true rfl) dS_contract_42 ⟨Nat.le_of_ble_eq_true rfl, Nat.le_of_ble_eq_true rfl⟩ (fun v w3 H locs hq hI => ?_)
  obtain ⟨rfl, ho3, hS3⟩ := hq
  show W _ _ _ _ _ _ _ _ _ _ _ _ _ _ _ (F0 _ _ _ [])
  have ho3' := ho2'.tr (sub3 ho3)
  obtain ⟨ga3, aT3, aA3, af3, ac3, -⟩ := (ha.off ho3' (nf _ (by omega) (by omega) (by omega) (by omega)) (nf _ (by omega) (by omega) (by omega) (by omega))).out
  obtain ⟨gm3, mT3, mA3, mf3⟩ := id hS3.2.1
  refine lv_aload_n hx hb dS_contract_45 rfl (lv_at hl 2 rfl) ?_
  refine mp_get hE.1 hI hS3.1 rfl gx_S 0 (by decide) (List.mem_cons_of_mem _ gf_S14) rfl dS_contract_46 ?_
  refine lv_aload_n hx hb dS_contract_49 rfl (lv_at hl 3 rfl) ?_
  refine lv_iload hx hb dS_contract_50 (lv_at hl 0 rfl) ?_
  refine lv_aload_n hx hb dS_contract_52 rfl (lv_at hl 3 rfl) ?_
  refine mp_getN hE.1 hI aT3 rfl gx_T 1 (by decide) (ct_nw hE (q := ("BindingBench$Workshop", 44, "BindingBench$Term", "size", "I")) (by decide +kernel)) rfl dS_contract_53 ?_
  refine ct_V (n := 3) hE hI (kT_addAll (a := e2) (b := A.length) hS3.2.1 aT3 aA3 af3 ac3 h2 (by omega) (by decide) (by omega) (by rw [List.length_append, List.length_take]; omega)) mT3 rfl gm_S48 gi_T_addAll gs_T_T_addAll gz_T gc_T_addAll (by decide +kernel) ⟨Nat.le_of_ble_eq_true rfl, Nat.le_of_ble_eq_true rfl⟩ rfl hl.1 rfl (Nat.le_of_ble_eq_true rfl) dS_contract_56 ⟨Nat.le_of_ble_eq_true rfl, Nat.le_of_ble_eq_true rfl⟩ (fun v w4 H locs hq hI => ?_)
  obtain ⟨rfl, ho4, hp4⟩ := hq
  rw [show List.take (A.length - e2) (List.drop e2 A) = List.drop e2 A from List.take_of_length_le (by rw [List.length_drop]; omega), List.append_assoc, hN] at hp4
  have hS4 := hS3.made hf hm ho4 hp4
  show W _ _ _ _ _ _ _ _ _ _ _ _ _ _ _ (F0 _ _ _ [])
  have ho4' := ho3'.tr (sub2 ho4)
  refine lv_aload_n hx hb dS_contract_59 rfl (lv_at hl 2 rfl) ?_
  obtain ⟨u4, hw4⟩ := hS4.2.2.1
  refine ct_VX (n := 0) hE hI (kS_checked hl0 hf hm hS4.1 hS4.2.1 (by rw [← hN, List.length_append, List.length_append, List.length_take, List.length_drop]; omega) hres hw4) hS4.1 rfl gm_S52 gi_S_checked gs_S_S_checked gz_S gc_S_checked (by decide +kernel) ⟨Nat.le_of_ble_eq_true rfl, Nat.le_of_ble_eq_true rfl⟩ rfl hl.1 rfl (Nat.le_of_ble_eq_true rfl) dS_contract_60 ⟨Nat.le_of_ble_eq_true rfl, Nat.le_of_ble_eq_true rfl⟩ (fun v w5 H locs hq hI => ?_) (fun E q ce w5 H locs ht hI hq hv hcl => ?_)
  · obtain ⟨rfl, hn, ho5, hu5⟩ := hq
    exact vx_ret (ct_aret hE hI hr (Or.inl ⟨_, rfl⟩) hk ⟨rfl, hn, ho4'.tr (sub1 ho5), hS4.lev hf hm ho5 hu5⟩ (by decide) (by decide) dS_contract_63)
  · obtain ⟨rfl, hn, ho5, hu5⟩ := ht
    exact ct_out hI hout hk hq hv hcl ⟨rfl, hn, ho4'.tr (sub1 ho5), _, hS4.lev hf hm ho5 hu5⟩ (by decide) (by decide)
set_option maxRecDepth 100000 in
theorem kS_reduced (hS : w (f 2) = some (ob_S f mi)) : ct_M l n0 D K yS_reduced (Cond.code yS_reduced cS_reduced 1 (some (.object "BindingBench$Term"))) 0 0 0 0 [.ref (f 2)] w (fun v w' => w' = w ∧ v = some (.ref (f (13 + 2 * (33 - mi))))) := by
  refine ct_go (own := nm_S) (by decide) rfl (Nat.le_of_ble_eq_true rfl) ?_
  intro p e s m below meth c ls hE hI hr hk hn hl
  have hx := hE.1.1.1
  have hb := hE.1.1.2.1
  have hl : lv_has ls 1 [(0, .ref (f 2))] := hl
  refine lv_aload_n hx hb dS_reduced_0 rfl (lv_at hl 0 rfl) ?_
  refine mp_get hE.1 hI hS rfl gx_S 1 (by decide) (List.mem_cons_of_mem _ gf_S20) rfl dS_reduced_1 ?_
  exact ct_aret hE hI hr (Or.inl ⟨_, rfl⟩) hk ⟨rfl, rfl⟩ (by decide) (by decide) dS_reduced_4
end KS7
