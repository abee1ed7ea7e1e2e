/-! Term: reserve, become, Term(int); Walk(int, int) -/
theorem ci_max {a b : Nat} (ha : a < 2147483648) (hb : b < 2147483648) : (if nI a < nI b then nI b else nI a) = nI (max a b) := by
  by_cases h : a < b
  · rw [if_pos (nI_lt h (by omega)), Nat.max_eq_right (by omega)]
  · rw [if_neg (nI_nlt (by omega) (by omega)), Nat.max_eq_left (by omega)]
theorem ci_min {a b : Nat} (ha : a < 2147483648) (hb : b < 2147483648) : (if nI b < nI a then nI b else nI a) = nI (min a b) := by
  by_cases h : b < a
  · rw [if_pos (nI_lt h (by omega)), Nat.min_eq_right (by omega)]
  · rw [if_neg (nI_nlt (by omega) (by omega)), Nat.min_eq_left (by omega)]
section KT7
variable {l : Launch} {n0 : Nat} {D : va_G} {K : Nat → ClassId} {w : mp_W}
set_option maxRecDepth 100000 in
theorem kT_reserve {t ar cap r : Nat} {n : Int32} {f : Nat → Int32} (hT : w t = some (ob_T ar n)) (hA : w ar = some (ob_I K cap f)) (hc : cap ≤ 2000) (hr2 : r ≤ 2000) : ct_M l n0 D K yT_reserve (Cond.code yT_reserve cT_reserve 2 none) 1 40 1 2000 [.ref t, .int (nI r)] w (fun v w' => v = none ∧ ((r ≤ cap ∧ w' = w) ∨ (cap < r ∧ ∃ q cap', w q = none ∧ r ≤ cap' ∧ cap' ≤ 2000 ∧ w' = mp_up (mp_up w q (ob_I K cap' (fun _ => 0))) t (ob_T q n)))) := by
  refine ct_go (own := nm_T) (by decide) rfl (Nat.le_of_ble_eq_true rfl) ?_
  intro p e s m below meth c ls hE hI hr hk hn hl
  have hx := hE.1.1.1
  have hb := hE.1.1.2.1
  have hl : lv_has ls 2 [(0, .ref t), (1, .int (nI r))] := hl
  refine lv_iload_n hx hb dT_reserve_0 rfl (lv_at hl 1 rfl) ?_
  refine lv_aload_n hx hb dT_reserve_1 rfl (lv_at hl 0 rfl) ?_
  refine mp_get hE.1 hI hT rfl gx_T 0 (by decide) (List.mem_cons_of_mem _ gf_T9) rfl dT_reserve_2 ?_
  refine mp_len (v := nI cap) hE.1 hI hA 0 rfl rfl dT_reserve_5 ?_
  refine lv_icmp_le (tgt := 32) hx hb dT_reserve_6 (by decide) (fun hq => ?_) (fun hq => ?_)
  · have hq : r ≤ cap := (nI_leI (by omega) (by omega)).mp hq
    exact ct_vret hE hI hr hk ⟨rfl, Or.inl ⟨hq, rfl⟩⟩ (by decide) (by decide) dT_reserve_32
  · have hq : cap < r := Nat.lt_of_not_le (fun h => hq (nI_le h (by omega)))
    refine lv_aload_n hx hb dT_reserve_9 rfl (lv_at hl 0 rfl) ?_
    refine lv_sipush (v := 2000) hx hb dT_reserve_10 (by decide) ?_
    refine lv_iload_n hx hb dT_reserve_13 rfl (lv_at hl 1 rfl) ?_
    refine lv_iconst (v := 2) hx hb dT_reserve_14 (by decide) ?_
    refine lv_aload_n hx hb dT_reserve_15 rfl (lv_at hl 0 rfl) ?_
    refine mp_get hE.1 hI hT rfl gx_T 0 (by decide) (List.mem_cons_of_mem _ gf_T9) rfl dT_reserve_16 ?_
    refine mp_len (v := nI cap) hE.1 hI hA 0 rfl rfl dT_reserve_19 ?_
    refine lv_imul hx hb dT_reserve_20 ?_
    rw [show (2 : Int32) = nI 2 from rfl, pk_mul]
    refine va_mmax hx hb (by rw [hE.1.1.2.2.1]; exact hl.1.symm) hE.1.1.2.2.2.1 (ct_w hE gm_T29) (ct_w hE gt_Jm_max) (ct_w hE gz_Jm) (ct_w hE gc_Jm_max) (Nat.le_of_ble_eq_true rfl) (Nat.le_of_ble_eq_true rfl) (Nat.zero_le _) (Nat.zero_le _) dT_reserve_21 ?_
    rw [ci_max (by omega) (by omega), show (2000 : Int32) = nI 2000 from rfl]
    refine va_mmin hx hb (by rw [hE.1.1.2.2.1]; exact hl.1.symm) hE.1.1.2.2.2.1 (ct_w hE gm_T35) (ct_w hE gt_Jm_min) (ct_w hE gz_Jm) (ct_w hE gc_Jm_min) (Nat.le_of_ble_eq_true rfl) (Nat.le_of_ble_eq_true rfl) (Nat.zero_le _) (Nat.zero_le _) dT_reserve_24 ?_
    rw [ci_min (by omega) (by omega)]
    generalize hcap : min 2000 (max r (2 * cap)) = cap'
    have hc1 : r ≤ cap' := by omega
    have hc2 : cap' ≤ 2000 := by omega
    refine mp_newa (atype := .int) hE.1 hI (List.mem_cons_of_mem _ ga_int) rfl 0 rfl (a0 := (cap', .inl (fun _ => 0))) (fun _ => rfl) (nI_pos (by omega)) (nI_clamp (by omega)) (by show cap' * 4 ≤ _; omega) (Nat.le_of_ble_eq_true rfl) (by show 0 + cap' ≤ 2000; omega) dT_reserve_27 (fun q H hq0 hI => ?_)
    have htq : t ≠ q := fun z => by rw [z, hq0] at hT; cases hT
    have hT1 : mp_up w q (ob_I K cap' (fun _ => 0)) t = some (ob_T ar n) := by rw [mp_up_ne _ _ htq]; exact hT
    refine mp_put hE.1 hI hT1 rfl gx_T ty_T to_T tn_T 0 (by decide) (List.mem_cons_of_mem _ gf_T9) rfl rfl rfl (Nat.le_of_ble_eq_true rfl) dT_reserve_29 (fun H locs hI => ?_)
    exact ct_vret hE hI hr hk ⟨rfl, Or.inr ⟨hq, q, cap', hq0, hc1, hc2, rfl⟩⟩ (by decide) (by omega) dT_reserve_32
/-- a Term holds a row of at most 2000 cells -/
def pt_V (K : Nat → ClassId) (w : mp_W) (t ar cap : Nat) : Prop := ∃ n f, w t = some (ob_T ar n) ∧ w ar = some (ob_I K cap f) ∧ cap ≤ 2000
theorem pt_R.V {w : mp_W} {t ar cap : Nat} {L : List Int} (h : pt_R K w t ar cap L) : pt_V K w t ar cap := by
  obtain ⟨f, h1, h2, -, -, h3, -⟩ := h.out
  exact ⟨_, f, h1, h2, h3⟩
set_option maxRecDepth 100000 in
theorem kT_become {t ar cap o oar ocap : Nat} {O : List Int} (hp : pt_V K w t ar cap) (ho : pt_R K w o oar ocap O) : ct_M l n0 D K yT_become (Cond.code yT_become cT_become 2 (some .int)) 2 80 1 2000 [.ref t, .ref o] w (fun v w' => v = some (.int (nI O.length)) ∧ ∃ ar' cap', (ar' = ar ∨ w ar' = none) ∧ (O.length ≤ cap → ar' = ar ∧ cap' = cap) ∧ mp_off [t, ar'] w w' ∧ pt_R K w' t ar' cap' O) := by
  obtain ⟨n, f, hT, hA, hc⟩ := hp
  obtain ⟨g, hoT, hoA, hg, hoc, hoc2, hox2⟩ := ho.out
  have hne : t ≠ ar := pt_ne hT hA pt_io
  refine ct_go (own := nm_T) (by decide) rfl (Nat.le_of_ble_eq_true rfl) ?_
  intro p e s m below meth c ls hE hI hr hk hn hl
  have hx := hE.1.1.1
  have hb := hE.1.1.2.1
  have hl : lv_has ls 2 [(0, .ref t), (1, .ref o)] := hl
  refine lv_aload_n hx hb dT_become_0 rfl (lv_at hl 0 rfl) ?_
  refine lv_aload_n hx hb dT_become_1 rfl (lv_at hl 1 rfl) ?_
  refine mp_get hE.1 hI hoT rfl gx_T 1 (by decide) (List.mem_cons_of_mem _ gf_T15) rfl dT_become_2 ?_
  refine ct_V (n := 1) hE hI (kT_reserve (r := O.length) hT hA hc (by omega)) hT rfl gm_T19 gi_T_reserve gs_T_T_reserve gz_T gc_T_reserve (by decide +kernel) ⟨Nat.le_of_ble_eq_true rfl, Nat.le_of_ble_eq_true rfl⟩ rfl hl.1 rfl (Nat.le_of_ble_eq_true rfl) dT_become_5 ⟨Nat.le_of_ble_eq_true rfl, Nat.le_of_ble_eq_true rfl⟩ (fun v w1 H locs hq hI => ?_)
  obtain ⟨rfl, hq⟩ := hq
  have key : ∃ ar' cap' f', (ar' = ar ∨ w ar' = none) ∧ (O.length ≤ cap → ar' = ar ∧ cap' = cap) ∧ mp_off [t, ar'] w w1 ∧ w1 t = some (ob_T ar' n) ∧ w1 ar' = some (ob_I K cap' f') ∧ w1 o = some (ob_T (if o = t then ar' else oar) (nI O.length)) ∧ (∃ g', w1 (if o = t then ar' else oar) = some (ob_I K (if o = t then cap' else ocap) g') ∧ pt_h g' O) ∧ O.length ≤ cap' ∧ cap' ≤ 2000 ∧ O.length ≤ (if o = t then cap' else ocap) ∧ t ≠ ar' := by
    rcases hq with ⟨hq, rfl⟩ | ⟨hq, q, cap', hq0, h1, h2, rfl⟩
    · refine ⟨ar, cap, f, Or.inl rfl, fun _ => ⟨rfl, rfl⟩, mp_off.rf _ _, hT, hA, ?_, ?_, hq, hc, ?_, hne⟩
      · by_cases e : o = t
        · rw [if_pos e]
          subst e
          rw [hT] at hoT
          have : ar = oar := by cases hoT; rfl
          rw [this, ← this, hT]
          cases hoT
          rfl
        · rw [if_neg e]; exact hoT
      · by_cases e : o = t
        · rw [if_pos e, if_pos e]
          subst e
          rw [hT] at hoT
          have h3 : ar = oar := by cases hoT; rfl
          subst h3
          rw [hA] at hoA
          cases hoA
          exact ⟨f, hA, hg⟩
        · rw [if_neg e, if_neg e]; exact ⟨g, hoA, hg⟩
      · split
        · exact hq
        · exact hoc
    · have hot : ¬ o = t := by
        intro e
        subst e
        rw [hT] at hoT
        have h3 : ar = oar := by cases hoT; rfl
        subst h3
        rw [hA] at hoA
        cases hoA
        omega
      have htq : t ≠ q := fun z => by rw [z, hq0] at hT; cases hT
      have hoq : o ≠ q := fun z => by rw [z, hq0] at hoT; cases hoT
      have haq : oar ≠ q := fun z => by rw [z, hq0] at hoA; cases hoA
      have hat : oar ≠ t := fun z => by rw [z, hT] at hoA; cases hoA
      refine ⟨q, cap', fun _ => 0, Or.inr hq0, fun h => by omega, ((mp_off.rf _ _).up (by simp) _).up (by simp) _, mp_up_self .., ?_, ?_, ?_, h1, h2, ?_, htq⟩
      · rw [mp_up_ne _ _ (Ne.symm htq), mp_up_self]
      · rw [if_neg hot, mp_up_ne _ _ hot, mp_up_ne _ _ hoq]; exact hoT
      · rw [if_neg hot, if_neg hot, mp_up_ne _ _ hat, mp_up_ne _ _ haq]; exact ⟨g, hoA, hg⟩
      · rw [if_neg hot]; exact hoc
  obtain ⟨ar', cap', f', ha', hsame, hof, kT, kA, koT, ⟨g', koA, hg'⟩, k1, k2, k3, kne⟩ := key
  clear hq
  show W _ _ _ _ _ _ _ _ _ _ _ _ _ _ _ (F0 _ _ _ [])
  have e0 : (0 : Int32).toNatClampNeg = 0 := rfl
  have e3 : (nI O.length).toNatClampNeg = O.length := nI_clamp (by omega)
  refine lv_aload_n hx hb dT_become_8 rfl (lv_at hl 1 rfl) ?_
  refine mp_get hE.1 hI koT rfl gx_T 0 (by decide) (List.mem_cons_of_mem _ gf_T9) rfl dT_become_9 ?_
  refine lv_iconst (v := 0) hx hb dT_become_12 (by decide) ?_
  refine lv_aload_n hx hb dT_become_13 rfl (lv_at hl 0 rfl) ?_
  refine mp_get hE.1 hI kT rfl gx_T 0 (by decide) (List.mem_cons_of_mem _ gf_T9) rfl dT_become_14 ?_
  refine lv_iconst (v := 0) hx hb dT_become_17 (by decide) ?_
  refine lv_aload_n hx hb dT_become_18 rfl (lv_at hl 1 rfl) ?_
  refine mp_get hE.1 hI koT rfl gx_T 1 (by decide) (List.mem_cons_of_mem _ gf_T15) rfl dT_become_19 ?_
  refine mp_copy hE.1 hI hl.1 (List.mem_cons_of_mem _ gm_T23) (List.mem_cons_of_mem _ gv_Js_arraycopy) (List.mem_cons_of_mem _ gt_Js_arraycopy) (List.mem_cons_of_mem _ gz_Js) koA kA 0 0 rfl rfl rfl (by decide) (by decide) (nI_pos (by omega)) (by rw [e0, e3]; omega) (by rw [e0, e3]; omega) (fun _ _ => rfl) (Nat.le_of_ble_eq_true rfl) (Nat.le_of_ble_eq_true rfl) dT_become_22 (fun H locs hI => ?_)
  rw [e0, e3] at hI
  obtain ⟨w2, hwe⟩ : ∃ z, mp_up w1 ar' (ob_I K cap' (va_cpy g' f' 0 0 O.length)) = z := ⟨_, rfl⟩
  have hI : mp_I D cl_all (mp_A w s.heap.size) s.heap w2 H locs := by rw [← hwe]; exact hI
  have hT2 : w2 t = some (ob_T ar' n) := by rw [← hwe, mp_up_ne _ _ kne]; exact kT
  have hA2 : w2 ar' = some (ob_I K cap' (va_cpy g' f' 0 0 O.length)) := by rw [← hwe]; exact mp_up_self ..
  have hoa : o ≠ ar' := fun z => by rw [z, kA] at koT; cases koT
  have hoT2 : w2 o = some (ob_T (if o = t then ar' else oar) (nI O.length)) := by rw [← hwe, mp_up_ne _ _ hoa]; exact koT
  have ho2 : mp_off [t, ar'] w w2 := by rw [← hwe]; exact hof.up (by simp) _
  refine lv_aload_n hx hb dT_become_25 rfl (lv_at hl 0 rfl) ?_
  refine lv_aload_n hx hb dT_become_26 rfl (lv_at hl 1 rfl) ?_
  refine mp_get hE.1 hI hoT2 rfl gx_T 1 (by decide) (List.mem_cons_of_mem _ gf_T15) rfl dT_become_27 ?_
  refine mp_put hE.1 hI hT2 rfl gx_T ty_T to_T tn_T 1 (by decide) (List.mem_cons_of_mem _ gf_T15) rfl rfl rfl (Nat.le_of_ble_eq_true rfl) dT_become_30 (fun H locs hI => ?_)
  obtain ⟨w3, hwe3⟩ : ∃ z, mp_up w2 t (ob_T ar' (nI O.length)) = z := ⟨_, rfl⟩
  have hI : mp_I D cl_all (mp_A w s.heap.size) s.heap w3 H locs := by rw [← hwe3]; exact hI
  have hT3 : w3 t = some (ob_T ar' (nI O.length)) := by rw [← hwe3]; exact mp_up_self ..
  have hA3 : w3 ar' = some (ob_I K cap' (va_cpy g' f' 0 0 O.length)) := by rw [← hwe3, mp_up_ne _ _ (Ne.symm kne)]; exact hA2
  have ho3 : mp_off [t, ar'] w w3 := by rw [← hwe3]; exact ho2.up (by simp) _
  refine lv_aload_n hx hb dT_become_33 rfl (lv_at hl 0 rfl) ?_
  refine mp_get hE.1 hI hT3 rfl gx_T 1 (by decide) (List.mem_cons_of_mem _ gf_T15) rfl dT_become_34 ?_
  refine ct_iret hE hI hr hk ⟨rfl, ar', cap', ha', hsame, ho3, ⟨_, hT3, hA3, fun _ i x hi => ?_⟩, k1, k2, hox2⟩ (by decide) (by decide) dT_become_37
  have hil := (List.getElem?_eq_some_iff.mp hi).1
  rw [sb_cpy0 hil]
  exact hg' i x hi
end KT7
