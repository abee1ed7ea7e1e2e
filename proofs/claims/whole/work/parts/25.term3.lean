/-! Term: addAll, isRedex, kind -/
theorem pt_h.app {f g : Nat → Int32} {L O : List Int} {a d : Nat} (h : pt_h f L) (hg : pt_h g O) (hd : a + d ≤ O.length) : pt_h (va_cpy g f a L.length d) (L ++ (O.drop a).take d) := by
  intro i x hx
  by_cases hi : i < L.length
  · rw [pk_cpy_out (Or.inl hi)]
    rw [List.getElem?_append_left hi] at hx
    exact h i x hx
  · have hl := (List.getElem?_eq_some_iff.mp hx).1
    rw [List.length_append, List.length_take, List.length_drop] at hl
    rw [List.getElem?_append_right (by omega), List.getElem?_take_of_lt (by omega), List.getElem?_drop] at hx
    rw [pk_cpy_in (by omega) (by omega)]
    exact hg _ x hx
theorem ci_subN (a b : Nat) : nI a - nI b = ci_i ((a : Int) - b) := by rw [← ci_nat, ← ci_nat, ci_sub]
section KT3
variable {l : Launch} {n0 : Nat} {D : va_G} {K : Nat → ClassId} {w : mp_W}
set_option maxRecDepth 100000 in
theorem kT_addAll {t ar cap o oar ocap a b : Nat} {L O : List Int} {m' : Int32} {g : Nat → Int32} (hp : pt_T K w t ar cap L) (ho : w o = some (ob_T oar m')) (hoa : w oar = some (ob_I K ocap g)) (hg : pt_h g O) (hO : O.length ≤ ocap) (hab : a ≤ b) (hbO : b ≤ O.length) (hc2 : cap < 2147483648) (ho2 : ocap < 1073741824) (hL : L.length < 1073741824) :
    ct_M l n0 D K yT_addAll (Cond.code yT_addAll cT_addAll 4 none) 1 60 0 0 [.ref t, .ref o, .int (nI a), .int (nI b)] w (fun v w' => v = none ∧ mp_off [t, ar] w w' ∧ pt_T K w' t ar cap (L ++ (O.drop a).take (b - a))) := by
  obtain ⟨f, hT, hA, hf⟩ := hp
  have hne : t ≠ ar := pt_ne hT hA pt_io
  have hlen : (L ++ (O.drop a).take (b - a)).length = L.length + (b - a) := by
    rw [List.length_append, List.length_take, List.length_drop]
    omega
  refine ct_go (own := nm_T) (by decide) rfl (Nat.le_of_ble_eq_true rfl) ?_
  intro p e s m below meth c ls hE hI hr hk hn hl
  have hx := hE.1.1.1
  have hb := hE.1.1.2.1
  have hl : lv_has ls 4 [(0, .ref t), (1, .ref o), (2, .int (nI a)), (3, .int (nI b))] := hl
  refine lv_aload_n hx hb dT_addAll_0 rfl (lv_at hl 0 rfl) ?_
  refine lv_iload_n hx hb dT_addAll_1 rfl (lv_at hl 3 rfl) ?_
  refine lv_iload_n hx hb dT_addAll_2 rfl (lv_at hl 2 rfl) ?_
  refine lv_isub hx hb dT_addAll_3 ?_
  rw [pk_sub hab]
  refine ct_V (n := 1) hE hI (kT_takes hT hA) hT rfl gm_T38 gi_T_takes gs_T_T_takes gz_T gc_T_takes (by decide +kernel) ⟨Nat.le_of_ble_eq_true rfl, Nat.le_of_ble_eq_true rfl⟩ rfl hl.1 rfl (Nat.le_of_ble_eq_true rfl) dT_addAll_4 ⟨Nat.le_of_ble_eq_true rfl, Nat.le_of_ble_eq_true rfl⟩ (fun v w1 H locs hq hI => ?_)
  obtain ⟨rfl, hw⟩ := hq
  subst w1
  show W _ _ _ _ _ _ _ _ _ _ _ _ _ _ _ (F0 _ _ _ [.int _])
  refine lv_if_eq (tgt := 29) hx hb dT_addAll_7 (by decide) (fun hc => ?_) (fun hc => ?_)
  · have hcc : nI cap - nI L.length < nI (b - a) := by
      by_cases q : nI cap - nI L.length < nI (b - a)
      · exact q
      · rw [if_neg q] at hc
        exact absurd hc (by decide)
    rw [ci_subN, ← ci_nat, ci_lt (by omega) (by omega)] at hcc
    refine lv_aload_n hx hb dT_addAll_29 rfl (lv_at hl 0 rfl) ?_
    refine lv_dup hx hb dT_addAll_30 rfl ?_
    refine mp_get hE.1 hI hT rfl gx_T 1 (by decide) (List.mem_cons_of_mem _ gf_T15) rfl dT_addAll_31 ?_
    refine lv_iload_n hx hb dT_addAll_34 rfl (lv_at hl 3 rfl) ?_
    refine lv_iload_n hx hb dT_addAll_35 rfl (lv_at hl 2 rfl) ?_
    refine lv_isub hx hb dT_addAll_36 ?_
    rw [pk_sub hab]
    refine lv_iadd hx hb dT_addAll_37 ?_
    refine mp_put hE.1 hI hT rfl gx_T ty_T to_T tn_T 1 (by decide) (List.mem_cons_of_mem _ gf_T15) rfl rfl rfl (Nat.le_of_ble_eq_true rfl) dT_addAll_38 (fun H locs hI => ?_)
    refine ct_vret hE hI hr hk ⟨rfl, (mp_off.rf _ _).up (by simp) _, f, ?_, ?_, fun h => ?_⟩ (by decide) (by decide) dT_addAll_41
    · rw [mp_up_self, hlen, ← nI_add]
      rfl
    · rw [mp_up_ne _ _ (Ne.symm hne)]; exact hA
    · rw [hlen] at h; omega
  · have hcc : ¬ nI cap - nI L.length < nI (b - a) := by
      intro q
      rw [if_pos q] at hc
      exact hc rfl
    rw [ci_subN, ← ci_nat, ci_lt (by omega) (by omega)] at hcc
    refine lv_aload_n hx hb dT_addAll_10 rfl (lv_at hl 1 rfl) ?_
    refine mp_get hE.1 hI ho rfl gx_T 0 (by decide) (List.mem_cons_of_mem _ gf_T9) rfl dT_addAll_11 ?_
    refine lv_iload_n hx hb dT_addAll_14 rfl (lv_at hl 2 rfl) ?_
    refine lv_aload_n hx hb dT_addAll_15 rfl (lv_at hl 0 rfl) ?_
    refine mp_get hE.1 hI hT rfl gx_T 0 (by decide) (List.mem_cons_of_mem _ gf_T9) rfl dT_addAll_16 ?_
    refine lv_aload_n hx hb dT_addAll_19 rfl (lv_at hl 0 rfl) ?_
    refine mp_get hE.1 hI hT rfl gx_T 1 (by decide) (List.mem_cons_of_mem _ gf_T15) rfl dT_addAll_20 ?_
    refine lv_iload_n hx hb dT_addAll_23 rfl (lv_at hl 3 rfl) ?_
    refine lv_iload_n hx hb dT_addAll_24 rfl (lv_at hl 2 rfl) ?_
    refine lv_isub hx hb dT_addAll_25 ?_
    rw [pk_sub hab]
    have e1 : (nI a).toNatClampNeg = a := nI_clamp (by omega)
    have e2 : (nI L.length).toNatClampNeg = L.length := nI_clamp (by omega)
    have e3 : (nI (b - a)).toNatClampNeg = b - a := nI_clamp (by omega)
    refine mp_copy hE.1 hI hl.1 (List.mem_cons_of_mem _ gm_T23) (List.mem_cons_of_mem _ gv_Js_arraycopy) (List.mem_cons_of_mem _ gt_Js_arraycopy) (List.mem_cons_of_mem _ gz_Js) hoa hA 0 0 rfl rfl rfl (nI_pos (by omega)) (nI_pos (by omega)) (nI_pos (by omega)) (by rw [e1, e3]; omega) (by rw [e2, e3]; omega) (fun _ _ => rfl) (Nat.le_of_ble_eq_true rfl) (Nat.le_of_ble_eq_true rfl) dT_addAll_26 (fun H locs hI => ?_)
    rw [e1, e2, e3] at hI
    have hT1 : mp_up w ar (ob_I K cap (va_cpy g f a L.length (b - a))) t = some (ob_T ar (nI L.length)) := by rw [mp_up_ne _ _ hne]; exact hT
    refine lv_aload_n hx hb dT_addAll_29 rfl (lv_at hl 0 rfl) ?_
    refine lv_dup hx hb dT_addAll_30 rfl ?_
    refine mp_get hE.1 hI hT1 rfl gx_T 1 (by decide) (List.mem_cons_of_mem _ gf_T15) rfl dT_addAll_31 ?_
    refine lv_iload_n hx hb dT_addAll_34 rfl (lv_at hl 3 rfl) ?_
    refine lv_iload_n hx hb dT_addAll_35 rfl (lv_at hl 2 rfl) ?_
    refine lv_isub hx hb dT_addAll_36 ?_
    rw [pk_sub hab]
    refine lv_iadd hx hb dT_addAll_37 ?_
    refine mp_put hE.1 hI hT1 rfl gx_T ty_T to_T tn_T 1 (by decide) (List.mem_cons_of_mem _ gf_T15) rfl rfl rfl (Nat.le_of_ble_eq_true rfl) dT_addAll_38 (fun H locs hI => ?_)
    refine ct_vret hE hI hr hk ⟨rfl, ((mp_off.rf _ _).up (by simp) _).up (by simp) _, va_cpy g f a L.length (b - a), ?_, ?_, fun h => ?_⟩ (by decide) (by decide) dT_addAll_41
    · rw [mp_up_self, hlen, ← nI_add]
      rfl
    · rw [mp_up_ne _ _ (Ne.symm hne), mp_up_self]
    · exact (hf (by omega)).app hg (by omega)
end KT3
