/-! Term: endOf, equalTo; Walk: start, pass -/
section KT6
variable {l : Launch} {n0 : Nat} {D : va_G} {K : Nat → ClassId} {w : mp_W}
set_option maxRecDepth 100000 in
theorem kT_endOf {t ar cap a : Nat} {L : List Int} (hp : pt_R K w t ar cap L) (ha : a ≤ 2000) : ct_M l n0 D K yT_endOf (Cond.code yT_endOf cT_endOf 4 (some .int)) 0 0 0 0 [.ref t, .int (nI a)] w (fun v w' => w' = w ∧ v = some (.int (nI (a + tm_en tm_kc (L.drop a) 1)))) := by
  obtain ⟨f, hT, hA, hf, hc, hc2, hx2⟩ := hp.out
  refine ct_go (own := nm_T) (by decide) rfl (Nat.le_of_ble_eq_true rfl) ?_
  intro p e s m below meth c ls hE hI hr hk hn hl
  have hx := hE.1.1.1
  have hb := hE.1.1.2.1
  have hl : lv_has ls 4 [(0, .ref t), (1, .int (nI a))] := hl
  refine lv_iconst (v := 1) hx hb dT_endOf_0 (by decide) ?_
  refine lv_istore_n hx hb dT_endOf_1 rfl hl (by decide) rfl (fun ls hl => ?_)
  refine lv_iload_n hx hb dT_endOf_2 rfl (lv_at hl 2 rfl) ?_
  refine lv_istore_n hx hb dT_endOf_3 rfl hl (by decide) rfl (fun ls hl => ?_)
  refine lp_1 (G := fun ls => W p l e _ s m _ below meth c s.heap [] 0 0 _ (F0 m 4 ls [])) (I := fun k ls => ∃ i d, k = 5000 - i ∧ a ≤ i ∧ i ≤ 2000 ∧ d ≤ i + 1 ∧ i + tm_en tm_kc (L.drop i) d = a + tm_en tm_kc (L.drop a) 1 ∧ lv_has ls 4 [(3, .int (nI i)), (2, .int (nI d)), (0, .ref t), (1, .int (nI a))]) ?_ (5000 - a) ls ⟨a, 1, rfl, by omega, ha, by omega, rfl, hl⟩
  clear hl
  intro k ls hk0 ih
  obtain ⟨i, d, rfl, hai, hib, hdi, heq, hl⟩ := hk0
  have fin : ∀ ls, (L.length ≤ i ∨ d = 0) → lv_has ls 4 [(3, .int (nI i)), (2, .int (nI d)), (0, .ref t), (1, .int (nI a))] → W p l e { frames := 0, cells := 0, slots := 0, locals := 0 } s m ([Value.ref t, .int (nI a)] : List Value).toArray below meth c s.heap [] 0 0 (MQ below (ct_Q D w s.heap.size (fun v w' => w' = w ∧ v = some (.int (nI (a + tm_en tm_kc (L.drop a) 1))))) ([Value.ref t, .int (nI a)] : List Value).toArray s 0 0 (mp_A w s.heap.size)) (F0 m 52 ls []) := by
    intro ls hq hl
    have h0 : tm_en tm_kc (L.drop i) d = 0 := by
      rcases hq with hq | hq
      · rw [List.drop_eq_nil_of_le hq]; rfl
      · rw [hq, tm_en_0]
    refine lv_iload_n hx hb dT_endOf_52 rfl (lv_at hl 0 rfl) ?_
    exact ct_iret hE hI hr hk ⟨rfl, by rw [← heq, h0, Nat.add_zero]⟩ (by decide) (by decide) dT_endOf_53
  refine lv_iload_n hx hb dT_endOf_4 rfl (lv_at hl 0 rfl) ?_
  refine lv_aload_n hx hb dT_endOf_5 rfl (lv_at hl 2 rfl) ?_
  refine mp_get hE.1 hI hT rfl gx_T 1 (by decide) (List.mem_cons_of_mem _ gf_T15) rfl dT_endOf_6 ?_
  refine lv_icmp_ge (tgt := 52) hx hb dT_endOf_9 (by decide) (fun hq => ?_) (fun hq => ?_)
  · have hq : L.length ≤ i := (nI_leI (by omega) (by omega)).mp hq
    exact fin ls (Or.inl hq) hl
  · have hq : i < L.length := Nat.lt_of_not_le (fun h => hq (nI_le h (by omega)))
    obtain ⟨x, e1, m1⟩ := pt_at hq
    have b1 := hx2 x m1
    refine lv_iload_n hx hb dT_endOf_12 rfl (lv_at hl 1 rfl) ?_
    refine lv_if_le (tgt := 52) hx hb dT_endOf_13 (by decide) (fun hd => ?_) (fun hd => ?_)
    · have hd0 : d = 0 := by
        rcases Nat.eq_zero_or_pos d with h | h
        · exact h
        · exact absurd hd (nI_nle h (by omega))
      exact fin ls (Or.inr hd0) hl
    · have hd0 : 0 < d := Nat.pos_of_ne_zero (fun h => hd (by rw [h]; decide))
      obtain ⟨d, rfl⟩ : ∃ d', d = d' + 1 := ⟨d - 1, by omega⟩
      rw [pt_drop e1] at heq
      have heq : i + (1 + tm_en tm_kc (L.drop (i + 1)) (d + (tm_kc x).toNat)) = a + tm_en tm_kc (L.drop a) 1 := heq
      refine lv_aload_n hx hb dT_endOf_16 rfl (lv_at hl 2 rfl) ?_
      refine mp_get hE.1 hI hT rfl gx_T 0 (by decide) (List.mem_cons_of_mem _ gf_T9) rfl dT_endOf_17 ?_
      refine lv_iload_n hx hb dT_endOf_20 rfl (lv_at hl 0 rfl) ?_
      refine mp_ild hE.1 hI hA 0 rfl (vp_in_nI (by omega) (by omega)) dT_endOf_21 ?_
      rw [nI_clamp (by omega), hf i x e1]
      refine lv_iconst (v := (-1)) hx hb dT_endOf_22 (by decide) ?_
      refine lv_icmp_ne (tgt := 32) hx hb dT_endOf_23 (by decide) (fun h1 => ?_) (fun h1 => ?_)
      · have h1 : ¬ x = -1 := fun z => h1 ((ci_m1e b1).mpr z)
        refine lv_aload_n hx hb dT_endOf_32 rfl (lv_at hl 2 rfl) ?_
        refine mp_get hE.1 hI hT rfl gx_T 0 (by decide) (List.mem_cons_of_mem _ gf_T9) rfl dT_endOf_33 ?_
        refine lv_iload_n hx hb dT_endOf_36 rfl (lv_at hl 0 rfl) ?_
        refine mp_ild hE.1 hI hA 0 rfl (vp_in_nI (by omega) (by omega)) dT_endOf_37 ?_
        rw [nI_clamp (by omega), hf i x e1]
        refine lv_bipush (v := (-2)) hx hb dT_endOf_38 (by decide) ?_
        refine lv_icmp_eq (tgt := 46) hx hb dT_endOf_40 (by decide) (fun h2 => ?_) (fun h2 => ?_)
        · have h2 : x = -2 := (ci_m2e b1).mp h2
          refine lv_iinc (k := 0) (v := nI (i + 1)) hx hb dT_endOf_46 hl rfl (nI_1 i) (by decide) rfl (fun ls hl => ?_)
          refine lv_goto (tgt := 4) hx hb dT_endOf_49 (by decide) ?_
          refine ih _ ls (by omega) ⟨i + 1, d + 1, rfl, by omega, by omega, by omega, ?_, hl⟩
          rw [h2] at heq
          have : (tm_kc (-2)).toNat = 1 := by decide
          rw [this] at heq
          omega
        · have h2 : ¬ x = -2 := fun z => h2 ((ci_m2e b1).mpr z)
          refine lv_iinc (k := 1) (v := nI d) hx hb dT_endOf_43 hl rfl (by show nI (d + 1) + Int32.ofInt (-1) = nI d; exact pk_m1 d) (by decide) rfl (fun ls hl => ?_)
          refine lv_iinc (k := 1) (v := nI (i + 1)) hx hb dT_endOf_46 hl rfl (nI_1 i) (by decide) rfl (fun ls hl => ?_)
          refine lv_goto (tgt := 4) hx hb dT_endOf_49 (by decide) ?_
          refine ih _ ls (by omega) ⟨i + 1, d, rfl, by omega, by omega, by omega, ?_, hl⟩
          have : (tm_kc x).toNat = 0 := by simp [tm_kc, h1, h2]
          rw [this] at heq
          simp only [Nat.add_zero] at heq
          omega
      · have h1 : x = -1 := (ci_m1e b1).mp h1
        refine lv_iinc (k := 1) (v := nI (d + 2)) hx hb dT_endOf_26 hl rfl (nI_1 (d + 1)) (by decide) rfl (fun ls hl => ?_)
        refine lv_goto (tgt := 46) hx hb dT_endOf_29 (by decide) ?_
        refine lv_iinc (k := 1) (v := nI (i + 1)) hx hb dT_endOf_46 hl rfl (nI_1 i) (by decide) rfl (fun ls hl => ?_)
        refine lv_goto (tgt := 4) hx hb dT_endOf_49 (by decide) ?_
        refine ih _ ls (by omega) ⟨i + 1, d + 2, rfl, by omega, by omega, by omega, ?_, hl⟩
        rw [h1] at heq
        have : (tm_kc (-1)).toNat = 2 := by decide
        rw [this] at heq
        omega
set_option maxRecDepth 100000 in
theorem kT_equalTo {t ar cap o oar ocap : Nat} {L O : List Int} (hp : pt_R K w t ar cap L) (ho : pt_R K w o oar ocap O) : ct_M l n0 D K yT_equalTo (Cond.code yT_equalTo cT_equalTo 3 (some .boolean)) 0 0 0 0 [.ref t, .ref o] w (fun v w' => w' = w ∧ v = some (.int (if L = O then 1 else 0))) := by
  obtain ⟨f, hT, hA, hf, hc, hc2, hx2⟩ := hp.out
  obtain ⟨g, hoT, hoA, hg, hoc, hoc2, hox2⟩ := ho.out
  refine ct_go (own := nm_T) (by decide) rfl (Nat.le_of_ble_eq_true rfl) ?_
  intro p e s m below meth c ls hE hI hr hk hn hl
  have hx := hE.1.1.1
  have hb := hE.1.1.2.1
  have hl : lv_has ls 3 [(0, .ref t), (1, .ref o)] := hl
  refine lv_aload_n hx hb dT_equalTo_0 rfl (lv_at hl 0 rfl) ?_
  refine mp_get hE.1 hI hT rfl gx_T 1 (by decide) (List.mem_cons_of_mem _ gf_T15) rfl dT_equalTo_1 ?_
  refine lv_aload_n hx hb dT_equalTo_4 rfl (lv_at hl 1 rfl) ?_
  refine mp_get hE.1 hI hoT rfl gx_T 1 (by decide) (List.mem_cons_of_mem _ gf_T15) rfl dT_equalTo_5 ?_
  refine lv_icmp_eq (tgt := 13) hx hb dT_equalTo_8 (by decide) (fun hq => ?_) (fun hq => ?_)
  · have hlen : L.length = O.length := (nI_eq (by omega) (by omega)).mp hq
    refine lv_iconst (v := 0) hx hb dT_equalTo_13 (by decide) ?_
    refine lv_istore_n hx hb dT_equalTo_14 rfl hl (by decide) rfl (fun ls hl => ?_)
    refine lp_1 (G := fun ls => W p l e _ s m _ below meth c s.heap [] 0 0 _ (F0 m 15 ls [])) (I := fun k ls => ∃ i, k = L.length - i ∧ i ≤ L.length ∧ (∀ j, j < i → L[j]? = O[j]?) ∧ lv_has ls 3 [(2, .int (nI i)), (0, .ref t), (1, .ref o)]) ?_ (L.length - 0) ls ⟨0, rfl, by omega, fun j q => by omega, hl⟩
    clear hl
    intro k ls hk0 ih
    obtain ⟨i, rfl, hib, hall, hl⟩ := hk0
    refine lv_iload_n hx hb dT_equalTo_15 rfl (lv_at hl 0 rfl) ?_
    refine lv_aload_n hx hb dT_equalTo_16 rfl (lv_at hl 1 rfl) ?_
    refine mp_get hE.1 hI hT rfl gx_T 1 (by decide) (List.mem_cons_of_mem _ gf_T15) rfl dT_equalTo_17 ?_
    refine lv_icmp_ge (tgt := 46) hx hb dT_equalTo_20 (by decide) (fun hz => ?_) (fun hz => ?_)
    · have hz : L.length ≤ i := (nI_leI (by omega) (by omega)).mp hz
      refine lv_iconst (v := 1) hx hb dT_equalTo_46 (by decide) ?_
      refine ct_zret hE hI hr hk (Or.inr rfl) ⟨rfl, ?_⟩ (by decide) (by decide) dT_equalTo_47
      rw [if_pos]
      apply List.ext_getElem?
      intro j
      by_cases hj : j < i
      · exact hall j hj
      · rw [List.getElem?_eq_none (by omega), List.getElem?_eq_none (by omega)]
    · have hz : i < L.length := Nat.lt_of_not_le (fun h => hz (nI_le h (by omega)))
      obtain ⟨x, e1, m1⟩ := pt_at hz
      obtain ⟨y, e2, m2⟩ := pt_at (show i < O.length by omega)
      have b1 := hx2 x m1
      have b2 := hox2 y m2
      refine lv_aload_n hx hb dT_equalTo_23 rfl (lv_at hl 1 rfl) ?_
      refine mp_get hE.1 hI hT rfl gx_T 0 (by decide) (List.mem_cons_of_mem _ gf_T9) rfl dT_equalTo_24 ?_
      refine lv_iload_n hx hb dT_equalTo_27 rfl (lv_at hl 0 rfl) ?_
      refine mp_ild hE.1 hI hA 0 rfl (vp_in_nI (by omega) (by omega)) dT_equalTo_28 ?_
      rw [nI_clamp (by omega), hf i x e1]
      refine lv_aload_n hx hb dT_equalTo_29 rfl (lv_at hl 2 rfl) ?_
      refine mp_get hE.1 hI hoT rfl gx_T 0 (by decide) (List.mem_cons_of_mem _ gf_T9) rfl dT_equalTo_30 ?_
      refine lv_iload_n hx hb dT_equalTo_33 rfl (lv_at hl 0 rfl) ?_
      refine mp_ild hE.1 hI hoA 0 rfl (vp_in_nI (by omega) (by omega)) dT_equalTo_34 ?_
      rw [nI_clamp (by omega), hg i y e2]
      refine lv_icmp_eq (tgt := 40) hx hb dT_equalTo_35 (by decide) (fun hy => ?_) (fun hy => ?_)
      · have hxy : x = y := (ci_eq (by omega) (by omega)).mp hy
        refine lv_iinc (k := 0) (v := nI (i + 1)) hx hb dT_equalTo_40 hl rfl (nI_1 i) (by decide) rfl (fun ls hl => ?_)
        refine lv_goto (tgt := 15) hx hb dT_equalTo_43 (by decide) ?_
        refine ih _ ls (by omega) ⟨i + 1, rfl, by omega, fun j q => ?_, hl⟩
        by_cases hj : j = i
        · rw [hj, e1, e2, hxy]
        · exact hall j (by omega)
      · refine lv_iconst (v := 0) hx hb dT_equalTo_38 (by decide) ?_
        refine ct_zret hE hI hr hk (Or.inl rfl) ⟨rfl, ?_⟩ (by decide) (by decide) dT_equalTo_39
        rw [if_neg]
        intro q
        rw [q, e2] at e1
        exact hy (by rw [Option.some.inj e1])
  · refine lv_iconst (v := 0) hx hb dT_equalTo_11 (by decide) ?_
    refine ct_zret hE hI hr hk (Or.inl rfl) ⟨rfl, ?_⟩ (by decide) (by decide) dT_equalTo_12
    rw [if_neg]
    intro q
    exact hq (by rw [q])
/-- a Walk: p for an (a b), q for a FUNCTION; what waits, the count -/
abbrev ob_W (p q : Nat) (ka : Nat) (h c : Int32) : va_E := .inr (2, [.int (nI p), .int (nI q), .ref ka, .int h, .int c])
def pt_W (K : Nat → ClassId) (w : mp_W) (k ka fa ff : Nat) (u : List Nat × Nat) : Prop := ∃ f, w k = some (ob_W fa ff ka (nI u.1.length) (nI u.2)) ∧ w ka = some (ob_I K 150 f) ∧ u.1.length ≤ 150 ∧ ∀ i x, u.1.reverse[i]? = some x → f i = nI x
set_option maxRecDepth 100000 in
theorem kW_start {k ka fa ff : Nat} {u : List Nat × Nat} (hp : pt_W K w k ka fa ff u) : ct_M l n0 D K yW_start (Cond.code yW_start cW_start 1 none) 0 0 0 0 [.ref k] w (fun v w' => v = none ∧ mp_off [k, ka] w w' ∧ pt_W K w' k ka fa ff ([], 0)) := by
  obtain ⟨f, hT, hA, hh, hf⟩ := hp
  have hne : k ≠ ka := pt_ne hT hA pt_io
  refine ct_go (own := nm_W) (by decide) rfl (Nat.le_of_ble_eq_true rfl) ?_
  intro p e s m below meth c ls hE hI hr hk hn hl
  have hx := hE.1.1.1
  have hb := hE.1.1.2.1
  have hl : lv_has ls 1 [(0, .ref k)] := hl
  refine lv_aload_n hx hb dW_start_0 rfl (lv_at hl 0 rfl) ?_
  refine lv_iconst (v := 0) hx hb dW_start_1 (by decide) ?_
  refine mp_put hE.1 hI hT rfl gx_W ty_W to_W tn_W 3 (by decide) (List.mem_cons_of_mem _ gf_W22) rfl rfl rfl (Nat.le_of_ble_eq_true rfl) dW_start_2 (fun H locs hI => ?_)
  have hT1 : mp_up w k (ob_W fa ff ka 0 (nI u.2)) k = some (ob_W fa ff ka 0 (nI u.2)) := mp_up_self ..
  refine lv_aload_n hx hb dW_start_5 rfl (lv_at hl 0 rfl) ?_
  refine lv_iconst (v := 0) hx hb dW_start_6 (by decide) ?_
  refine mp_put hE.1 hI hT1 rfl gx_W ty_W to_W tn_W 4 (by decide) (List.mem_cons_of_mem _ gf_W25) rfl rfl rfl (Nat.le_of_ble_eq_true rfl) dW_start_7 (fun H locs hI => ?_)
  refine ct_vret hE hI hr hk ⟨rfl, ((mp_off.rf _ _).up (by simp) _).up (by simp) _, f, ?_, ?_, by simp, fun i x h => ?_⟩ (by decide) (by decide) dW_start_10
  · rw [mp_up_self]; rfl
  · rw [mp_up_ne _ _ (Ne.symm hne), mp_up_ne _ _ (Ne.symm hne)]; exact hA
  · simp at h
set_option maxRecDepth 100000 in
theorem kW_pass {k ka fa ff : Nat} {u : List Nat × Nat} {x : Int} (hp : pt_W K w k ka fa ff u) (hx0 : -2 ≤ x ∧ x ≤ 1000000) (hb1 : u.2 + fa < 1073741824) : ct_M l n0 D K yW_pass (Cond.code yW_pass cW_pass 2 none) 0 0 0 0 [.ref k, .int (ci_i x)] w (fun v w' => v = none ∧ mp_off [k, ka] w w' ∧ pt_W K w' k ka fa ff (tm_wk fa ff u x)) := by
  obtain ⟨f, hT, hA, hh, hf⟩ := hp
  have hne : k ≠ ka := pt_ne hT hA pt_io
  obtain ⟨h, c0⟩ := u
  refine ct_go (own := nm_W) (by decide) rfl (Nat.le_of_ble_eq_true rfl) ?_
  intro p e s m below meth c ls hE hI hr hk hn hl
  have hx := hE.1.1.1
  have hb := hE.1.1.2.1
  have hl : lv_has ls 2 [(0, .ref k), (1, .int (ci_i x))] := hl
  refine lv_iload_n hx hb dW_pass_0 rfl (lv_at hl 1 rfl) ?_
  refine lv_iconst (v := (-1)) hx hb dW_pass_1 (by decide) ?_
  refine lv_icmp_ne (tgt := 56) hx hb dW_pass_2 (by decide) (fun h1 => ?_) (fun h1 => ?_)
  · have h1 : ¬ x = -1 := fun z => h1 ((ci_m1e hx0).mpr z)
    refine lv_iload_n hx hb dW_pass_56 rfl (lv_at hl 1 rfl) ?_
    refine lv_bipush (v := (-2)) hx hb dW_pass_57 (by decide) ?_
    refine lv_icmp_ne (tgt := 78) hx hb dW_pass_59 (by decide) (fun h2 => ?_) (fun h2 => ?_)
    · have h2 : ¬ x = -2 := fun z => h2 ((ci_m2e hx0).mpr z)
      have hwk : tm_wk fa ff (h, c0) x = tm_pop h := by simp [tm_wk, h1, h2]
      refine lv_aload_n hx hb dW_pass_78 rfl (lv_at hl 0 rfl) ?_
      refine mp_get hE.1 hI hT rfl gx_W 3 (by decide) (List.mem_cons_of_mem _ gf_W22) rfl dW_pass_79 ?_
      refine lv_if_le (tgt := 111) hx hb dW_pass_82 (by decide) (fun h3 => ?_) (fun h3 => ?_)
      · have h3 : h = [] := by
          cases h with
          | nil => rfl
          | cons a b => exact absurd h3 (nI_nle (by simp) (by simp at hh ⊢; omega))
        subst h3
        refine lv_aload_n hx hb dW_pass_111 rfl (lv_at hl 0 rfl) ?_
        refine lv_iconst (v := 0) hx hb dW_pass_112 (by decide) ?_
        refine mp_put hE.1 hI hT rfl gx_W ty_W to_W tn_W 4 (by decide) (List.mem_cons_of_mem _ gf_W25) rfl rfl rfl (Nat.le_of_ble_eq_true rfl) dW_pass_113 (fun H locs hI => ?_)
        refine ct_vret hE hI hr hk ⟨rfl, (mp_off.rf _ _).up (by simp) _, f, ?_, ?_, ?_, fun i z hz => ?_⟩ (by decide) (by decide) dW_pass_116
        · rw [mp_up_self, hwk]; rfl
        · rw [mp_up_ne _ _ (Ne.symm hne)]; exact hA
        · rw [hwk]; simp [tm_pop]
        · rw [hwk] at hz; simp [tm_pop] at hz
      · cases h with
        | nil => exact absurd (show nI 0 ≤ 0 by decide) h3
        | cons y h =>
          have hlen : h.length + 1 ≤ 150 := by simpa using hh
          have hfy : f h.length = nI y := hf h.length y (by simp)
          refine lv_aload_n hx hb dW_pass_85 rfl (lv_at hl 0 rfl) ?_
          refine lv_dup hx hb dW_pass_86 rfl ?_
          refine mp_get hE.1 hI hT rfl gx_W 3 (by decide) (List.mem_cons_of_mem _ gf_W22) rfl dW_pass_87 ?_
          refine lv_iconst (v := 1) hx hb dW_pass_90 (by decide) ?_
          refine lv_isub hx hb dW_pass_91 ?_
          rw [show nI (y :: h, c0).1.length - 1 = nI h.length from nI_pred h.length]
          refine mp_put hE.1 hI hT rfl gx_W ty_W to_W tn_W 3 (by decide) (List.mem_cons_of_mem _ gf_W22) rfl rfl rfl (Nat.le_of_ble_eq_true rfl) dW_pass_92 (fun H locs hI => ?_)
          have hT1 : mp_up w k (ob_W fa ff ka (nI h.length) (nI c0)) k = some (ob_W fa ff ka (nI h.length) (nI c0)) := mp_up_self ..
          have hA1 : mp_up w k (ob_W fa ff ka (nI h.length) (nI c0)) ka = some (ob_I K 150 f) := by rw [mp_up_ne _ _ (Ne.symm hne)]; exact hA
          refine lv_aload_n hx hb dW_pass_95 rfl (lv_at hl 0 rfl) ?_
          refine lv_aload_n hx hb dW_pass_96 rfl (lv_at hl 0 rfl) ?_
          refine mp_get hE.1 hI hT1 rfl gx_W 2 (by decide) (List.mem_cons_of_mem _ gf_W18) rfl dW_pass_97 ?_
          refine lv_aload_n hx hb dW_pass_100 rfl (lv_at hl 0 rfl) ?_
          refine mp_get hE.1 hI hT1 rfl gx_W 3 (by decide) (List.mem_cons_of_mem _ gf_W22) rfl dW_pass_101 ?_
          refine mp_ild hE.1 hI hA1 0 rfl (vp_in_nI (by omega) (by omega)) dW_pass_104 ?_
          rw [nI_clamp (by omega), hfy]
          refine mp_put hE.1 hI hT1 rfl gx_W ty_W to_W tn_W 4 (by decide) (List.mem_cons_of_mem _ gf_W25) rfl rfl rfl (Nat.le_of_ble_eq_true rfl) dW_pass_105 (fun H locs hI => ?_)
          refine lv_goto (tgt := 116) hx hb dW_pass_108 (by decide) ?_
          refine ct_vret hE hI hr hk ⟨rfl, ((mp_off.rf _ _).up (by simp) _).up (by simp) _, f, ?_, ?_, ?_, fun i z hz => ?_⟩ (by decide) (by decide) dW_pass_116
          · rw [mp_up_self, hwk]; rfl
          · rw [mp_up_ne _ _ (Ne.symm hne)]; exact hA1
          · rw [hwk]; show h.length ≤ 150; omega
          · rw [hwk] at hz
            have hz : h.reverse[i]? = some z := hz
            have hi := (List.getElem?_eq_some_iff.mp hz).1
            refine hf i z ?_
            show (y :: h).reverse[i]? = some z
            rw [List.reverse_cons, List.getElem?_append_left hi]
            exact hz
    · have h2 : x = -2 := (ci_m2e hx0).mp h2
      have hwk : tm_wk fa ff (h, c0) x = (h, c0 + ff) := by rw [h2]; rfl
      refine lv_aload_n hx hb dW_pass_62 rfl (lv_at hl 0 rfl) ?_
      refine lv_dup hx hb dW_pass_63 rfl ?_
      refine mp_get hE.1 hI hT rfl gx_W 4 (by decide) (List.mem_cons_of_mem _ gf_W25) rfl dW_pass_64 ?_
      refine lv_aload_n hx hb dW_pass_67 rfl (lv_at hl 0 rfl) ?_
      refine mp_get hE.1 hI hT rfl gx_W 1 (by decide) (List.mem_cons_of_mem _ gf_W15) rfl dW_pass_68 ?_
      refine lv_iadd hx hb dW_pass_71 ?_
      rw [nI_add]
      refine mp_put hE.1 hI hT rfl gx_W ty_W to_W tn_W 4 (by decide) (List.mem_cons_of_mem _ gf_W25) rfl rfl rfl (Nat.le_of_ble_eq_true rfl) dW_pass_72 (fun H locs hI => ?_)
      refine lv_goto (tgt := 116) hx hb dW_pass_75 (by decide) ?_
      refine ct_vret hE hI hr hk ⟨rfl, (mp_off.rf _ _).up (by simp) _, f, ?_, ?_, ?_, fun i z hz => ?_⟩ (by decide) (by decide) dW_pass_116
      · rw [mp_up_self, hwk]; rfl
      · rw [mp_up_ne _ _ (Ne.symm hne)]; exact hA
      · rw [hwk]; exact hh
      · rw [hwk] at hz; exact hf i z hz
  · have h1 : x = -1 := (ci_m1e hx0).mp h1
    refine lv_aload_n hx hb dW_pass_5 rfl (lv_at hl 0 rfl) ?_
    refine lv_dup hx hb dW_pass_6 rfl ?_
    refine mp_get hE.1 hI hT rfl gx_W 4 (by decide) (List.mem_cons_of_mem _ gf_W25) rfl dW_pass_7 ?_
    refine lv_aload_n hx hb dW_pass_10 rfl (lv_at hl 0 rfl) ?_
    refine mp_get hE.1 hI hT rfl gx_W 0 (by decide) (List.mem_cons_of_mem _ gf_W9) rfl dW_pass_11 ?_
    refine lv_iadd hx hb dW_pass_14 ?_
    rw [nI_add]
    refine mp_put hE.1 hI hT rfl gx_W ty_W to_W tn_W 4 (by decide) (List.mem_cons_of_mem _ gf_W25) rfl rfl rfl (Nat.le_of_ble_eq_true rfl) dW_pass_15 (fun H locs hI => ?_)
    have hT1 : mp_up w k (ob_W fa ff ka (nI h.length) (nI (c0 + fa))) k = some (ob_W fa ff ka (nI h.length) (nI (c0 + fa))) := mp_up_self ..
    have hA1 : mp_up w k (ob_W fa ff ka (nI h.length) (nI (c0 + fa))) ka = some (ob_I K 150 f) := by rw [mp_up_ne _ _ (Ne.symm hne)]; exact hA
    have hh : h.length ≤ 150 := hh
    refine lv_aload_n hx hb dW_pass_18 rfl (lv_at hl 0 rfl) ?_
    refine mp_get hE.1 hI hT1 rfl gx_W 3 (by decide) (List.mem_cons_of_mem _ gf_W22) rfl dW_pass_19 ?_
    refine lv_aload_n hx hb dW_pass_22 rfl (lv_at hl 0 rfl) ?_
    refine mp_get hE.1 hI hT1 rfl gx_W 2 (by decide) (List.mem_cons_of_mem _ gf_W18) rfl dW_pass_23 ?_
    refine mp_len (v := nI 150) hE.1 hI hA1 0 rfl rfl dW_pass_26 ?_
    refine lv_icmp_ge (tgt := 116) hx hb dW_pass_27 (by decide) (fun h3 => ?_) (fun h3 => ?_)
    · have h3 : 150 ≤ h.length := (nI_leI (by omega) (by omega)).mp h3
      have hwk : tm_wk fa ff (h, c0) x = (h, c0 + fa) := by
        rw [h1]
        have : ¬ h.length < 150 := by omega
        simp [tm_wk, this]
      refine ct_vret hE hI hr hk ⟨rfl, (mp_off.rf _ _).up (by simp) _, f, ?_, ?_, ?_, fun i z hz => ?_⟩ (by decide) (by decide) dW_pass_116
      · rw [mp_up_self, hwk]; rfl
      · exact hA1
      · rw [hwk]; exact hh
      · rw [hwk] at hz; exact hf i z hz
    · have h3 : h.length < 150 := Nat.lt_of_not_le (fun z => h3 (nI_le z (by omega)))
      have hwk : tm_wk fa ff (h, c0) x = ((c0 + fa) :: h, c0 + fa) := by rw [h1]; exact tm_wk_a fa ff h3 c0
      refine lv_aload_n hx hb dW_pass_30 rfl (lv_at hl 0 rfl) ?_
      refine mp_get hE.1 hI hT1 rfl gx_W 2 (by decide) (List.mem_cons_of_mem _ gf_W18) rfl dW_pass_31 ?_
      refine lv_aload_n hx hb dW_pass_34 rfl (lv_at hl 0 rfl) ?_
      refine mp_get hE.1 hI hT1 rfl gx_W 3 (by decide) (List.mem_cons_of_mem _ gf_W22) rfl dW_pass_35 ?_
      refine lv_aload_n hx hb dW_pass_38 rfl (lv_at hl 0 rfl) ?_
      refine mp_get hE.1 hI hT1 rfl gx_W 4 (by decide) (List.mem_cons_of_mem _ gf_W25) rfl dW_pass_39 ?_
      refine mp_ist hE.1 hI hA1 0 rfl (vp_in_nI h3 (by omega)) dW_pass_42 (fun H locs hI => ?_)
      rw [nI_clamp (show h.length < 2 ^ 31 by omega)] at hI
      obtain ⟨w2, hwe⟩ : ∃ z, mp_up (mp_up w k (ob_W fa ff ka (nI h.length) (nI (c0 + fa)))) ka (ob_I K 150 (upd f h.length (nI (c0 + fa)))) = z := ⟨_, rfl⟩
      have hI : mp_I D cl_all (mp_A w s.heap.size) s.heap w2 H locs := by rw [← hwe]; exact hI
      have hT2 : w2 k = some (ob_W fa ff ka (nI h.length) (nI (c0 + fa))) := by rw [← hwe, mp_up_ne _ _ hne]; exact hT1
      have hA2 : w2 ka = some (ob_I K 150 (upd f h.length (nI (c0 + fa)))) := by rw [← hwe]; exact mp_up_self ..
      have ho2 : mp_off [k, ka] w w2 := by rw [← hwe]; exact ((mp_off.rf _ _).up (by simp) _).up (by simp) _
      refine lv_aload_n hx hb dW_pass_43 rfl (lv_at hl 0 rfl) ?_
      refine lv_dup hx hb dW_pass_44 rfl ?_
      refine mp_get hE.1 hI hT2 rfl gx_W 3 (by decide) (List.mem_cons_of_mem _ gf_W22) rfl dW_pass_45 ?_
      refine lv_iconst (v := 1) hx hb dW_pass_48 (by decide) ?_
      refine lv_iadd hx hb dW_pass_49 ?_
      rw [nI_1]
      refine mp_put hE.1 hI hT2 rfl gx_W ty_W to_W tn_W 3 (by decide) (List.mem_cons_of_mem _ gf_W22) rfl rfl rfl (Nat.le_of_ble_eq_true rfl) dW_pass_50 (fun H locs hI => ?_)
      refine lv_goto (tgt := 116) hx hb dW_pass_53 (by decide) ?_
      refine ct_vret hE hI hr hk ⟨rfl, ho2.up (by simp) _, upd f h.length (nI (c0 + fa)), ?_, ?_, ?_, fun i z hz => ?_⟩ (by decide) (by decide) dW_pass_116
      · rw [mp_up_self, hwk]; rfl
      · rw [mp_up_ne _ _ (Ne.symm hne)]; exact hA2
      · rw [hwk]; show h.length + 1 ≤ 150; omega
      · rw [hwk] at hz
        have hz : ((c0 + fa) :: h).reverse[i]? = some z := hz
        rw [List.reverse_cons] at hz
        have hi := (List.getElem?_eq_some_iff.mp hz).1
        rw [List.length_append, List.length_reverse, List.length_cons, List.length_nil] at hi
        by_cases q : i = h.length
        · subst q
          have : c0 + fa = z := by simpa using hz
          rw [pk_us, this]
        · rw [pk_un q]
          rw [List.getElem?_append_left (by rw [List.length_reverse]; omega)] at hz
          exact hf i z hz
end KT6
