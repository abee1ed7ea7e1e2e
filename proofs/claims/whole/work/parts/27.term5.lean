/-! Term: headRedex, redexes, kind, places, endOf, equalTo -/
def nc_n (f : Nat → Bool) : Nat → Nat
  | 0 => 0
  | n + 1 => nc_n f n + (if f n = true then 1 else 0)
theorem nc_le (f : Nat → Bool) : ∀ n, nc_n f n ≤ n := by
  intro n
  induction n with
  | zero => exact Nat.le_refl _
  | succ n ih => show nc_n f n + _ ≤ n + 1; split <;> omega
theorem nc_t {f : Nat → Bool} {n : Nat} (h : f n = true) : nc_n f (n + 1) = nc_n f n + 1 := by show nc_n f n + (if f n = true then 1 else 0) = _; rw [if_pos h]
theorem nc_f {f : Nat → Bool} {n : Nat} (h : f n = false) : nc_n f (n + 1) = nc_n f n := by show nc_n f n + (if f n = true then 1 else 0) = _; rw [h]; rfl
def pt_rxb (L : List Int) (i : Nat) : Bool := decide (L[i]? = some (-1)) && decide (L[i + 1]? = some (-2))
theorem pt_rxb_t {L : List Int} {i : Nat} : pt_rxb L i = true ↔ pt_rx L i := by simp [pt_rxb, pt_rx]
theorem pt_rxb_f {L : List Int} {i : Nat} (h : ¬ pt_rx L i) : pt_rxb L i = false := by
  cases hb : pt_rxb L i with
  | false => rfl
  | true => exact absurd (pt_rxb_t.mp hb) h
theorem pt_drop {L : List Int} {i : Nat} {x : Int} (h : L[i]? = some x) : L.drop i = x :: L.drop (i + 1) := by
  obtain ⟨hl, hx⟩ := List.getElem?_eq_some_iff.mp h
  rw [List.drop_eq_getElem_cons hl, hx]
section KT5
variable {l : Launch} {n0 : Nat} {D : va_G} {K : Nat → ClassId} {w : mp_W}
set_option maxRecDepth 100000 in
theorem kT_headRedex {t ar cap : Nat} {L : List Int} (hp : pt_R K w t ar cap L) (h1 : 1 ≤ L.length) : ct_M l n0 D K yT_headRedex (Cond.code yT_headRedex cT_headRedex 2 (some .int)) 1 30 0 0 [.ref t] w (fun v w' => w' = w ∧ ∃ r : Int32, v = some (.int r) ∧ ((∃ i, r = nI i ∧ pt_rx L i ∧ ∀ j, j < i → L[j]? = some (-1) ∧ ¬ pt_rx L j) ∨ (r = -1 ∧ ∀ i, (∀ j, j < i → L[j]? = some (-1) ∧ ¬ pt_rx L j) → ¬ pt_rx L i))) := by
  obtain ⟨f, hT, hA, hf, hc, hc2, hx2⟩ := hp.out
  refine ct_go (own := nm_T) (by decide) rfl (Nat.le_of_ble_eq_true rfl) ?_
  intro p e s m below meth c ls hE hI hr hk hn hl
  have hx := hE.1.1.1
  have hb := hE.1.1.2.1
  have hl : lv_has ls 2 [(0, .ref t)] := hl
  refine lv_iconst (v := 0) hx hb dT_headRedex_0 (by decide) ?_
  refine lv_istore_n hx hb dT_headRedex_1 rfl hl (by decide) rfl (fun ls hl => ?_)
  refine lp_3 (G := fun ls H locs => W p l e _ s m _ below meth c H locs 0 0 _ (F0 m 2 ls [])) (I := fun k ls H locs => ∃ i, k = L.length - i ∧ i < 2001 ∧ (∀ j, j < i → L[j]? = some (-1) ∧ ¬ pt_rx L j) ∧ lv_has ls 2 [(1, .int (nI i)), (0, .ref t)] ∧ mp_I D cl_all (mp_A w s.heap.size) s.heap w H locs) ?_ (L.length - 0) ls _ _ ⟨0, rfl, by omega, fun j q => by omega, hl, hI⟩
  clear hl hI
  intro k ls H locs hk0 ih
  obtain ⟨i, rfl, hib, hno, hl, hI⟩ := hk0
  refine lv_iload_n hx hb dT_headRedex_2 rfl (lv_at hl 0 rfl) ?_
  refine lv_aload_n hx hb dT_headRedex_3 rfl (lv_at hl 1 rfl) ?_
  refine mp_get hE.1 hI hT rfl gx_T 1 (by decide) (List.mem_cons_of_mem _ gf_T15) rfl dT_headRedex_4 ?_
  refine lv_iconst (v := 1) hx hb dT_headRedex_7 (by decide) ?_
  refine lv_isub hx hb dT_headRedex_8 ?_
  rw [show (1 : Int32) = nI 1 from rfl, pk_sub h1]
  refine lv_icmp_ge (tgt := 38) hx hb dT_headRedex_9 (by decide) (fun hq => ?_) (fun hq => ?_)
  · have hq : L.length - 1 ≤ i := (nI_leI (by omega) (by omega)).mp hq
    refine lv_iconst (v := (-1)) hx hb dT_headRedex_38 (by decide) ?_
    refine ct_iret hE hI hr hk ⟨rfl, -1, rfl, Or.inr ⟨rfl, fun j q1 q2 => ?_⟩⟩ (by decide) (by decide) dT_headRedex_39
    have := (List.getElem?_eq_some_iff.mp q2.2).1
    exact (hno j (by omega)).2 q2
  · have hq : i < L.length - 1 := Nat.lt_of_not_le (fun h => hq (nI_le h (by omega)))
    obtain ⟨x, e1, m1⟩ := pt_at (show i < L.length by omega)
    refine lv_aload_n hx hb dT_headRedex_12 rfl (lv_at hl 1 rfl) ?_
    refine mp_get hE.1 hI hT rfl gx_T 0 (by decide) (List.mem_cons_of_mem _ gf_T9) rfl dT_headRedex_13 ?_
    refine lv_iload_n hx hb dT_headRedex_16 rfl (lv_at hl 0 rfl) ?_
    refine mp_ild hE.1 hI hA 0 rfl (vp_in_nI (by omega) (by omega)) dT_headRedex_17 ?_
    rw [nI_clamp (by omega), hf i x e1]
    refine lv_iconst (v := (-1)) hx hb dT_headRedex_18 (by decide) ?_
    refine lv_icmp_ne (tgt := 38) hx hb dT_headRedex_19 (by decide) (fun hy => ?_) (fun hy => ?_)
    · skip
      refine lv_iconst (v := (-1)) hx hb dT_headRedex_38 (by decide) ?_
      refine ct_iret hE hI hr hk ⟨rfl, -1, rfl, Or.inr ⟨rfl, fun j q1 q2 => ?_⟩⟩ (by decide) (by decide) dT_headRedex_39
      have hx1 : x ≠ -1 := fun z => hy ((ci_m1e (hx2 x m1)).mpr z)
      rcases Nat.lt_trichotomy j i with q | q | q
      · exact (hno j q).2 q2
      · subst q
        have := q2.1
        rw [e1] at this
        exact hx1 (Option.some.inj this)
      · have := (q1 i q).1
        rw [e1] at this
        exact hx1 (Option.some.inj this)
    · have hx1 : x = -1 := (ci_m1e (hx2 x m1)).mp hy
      refine lv_aload_n hx hb dT_headRedex_22 rfl (lv_at hl 1 rfl) ?_
      refine lv_iload_n hx hb dT_headRedex_23 rfl (lv_at hl 0 rfl) ?_
      refine ct_V (n := 1) hE hI (kT_isRedex (i := i) hp (by omega)) hT rfl gm_T42 gi_T_isRedex gs_T_T_isRedex gz_T gc_T_isRedex (by decide +kernel) ⟨Nat.le_of_ble_eq_true rfl, Nat.le_of_ble_eq_true rfl⟩ rfl hl.1 rfl (Nat.le_of_ble_eq_true rfl) dT_headRedex_24 ⟨Nat.le_of_ble_eq_true rfl, Nat.le_of_ble_eq_true rfl⟩ (fun v w1 H locs hq hI => ?_)
      obtain ⟨hw, r, rfl, hrx⟩ := hq
      subst w1
      show W _ _ _ _ _ _ _ _ _ _ _ _ _ _ _ (F0 _ _ _ [.int _])
      refine lv_if_eq (tgt := 32) hx hb dT_headRedex_27 (by decide) (fun hz => ?_) (fun hz => ?_)
      · rcases hrx with ⟨e, -⟩ | ⟨-, hn0⟩
        · rw [e] at hz; exact absurd hz (by decide)
        refine lv_iinc (k := 0) (v := nI (i + 1)) hx hb dT_headRedex_32 hl rfl (nI_1 i) (by decide) rfl (fun ls hl => ?_)
        refine lv_goto (tgt := 2) hx hb dT_headRedex_35 (by decide) ?_
        refine ih (L.length - (i + 1)) ls H locs (by omega) ⟨i + 1, rfl, by omega, fun j q2 => ?_, hl, hI⟩
        by_cases q : j = i
        · rw [q]; exact ⟨by rw [e1, hx1], hn0⟩
        · exact hno j (by omega)
      · rcases hrx with ⟨-, hy⟩ | ⟨e, -⟩
        · skip
          refine lv_iload_n hx hb dT_headRedex_30 rfl (lv_at hl 0 rfl) ?_
          exact ct_iret hE hI hr hk ⟨rfl, nI i, rfl, Or.inl ⟨i, rfl, hy, hno⟩⟩ (by decide) (by decide) dT_headRedex_31
        · exact absurd e hz
set_option maxRecDepth 100000 in
theorem kT_redexes {t ar cap : Nat} {L : List Int} (hp : pt_R K w t ar cap L) (h1 : 1 ≤ L.length) : ct_M l n0 D K yT_redexes (Cond.code yT_redexes cT_redexes 3 (some .int)) 1 30 0 0 [.ref t] w (fun v w' => w' = w ∧ v = some (.int (nI (nc_n (pt_rxb L) (L.length - 1))))) := by
  obtain ⟨f, hT, hA, hf, hc, hc2, hx2⟩ := hp.out
  refine ct_go (own := nm_T) (by decide) rfl (Nat.le_of_ble_eq_true rfl) ?_
  intro p e s m below meth c ls hE hI hr hk hn hl
  have hx := hE.1.1.1
  have hb := hE.1.1.2.1
  have hl : lv_has ls 3 [(0, .ref t)] := hl
  refine lv_iconst (v := 0) hx hb dT_redexes_0 (by decide) ?_
  refine lv_istore_n hx hb dT_redexes_1 rfl hl (by decide) rfl (fun ls hl => ?_)
  refine lv_iconst (v := 0) hx hb dT_redexes_2 (by decide) ?_
  refine lv_istore_n hx hb dT_redexes_3 rfl hl (by decide) rfl (fun ls hl => ?_)
  refine lp_3 (G := fun ls H locs => W p l e _ s m _ below meth c H locs 0 0 _ (F0 m 4 ls [])) (I := fun k ls H locs => ∃ i, k = L.length - i ∧ i ≤ L.length - 1 ∧ lv_has ls 3 [(2, .int (nI i)), (1, .int (nI (nc_n (pt_rxb L) i))), (0, .ref t)] ∧ mp_I D cl_all (mp_A w s.heap.size) s.heap w H locs) ?_ (L.length - 0) ls _ _ ⟨0, rfl, by omega, hl, hI⟩
  clear hl hI
  intro k ls H locs hk0 ih
  obtain ⟨i, rfl, hib, hl, hI⟩ := hk0
  refine lv_iload_n hx hb dT_redexes_4 rfl (lv_at hl 0 rfl) ?_
  refine lv_aload_n hx hb dT_redexes_5 rfl (lv_at hl 2 rfl) ?_
  refine mp_get hE.1 hI hT rfl gx_T 1 (by decide) (List.mem_cons_of_mem _ gf_T15) rfl dT_redexes_6 ?_
  refine lv_iconst (v := 1) hx hb dT_redexes_9 (by decide) ?_
  refine lv_isub hx hb dT_redexes_10 ?_
  rw [show (1 : Int32) = nI 1 from rfl, pk_sub h1]
  refine lv_icmp_ge (tgt := 31) hx hb dT_redexes_11 (by decide) (fun hq => ?_) (fun hq => ?_)
  · have hq : L.length - 1 ≤ i := (nI_leI (by omega) (by omega)).mp hq
    have : i = L.length - 1 := by omega
    subst this
    refine lv_iload_n hx hb dT_redexes_31 rfl (lv_at hl 1 rfl) ?_
    exact ct_iret hE hI hr hk ⟨rfl, rfl⟩ (by decide) (by decide) dT_redexes_32
  · have hq : i < L.length - 1 := Nat.lt_of_not_le (fun h => hq (nI_le h (by omega)))
    refine lv_aload_n hx hb dT_redexes_14 rfl (lv_at hl 2 rfl) ?_
    refine lv_iload_n hx hb dT_redexes_15 rfl (lv_at hl 0 rfl) ?_
    refine ct_V (n := 1) hE hI (kT_isRedex (i := i) hp (by omega)) hT rfl gm_T42 gi_T_isRedex gs_T_T_isRedex gz_T gc_T_isRedex (by decide +kernel) ⟨Nat.le_of_ble_eq_true rfl, Nat.le_of_ble_eq_true rfl⟩ rfl hl.1 rfl (Nat.le_of_ble_eq_true rfl) dT_redexes_16 ⟨Nat.le_of_ble_eq_true rfl, Nat.le_of_ble_eq_true rfl⟩ (fun v w1 H locs hq hI => ?_)
    obtain ⟨hw, r, rfl, hrx⟩ := hq
    subst w1
    show W _ _ _ _ _ _ _ _ _ _ _ _ _ _ _ (F0 _ _ _ [.int _])
    refine lv_if_eq (tgt := 25) hx hb dT_redexes_19 (by decide) (fun hz => ?_) (fun hz => ?_)
    · rcases hrx with ⟨e, -⟩ | ⟨-, hn0⟩
      · rw [e] at hz; exact absurd hz (by decide)
      refine lv_iinc (k := 0) (v := nI (i + 1)) hx hb dT_redexes_25 hl rfl (nI_1 i) (by decide) rfl (fun ls hl => ?_)
      refine lv_goto (tgt := 4) hx hb dT_redexes_28 (by decide) ?_
      exact ih (L.length - (i + 1)) ls H locs (by omega) ⟨i + 1, rfl, by omega, by rw [nc_f (pt_rxb_f hn0)]; exact hl, hI⟩
    · rcases hrx with ⟨-, hy⟩ | ⟨e, -⟩
      · skip
        refine lv_iinc (k := 1) (v := nI (nc_n (pt_rxb L) i + 1)) hx hb dT_redexes_22 hl rfl (nI_1 _) (by decide) rfl (fun ls hl => ?_)
        refine lv_iinc (k := 1) (v := nI (i + 1)) hx hb dT_redexes_25 hl rfl (nI_1 i) (by decide) rfl (fun ls hl => ?_)
        refine lv_goto (tgt := 4) hx hb dT_redexes_28 (by decide) ?_
        exact ih (L.length - (i + 1)) ls H locs (by omega) ⟨i + 1, rfl, by omega, by rw [nc_t (pt_rxb_t.mpr hy)]; exact hl, hI⟩
      · exact absurd e hz
set_option maxRecDepth 100000 in
theorem kT_kind {t ar cap : Nat} {L : List Int} {x : Int} (hp : pt_R K w t ar cap L) (e1 : L[0]? = some x) : ct_M l n0 D K yT_kind (Cond.code yT_kind cT_kind 1 (some .int)) 0 0 0 0 [.ref t] w (fun v w' => w' = w ∧ v = some (.int (if x = -1 then 1 else if x = -2 then 2 else 0))) := by
  obtain ⟨f, hT, hA, hf, hc, hc2, hx2⟩ := hp.out
  have m1 := hx2 x (List.mem_of_getElem? e1)
  have hl1 := (List.getElem?_eq_some_iff.mp e1).1
  refine ct_go (own := nm_T) (by decide) rfl (Nat.le_of_ble_eq_true rfl) ?_
  intro p e s m below meth c ls hE hI hr hk hn hl
  have hx := hE.1.1.1
  have hb := hE.1.1.2.1
  have hl : lv_has ls 1 [(0, .ref t)] := hl
  refine lv_aload_n hx hb dT_kind_0 rfl (lv_at hl 0 rfl) ?_
  refine mp_get hE.1 hI hT rfl gx_T 0 (by decide) (List.mem_cons_of_mem _ gf_T9) rfl dT_kind_1 ?_
  refine lv_iconst (v := 0) hx hb dT_kind_4 (by decide) ?_
  refine mp_ild hE.1 hI hA 0 rfl (vp_in_nI (n := 0) (by omega) (by omega)) dT_kind_5 ?_
  rw [show (0 : Int32).toNatClampNeg = 0 from rfl, hf 0 x e1]
  refine lv_iconst (v := (-1)) hx hb dT_kind_6 (by decide) ?_
  refine lv_icmp_ne (tgt := 12) hx hb dT_kind_7 (by decide) (fun hq => ?_) (fun hq => ?_)
  · have q1 : ¬ x = -1 := fun z => hq ((ci_m1e m1).mpr z)
    refine lv_aload_n hx hb dT_kind_12 rfl (lv_at hl 0 rfl) ?_
    refine mp_get hE.1 hI hT rfl gx_T 0 (by decide) (List.mem_cons_of_mem _ gf_T9) rfl dT_kind_13 ?_
    refine lv_iconst (v := 0) hx hb dT_kind_16 (by decide) ?_
    refine mp_ild hE.1 hI hA 0 rfl (vp_in_nI (n := 0) (by omega) (by omega)) dT_kind_17 ?_
    rw [show (0 : Int32).toNatClampNeg = 0 from rfl, hf 0 x e1]
    refine lv_bipush (v := (-2)) hx hb dT_kind_18 (by decide) ?_
    refine lv_icmp_ne (tgt := 27) hx hb dT_kind_20 (by decide) (fun hq2 => ?_) (fun hq2 => ?_)
    · have q2 : ¬ x = -2 := fun z => hq2 ((ci_m2e m1).mpr z)
      refine lv_iconst (v := 0) hx hb dT_kind_27 (by decide) ?_
      exact ct_iret hE hI hr hk ⟨rfl, by rw [if_neg q1, if_neg q2]⟩ (by decide) (by decide) dT_kind_28
    · have q2 : x = -2 := (ci_m2e m1).mp hq2
      refine lv_iconst (v := 2) hx hb dT_kind_23 (by decide) ?_
      refine lv_goto (tgt := 28) hx hb dT_kind_24 (by decide) ?_
      exact ct_iret hE hI hr hk ⟨rfl, by rw [if_neg q1, if_pos q2]⟩ (by decide) (by decide) dT_kind_28
  · have q1 : x = -1 := (ci_m1e m1).mp hq
    refine lv_iconst (v := 1) hx hb dT_kind_10 (by decide) ?_
    exact ct_iret hE hI hr hk ⟨rfl, by rw [if_pos q1]⟩ (by decide) (by decide) dT_kind_11
set_option maxRecDepth 100000 in
theorem kT_places {t ar cap : Nat} {L : List Int} {z : Int} (hp : pt_R K w t ar cap L) (hz : -1000000 ≤ z ∧ z ≤ 1000000) : ct_M l n0 D K yT_places (Cond.code yT_places cT_places 4 (some .int)) 0 0 0 0 [.ref t, .int (ci_i z)] w (fun v w' => w' = w ∧ v = some (.int (nI (nc_n (fun i => decide (L[i]? = some z)) L.length)))) := by
  obtain ⟨f, hT, hA, hf, hc, hc2, hx2⟩ := hp.out
  refine ct_go (own := nm_T) (by decide) rfl (Nat.le_of_ble_eq_true rfl) ?_
  intro p e s m below meth c ls hE hI hr hk hn hl
  have hx := hE.1.1.1
  have hb := hE.1.1.2.1
  have hl : lv_has ls 4 [(0, .ref t), (1, .int (ci_i z))] := hl
  refine lv_iconst (v := 0) hx hb dT_places_0 (by decide) ?_
  refine lv_istore_n hx hb dT_places_1 rfl hl (by decide) rfl (fun ls hl => ?_)
  refine lv_iconst (v := 0) hx hb dT_places_2 (by decide) ?_
  refine lv_istore_n hx hb dT_places_3 rfl hl (by decide) rfl (fun ls hl => ?_)
  refine lp_1 (G := fun ls => W p l e _ s m _ below meth c s.heap [] 0 0 _ (F0 m 4 ls [])) (I := fun k ls => ∃ i, k = L.length - i ∧ i ≤ L.length ∧ lv_has ls 4 [(3, .int (nI i)), (2, .int (nI (nc_n (fun i => decide (L[i]? = some z)) i))), (0, .ref t), (1, .int (ci_i z))]) ?_ (L.length - 0) ls ⟨0, rfl, by omega, hl⟩
  clear hl
  intro k ls hk0 ih
  obtain ⟨i, rfl, hib, hl⟩ := hk0
  refine lv_iload_n hx hb dT_places_4 rfl (lv_at hl 0 rfl) ?_
  refine lv_aload_n hx hb dT_places_5 rfl (lv_at hl 2 rfl) ?_
  refine mp_get hE.1 hI hT rfl gx_T 1 (by decide) (List.mem_cons_of_mem _ gf_T15) rfl dT_places_6 ?_
  refine lv_icmp_ge (tgt := 31) hx hb dT_places_9 (by decide) (fun hq => ?_) (fun hq => ?_)
  · have hq : L.length ≤ i := (nI_leI (by omega) (by omega)).mp hq
    have : i = L.length := by omega
    subst this
    refine lv_iload_n hx hb dT_places_31 rfl (lv_at hl 1 rfl) ?_
    exact ct_iret hE hI hr hk ⟨rfl, rfl⟩ (by decide) (by decide) dT_places_32
  · have hq : i < L.length := Nat.lt_of_not_le (fun h => hq (nI_le h (by omega)))
    obtain ⟨x, e1, m1⟩ := pt_at hq
    have b1 := hx2 x m1
    refine lv_aload_n hx hb dT_places_12 rfl (lv_at hl 2 rfl) ?_
    refine mp_get hE.1 hI hT rfl gx_T 0 (by decide) (List.mem_cons_of_mem _ gf_T9) rfl dT_places_13 ?_
    refine lv_iload_n hx hb dT_places_16 rfl (lv_at hl 0 rfl) ?_
    refine mp_ild hE.1 hI hA 0 rfl (vp_in_nI (by omega) (by omega)) dT_places_17 ?_
    rw [nI_clamp (by omega), hf i x e1]
    refine lv_iload_n hx hb dT_places_18 rfl (lv_at hl 3 rfl) ?_
    refine lv_icmp_ne (tgt := 25) hx hb dT_places_19 (by decide) (fun hy => ?_) (fun hy => ?_)
    · have hxz : ¬ L[i]? = some z := by rw [e1]; intro q; exact hy (by rw [Option.some.inj q])
      refine lv_iinc (k := 0) (v := nI (i + 1)) hx hb dT_places_25 hl rfl (nI_1 i) (by decide) rfl (fun ls hl => ?_)
      refine lv_goto (tgt := 4) hx hb dT_places_28 (by decide) ?_
      exact ih (L.length - (i + 1)) ls (by omega) ⟨i + 1, rfl, by omega, by rw [nc_f (decide_eq_false hxz)]; exact hl⟩
    · have hxz : L[i]? = some z := by rw [e1, (ci_eq (by omega) (by omega)).mp hy]
      refine lv_iinc (k := 1) (v := nI (nc_n (fun i => decide (L[i]? = some z)) i + 1)) hx hb dT_places_22 hl rfl (nI_1 _) (by decide) rfl (fun ls hl => ?_)
      refine lv_iinc (k := 1) (v := nI (i + 1)) hx hb dT_places_25 hl rfl (nI_1 i) (by decide) rfl (fun ls hl => ?_)
      refine lv_goto (tgt := 4) hx hb dT_places_28 (by decide) ?_
      exact ih (L.length - (i + 1)) ls (by omega) ⟨i + 1, rfl, by omega, by rw [nc_t (decide_eq_true hxz)]; exact hl⟩
end KT5
