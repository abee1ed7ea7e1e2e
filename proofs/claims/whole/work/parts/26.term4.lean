/-! Term: isRedex, kind, firstRedex, headRedex, redexes, places -/
theorem lp_1 {α : Type} {G : α → Prop} (I : Nat → α → Prop) (hs : ∀ k x, I k x → (∀ k' y, k' < k → I k' y → G y) → G x) (k : Nat) (x : α) (h : I k x) : G x := by
  induction k using Nat.strongRecOn generalizing x with
  | ind k ih => exact hs k x h (fun k' y hk hy => ih k' hk y hy)
theorem lp_3 {α β γ : Type} {G : α → β → γ → Prop} (I : Nat → α → β → γ → Prop) (hs : ∀ k x y z, I k x y z → (∀ k' x' y' z', k' < k → I k' x' y' z' → G x' y' z') → G x y z) (k : Nat) (x : α) (y : β) (z : γ) (h : I k x y z) : G x y z := by
  induction k using Nat.strongRecOn generalizing x y z with
  | ind k ih => exact hs k x y z h (fun k' x' y' z' hk hy => ih k' hk x' y' z' hy)
/-- a Term whose row L stands in its cells -/
def pt_R (K : Nat → ClassId) (w : mp_W) (t ar cap : Nat) (L : List Int) : Prop := pt_T K w t ar cap L ∧ L.length ≤ cap ∧ cap ≤ 2000 ∧ ∀ x ∈ L, -2 ≤ x ∧ x ≤ 1000000
theorem pt_R.out {K : Nat → ClassId} {w : mp_W} {t ar cap : Nat} {L : List Int} (h : pt_R K w t ar cap L) : ∃ f, w t = some (ob_T ar (nI L.length)) ∧ w ar = some (ob_I K cap f) ∧ pt_h f L ∧ L.length ≤ cap ∧ cap ≤ 2000 ∧ ∀ x ∈ L, -2 ≤ x ∧ x ≤ 1000000 := by
  obtain ⟨⟨f, h1, h2, h3⟩, h4, h5, h6⟩ := h
  exact ⟨f, h1, h2, h3 h4, h4, h5, h6⟩
def pt_rx (L : List Int) (i : Nat) : Prop := L[i]? = some (-1) ∧ L[i + 1]? = some (-2)
theorem pt_at {L : List Int} {i : Nat} (h : i < L.length) : ∃ x, L[i]? = some x ∧ x ∈ L := ⟨L[i], List.getElem?_eq_getElem h, List.getElem_mem h⟩
theorem ci_m1e {x : Int} (h : -2 ≤ x ∧ x ≤ 1000000) : ci_i x = -1 ↔ x = -1 := by rw [ci_m1, ci_eq (by omega) (by omega)]
theorem ci_m2e {x : Int} (h : -2 ≤ x ∧ x ≤ 1000000) : ci_i x = -2 ↔ x = -2 := by rw [ci_m2, ci_eq (by omega) (by omega)]
section KT4
variable {l : Launch} {n0 : Nat} {D : va_G} {K : Nat → ClassId} {w : mp_W}
set_option maxRecDepth 100000 in
theorem kT_isRedex {t ar cap i : Nat} {L : List Int} (hp : pt_R K w t ar cap L) (hi : i + 1 < L.length) : ct_M l n0 D K yT_isRedex (Cond.code yT_isRedex cT_isRedex 2 (some .boolean)) 0 0 0 0 [.ref t, .int (nI i)] w (fun v w' => w' = w ∧ ∃ r : Int32, v = some (.int r) ∧ ((r = 1 ∧ pt_rx L i) ∨ (r = 0 ∧ ¬ pt_rx L i))) := by
  obtain ⟨f, hT, hA, hf, hc, hc2, hx2⟩ := hp.out
  obtain ⟨x, e1, m1⟩ := pt_at (show i < L.length by omega)
  obtain ⟨z, e2, m2⟩ := pt_at hi
  have b1 := hx2 x m1
  have b2 := hx2 z m2
  refine ct_go (own := nm_T) (by decide) rfl (Nat.le_of_ble_eq_true rfl) ?_
  intro p e s m below meth c ls hE hI hr hk hn hl
  have hx := hE.1.1.1
  have hb := hE.1.1.2.1
  have hl : lv_has ls 2 [(0, .ref t), (1, .int (nI i))] := hl
  refine lv_aload_n hx hb dT_isRedex_0 rfl (lv_at hl 0 rfl) ?_
  refine mp_get hE.1 hI hT rfl gx_T 0 (by decide) (List.mem_cons_of_mem _ gf_T9) rfl dT_isRedex_1 ?_
  refine lv_iload_n hx hb dT_isRedex_4 rfl (lv_at hl 1 rfl) ?_
  refine mp_ild hE.1 hI hA 0 rfl (vp_in_nI (by omega) (by omega)) dT_isRedex_5 ?_
  rw [nI_clamp (by omega), hf i x e1]
  refine lv_iconst (v := (-1)) hx hb dT_isRedex_6 (by decide) ?_
  refine lv_icmp_ne (tgt := 27) hx hb dT_isRedex_7 (by decide) (fun hq => ?_) (fun hq => ?_)
  · refine lv_iconst (v := 0) hx hb dT_isRedex_27 (by decide) ?_
    refine ct_zret hE hI hr hk (Or.inl rfl) ⟨rfl, 0, rfl, Or.inr ⟨rfl, fun q => ?_⟩⟩ (by decide) (by decide) dT_isRedex_28
    have : x = -1 := by have := q.1; rw [e1] at this; exact Option.some.inj this
    exact hq ((ci_m1e b1).mpr this)
  · have q1 := (ci_m1e b1).mp hq
    refine lv_aload_n hx hb dT_isRedex_10 rfl (lv_at hl 0 rfl) ?_
    refine mp_get hE.1 hI hT rfl gx_T 0 (by decide) (List.mem_cons_of_mem _ gf_T9) rfl dT_isRedex_11 ?_
    refine lv_iload_n hx hb dT_isRedex_14 rfl (lv_at hl 1 rfl) ?_
    refine lv_iconst (v := 1) hx hb dT_isRedex_15 (by decide) ?_
    refine lv_iadd hx hb dT_isRedex_16 ?_
    rw [nI_1]
    refine mp_ild hE.1 hI hA 0 rfl (vp_in_nI (by omega) (by omega)) dT_isRedex_17 ?_
    rw [nI_clamp (by omega), hf _ z e2]
    refine lv_bipush (v := (-2)) hx hb dT_isRedex_18 (by decide) ?_
    refine lv_icmp_ne (tgt := 27) hx hb dT_isRedex_20 (by decide) (fun hq2 => ?_) (fun hq2 => ?_)
    · refine lv_iconst (v := 0) hx hb dT_isRedex_27 (by decide) ?_
      refine ct_zret hE hI hr hk (Or.inl rfl) ⟨rfl, 0, rfl, Or.inr ⟨rfl, fun q => ?_⟩⟩ (by decide) (by decide) dT_isRedex_28
      have : z = -2 := by have := q.2; rw [e2] at this; exact Option.some.inj this
      exact hq2 ((ci_m2e b2).mpr this)
    · have q2 := (ci_m2e b2).mp hq2
      refine lv_iconst (v := 1) hx hb dT_isRedex_23 (by decide) ?_
      refine lv_goto (tgt := 28) hx hb dT_isRedex_24 (by decide) ?_
      exact ct_zret hE hI hr hk (Or.inr rfl) ⟨rfl, 1, rfl, Or.inl ⟨rfl, by rw [e1, q1], by rw [e2, q2]⟩⟩ (by decide) (by decide) dT_isRedex_28
set_option maxRecDepth 100000 in
theorem kT_firstRedex {t ar cap a : Nat} {L : List Int} (hp : pt_R K w t ar cap L) (ha : a < 1000000) (h1 : 1 ≤ L.length) : ct_M l n0 D K yT_firstRedex (Cond.code yT_firstRedex cT_firstRedex 3 (some .int)) 1 30 0 0 [.ref t, .int (nI a)] w (fun v w' => w' = w ∧ ∃ r : Int32, v = some (.int r) ∧ ((∃ i, r = nI i ∧ a ≤ i ∧ pt_rx L i ∧ ∀ j, a ≤ j → j < i → ¬ pt_rx L j) ∨ (r = -1 ∧ ∀ j, a ≤ j → ¬ pt_rx L j))) := by
  obtain ⟨f, hT, hA, hf, hc, hc2, hx2⟩ := hp.out
  refine ct_go (own := nm_T) (by decide) rfl (Nat.le_of_ble_eq_true rfl) ?_
  intro p e s m below meth c ls hE hI hr hk hn hl
  have hx := hE.1.1.1
  have hb := hE.1.1.2.1
  have hl : lv_has ls 3 [(0, .ref t), (1, .int (nI a))] := hl
  refine lv_iload_n hx hb dT_firstRedex_0 rfl (lv_at hl 1 rfl) ?_
  refine lv_istore_n hx hb dT_firstRedex_1 rfl hl (by decide) rfl (fun ls hl => ?_)
  refine lp_3 (G := fun ls H locs => W p l e _ s m _ below meth c H locs 0 0 _ (F0 m 2 ls [])) (I := fun k ls H locs => ∃ i, k = L.length - i ∧ a ≤ i ∧ i < 1000000 + 2000 ∧ (∀ j, a ≤ j → j < i → ¬ pt_rx L j) ∧ lv_has ls 3 [(2, .int (nI i)), (0, .ref t), (1, .int (nI a))] ∧ mp_I D cl_all (mp_A w s.heap.size) s.heap w H locs) ?_ (L.length - a) ls _ _ ⟨a, rfl, Nat.le_refl _, by omega, fun j q1 q2 => by omega, hl, hI⟩
  clear hl hI
  intro k ls H locs hk0 ih
  obtain ⟨i, rfl, hai, hib, hno, hl, hI⟩ := hk0
  refine lv_iload_n hx hb dT_firstRedex_2 rfl (lv_at hl 0 rfl) ?_
  refine lv_aload_n hx hb dT_firstRedex_3 rfl (lv_at hl 1 rfl) ?_
  refine mp_get hE.1 hI hT rfl gx_T 1 (by decide) (List.mem_cons_of_mem _ gf_T15) rfl dT_firstRedex_4 ?_
  refine lv_iconst (v := 1) hx hb dT_firstRedex_7 (by decide) ?_
  refine lv_isub hx hb dT_firstRedex_8 ?_
  rw [show (1 : Int32) = nI 1 from rfl, pk_sub h1]
  refine lv_icmp_ge (tgt := 28) hx hb dT_firstRedex_9 (by decide) (fun hq => ?_) (fun hq => ?_)
  · have hq : L.length - 1 ≤ i := (nI_leI (by omega) (by omega)).mp hq
    refine lv_iconst (v := (-1)) hx hb dT_firstRedex_28 (by decide) ?_
    refine ct_iret hE hI hr hk ⟨rfl, -1, rfl, Or.inr ⟨rfl, fun j q1 q2 => ?_⟩⟩ (by decide) (by decide) dT_firstRedex_29
    have := (List.getElem?_eq_some_iff.mp q2.2).1
    exact hno j q1 (by omega) q2
  · have hq : i < L.length - 1 := Nat.lt_of_not_le (fun h => hq (nI_le h (by omega)))
    refine lv_aload_n hx hb dT_firstRedex_12 rfl (lv_at hl 1 rfl) ?_
    refine lv_iload_n hx hb dT_firstRedex_13 rfl (lv_at hl 0 rfl) ?_
    refine ct_V (n := 1) hE hI (kT_isRedex (i := i) hp (by omega)) hT rfl gm_T42 gi_T_isRedex gs_T_T_isRedex gz_T gc_T_isRedex (by decide +kernel) ⟨Nat.le_of_ble_eq_true rfl, Nat.le_of_ble_eq_true rfl⟩ rfl hl.1 rfl (Nat.le_of_ble_eq_true rfl) dT_firstRedex_14 ⟨Nat.le_of_ble_eq_true rfl, Nat.le_of_ble_eq_true rfl⟩ (fun v w1 H locs hq hI => ?_)
    obtain ⟨hw, r, rfl, hrx⟩ := hq
    subst w1
    show W _ _ _ _ _ _ _ _ _ _ _ _ _ _ _ (F0 _ _ _ [.int _])
    refine lv_if_eq (tgt := 22) hx hb dT_firstRedex_17 (by decide) (fun hz => ?_) (fun hz => ?_)
    · rcases hrx with ⟨e, -⟩ | ⟨-, hn0⟩
      · rw [e] at hz; exact absurd hz (by decide)
      refine lv_iinc (k := 0) (v := nI (i + 1)) hx hb dT_firstRedex_22 hl rfl (nI_1 i) (by decide) rfl (fun ls hl => ?_)
      refine lv_goto (tgt := 2) hx hb dT_firstRedex_25 (by decide) ?_
      refine ih (L.length - (i + 1)) ls H locs (by omega) ⟨i + 1, rfl, by omega, by omega, fun j q1 q2 => ?_, hl, hI⟩
      by_cases q : j = i
      · rw [q]; exact hn0
      · exact hno j q1 (by omega)
    · rcases hrx with ⟨-, hy⟩ | ⟨e, -⟩
      · skip
        refine lv_iload_n hx hb dT_firstRedex_20 rfl (lv_at hl 0 rfl) ?_
        exact ct_iret hE hI hr hk ⟨rfl, nI i, rfl, Or.inl ⟨i, rfl, hai, hy, hno⟩⟩ (by decide) (by decide) dT_firstRedex_21
      · exact absurd e hz
end KT4
