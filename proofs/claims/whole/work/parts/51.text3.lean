/-! Text: show -/
/-- the counts that wait stand in their order: none passes the count -/
def pt_sr (u : List Nat × Nat) : Prop := List.Pairwise (fun a b => b ≤ a) (u.2 :: u.1)
theorem pt_sr.wk {u : List Nat × Nat} (h : pt_sr u) (x : Int) : pt_sr (tm_wk 1 0 u x) := by
  obtain ⟨s, c⟩ := u
  have h1 := List.pairwise_cons.mp h
  unfold tm_wk
  split
  · by_cases hh : s.length < 150
    · show List.Pairwise _ ((c + 1) :: (if s.length < 150 then (c + 1) :: s else s))
      rw [if_pos hh]
      refine List.pairwise_cons.mpr ⟨fun y hy => ?_, List.pairwise_cons.mpr ⟨fun y hy => ?_, h1.2⟩⟩
      · rcases List.mem_cons.mp hy with e | e
        · omega
        · have := h1.1 y e; omega
      · have := h1.1 y hy; omega
    · show List.Pairwise _ ((c + 1) :: (if s.length < 150 then (c + 1) :: s else s))
      rw [if_neg hh]
      exact List.pairwise_cons.mpr ⟨fun y hy => by have := h1.1 y hy; omega, h1.2⟩
  · split
    · exact h
    · cases s with
      | nil => exact List.pairwise_cons.mpr ⟨fun y hy => (by cases hy), List.Pairwise.nil⟩
      | cons a s => exact h1.2
theorem pt_sr.leaf {u : List Nat × Nat} (h : pt_sr u) {x : Int} (hx : 0 ≤ x) : (tm_wk 1 0 u x).2 ≤ u.2 := by
  rw [tm_wk_l _ _ _ hx]
  obtain ⟨s, c⟩ := u
  cases s with
  | nil => exact Nat.zero_le _
  | cons a s => exact (List.pairwise_cons.mp h).1 a (List.mem_cons_self ..)
theorem pt_sr0 : pt_sr ([], 0) := List.pairwise_cons.mpr ⟨fun y hy => (by cases hy), List.Pairwise.nil⟩
/-- the adds of a row -/
def tx_a1 (x : Int) (k : Nat) (last : Bool) : List Nat := if x = -1 then [1] else if x = -2 then [1] else tx_lf x ++ ([k] ++ [if last = true then 0 else 1])
def tx_ad : List Int → List Nat × Nat → List Nat
  | [], _ => []
  | x :: L, s => tx_a1 x (s.2 - (tm_wk 1 0 s x).2) L.isEmpty ++ tx_ad L (tm_wk 1 0 s x)
theorem tx_a1_sum {x : Int} (h : -2 ≤ x) (k : Nat) (last : Bool) : (tm_s1 x k last).length = (tx_a1 x k last).sum := by
  unfold tm_s1 tx_a1
  split
  · rfl
  · split
    · rfl
    · rw [List.length_append, List.sum_append, tx_lf_sum (by omega), List.length_append, List.length_replicate]
      cases last <;> simp
theorem tx_ad_sum : ∀ (L : List Int) s, (∀ x ∈ L, -2 ≤ x) → (tm_sh L s).length = (tx_ad L s).sum := by
  intro L
  induction L with
  | nil => intro s _; rfl
  | cons x L ih =>
    intro s h
    rw [tm_sh_cons, List.length_append, tx_a1_sum (h x (List.mem_cons_self ..)), ih _ (fun y hy => h y (List.mem_cons_of_mem _ hy))]
    exact List.sum_append.symm
theorem pt_Y.kp {K : Nat → ClassId} {w w' : mp_W} {x ba k4 bc : Nat} {out : List Int} {S : List Nat} (h : pt_Y K w x ba k4 bc out) (ho : ke S w w') (h1 : x ∉ S) (h2 : ba ∉ S) : pt_Y K w' x ba k4 bc out := by
  obtain ⟨g, a1, a2, a3⟩ := h
  exact ⟨g, ho _ _ a1 h1, ho _ _ a2 h2, a3⟩
theorem po_Y.on {K : Nat → ClassId} {w w1 w2 : mp_W} {x ba ba1 k4 bc2 : Nat} {o2 : List Int} {S : List Nat} (h1 : ba1 = ba ∨ w ba1 = none) (h2 : kd S w w1) (hx : x ∈ S) (hba : ba ∈ S) (h : po_Y K w1 x ba1 k4 bc2 o2 w2) : ∃ ba2, (ba2 = ba ∨ w ba2 = none) ∧ kd S w w2 ∧ pt_Y K w2 x ba2 k4 bc2 o2 := by
  obtain ⟨ba2, a1, a2, a3⟩ := h
  refine ⟨ba2, ?_, ⟨fun q v hq hn => ?_, fun q hq => a2.2 q (h2.2 q hq)⟩, a3⟩
  · rcases a1 with rfl | a1
    · exact h1
    · exact Or.inr (h2.non a1)
  · refine a2.1 q v (h2.1 q v hq hn) (fun z => ?_)
    simp at z
    rcases z with rfl | rfl
    · exact hn hx
    · rcases h1 with h1 | h1
      · exact hn (by rw [h1]; exact hba)
      · rw [h1] at hq; cases hq
section KX3
variable {l : Launch} {n0 : Nat} {D : va_G} {K : Nat → ClassId} {w : mp_W}
abbrev po_sh (K : Nat → ClassId) (w : mp_W) (x ba k4 kr bc : Nat) (L : List Int) : Option Value → mp_W → Prop := fun v w' => v = some (.int (nI (tm_sh L ([], 0)).length)) ∧ ∃ ba' u, (ba' = ba ∨ w ba' = none) ∧ kd [x, ba, k4, kr] w w' ∧ pt_Y K w' x ba' k4 (tx_b bc 0 (tx_ad L ([], 0))) (tm_sh L ([], 0)) ∧ pt_W K w' k4 kr 1 0 u
set_option maxRecDepth 100000 in
set_option maxHeartbeats 4000000 in
theorem kX_show {x ba k4 kr bc t ar cap : Nat} {u0 : List Nat × Nat} {L out : List Int} (hp : pt_Y K w x ba k4 bc out) (hw : pt_W K w k4 kr 1 0 u0) (ht : pt_R K w t ar cap L) (hn1 : t ∉ [x, ba, k4, kr]) (hn2 : ar ∉ [x, ba, k4, kr]) (hn3 : k4 ∉ [x, ba]) (hn4 : kr ∉ [x, ba]) (hBT : tx_b bc 0 (tx_ad L ([], 0)) ≤ 1000000) :
    ct_M l n0 D K yX_show (Cond.code yX_show cX_show 5 (some .int)) 4 160 (tx_c bc 0 (tx_ad L ([], 0))) (tx_s bc 0 (tx_ad L ([], 0))) [.ref x, .ref t] w (po_sh K w x ba k4 kr bc L) := by
  have hLL : L.length ≤ 2000 := Nat.le_trans ht.2.1 ht.2.2.1
  obtain ⟨CT, hCT⟩ : ∃ z, tx_c bc 0 (tx_ad L ([], 0)) = z := ⟨_, rfl⟩
  obtain ⟨ST, hST⟩ : ∃ z, tx_s bc 0 (tx_ad L ([], 0)) = z := ⟨_, rfl⟩
  obtain ⟨g, hX, hA, hle, hh, hfit⟩ := id hp
  have hxk : x ∉ [k4, kr] := by simp at hn3 hn4 ⊢; exact ⟨fun e => hn3.1 e.symm, fun e => hn4.1 e.symm⟩
  rw [hCT, hST]
  refine ct_go (own := nm_X) (by decide) rfl (Nat.le_of_ble_eq_true rfl) ?_
  intro p e s m below meth c ls hE hI hr hk hn hl
  have hx := hE.1.1.1
  have hb := hE.1.1.2.1
  have hl : lv_has ls 5 [(0, .ref x), (1, .ref t)] := hl
  refine lv_aload_n hx hb dX_show_0 rfl (lv_at hl 0 rfl) ?_
  refine lv_iconst (v := nI 0) hx hb dX_show_1 (by decide) ?_
  refine mp_put hE.1 hI hX rfl gx_X ty_X to_X tn_X 1 (by decide) (List.mem_cons_of_mem _ gf_X15) rfl rfl rfl (Nat.le_of_ble_eq_true rfl) dX_show_2 (fun H locs hI => ?_)
  obtain ⟨w1, hw1⟩ : ∃ z, mp_up w x (.inr (1, [.ref ba, .int (nI 0), .ref k4])) = z := ⟨_, rfl⟩
  have hI : mp_I D cl_all (mp_A w s.heap.size) s.heap w1 H locs := by rw [← hw1]; exact hI
  have ho1 : mp_off [x] w w1 := by rw [← hw1]; exact (mp_off.rf _ _).up (by simp) _
  have hX1 : w1 x = some (.inr (1, [.ref ba, .int (nI 0), .ref k4])) := by rw [← hw1]; exact mp_up_self ..
  have hbx : ba ∉ [x] := by simp; intro e; rw [e, hX] at hA; cases hA
  have hp1 : pt_Y K w1 x ba k4 bc [] := ⟨g, hX1, by rw [ho1 _ hbx]; exact hA, Nat.zero_le _, fun i y hy => by simp at hy, hfit⟩
  have hw1' := hw.off ho1 (by simp at hn3 ⊢; exact hn3.1) (by simp at hn4 ⊢; exact hn4.1)
  obtain ⟨gw, kW1, -⟩ := id hw1'
  refine lv_aload_n hx hb dX_show_5 rfl (lv_at hl 0 rfl) ?_
  refine mp_get hE.1 hI hX1 rfl gx_X 2 (by decide) (List.mem_cons_of_mem _ gf_X24) rfl dX_show_6 ?_
  refine ct_V (n := 0) hE hI (kW_start hw1') kW1 rfl gm_X28 gi_W_start gs_W_W_start gz_W gc_W_start (by decide +kernel) ⟨Nat.le_of_ble_eq_true rfl, Nat.le_of_ble_eq_true rfl⟩ rfl hl.1 rfl (Nat.le_of_ble_eq_true rfl) dX_show_9 ⟨Nat.zero_le _, Nat.zero_le _⟩ (fun v w2 H locs hq hI => ?_)
  obtain ⟨rfl, ho2, hw2⟩ := hq
  show W _ _ _ _ _ _ _ _ _ _ _ _ _ _ _ (F0 _ _ _ [])
  have k1 : kd [x, ba, k4, kr] w w1 := (kd.of ho1 (by intro q hq; simp at hq; rw [hq, hX1]; simp)).mono (by simp)
  have nW : ∀ {z : mp_W} {v}, pt_W K z k4 kr 1 0 v → ∀ q ∈ [k4, kr], z q ≠ none := fun hz q hq => by
    obtain ⟨_, a1, a2, _⟩ := hz
    simp at hq
    rcases hq with rfl | rfl
    · rw [a1]; simp
    · rw [a2]; simp
  have k2 : kd [x, ba, k4, kr] w w2 := k1.tr ((kd.of ho2 (nW hw2)).mono (by simp))
  have nba : ∀ b2, (b2 = ba ∨ w b2 = none) → b2 ∉ [k4, kr] := by
    intro b2 h
    rcases h with rfl | h
    · simp at hn3 hn4 ⊢
      exact ⟨fun e => hn3.2 e.symm, fun e => hn4.2 e.symm⟩
    · obtain ⟨_, a1, a2, _⟩ := hw
      simp
      exact ⟨fun e => (by rw [e, a1] at h; cases h), fun e => (by rw [e, a2] at h; cases h)⟩
  have hp2 := hp1.kp (kd.of ho2 (nW hw2)).1 hxk (nba ba (Or.inl rfl))
  refine lv_iconst (v := nI 0) hx hb dX_show_12 (by decide) ?_
  refine lv_istore_n hx hb dX_show_13 rfl hl (by decide) rfl (fun ls hl => ?_)
  have loop : ∀ (k i : Nat) (w2 : mp_W) (H : Heap) (locs : List Loc) (ls : Array Slot) (b2 c2 ce sl : Nat) (o2 : List Int) (u : List Nat × Nat), i + k = L.length → (b2 = ba ∨ w b2 = none) → kd [x, ba, k4, kr] w w2 → pt_Y K w2 x b2 k4 c2 o2 → pt_W K w2 k4 kr 1 0 u → pt_ub u i → pt_sr u → o2 ++ tm_sh (L.drop i) u = tm_sh L ([], 0) → tx_b c2 o2.length (tx_ad (L.drop i) u) = tx_b bc 0 (tx_ad L ([], 0)) → ce + tx_c c2 o2.length (tx_ad (L.drop i) u) = CT → sl + tx_s c2 o2.length (tx_ad (L.drop i) u) = ST → mp_I D cl_all (mp_A w s.heap.size) s.heap w2 H locs → lv_has ls 5 [(2, .int (nI i)), (0, .ref x), (1, .ref t)] →
      W p l e { frames := 4, cells := CT, slots := ST, locals := 160 } s m ([Value.ref x, .ref t] : List Value).toArray below meth c H locs ce sl (MQ below (ct_Q D w s.heap.size (po_sh K w x ba k4 kr bc L)) ([Value.ref x, .ref t] : List Value).toArray s CT ST (mp_A w s.heap.size)) (F0 m 14 ls []) := by
    intro k
    induction k with
    | zero =>
      intro i w2 H locs ls b2 c2 ce sl o2 u hik hb2 hkd hp2 hw2 hub hsr eo eb ec es hI hl
      have hi : i = L.length := by omega
      subst hi
      rw [List.drop_length] at eo eb ec es
      have eo : o2 = tm_sh L ([], 0) := by rw [← eo]; exact (List.append_nil _).symm
      obtain ⟨g2, hX2, -⟩ := id hp2
      have hR := ht
      obtain ⟨g3, kT, kA, kf, kc, kc2, kx⟩ := ht.out
      have kT2 := hkd.1 _ _ kT hn1
      refine lv_iload_n hx hb dX_show_14 rfl (lv_at hl 0 rfl) ?_
      refine lv_aload_n hx hb dX_show_15 rfl (lv_at hl 2 rfl) ?_
      refine mp_getN hE.1 hI kT2 rfl gx_T 1 (by decide) (ct_nw hE (q := ("BindingBench$Text", 31, "BindingBench$Term", "size", "I")) (by decide +kernel)) rfl dX_show_16 ?_
      refine lv_icmp_ge (tgt := 125) hx hb dX_show_19 (by decide) (fun hq => ?_) (fun hq => ?_)
      · refine lv_aload_n hx hb dX_show_125 rfl (lv_at hl 1 rfl) ?_
        refine mp_get hE.1 hI hX2 rfl gx_X 1 (by decide) (List.mem_cons_of_mem _ gf_X15) rfl dX_show_126 ?_
        refine ct_iret hE hI hr hk ⟨by rw [eo], b2, u, hb2, hkd, ?_, hw2⟩ (by omega) (by omega) dX_show_129
        rw [← eb, ← eo]
        exact hp2
      · exact absurd (nI_le (Nat.le_refl _) (by omega)) hq
    | succ k ih =>
      intro i w2 H locs ls b2 c2 ce sl o2 u hik hb2 hkd hp2 hw2 hub hsr eo eb ec es hI hl
      have hi : i < L.length := by omega
      obtain ⟨y, e1, m1⟩ := pt_at hi
      rw [pt_drop e1] at eo eb ec es
      rw [tm_sh_cons] at eo
      rw [show tx_ad (y :: L.drop (i + 1)) u = tx_a1 y (u.2 - (tm_wk 1 0 u y).2) (L.drop (i + 1)).isEmpty ++ tx_ad (L.drop (i + 1)) (tm_wk 1 0 u y) from rfl] at eb ec es
      obtain ⟨g3, kT, kA, kf, kc, kc2, kx⟩ := ht.out
      have kT2 := hkd.1 _ _ kT hn1
      have kA2 := hkd.1 _ _ kA hn2
      have hyy := kx y m1
      have hu2 := hub.1
      obtain ⟨g2, hX2, -⟩ := id hp2
      obtain ⟨gw2, kW2, kW3, -⟩ := id hw2
      refine lv_iload_n hx hb dX_show_14 rfl (lv_at hl 0 rfl) ?_
      refine lv_aload_n hx hb dX_show_15 rfl (lv_at hl 2 rfl) ?_
      refine mp_getN hE.1 hI kT2 rfl gx_T 1 (by decide) (ct_nw hE (q := ("BindingBench$Text", 31, "BindingBench$Term", "size", "I")) (by decide +kernel)) rfl dX_show_16 ?_
      refine lv_icmp_ge (tgt := 125) hx hb dX_show_19 (by decide) (fun hq => ?_) (fun hq => ?_)
      · exact absurd ((nI_leI (by omega) (by omega)).mp hq) (by omega)
      · skip
        refine lv_aload_n hx hb dX_show_22 rfl (lv_at hl 2 rfl) ?_
        refine mp_getN hE.1 hI kT2 rfl gx_T 0 (by decide) (ct_nw hE (q := ("BindingBench$Text", 36, "BindingBench$Term", "cells", "[I")) (by decide +kernel)) rfl dX_show_23 ?_
        refine lv_iload_n hx hb dX_show_26 rfl (lv_at hl 0 rfl) ?_
        refine mp_ild hE.1 hI kA2 0 rfl (vp_in_nI (by omega) (by omega)) dX_show_27 ?_
        rw [nI_clamp (by omega), kf i y e1]
        refine lv_istore_n hx hb dX_show_28 rfl hl (by decide) rfl (fun ls hl => ?_)
        refine lv_aload_n hx hb dX_show_29 rfl (lv_at hl 2 rfl) ?_
        refine mp_get hE.1 hI hX2 rfl gx_X 2 (by decide) (List.mem_cons_of_mem _ gf_X24) rfl dX_show_30 ?_
        refine mp_getN hE.1 hI kW2 rfl gx_W 4 (by decide) (ct_nw hE (q := ("BindingBench$Text", 40, "BindingBench$Walk", "count", "I")) (by decide +kernel)) rfl dX_show_33 ?_
        refine lv_istore hx hb dX_show_36 hl (by decide) rfl (fun ls hl => ?_)
        refine lv_aload_n hx hb dX_show_38 rfl (lv_at hl 3 rfl) ?_
        refine mp_get hE.1 hI hX2 rfl gx_X 2 (by decide) (List.mem_cons_of_mem _ gf_X24) rfl dX_show_39 ?_
        refine lv_iload_n hx hb dX_show_42 rfl (lv_at hl 1 rfl) ?_
        refine ct_V (n := 1) hE hI (kW_pass (x := y) hw2 hyy (by omega)) kW2 rfl gm_X43 gi_W_pass gs_W_W_pass gz_W gc_W_pass (by decide +kernel) ⟨Nat.le_of_ble_eq_true rfl, Nat.le_of_ble_eq_true rfl⟩ rfl hl.1 rfl (Nat.le_of_ble_eq_true rfl) dX_show_43 ⟨by show ce + 0 ≤ CT; omega, by show sl + 0 ≤ ST; omega⟩ (fun v w3 H locs hq hI => ?_)
        obtain ⟨rfl, ho3, hw3⟩ := hq
        show W _ _ _ _ _ _ _ _ _ _ _ _ _ _ _ (F0 _ _ _ [])
        have k3 : kd [x, ba, k4, kr] w w3 := hkd.tr ((kd.of ho3 (nW hw3)).mono (by simp))
        have hp3 := hp2.kp (kd.of ho3 (nW hw3)).1 hxk (nba b2 hb2)
        obtain ⟨g4, hX3, -⟩ := id hp3
        have hub3 := hub.wk (fa := 1) (ff := 0) (by omega) (by omega) y
        have hsr3 := hsr.wk y
        obtain ⟨u3, hu3⟩ : ∃ z, tm_wk 1 0 u y = z := ⟨_, rfl⟩
        have hlf := fun h : 0 ≤ y => hsr.leaf h
        rw [hu3] at hw3 eo eb ec es hub3 hsr3 hlf
        obtain ⟨last, hlast⟩ : ∃ z, (L.drop (i + 1)).isEmpty = z := ⟨_, rfl⟩
        rw [hlast] at eo eb ec es
        rw [tx_b_app] at eb
        rw [tx_c_app] at ec
        rw [tx_s_app] at es
        have nX : ∀ b9, (b9 = ba ∨ w b9 = none) → k4 ∉ [x, b9] ∧ kr ∉ [x, b9] := fun b9 h => by
          have := nba b9 h
          simp at this hn3 hn4 ⊢
          exact ⟨⟨hn3.1, fun e => this.1 e.symm⟩, hn4.1, fun e => this.2 e.symm⟩
        have next : ∀ (w9 : mp_W) (H : Heap) (locs : List Loc) (ls : Array Slot) (ce9 sl9 : Nat), ce9 = ce + tx_c c2 o2.length (tx_a1 y (u.2 - u3.2) last) → sl9 = sl + tx_s c2 o2.length (tx_a1 y (u.2 - u3.2) last) → po_Y K w3 x b2 k4 (tx_b c2 o2.length (tx_a1 y (u.2 - u3.2) last)) (o2 ++ tm_s1 y (u.2 - u3.2) last) w9 → mp_I D cl_all (mp_A w s.heap.size) s.heap w9 H locs → lv_has ls 5 [(2, .int (nI i)), (0, .ref x), (1, .ref t)] →
            W p l e { frames := 4, cells := CT, slots := ST, locals := 160 } s m ([Value.ref x, .ref t] : List Value).toArray below meth c H locs ce9 sl9 (MQ below (ct_Q D w s.heap.size (po_sh K w x ba k4 kr bc L)) ([Value.ref x, .ref t] : List Value).toArray s CT ST (mp_A w s.heap.size)) (F0 m 119 ls []) := by
          intro w9 H locs ls ce9 sl9 hc9 hs9 hq hI hl
          obtain ⟨b9, r1, r2, r3⟩ := po_Y.on hb2 k3 (by simp) (by simp) hq
          obtain ⟨-, -, q2, -⟩ := hq
          have hw9 := hw3.kp q2.1 (nX b2 hb2).1 (nX b2 hb2).2
          refine lv_iinc (k := 0) (v := nI (i + 1)) hx hb dX_show_119 hl rfl (nI_1 i) (by decide) rfl (fun ls hl => ?_)
          refine lv_goto (tgt := 14) hx hb dX_show_122 (by decide) ?_
          have hlen : (o2 ++ tm_s1 y (u.2 - u3.2) last).length = o2.length + (tx_a1 y (u.2 - u3.2) last).sum := by rw [List.length_append, tx_a1_sum hyy.1]
          refine ih (i + 1) w9 H locs ls b9 _ _ _ _ u3 (by omega) r1 r2 r3 hw9 hub3 hsr3 (by rw [List.append_assoc]; exact eo) (by rw [hlen]; exact eb) (by rw [hlen, hc9, Nat.add_assoc]; exact ec) (by rw [hlen, hs9, Nat.add_assoc]; exact es) hI hl
        have hbT : c2 ≤ 1000000 := by
          have h1 := (tx_b_le (T := o2.length + (tx_a1 y (u.2 - u3.2) last).sum) (tx_a1 y (u.2 - u3.2) last) c2 o2.length (by obtain ⟨_, _, _, h, _⟩ := hp3; exact h) (Nat.le_refl _)).2
          have h2 := (tx_b_le (T := (o2.length + (tx_a1 y (u.2 - u3.2) last).sum) + (tx_ad (L.drop (i + 1)) u3).sum) (tx_ad (L.drop (i + 1)) u3) (tx_b c2 o2.length (tx_a1 y (u.2 - u3.2) last)) (o2.length + (tx_a1 y (u.2 - u3.2) last).sum) h1.2 (Nat.le_refl _)).2.1
          rw [eb] at h2
          omega
        have hl := lv_sub hl [1, 0, 2, 3, 4] rfl
        refine lv_iload_n hx hb dX_show_46 rfl (lv_at hl 0 rfl) ?_
        refine lv_iconst (v := ci_i (-1)) hx hb dX_show_47 (by decide) ?_
        refine lv_icmp_ne (tgt := 61) hx hb dX_show_48 (by decide) (fun hq => ?_) (fun hq => ?_)
        · have hq : ¬ y = -1 := fun e => hq (by rw [e])
          refine lv_iload_n hx hb dX_show_61 rfl (lv_at hl 0 rfl) ?_
          refine lv_bipush (v := ci_i (-2)) hx hb dX_show_62 (by decide) ?_
          refine lv_icmp_ne (tgt := 77) hx hb dX_show_64 (by decide) (fun hq2 => ?_) (fun hq2 => ?_)
          · have hq2 : ¬ y = -2 := fun e => hq2 (by rw [e])
            have h0 : 0 ≤ y := by omega
            have hlf := hlf h0
            have ea : tx_a1 y (u.2 - u3.2) last = tx_lf y ++ ([u.2 - u3.2] ++ [if last = true then 0 else 1]) := by unfold tx_a1; rw [if_neg hq, if_neg hq2]
            have eg : tm_s1 y (u.2 - u3.2) last = tm_lf y ++ (List.replicate (u.2 - u3.2) 41 ++ if last = true then [] else [32]) := by unfold tm_s1; rw [if_neg hq, if_neg hq2]
            have ll1 : (o2 ++ tm_lf y).length = o2.length + (tx_lf y).sum := by rw [List.length_append, tx_lf_sum h0]
            obtain ⟨N3, hN3⟩ : ∃ z : Nat, (if last = true then 0 else 1) = z := ⟨_, rfl⟩
            have hN3' : N3 ≤ 1 := by rw [← hN3]; split <;> omega
            rw [hN3] at ea
            have tc : tx_c c2 o2.length (tx_a1 y (u.2 - u3.2) last) = tx_c c2 o2.length (tx_lf y) + (tx_c (tx_b c2 o2.length (tx_lf y)) (o2.length + (tx_lf y).sum) [u.2 - u3.2] + tx_c (tx_b (tx_b c2 o2.length (tx_lf y)) (o2.length + (tx_lf y).sum) [u.2 - u3.2]) (o2.length + (tx_lf y).sum + (u.2 - u3.2)) [N3]) := by rw [ea, tx_c_app, tx_c_app]; rfl
            have ts : tx_s c2 o2.length (tx_a1 y (u.2 - u3.2) last) = tx_s c2 o2.length (tx_lf y) + (tx_s (tx_b c2 o2.length (tx_lf y)) (o2.length + (tx_lf y).sum) [u.2 - u3.2] + tx_s (tx_b (tx_b c2 o2.length (tx_lf y)) (o2.length + (tx_lf y).sum) [u.2 - u3.2]) (o2.length + (tx_lf y).sum + (u.2 - u3.2)) [N3]) := by rw [ea, tx_s_app, tx_s_app]; rfl
            have tb : tx_b c2 o2.length (tx_a1 y (u.2 - u3.2) last) = tx_b (tx_b (tx_b c2 o2.length (tx_lf y)) (o2.length + (tx_lf y).sum) [u.2 - u3.2]) (o2.length + (tx_lf y).sum + (u.2 - u3.2)) [N3] := by rw [ea, tx_b_app, tx_b_app]; rfl
            have ol : o2.length ≤ c2 := by obtain ⟨_, _, _, h, _⟩ := hp3; exact h
            have sl1 : (tx_lf y).sum ≤ 1000000 := by
              unfold tx_lf
              split
              · show (y - 99).toNat + 0 ≤ _; omega
              · split <;> decide
            have bb1 := tx_b_le (T := o2.length + (tx_lf y).sum) (tx_lf y) c2 o2.length ol (Nat.le_refl _)
            have bb2 := tx_b_le (T := o2.length + (tx_lf y).sum + (u.2 - u3.2)) [u.2 - u3.2] (tx_b c2 o2.length (tx_lf y)) (o2.length + (tx_lf y).sum) bb1.2.2 (by show _ + (u.2 - u3.2 + 0) ≤ _; omega)
            refine lv_aload_n hx hb dX_show_77 rfl (lv_at hl 3 rfl) ?_
            refine lv_iload_n hx hb dX_show_78 rfl (lv_at hl 0 rfl) ?_
            refine ct_V (n := 1) hE hI (kX_addLeaf (x := y) hp3 h0 hyy.2 hbT) hX3 rfl gm_X51 gi_X_addLeaf gs_X_X_addLeaf gz_X gc_X_addLeaf (by decide +kernel) ⟨Nat.le_of_ble_eq_true rfl, Nat.le_of_ble_eq_true rfl⟩ rfl hl.1 rfl (Nat.le_of_ble_eq_true rfl) dX_show_79 ⟨by show ce + 0 + _ ≤ CT; omega, by show sl + 0 + _ ≤ ST; omega⟩ (fun v w4 H locs hq hI => ?_)
            obtain ⟨rfl, b4, s1, s2, hp4⟩ := hq
            show W _ _ _ _ _ _ _ _ _ _ _ _ _ _ _ (F0 _ _ _ [])
            have hw4 := hw3.kp s2.1 (nX b2 hb2).1 (nX b2 hb2).2
            obtain ⟨g5, hX4, -⟩ := id hp4
            obtain ⟨gw4, kW4, -⟩ := id hw4
            refine lv_aload_n hx hb dX_show_82 rfl (lv_at hl 3 rfl) ?_
            refine lv_bipush (v := nI 41) hx hb dX_show_83 (by decide) ?_
            refine lv_iload hx hb dX_show_85 (lv_at hl 1 rfl) ?_
            refine lv_aload_n hx hb dX_show_87 rfl (lv_at hl 3 rfl) ?_
            refine mp_get hE.1 hI hX4 rfl gx_X 2 (by decide) (List.mem_cons_of_mem _ gf_X24) rfl dX_show_88 ?_
            refine mp_getN hE.1 hI kW4 rfl gx_W 4 (by decide) (ct_nw hE (q := ("BindingBench$Text", 40, "BindingBench$Walk", "count", "I")) (by decide +kernel)) rfl dX_show_91 ?_
            refine lv_isub hx hb dX_show_94 ?_
            rw [pk_sub hlf]
            have hp4' := hp4
            refine ct_V (n := 2) hE hI (kX_add (n := u.2 - u3.2) (mk := 41) hp4 (by omega) (by omega) (by omega)) hX4 rfl gm_X47 gi_X_add gs_X_X_add gz_X gc_X_add (by decide +kernel) ⟨Nat.le_of_ble_eq_true rfl, Nat.le_of_ble_eq_true rfl⟩ rfl hl.1 rfl (Nat.le_of_ble_eq_true rfl) dX_show_95 ⟨by show ce + 0 + _ + _ ≤ CT; rw [ll1]; omega, by show sl + 0 + _ + _ ≤ ST; rw [ll1]; omega⟩ (fun v w5 H locs hq hI => ?_)
            obtain ⟨rfl, b5', a1, a2, a3⟩ := hq
            show W _ _ _ _ _ _ _ _ _ _ _ _ _ _ _ (F0 _ _ _ [])
            obtain ⟨b5, d1, d2, hp5⟩ := po_Y.tr s1 s2 (po_Y.of a1 a2 a3)
            have hw5 := hw3.kp d2.1 (nX b2 hb2).1 (nX b2 hb2).2
            obtain ⟨g6, hX5, -⟩ := id hp5
            have k5 : kd [x, ba, k4, kr] w w5 := by
              obtain ⟨_, _, h, _⟩ := po_Y.on hb2 k3 (by simp) (by simp) (⟨b5, d1, d2, hp5⟩ : po_Y K w3 x b2 k4 _ _ w5)
              exact h
            have kT5 := k5.1 _ _ kT hn1
            have ll2 : (o2 ++ tm_lf y ++ List.replicate (u.2 - u3.2) ((41 : Nat) : Int)).length = o2.length + (tx_lf y).sum + (u.2 - u3.2) := by rw [List.length_append, ll1, List.length_replicate]
            rw [ll1] at hp5
            have fin : ∀ (ls : Array Slot), lv_has ls 5 [(3, .int (ci_i y)), (4, .int (nI u.2)), (2, .int (nI i)), (0, .ref x), (1, .ref t)] →
                W p l e { frames := 4, cells := CT, slots := ST, locals := 160 } s m ([Value.ref x, .ref t] : List Value).toArray below meth c H locs (ce + 0 + tx_c c2 o2.length (tx_lf y) + tx_c (tx_b c2 o2.length (tx_lf y)) (o2 ++ tm_lf y).length [u.2 - u3.2]) (sl + 0 + tx_s c2 o2.length (tx_lf y) + tx_s (tx_b c2 o2.length (tx_lf y)) (o2 ++ tm_lf y).length [u.2 - u3.2]) (MQ below (ct_Q D w s.heap.size (po_sh K w x ba k4 kr bc L)) ([Value.ref x, .ref t] : List Value).toArray s CT ST (mp_A w s.heap.size)) (F0 m 116 ls [.int (nI N3), .int (nI 32), .ref x]) := by
              intro ls hl
              refine ct_V (n := 2) hE hI (kX_add (n := N3) (mk := 32) hp5 (by omega) (by omega) (by omega)) hX5 rfl gm_X47 gi_X_add gs_X_X_add gz_X gc_X_add (by decide +kernel) ⟨Nat.le_of_ble_eq_true rfl, Nat.le_of_ble_eq_true rfl⟩ rfl hl.1 rfl (Nat.le_of_ble_eq_true rfl) dX_show_116 ⟨by show ce + 0 + _ + _ + _ ≤ CT; rw [ll1, ll2]; omega, by show sl + 0 + _ + _ + _ ≤ ST; rw [ll1, ll2]; omega⟩ (fun v w6 H locs hq hI => ?_)
              obtain ⟨rfl, b6', f1, f2, f3⟩ := hq
              show W _ _ _ _ _ _ _ _ _ _ _ _ _ _ _ (F0 _ _ _ [])
              refine next w6 H locs ls _ _ (by rw [ll1, ll2, tc]; omega) (by rw [ll1, ll2, ts]; omega) ?_ hI (lv_sub hl [2, 3, 4] rfl)
              rw [tb, eg]
              have hz := po_Y.tr d1 d2 (po_Y.of f1 f2 f3)
              rw [ll2] at hz
              have ht3 : List.replicate N3 ((32 : Nat) : Int) = if last = true then [] else [32] := by
                rw [← hN3]
                cases last <;> rfl
              rw [ht3, List.append_assoc, List.append_assoc] at hz
              exact hz
            refine lv_aload_n hx hb dX_show_98 rfl (lv_at hl 3 rfl) ?_
            refine lv_bipush (v := nI 32) hx hb dX_show_99 (by decide) ?_
            refine lv_iload_n hx hb dX_show_101 rfl (lv_at hl 2 rfl) ?_
            refine lv_iconst (v := nI 1) hx hb dX_show_102 (by decide) ?_
            refine lv_iadd hx hb dX_show_103 ?_
            refine lv_aload_n hx hb dX_show_104 rfl (lv_at hl 4 rfl) ?_
            refine mp_getN hE.1 hI kT5 rfl gx_T 1 (by decide) (ct_nw hE (q := ("BindingBench$Text", 31, "BindingBench$Term", "size", "I")) (by decide +kernel)) rfl dX_show_105 ?_
            rw [show ∀ a b : Nat, nI a + nI b = nI (a + b) from fun a b => (Int32.ofNat_add a b).symm]
            have hli : last = true ↔ L.length ≤ i + 1 := by
              rw [← hlast, List.isEmpty_iff, List.drop_eq_nil_iff]
            refine lv_icmp_ge (tgt := 115) hx hb dX_show_108 (by decide) (fun hq3 => ?_) (fun hq3 => ?_)
            · have hq3 : L.length ≤ i + 1 := (nI_leI (by omega) (by omega)).mp hq3
              have : N3 = 0 := by rw [← hN3, if_pos (hli.mpr hq3)]
              subst this
              refine lv_iconst (v := nI 0) hx hb dX_show_115 (by decide) ?_
              exact fin ls hl
            · have hq3 : ¬ L.length ≤ i + 1 := fun h => hq3 (nI_le h (by omega))
              have : N3 = 1 := by rw [← hN3, if_neg (fun h => hq3 (hli.mp h))]
              subst this
              refine lv_iconst (v := nI 1) hx hb dX_show_111 (by decide) ?_
              refine lv_goto (tgt := 116) hx hb dX_show_112 (by decide) ?_
              exact fin ls hl
          · have hq2 : y = -2 := (ci_eq (by omega) (by omega)).mp hq2
            have ea : tx_a1 y (u.2 - u3.2) last = [1] := by unfold tx_a1; rw [if_neg hq, if_pos hq2]
            have eg : tm_s1 y (u.2 - u3.2) last = [46] := by unfold tm_s1; rw [if_neg hq, if_pos hq2]
            rw [ea] at ec es
            refine lv_aload_n hx hb dX_show_67 rfl (lv_at hl 3 rfl) ?_
            refine lv_bipush (v := nI 46) hx hb dX_show_68 (by decide) ?_
            refine lv_iconst (v := nI 1) hx hb dX_show_70 (by decide) ?_
            refine ct_V (n := 2) hE hI (kX_add (n := 1) (mk := 46) hp3 (by omega) (by omega) (by omega)) hX3 rfl gm_X47 gi_X_add gs_X_X_add gz_X gc_X_add (by decide +kernel) ⟨Nat.le_of_ble_eq_true rfl, Nat.le_of_ble_eq_true rfl⟩ rfl hl.1 rfl (Nat.le_of_ble_eq_true rfl) dX_show_71 ⟨by show ce + 0 + _ ≤ CT; omega, by show sl + 0 + _ ≤ ST; omega⟩ (fun v w4 H locs hq hI => ?_)
            obtain ⟨rfl, b4, a1, a2, a3⟩ := hq
            show W _ _ _ _ _ _ _ _ _ _ _ _ _ _ _ (F0 _ _ _ [])
            refine lv_goto (tgt := 119) hx hb dX_show_74 (by decide) ?_
            refine next w4 H locs ls _ _ (by rw [ea]; omega) (by rw [ea]; omega) ?_ hI (lv_sub hl [2, 3, 4] rfl)
            rw [ea, eg]
            exact po_Y.of a1 a2 a3
        · have hq : y = -1 := (ci_eq (by omega) (by omega)).mp hq
          have ea : tx_a1 y (u.2 - u3.2) last = [1] := by unfold tx_a1; rw [if_pos hq]
          have eg : tm_s1 y (u.2 - u3.2) last = [40] := by unfold tm_s1; rw [if_pos hq]
          rw [ea] at ec es
          refine lv_aload_n hx hb dX_show_51 rfl (lv_at hl 3 rfl) ?_
          refine lv_bipush (v := nI 40) hx hb dX_show_52 (by decide) ?_
          refine lv_iconst (v := nI 1) hx hb dX_show_54 (by decide) ?_
          refine ct_V (n := 2) hE hI (kX_add (n := 1) (mk := 40) hp3 (by omega) (by omega) (by omega)) hX3 rfl gm_X47 gi_X_add gs_X_X_add gz_X gc_X_add (by decide +kernel) ⟨Nat.le_of_ble_eq_true rfl, Nat.le_of_ble_eq_true rfl⟩ rfl hl.1 rfl (Nat.le_of_ble_eq_true rfl) dX_show_55 ⟨by show ce + 0 + _ ≤ CT; omega, by show sl + 0 + _ ≤ ST; omega⟩ (fun v w4 H locs hq hI => ?_)
          obtain ⟨rfl, b4, a1, a2, a3⟩ := hq
          show W _ _ _ _ _ _ _ _ _ _ _ _ _ _ _ (F0 _ _ _ [])
          refine lv_goto (tgt := 119) hx hb dX_show_58 (by decide) ?_
          refine next w4 H locs ls _ _ (by rw [ea]; omega) (by rw [ea]; omega) ?_ hI (lv_sub hl [2, 3, 4] rfl)
          rw [ea, eg]
          exact po_Y.of a1 a2 a3
  exact loop L.length 0 w2 H locs ls ba bc 0 0 [] ([], 0) (by omega) (Or.inl rfl) k2 hp2 hw2 pt_ub0 pt_sr0 rfl rfl (by rw [← hCT]; exact Nat.zero_add _) (by rw [← hST]; exact Nat.zero_add _) hI (lv_sub hl [0, 1, 2] rfl)
end KX3
