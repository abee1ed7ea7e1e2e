/-! Workshop: depth, isTooDeep, checked. The class's cells by their labels: f 2 the Workshop, f 5 .. f 10 its Walks and their rows, f (13 + 2 i) the Term i, f (14 + 2 i) its row -/
theorem lp_4 {α β γ δ : Type} {G : α → β → γ → δ → Prop} (I : Nat → α → β → γ → δ → Prop) (hs : ∀ k x y z u, I k x y z u → (∀ k' x' y' z' u', k' < k → I k' x' y' z' u' → G x' y' z' u') → G x y z u) (k : Nat) (x : α) (y : β) (z : γ) (u : δ) (h : I k x y z u) : G x y z u := by
  induction k using Nat.strongRecOn generalizing x y z u with
  | ind k ih => exact hs k x y z u h (fun k' x' y' z' u' hk hy => ih k' hk x' y' z' u' hy)
def ph_i (f : Nat → Nat) : Prop := ∀ i j, i < 49 → j < 49 → f i = f j → i = j
theorem ph_i.ne {f : Nat → Nat} (h : ph_i f) {i j : Nat} (hi : i < 49) (hj : j < 49) (hij : i ≠ j) : f i ≠ f j := fun e => hij (h i j hi hj e)
theorem ph_i.nin {f : Nat → Nat} (h : ph_i f) {a : Nat} (ha : a < 49) (ls : List Nat) (hl : ∀ b ∈ ls, b < 49 ∧ a ≠ b) : f a ∉ ls.map f := by
  intro hm
  obtain ⟨b, hb, e⟩ := List.mem_map.mp hm
  exact (hl b hb).2 (h a b ha (hl b hb).1 e.symm)
theorem pt_T.off {K : Nat → ClassId} {w w' : mp_W} {t ar cap : Nat} {L : List Int} {S : List Nat} (h : pt_T K w t ar cap L) (ho : mp_off S w w') (h1 : t ∉ S) (h2 : ar ∉ S) : pt_T K w' t ar cap L := by
  obtain ⟨f, a1, a2, a3⟩ := h
  exact ⟨f, by rw [ho t h1]; exact a1, by rw [ho ar h2]; exact a2, a3⟩
theorem pt_R.off {K : Nat → ClassId} {w w' : mp_W} {t ar cap : Nat} {L : List Int} {S : List Nat} (h : pt_R K w t ar cap L) (ho : mp_off S w w') (h1 : t ∉ S) (h2 : ar ∉ S) : pt_R K w' t ar cap L := ⟨h.1.off ho h1 h2, h.2⟩
theorem pt_W.off {K : Nat → ClassId} {w w' : mp_W} {k ka fa ff : Nat} {u : List Nat × Nat} {S : List Nat} (h : pt_W K w k ka fa ff u) (ho : mp_off S w w') (h1 : k ∉ S) (h2 : ka ∉ S) : pt_W K w' k ka fa ff u := by
  obtain ⟨f, a1, a2, a3⟩ := h
  exact ⟨f, by rw [ho k h1]; exact a1, by rw [ho ka h2]; exact a2, a3⟩
def pt_ub (u : List Nat × Nat) (i : Nat) : Prop := u.2 ≤ i ∧ ∀ y ∈ u.1, y ≤ i
theorem pt_ub.wk {u : List Nat × Nat} {i fa ff : Nat} (h : pt_ub u i) (hfa : fa ≤ 1) (hff : ff ≤ 1) (x : Int) : pt_ub (tm_wk fa ff u x) (i + 1) := by
  obtain ⟨h1, h2⟩ := h
  obtain ⟨s, c⟩ := u
  have h1 : c ≤ i := h1
  unfold tm_wk
  split
  · refine ⟨by show c + fa ≤ i + 1; omega, fun y hy => ?_⟩
    have hy : y ∈ (if s.length < 150 then (c + fa) :: s else s) := hy
    split at hy
    · rcases List.mem_cons.mp hy with e | e
      · omega
      · have := h2 y e; omega
    · have := h2 y hy; omega
  · split
    · exact ⟨by show c + ff ≤ i + 1; omega, fun y hy => by have := h2 y hy; omega⟩
    · cases s with
      | nil => exact ⟨Nat.zero_le _, fun y hy => by cases hy⟩
      | cons a s => exact ⟨by have := h2 a (List.mem_cons_self ..); show a ≤ i + 1; omega, fun y hy => by have := h2 y (List.mem_cons_of_mem _ hy); omega⟩
theorem pt_ub0 : pt_ub ([], 0) 0 := ⟨Nat.le_refl _, fun _ h => by cases h⟩
abbrev ob_S (f : Nat → Nat) (mi : Nat) : va_E := .inr (3, [.ref (f (13 + 2 * mi)), .ref (f (13 + 2 * (33 - mi))), .ref (f 5), .ref (f 7), .ref (f 9)])
section KS1
variable {l : Launch} {n0 : Nat} {D : va_G} {K : Nat → ClassId} {w : mp_W} {f : Nat → Nat} {mi : Nat}
set_option maxRecDepth 100000 in
theorem kS_depth {i cap : Nat} {u : List Nat × Nat} {L : List Int} (hf : ph_i f) (hS : w (f 2) = some (ob_S f mi)) (hi : i < 18) (hp : pt_R K w (f (13 + 2 * i)) (f (14 + 2 * i)) cap L) (hw : pt_W K w (f 5) (f 6) 1 1 u) : ct_M l n0 D K yS_depth (Cond.code yS_depth cS_depth 4 (some .int)) 1 40 0 0 [.ref (f 2), .ref (f (13 + 2 * i))] w (fun v w' => v = some (.int (nI (tm_dd L ([], 0) 0 + 1))) ∧ mp_off [f 5, f 6] w w' ∧ ∃ u', pt_W K w' (f 5) (f 6) 1 1 u') := by
  have hlen : L.length ≤ 2000 := Nat.le_trans hp.2.1 hp.2.2.1
  have n2 : f 2 ∉ [f 5, f 6] := hf.nin (by decide) [5, 6] (by decide)
  have nt : f (13 + 2 * i) ∉ [f 5, f 6] := hf.nin (by omega) [5, 6] (by intro b hb; simp at hb; omega)
  have na : f (14 + 2 * i) ∉ [f 5, f 6] := hf.nin (by omega) [5, 6] (by intro b hb; simp at hb; omega)
  refine ct_go (own := nm_S) (by decide) rfl (Nat.le_of_ble_eq_true rfl) ?_
  intro p e s m below meth c ls hE hI hr hk hn hl
  have hx := hE.1.1.1
  have hb := hE.1.1.2.1
  have hl : lv_has ls 4 [(0, .ref (f 2)), (1, .ref (f (13 + 2 * i)))] := hl
  refine lv_iconst (v := 0) hx hb dS_depth_0 (by decide) ?_
  refine lv_istore_n hx hb dS_depth_1 rfl hl (by decide) rfl (fun ls hl => ?_)
  refine lv_aload_n hx hb dS_depth_2 rfl (lv_at hl 1 rfl) ?_
  refine mp_get hE.1 hI hS rfl gx_S 2 (by decide) (List.mem_cons_of_mem _ gf_S28) rfl dS_depth_3 ?_
  obtain ⟨g, hW1, hW2⟩ := id hw
  refine ct_V (n := 0) hE hI (kW_start hw) hW1 rfl gm_S56 gi_W_start gs_W_W_start gz_W gc_W_start (by decide +kernel) ⟨Nat.le_of_ble_eq_true rfl, Nat.le_of_ble_eq_true rfl⟩ rfl hl.1 rfl (Nat.le_of_ble_eq_true rfl) dS_depth_6 ⟨Nat.le_of_ble_eq_true rfl, Nat.le_of_ble_eq_true rfl⟩ (fun v w1 H locs hq hI => ?_)
  obtain ⟨rfl, ho, hw1⟩ := hq
  show W _ _ _ _ _ _ _ _ _ _ _ _ _ _ _ (F0 _ _ _ [])
  refine lv_iconst (v := 0) hx hb dS_depth_9 (by decide) ?_
  refine lv_istore_n hx hb dS_depth_10 rfl hl (by decide) rfl (fun ls hl => ?_)
  refine lp_4 (G := fun ls w2 H locs => W p l e _ s m _ below meth c H locs 0 0 _ (F0 m 11 ls [])) (I := fun k ls w2 H locs => ∃ j d u, k = L.length - j ∧ j ≤ L.length ∧ d ≤ j ∧ pt_ub u j ∧ tm_dd (L.drop j) u d = tm_dd L ([], 0) 0 ∧ lv_has ls 4 [(3, .int (nI j)), (2, .int (nI d)), (0, .ref (f 2)), (1, .ref (f (13 + 2 * i)))] ∧ mp_off [f 5, f 6] w w2 ∧ pt_W K w2 (f 5) (f 6) 1 1 u ∧ mp_I D cl_all (mp_A w s.heap.size) s.heap w2 H locs) ?_ (L.length - 0) ls w1 H locs ⟨0, 0, ([], 0), rfl, by omega, by omega, pt_ub0, rfl, hl, ho, hw1, hI⟩
  clear hl hI ho hw1 hW1 hW2
  intro k ls w2 H locs hk0 ih
  obtain ⟨j, d, u, rfl, hj, hd, hub, heq, hl, ho, hw2, hI⟩ := hk0
  have fin : (L.length ≤ j ∨ 150 ≤ d) → ∀ ls, lv_has ls 4 [(3, .int (nI j)), (2, .int (nI d)), (0, .ref (f 2)), (1, .ref (f (13 + 2 * i)))] → W p l e { frames := 1, cells := 0, slots := 0, locals := 40 } s m ([Value.ref (f 2), .ref (f (13 + 2 * i))] : List Value).toArray below meth c H locs 0 0 (MQ below (ct_Q D w s.heap.size (fun v w' => v = some (.int (nI (tm_dd L ([], 0) 0 + 1))) ∧ mp_off [f 5, f 6] w w' ∧ ∃ u', pt_W K w' (f 5) (f 6) 1 1 u')) ([Value.ref (f 2), .ref (f (13 + 2 * i))] : List Value).toArray s 0 0 (mp_A w s.heap.size)) (F0 m 57 ls []) := by
    intro hq ls hl
    have h0 : tm_dd (L.drop j) u d = d := by
      rcases hq with hq | hq
      · rw [List.drop_eq_nil_of_le hq]; rfl
      · cases L.drop j with
        | nil => rfl
        | cons x M => exact if_neg (by omega)
    refine lv_iload_n hx hb dS_depth_57 rfl (lv_at hl 1 rfl) ?_
    refine lv_iconst (v := 1) hx hb dS_depth_58 (by decide) ?_
    refine lv_iadd hx hb dS_depth_59 ?_
    rw [nI_1]
    exact ct_iret hE hI hr hk ⟨by rw [← heq, h0], ho, u, hw2⟩ (by decide) (by decide) dS_depth_60
  obtain ⟨g, kT, kA, kf, kc, kc2, kx⟩ := (hp.off ho nt na).out
  have kS : w2 (f 2) = some (ob_S f mi) := by rw [ho _ n2]; exact hS
  obtain ⟨g2, kW1, kW2, kW3⟩ := id hw2
  refine lv_iload_n hx hb dS_depth_11 rfl (lv_at hl 0 rfl) ?_
  refine lv_aload_n hx hb dS_depth_12 rfl (lv_at hl 3 rfl) ?_
  refine mp_getN hE.1 hI kT rfl gx_T 1 (by decide) (ct_nw hE (q := ("BindingBench$Workshop", 44, "BindingBench$Term", "size", "I")) (by decide +kernel)) rfl dS_depth_13 ?_
  refine lv_icmp_ge (tgt := 57) hx hb dS_depth_16 (by decide) (fun hq => ?_) (fun hq => ?_)
  · have hq : L.length ≤ j := (nI_leI (by omega) (by omega)).mp hq
    exact fin (Or.inl hq) ls hl
  · have hq : j < L.length := Nat.lt_of_not_le (fun h => hq (nI_le h (by omega)))
    refine lv_iload_n hx hb dS_depth_19 rfl (lv_at hl 1 rfl) ?_
    refine lv_sipush (v := nI 150) hx hb dS_depth_20 (by decide) ?_
    refine lv_icmp_ge (tgt := 57) hx hb dS_depth_23 (by decide) (fun hq2 => ?_) (fun hq2 => ?_)
    · have hq2 : 150 ≤ d := (nI_leI (by omega) (by omega)).mp hq2
      exact fin (Or.inr hq2) ls hl
    · have hq2 : d < 150 := Nat.lt_of_not_le (fun h => hq2 (nI_le h (by omega)))
      obtain ⟨x, e1, m1⟩ := pt_at hq
      have hu2 := hub.1
      refine lv_iload_n hx hb dS_depth_26 rfl (lv_at hl 1 rfl) ?_
      refine lv_aload_n hx hb dS_depth_27 rfl (lv_at hl 2 rfl) ?_
      refine mp_get hE.1 hI kS rfl gx_S 2 (by decide) (List.mem_cons_of_mem _ gf_S28) rfl dS_depth_28 ?_
      refine mp_getN hE.1 hI kW1 rfl gx_W 4 (by decide) (ct_nw hE (q := ("BindingBench$Workshop", 63, "BindingBench$Walk", "count", "I")) (by decide +kernel)) rfl dS_depth_31 ?_
      refine va_mmax hx hb (by rw [hE.1.1.2.2.1]; exact hl.1.symm) hE.1.1.2.2.2.1 (ct_w hE gm_S92) (ct_w hE gt_Jm_max) (ct_w hE gz_Jm) (ct_w hE gc_Jm_max) (Nat.le_of_ble_eq_true rfl) (Nat.le_of_ble_eq_true rfl) (Nat.zero_le _) (Nat.zero_le _) dS_depth_34 ?_
      rw [ci_max (by omega) (by omega)]
      refine lv_istore_n hx hb dS_depth_37 rfl hl (by decide) rfl (fun ls hl => ?_)
      refine lv_aload_n hx hb dS_depth_38 rfl (lv_at hl 2 rfl) ?_
      refine mp_get hE.1 hI kS rfl gx_S 2 (by decide) (List.mem_cons_of_mem _ gf_S28) rfl dS_depth_39 ?_
      refine lv_aload_n hx hb dS_depth_42 rfl (lv_at hl 3 rfl) ?_
      refine mp_getN hE.1 hI kT rfl gx_T 0 (by decide) (ct_nw hE (q := ("BindingBench$Workshop", 59, "BindingBench$Term", "cells", "[I")) (by decide +kernel)) rfl dS_depth_43 ?_
      refine lv_iload_n hx hb dS_depth_46 rfl (lv_at hl 1 rfl) ?_
      refine mp_ild hE.1 hI kA 0 rfl (vp_in_nI (by omega) (by omega)) dS_depth_47 ?_
      rw [nI_clamp (by omega), kf j x e1]
      refine ct_V (n := 1) hE hI (kW_pass (x := x) hw2 (kx x m1) (by omega)) kW1 rfl gm_S66 gi_W_pass gs_W_W_pass gz_W gc_W_pass (by decide +kernel) ⟨Nat.le_of_ble_eq_true rfl, Nat.le_of_ble_eq_true rfl⟩ rfl hl.1 rfl (Nat.le_of_ble_eq_true rfl) dS_depth_48 ⟨Nat.le_of_ble_eq_true rfl, Nat.le_of_ble_eq_true rfl⟩ (fun v w1 H locs hq hI => ?_)
      obtain ⟨rfl, ho2, hw3⟩ := hq
      show W _ _ _ _ _ _ _ _ _ _ _ _ _ _ _ (F0 _ _ _ [])
      refine lv_iinc (k := 1) (v := nI (j + 1)) hx hb dS_depth_51 hl rfl (nI_1 j) (by decide) rfl (fun ls hl => ?_)
      refine lv_goto (tgt := 11) hx hb dS_depth_54 (by decide) ?_
      refine ih (L.length - (j + 1)) ls w1 H locs (by omega) ⟨j + 1, max d u.2, tm_wk 1 1 u x, rfl, by omega, by omega, hub.wk (by omega) (by omega) x, ?_, hl, ho.tr ho2, hw3, hI⟩
      rw [← heq, pt_drop e1, tm_dd_cons _ _ _ hq2]
end KS1
