/-! Workshop: addRaised, addFilled -/
theorem lp_5 {α β γ δ : Type} {G : α → β → γ → δ → Prop} (I : Nat → α → β → γ → δ → Prop) (hs : ∀ k x y z u, I k x y z u → (∀ k' x' y' z' u', k' < k → I k' x' y' z' u' → G x' y' z' u') → G x y z u) (k : Nat) (x : α) (y : β) (z : γ) (u : δ) (h : I k x y z u) : G x y z u := lp_4 I hs k x y z u h
theorem tm_fl_len1 (m : Nat) (P : List Int) : ∀ u, (tm_fl 0 1 (tm_gr m) P u).length = P.length := by
  induction P with
  | nil => intro u; rfl
  | cons x P ih => intro u; rw [tm_fl_cons, List.length_append, ih, List.length_cons]; show 1 + _ = _; omega
theorem tm_fl_gr0 (P : List Int) : ∀ u, tm_fl 0 1 (tm_gr 0) P u = P := by
  induction P with
  | nil => intro u; rfl
  | cons x P ih =>
    intro u
    rw [tm_fl_cons, ih]
    show [if _ then x + ((0 : Nat) : Int) else x] ++ P = x :: P
    split <;> simp
theorem pt_T.len {K : Nat → ClassId} {w : mp_W} {t ar cap : Nat} {L L' : List Int} (h : pt_T K w t ar cap L) (he : L'.length = L.length) (hc : cap < L.length) : pt_T K w t ar cap L' := by
  obtain ⟨f, h1, h2, h3⟩ := h
  exact ⟨f, by rw [he]; exact h1, h2, fun q => by omega⟩
theorem pt_rest {B : List Int} {i b : Nat} {x : Int} (h : B[i]? = some x) (hb : i < b) : (B.drop i).take (b - i) = x :: (B.drop (i + 1)).take (b - (i + 1)) := by
  rw [pt_drop h, show b - i = (b - (i + 1)) + 1 by omega, List.take_succ_cons]
theorem pt_rest0 {B : List Int} {b : Nat} : (B.drop b).take (b - b) = [] := by rw [Nat.sub_self]; rfl
section KS3
variable {l : Launch} {n0 : Nat} {D : va_G} {K : Nat → ClassId} {w : mp_W} {f : Nat → Nat} {mi : Nat}
abbrev fp_R (f : Nat → Nat) (mi : Nat) : List Nat := [f 9, f 10, f (13 + 2 * mi), f (14 + 2 * mi)]
theorem pt_S.inn {w w' : mp_W} {M : List Int} (h : pt_S K w f mi M) (hf : ph_i f) (hm : mi = 16 ∨ mi = 17) (ho : mp_off [f 9, f 10] w w') (hw : ∃ u, pt_W K w' (f 9) (f 10) 0 1 u) : pt_S K w' f mi M := by
  obtain ⟨h1, h2, ⟨u1, h3⟩, ⟨u2, h4⟩, -⟩ := h
  have nn : ∀ a, a < 49 → a ≠ 9 → a ≠ 10 → f a ∉ [f 9, f 10] := fun a ha q1 q2 => hf.nin ha [9, 10] (by intro b hb; simp at hb; omega)
  exact ⟨by rw [ho _ (nn 2 (by decide) (by decide) (by decide))]; exact h1, h2.off ho (nn _ (by omega) (by omega) (by omega)) (nn _ (by omega) (by omega) (by omega)), ⟨u1, h3.off ho (nn 5 (by decide) (by decide) (by decide)) (nn 6 (by decide) (by decide) (by decide))⟩, ⟨u2, h4.off ho (nn 7 (by decide) (by decide) (by decide)) (nn 8 (by decide) (by decide) (by decide))⟩, hw⟩
theorem pt_S.bin {w w' : mp_W} {M : List Int} (h : pt_S K w f mi M) (hf : ph_i f) (hm : mi = 16 ∨ mi = 17) (ho : mp_off [f 7, f 8] w w') (hw : ∃ u, pt_W K w' (f 7) (f 8) 0 1 u) : pt_S K w' f mi M := by
  obtain ⟨h1, h2, ⟨u1, h3⟩, -, u3, h5⟩ := h
  have nn : ∀ a, a < 49 → a ≠ 7 → a ≠ 8 → f a ∉ [f 7, f 8] := fun a ha q1 q2 => hf.nin ha [7, 8] (by intro b hb; simp at hb; omega)
  exact ⟨by rw [ho _ (nn 2 (by decide) (by decide) (by decide))]; exact h1, h2.off ho (nn _ (by omega) (by omega) (by omega)) (nn _ (by omega) (by omega) (by omega)), ⟨u1, h3.off ho (nn 5 (by decide) (by decide) (by decide)) (nn 6 (by decide) (by decide) (by decide))⟩, hw, u3, h5.off ho (nn 9 (by decide) (by decide) (by decide)) (nn 10 (by decide) (by decide) (by decide))⟩
set_option maxRecDepth 100000 in
theorem kS_addRaised {j cj a b mo : Nat} {M B : List Int} (hf : ph_i f) (hm : mi = 16 ∨ mi = 17) (hS : pt_S K w f mi M) (hj : j < 18) (hjm : j ≠ mi) (hb' : pt_R K w (f (13 + 2 * j)) (f (14 + 2 * j)) cj B) (hab : a ≤ b) (hbB : b ≤ B.length) (hmo : mo ≤ 1000000) (hML : M.length ≤ 100000000) :
    ct_M l n0 D K yS_addRaised (Cond.code yS_addRaised cS_addRaised 7 none) 2 100 0 0 [.ref (f 2), .ref (f (13 + 2 * j)), .int (nI a), .int (nI b), .int (nI mo)] w (fun v w' => v = none ∧ mp_off (fp_R f mi) w w' ∧ pt_S K w' f mi (M ++ tm_fl 0 1 (tm_gr mo) ((B.drop a).take (b - a)) ([], 0))) := by
  have hB2 : B.length ≤ 2000 := Nat.le_trans hb'.2.1 hb'.2.2.1
  have nm : ∀ x, x < 49 → x ≠ 13 + 2 * mi → x ≠ 14 + 2 * mi → f x ∉ [f (13 + 2 * mi), f (14 + 2 * mi)] := fun x h q1 q2 => hf.nin h [13 + 2 * mi, 14 + 2 * mi] (by intro b hb; simp at hb; omega)
  have ni : ∀ x, x < 49 → x ≠ 9 → x ≠ 10 → f x ∉ [f 9, f 10] := fun x h q1 q2 => hf.nin h [9, 10] (by intro b hb; simp at hb; omega)
  have nr : ∀ x, x < 49 → x ≠ 9 → x ≠ 10 → x ≠ 13 + 2 * mi → x ≠ 14 + 2 * mi → f x ∉ fp_R f mi := fun x h q1 q2 q3 q4 => hf.nin h [9, 10, 13 + 2 * mi, 14 + 2 * mi] (by intro b hb; simp at hb; omega)
  have sub2 : ∀ {x y : mp_W}, mp_off [f (13 + 2 * mi), f (14 + 2 * mi)] x y → mp_off (fp_R f mi) x y := fun h => h.mono (fun q hq => by simp at hq ⊢; omega)
  have sub1 : ∀ {x y : mp_W}, mp_off [f 9, f 10] x y → mp_off (fp_R f mi) x y := fun h => h.mono (fun q hq => by simp at hq ⊢; omega)
  obtain ⟨g, kT, kA, kf⟩ := id hS.2.1
  obtain ⟨gb, bT, bA, bf, bc, bc2, bx⟩ := hb'.out
  have hPl : ((B.drop a).take (b - a)).length = b - a := by rw [List.length_take, List.length_drop]; omega
  refine ct_go (own := nm_S) (by decide) rfl (Nat.le_of_ble_eq_true rfl) ?_
  intro p e s m below meth c ls hE hI hr hk hn hl
  have hx := hE.1.1.1
  have hb := hE.1.1.2.1
  have hl : lv_has ls 7 [(0, .ref (f 2)), (1, .ref (f (13 + 2 * j))), (2, .int (nI a)), (3, .int (nI b)), (4, .int (nI mo))] := hl
  have plain : (mo = 0 ∨ 2000 < M.length + (b - a)) → ∀ (H : Heap) (locs : List Loc), mp_I D cl_all (mp_A w s.heap.size) s.heap w H locs → W p l e { frames := 2, cells := 0, slots := 0, locals := 100 } s m ([Value.ref (f 2), .ref (f (13 + 2 * j)), .int (nI a), .int (nI b), .int (nI mo)] : List Value).toArray below meth c H locs 0 0 (MQ below (ct_Q D w s.heap.size (fun v w' => v = none ∧ mp_off (fp_R f mi) w w' ∧ pt_S K w' f mi (M ++ tm_fl 0 1 (tm_gr mo) ((B.drop a).take (b - a)) ([], 0)))) ([Value.ref (f 2), .ref (f (13 + 2 * j)), .int (nI a), .int (nI b), .int (nI mo)] : List Value).toArray s 0 0 (mp_A w s.heap.size)) (F0 m 18 ls []) := by
    intro hcase H locs hI
    refine lv_aload_n hx hb dS_addRaised_18 rfl (lv_at hl 0 rfl) ?_
    refine mp_get hE.1 hI hS.1 rfl gx_S 0 (by decide) (List.mem_cons_of_mem _ gf_S14) rfl dS_addRaised_19 ?_
    refine lv_aload_n hx hb dS_addRaised_22 rfl (lv_at hl 1 rfl) ?_
    refine lv_iload_n hx hb dS_addRaised_23 rfl (lv_at hl 2 rfl) ?_
    refine lv_iload_n hx hb dS_addRaised_24 rfl (lv_at hl 3 rfl) ?_
    refine ct_V (n := 3) hE hI (kT_addAll (a := a) (b := b) hS.2.1 bT bA bf bc hab hbB (by decide) (by omega) (by omega)) kT rfl gm_S48 gi_T_addAll gs_T_T_addAll gz_T gc_T_addAll (by decide +kernel) ⟨Nat.le_of_ble_eq_true rfl, Nat.le_of_ble_eq_true rfl⟩ rfl hl.1 rfl (Nat.le_of_ble_eq_true rfl) dS_addRaised_25 ⟨Nat.le_of_ble_eq_true rfl, Nat.le_of_ble_eq_true rfl⟩ (fun v w1 H locs hq hI => ?_)
    obtain ⟨rfl, ho1, hp1⟩ := hq
    have hp2 : pt_T K w1 (f (13 + 2 * mi)) (f (14 + 2 * mi)) 2000 (M ++ tm_fl 0 1 (tm_gr mo) ((B.drop a).take (b - a)) ([], 0)) := by
      rcases hcase with h0 | h0
      · subst h0; rw [tm_fl_gr0]; exact hp1
      · exact hp1.len (by rw [List.length_append, List.length_append, tm_fl_len1]) (by rw [List.length_append, hPl]; omega)
    exact ct_vret hE hI hr hk ⟨rfl, sub2 ho1, hS.made hf hm ho1 hp2⟩ (by decide) (by decide) dS_addRaised_28
  refine lv_iload hx hb dS_addRaised_0 (lv_at hl 4 rfl) ?_
  refine lv_if_eq (tgt := 18) hx hb dS_addRaised_2 (by decide) (fun h0 => ?_) (fun h0 => ?_)
  · have h0 : mo = 0 := (nI_eq (b := 0) (by omega) (by omega)).mp h0
    exact plain (Or.inl h0) _ _ hI
  · skip
    refine lv_aload_n hx hb dS_addRaised_5 rfl (lv_at hl 0 rfl) ?_
    refine mp_get hE.1 hI hS.1 rfl gx_S 0 (by decide) (List.mem_cons_of_mem _ gf_S14) rfl dS_addRaised_6 ?_
    refine lv_iload_n hx hb dS_addRaised_9 rfl (lv_at hl 3 rfl) ?_
    refine lv_iload_n hx hb dS_addRaised_10 rfl (lv_at hl 2 rfl) ?_
    refine lv_isub hx hb dS_addRaised_11 ?_
    rw [pk_sub hab]
    refine ct_V (n := 1) hE hI (kT_takes kT kA) kT rfl gm_S109 gi_T_takes gs_T_T_takes gz_T gc_T_takes (by decide +kernel) ⟨Nat.le_of_ble_eq_true rfl, Nat.le_of_ble_eq_true rfl⟩ rfl hl.1 rfl (Nat.le_of_ble_eq_true rfl) dS_addRaised_12 ⟨Nat.le_of_ble_eq_true rfl, Nat.le_of_ble_eq_true rfl⟩ (fun v w1 H locs hq hI => ?_)
    obtain ⟨rfl, hw⟩ := hq
    subst w1
    show W _ _ _ _ _ _ _ _ _ _ _ _ _ _ _ (F0 _ _ _ [.int _])
    refine lv_if_ne (tgt := 29) hx hb dS_addRaised_15 (by decide) (fun hc => ?_) (fun hc => ?_)
    · have hcc : ¬ nI 2000 - nI M.length < nI (b - a) := by
        intro q
        rw [if_pos q] at hc
        exact hc rfl
      rw [ci_subN, ← ci_nat, ci_lt (by omega) (by omega)] at hcc
      obtain ⟨u0, hw0⟩ := id hS.2.2.2.2
      obtain ⟨gw, iT, iA⟩ := id hw0
      refine lv_aload_n hx hb dS_addRaised_29 rfl (lv_at hl 0 rfl) ?_
      refine mp_get hE.1 hI hS.1 rfl gx_S 4 (by decide) (List.mem_cons_of_mem _ gf_S35) rfl dS_addRaised_30 ?_
      refine ct_V (n := 0) hE hI (kW_start hw0) iT rfl gm_S56 gi_W_start gs_W_W_start gz_W gc_W_start (by decide +kernel) ⟨Nat.le_of_ble_eq_true rfl, Nat.le_of_ble_eq_true rfl⟩ rfl hl.1 rfl (Nat.le_of_ble_eq_true rfl) dS_addRaised_33 ⟨Nat.le_of_ble_eq_true rfl, Nat.le_of_ble_eq_true rfl⟩ (fun v w1 H locs hq hI => ?_)
      obtain ⟨rfl, ho1, hw1⟩ := hq
      show W _ _ _ _ _ _ _ _ _ _ _ _ _ _ _ (F0 _ _ _ [])
      refine lv_iload_n hx hb dS_addRaised_36 rfl (lv_at hl 2 rfl) ?_
      refine lv_istore hx hb dS_addRaised_37 hl (by decide) rfl (fun ls hl => ?_)
      refine lp_4 (G := fun ls w2 H locs => W p l e _ s m _ below meth c H locs 0 0 _ (F0 m 39 ls [])) (I := fun k ls w2 H locs => ∃ i u M', k = b - i ∧ a ≤ i ∧ i ≤ b ∧ M'.length = M.length + (i - a) ∧ pt_ub u i ∧ M' ++ tm_fl 0 1 (tm_gr mo) ((B.drop i).take (b - i)) u = M ++ tm_fl 0 1 (tm_gr mo) ((B.drop a).take (b - a)) ([], 0) ∧ lv_has ls 7 [(5, .int (nI i)), (0, .ref (f 2)), (1, .ref (f (13 + 2 * j))), (2, .int (nI a)), (3, .int (nI b)), (4, .int (nI mo))] ∧ mp_off (fp_R f mi) w w2 ∧ pt_S K w2 f mi M' ∧ pt_W K w2 (f 9) (f 10) 0 1 u ∧ mp_I D cl_all (mp_A w s.heap.size) s.heap w2 H locs) ?_ (b - a) ls w1 H locs ⟨a, ([], 0), M, rfl, Nat.le_refl _, hab, by omega, ⟨Nat.zero_le _, fun _ h => by cases h⟩, rfl, hl, sub1 ho1, hS.inn hf hm ho1 ⟨_, hw1⟩, hw1, hI⟩
      clear hl hI ho1 hw1 plain
      intro k ls w2 H locs hk0 ih
      obtain ⟨i, u, M', rfl, hai, hib, hM', hub, heq, hl, ho, hS2, hw2, hI⟩ := hk0
      obtain ⟨gb, bT, bA, bf, bc, bc2, bx⟩ := (hb'.off ho (nr _ (by omega) (by omega) (by omega) (by omega) (by omega)) (nr _ (by omega) (by omega) (by omega) (by omega) (by omega))).out
      obtain ⟨g2, iT, iA⟩ := id hw2
      refine lv_iload hx hb dS_addRaised_39 (lv_at hl 0 rfl) ?_
      refine lv_iload_n hx hb dS_addRaised_41 rfl (lv_at hl 4 rfl) ?_
      refine lv_icmp_ge (tgt := 101) hx hb dS_addRaised_42 (by decide) (fun hq => ?_) (fun hq => ?_)
      · have hq : b ≤ i := (nI_leI (by omega) (by omega)).mp hq
        have : i = b := by omega
        subst this
        rw [pt_rest0] at heq
        have heq : M' ++ [] = _ := heq
        rw [List.append_nil] at heq
        exact ct_vret hE hI hr hk ⟨rfl, ho, by rw [← heq]; exact hS2⟩ (by decide) (by decide) dS_addRaised_101
      · have hq : i < b := Nat.lt_of_not_le (fun h => hq (nI_le h (by omega)))
        obtain ⟨x, e1, m1⟩ := pt_at (show i < B.length by omega)
        have b1 := bx x m1
        have hu2 := hub.1
        rw [pt_rest e1 hq, tm_fl_cons] at heq
        obtain ⟨gm, mT, mA, mf⟩ := id hS2.2.1
        refine lv_aload_n hx hb dS_addRaised_45 rfl (lv_at hl 2 rfl) ?_
        refine mp_getN hE.1 hI bT rfl gx_T 0 (by decide) (ct_nw hE (q := ("BindingBench$Workshop", 59, "BindingBench$Term", "cells", "[I")) (by decide +kernel)) rfl dS_addRaised_46 ?_
        refine lv_iload hx hb dS_addRaised_49 (lv_at hl 0 rfl) ?_
        refine mp_ild hE.1 hI bA 0 rfl (vp_in_nI (by omega) (by omega)) dS_addRaised_51 ?_
        rw [nI_clamp (by omega), bf i x e1]
        refine lv_istore hx hb dS_addRaised_52 hl (by decide) rfl (fun ls hl => ?_)
        refine lv_aload_n hx hb dS_addRaised_54 rfl (lv_at hl 2 rfl) ?_
        refine mp_get hE.1 hI hS2.1 rfl gx_S 0 (by decide) (List.mem_cons_of_mem _ gf_S14) rfl dS_addRaised_55 ?_
        refine lv_iload hx hb dS_addRaised_58 (lv_at hl 0 rfl) ?_
        refine lv_bipush (v := nI 99) hx hb dS_addRaised_60 (by decide) ?_
        refine lv_aload_n hx hb dS_addRaised_62 rfl (lv_at hl 2 rfl) ?_
        refine mp_get hE.1 hI hS2.1 rfl gx_S 4 (by decide) (List.mem_cons_of_mem _ gf_S35) rfl dS_addRaised_63 ?_
        refine mp_getN hE.1 hI iT rfl gx_W 4 (by decide) (ct_nw hE (q := ("BindingBench$Workshop", 63, "BindingBench$Walk", "count", "I")) (by decide +kernel)) rfl dS_addRaised_66 ?_
        refine lv_iadd hx hb dS_addRaised_69 ?_
        rw [nI_add]
        have after : ∀ z, tm_gr mo x u.2 = [z] → ∀ (ls : Array Slot), lv_has ls 7 [(6, .int (ci_i x)), (5, .int (nI i)), (0, .ref (f 2)), (1, .ref (f (13 + 2 * j))), (2, .int (nI a)), (3, .int (nI b)), (4, .int (nI mo))] → W p l e { frames := 2, cells := 0, slots := 0, locals := 100 } s m ([Value.ref (f 2), .ref (f (13 + 2 * j)), .int (nI a), .int (nI b), .int (nI mo)] : List Value).toArray below meth c H locs 0 0 (MQ below (ct_Q D w s.heap.size (fun v w' => v = none ∧ mp_off (fp_R f mi) w w' ∧ pt_S K w' f mi (M ++ tm_fl 0 1 (tm_gr mo) ((B.drop a).take (b - a)) ([], 0)))) ([Value.ref (f 2), .ref (f (13 + 2 * j)), .int (nI a), .int (nI b), .int (nI mo)] : List Value).toArray s 0 0 (mp_A w s.heap.size)) (F0 m 83 ls [.int (ci_i z), .ref (f (13 + 2 * mi))]) := by
          intro z hz ls hl
          refine ct_V (n := 1) hE hI (kT_add (z := z) hS2.2.1 (by decide) (by omega)) mT rfl gm_S41 gi_T_add gs_T_T_add gz_T gc_T_add (by decide +kernel) ⟨Nat.le_of_ble_eq_true rfl, Nat.le_of_ble_eq_true rfl⟩ rfl hl.1 rfl (Nat.le_of_ble_eq_true rfl) dS_addRaised_83 ⟨Nat.le_of_ble_eq_true rfl, Nat.le_of_ble_eq_true rfl⟩ (fun v w3 H locs hq hI => ?_)
          obtain ⟨rfl, ho3, hp3⟩ := hq
          have hS3 := hS2.made hf hm ho3 hp3
          have hw3 : pt_W K w3 (f 9) (f 10) 0 1 u := hw2.off ho3 (nm _ (by omega) (by omega) (by omega)) (nm _ (by omega) (by omega) (by omega))
          obtain ⟨g3, iT3, iA3⟩ := id hw3
          show W _ _ _ _ _ _ _ _ _ _ _ _ _ _ _ (F0 _ _ _ [])
          refine lv_aload_n hx hb dS_addRaised_86 rfl (lv_at hl 2 rfl) ?_
          refine mp_get hE.1 hI hS3.1 rfl gx_S 4 (by decide) (List.mem_cons_of_mem _ gf_S35) rfl dS_addRaised_87 ?_
          refine lv_iload hx hb dS_addRaised_90 (lv_at hl 0 rfl) ?_
          refine ct_V (n := 1) hE hI (kW_pass (x := x) hw3 b1 (by omega)) iT3 rfl gm_S66 gi_W_pass gs_W_W_pass gz_W gc_W_pass (by decide +kernel) ⟨Nat.le_of_ble_eq_true rfl, Nat.le_of_ble_eq_true rfl⟩ rfl hl.1 rfl (Nat.le_of_ble_eq_true rfl) dS_addRaised_92 ⟨Nat.le_of_ble_eq_true rfl, Nat.le_of_ble_eq_true rfl⟩ (fun v w4 H locs hq hI => ?_)
          obtain ⟨rfl, ho4, hw4⟩ := hq
          show W _ _ _ _ _ _ _ _ _ _ _ _ _ _ _ (F0 _ _ _ [])
          refine lv_iinc (k := 1) (v := nI (i + 1)) hx hb dS_addRaised_95 hl rfl (nI_1 i) (by decide) rfl (fun ls hl => ?_)
          refine lv_goto (tgt := 39) hx hb dS_addRaised_98 (by decide) ?_
          have hl := lv_sub hl [0, 2, 3, 4, 5, 6] rfl
          refine ih (b - (i + 1)) ls w4 H locs (by omega) ⟨i + 1, tm_wk 0 1 u x, M' ++ [z], rfl, by omega, by omega, by rw [List.length_append]; show M'.length + 1 = _; omega, hub.wk (by omega) (by omega) x, ?_, hl, (ho.tr (sub2 ho3)).tr (sub1 ho4), hS3.inn hf hm ho4 ⟨_, hw4⟩, hw4, hI⟩
          rw [← heq, hz, List.append_assoc]
        refine lv_icmp_le (tgt := 81) hx hb dS_addRaised_70 (by decide) (fun hy => ?_) (fun hy => ?_)
        · have hy : x ≤ ((99 + u.2 : Nat) : Int) := by
            rw [← ci_nat] at hy
            exact (ci_le (by omega) (by omega)).mp hy
          refine lv_iload hx hb dS_addRaised_81 (lv_at hl 0 rfl) ?_
          exact after x (by unfold tm_gr; rw [if_neg (by omega)]) ls hl
        · have hy : ((99 + u.2 : Nat) : Int) < x := by
            rw [← ci_nat] at hy
            have : ¬ x ≤ ((99 + u.2 : Nat) : Int) := fun q => hy ((ci_le (by omega) (by omega)).mpr q)
            omega
          refine lv_iload hx hb dS_addRaised_73 (lv_at hl 0 rfl) ?_
          refine lv_iload hx hb dS_addRaised_75 (lv_at hl 6 rfl) ?_
          refine lv_iadd hx hb dS_addRaised_77 ?_
          rw [← ci_nat mo, ci_add]
          refine lv_goto (tgt := 83) hx hb dS_addRaised_78 (by decide) ?_
          exact after (x + mo) (by unfold tm_gr; rw [if_pos (by omega)]) ls hl
    · have hcc : nI 2000 - nI M.length < nI (b - a) := by
        by_cases q : nI 2000 - nI M.length < nI (b - a)
        · exact q
        · rw [if_neg q] at hc
          exact absurd hc (by decide)
      rw [ci_subN, ← ci_nat, ci_lt (by omega) (by omega)] at hcc
      exact plain (Or.inr (by omega)) _ _ hI
end KS3
