/-! Workshop: addFilled -/
section KS4
variable {l : Launch} {n0 : Nat} {D : va_G} {K : Nat → ClassId} {w : mp_W} {f : Nat → Nat} {mi : Nat}
abbrev fp_F (f : Nat → Nat) (mi : Nat) : List Nat := [f 7, f 8, f 9, f 10, f (13 + 2 * mi), f (14 + 2 * mi)]
/-- the inside of a FUNCTION, filled -/
def pt_fill (La Lb : List Int) (u : List Nat × Nat) : List Int := tm_fl 0 1 (tm_gf (fun k => tm_fl 0 1 (tm_gr k) Lb ([], 0))) La u
set_option maxRecDepth 100000 in
theorem kS_addFilled {i ci j cj a b c d : Nat} {M A B : List Int} (hf : ph_i f) (hm : mi = 16 ∨ mi = 17) (hS : pt_S K w f mi M) (hi : i < 18) (him : i ≠ mi) (hj : j < 18) (hjm : j ≠ mi) (ha' : pt_R K w (f (13 + 2 * i)) (f (14 + 2 * i)) ci A) (hb' : pt_R K w (f (13 + 2 * j)) (f (14 + 2 * j)) cj B) (hab : a ≤ b) (hbA : b ≤ A.length) (hcd : c ≤ d) (hdB : d ≤ B.length) (hML : M.length ≤ 2000) :
    ct_M l n0 D K yS_addFilled (Cond.code yS_addFilled cS_addFilled 10 none) 3 150 0 0 [.ref (f 2), .ref (f (13 + 2 * i)), .int (nI a), .int (nI b), .ref (f (13 + 2 * j)), .int (nI c), .int (nI d)] w (fun v w' => v = none ∧ mp_off (fp_F f mi) w w' ∧ pt_S K w' f mi (M ++ pt_fill ((A.drop a).take (b - a)) ((B.drop c).take (d - c)) ([], 0))) := by
  have hA2 : A.length ≤ 2000 := Nat.le_trans ha'.2.1 ha'.2.2.1
  have hB2 : B.length ≤ 2000 := Nat.le_trans hb'.2.1 hb'.2.2.1
  have nm : ∀ x, x < 49 → x ≠ 13 + 2 * mi → x ≠ 14 + 2 * mi → f x ∉ [f (13 + 2 * mi), f (14 + 2 * mi)] := fun x h q1 q2 => hf.nin h [13 + 2 * mi, 14 + 2 * mi] (by intro b hb; simp at hb; omega)
  have nr : ∀ x, x < 49 → x ≠ 9 → x ≠ 10 → x ≠ 13 + 2 * mi → x ≠ 14 + 2 * mi → f x ∉ fp_R f mi := fun x h q1 q2 q3 q4 => hf.nin h [9, 10, 13 + 2 * mi, 14 + 2 * mi] (by intro b hb; simp at hb; omega)
  have nf : ∀ x, 12 < x → x < 49 → x ≠ 13 + 2 * mi → x ≠ 14 + 2 * mi → f x ∉ fp_F f mi := fun x h0 h q3 q4 => hf.nin h [7, 8, 9, 10, 13 + 2 * mi, 14 + 2 * mi] (by intro b hb; simp at hb; omega)
  have sub2 : ∀ {x y : mp_W}, mp_off [f (13 + 2 * mi), f (14 + 2 * mi)] x y → mp_off (fp_F f mi) x y := fun h => h.mono (fun q hq => by simp at hq ⊢; omega)
  have sub1 : ∀ {x y : mp_W}, mp_off [f 7, f 8] x y → mp_off (fp_F f mi) x y := fun h => h.mono (fun q hq => by simp at hq ⊢; omega)
  have sub3 : ∀ {x y : mp_W}, mp_off (fp_R f mi) x y → mp_off (fp_F f mi) x y := fun h => h.mono (fun q hq => by simp at hq ⊢; omega)
  have hPl : ((B.drop c).take (d - c)).length = d - c := by rw [List.length_take, List.length_drop]; omega
  refine ct_go (own := nm_S) (by decide) rfl (Nat.le_of_ble_eq_true rfl) ?_
  intro p e s m below meth c' ls hE hI hr hk hn hl
  have hx := hE.1.1.1
  have hb := hE.1.1.2.1
  have hl : lv_has ls 10 [(0, .ref (f 2)), (1, .ref (f (13 + 2 * i))), (2, .int (nI a)), (3, .int (nI b)), (4, .ref (f (13 + 2 * j))), (5, .int (nI c)), (6, .int (nI d))] := hl
  obtain ⟨u0, hw0⟩ := id hS.2.2.2.1
  obtain ⟨gw, iT, iA⟩ := id hw0
  refine lv_aload_n hx hb dS_addFilled_0 rfl (lv_at hl 0 rfl) ?_
  refine mp_get hE.1 hI hS.1 rfl gx_S 3 (by decide) (List.mem_cons_of_mem _ gf_S32) rfl dS_addFilled_1 ?_
  refine ct_V (n := 0) hE hI (kW_start hw0) iT rfl gm_S56 gi_W_start gs_W_W_start gz_W gc_W_start (by decide +kernel) ⟨Nat.le_of_ble_eq_true rfl, Nat.le_of_ble_eq_true rfl⟩ rfl hl.1 rfl (Nat.le_of_ble_eq_true rfl) dS_addFilled_4 ⟨Nat.le_of_ble_eq_true rfl, Nat.le_of_ble_eq_true rfl⟩ (fun v w1 H locs hq hI => ?_)
  obtain ⟨rfl, ho1, hw1⟩ := hq
  show W _ _ _ _ _ _ _ _ _ _ _ _ _ _ _ (F0 _ _ _ [])
  refine lv_iload_n hx hb dS_addFilled_7 rfl (lv_at hl 2 rfl) ?_
  refine lv_istore hx hb dS_addFilled_8 hl (by decide) rfl (fun ls hl => ?_)
  refine lp_4 (G := fun ls w2 H locs => W p l e _ s m _ below meth c' H locs 0 0 _ (F0 m 10 ls [])) (I := fun k ls w2 H locs => ∃ r u M', k = b - r ∧ a ≤ r ∧ r ≤ b ∧ M'.length ≤ M.length + 2000 * (r - a) ∧ pt_ub u r ∧ M' ++ pt_fill ((A.drop r).take (b - r)) ((B.drop c).take (d - c)) u = M ++ pt_fill ((A.drop a).take (b - a)) ((B.drop c).take (d - c)) ([], 0) ∧ lv_has ls 10 [(7, .int (nI r)), (0, .ref (f 2)), (1, .ref (f (13 + 2 * i))), (2, .int (nI a)), (3, .int (nI b)), (4, .ref (f (13 + 2 * j))), (5, .int (nI c)), (6, .int (nI d))] ∧ mp_off (fp_F f mi) w w2 ∧ pt_S K w2 f mi M' ∧ pt_W K w2 (f 7) (f 8) 0 1 u ∧ mp_I D cl_all (mp_A w s.heap.size) s.heap w2 H locs) ?_ (b - a) ls w1 H locs ⟨a, ([], 0), M, rfl, Nat.le_refl _, hab, by omega, ⟨Nat.zero_le _, fun _ h => by cases h⟩, rfl, hl, sub1 ho1, hS.bin hf hm ho1 ⟨_, hw1⟩, hw1, hI⟩
  clear hl hI ho1 hw1 iT iA hw0
  intro k ls w2 H locs hk0 ih
  obtain ⟨r, u, M', rfl, har, hrb, hM', hub, heq, hl, ho, hS2, hw2, hI⟩ := hk0
  have ha2 := ha'.off ho (nf _ (by omega) (by omega) (by omega) (by omega)) (nf _ (by omega) (by omega) (by omega) (by omega))
  have hb2 := hb'.off ho (nf _ (by omega) (by omega) (by omega) (by omega)) (nf _ (by omega) (by omega) (by omega) (by omega))
  obtain ⟨ga, aT, aA, af, ac, ac2, ax⟩ := ha2.out
  obtain ⟨g2, iT, iA⟩ := id hw2
  refine lv_iload hx hb dS_addFilled_10 (lv_at hl 0 rfl) ?_
  refine lv_iload_n hx hb dS_addFilled_12 rfl (lv_at hl 4 rfl) ?_
  refine lv_icmp_ge (tgt := 102) hx hb dS_addFilled_13 (by decide) (fun hq => ?_) (fun hq => ?_)
  · have hq : b ≤ r := (nI_leI (by omega) (by omega)).mp hq
    have : r = b := by omega
    subst this
    rw [pt_rest0] at heq
    have heq : M' ++ [] = _ := heq
    rw [List.append_nil] at heq
    exact ct_vret hE hI hr hk ⟨rfl, ho, by rw [← heq]; exact hS2⟩ (by decide) (by decide) dS_addFilled_102
  · have hq : r < b := Nat.lt_of_not_le (fun h => hq (nI_le h (by omega)))
    obtain ⟨x, e1, m1⟩ := pt_at (show r < A.length by omega)
    have b1 := ax x m1
    have hu2 := hub.1
    have hmul : 2000 * (r + 1 - a) = 2000 * (r - a) + 2000 := by omega
    rw [pt_rest e1 hq, show ∀ P Q, pt_fill (x :: P) Q u = tm_gf (fun k => tm_fl 0 1 (tm_gr k) Q ([], 0)) x u.2 ++ pt_fill P Q (tm_wk 0 1 u x) from fun P Q => tm_fl_cons ..] at heq
    obtain ⟨gm, mT, mA, mf⟩ := id hS2.2.1
    refine lv_aload_n hx hb dS_addFilled_16 rfl (lv_at hl 2 rfl) ?_
    refine mp_getN hE.1 hI aT rfl gx_T 0 (by decide) (ct_nw hE (q := ("BindingBench$Workshop", 59, "BindingBench$Term", "cells", "[I")) (by decide +kernel)) rfl dS_addFilled_17 ?_
    refine lv_iload hx hb dS_addFilled_20 (lv_at hl 0 rfl) ?_
    refine mp_ild hE.1 hI aA 0 rfl (vp_in_nI (by omega) (by omega)) dS_addFilled_22 ?_
    rw [nI_clamp (by omega), af r x e1]
    refine lv_istore hx hb dS_addFilled_23 hl (by decide) rfl (fun ls hl => ?_)
    refine lv_bipush (v := nI 100) hx hb dS_addFilled_25 (by decide) ?_
    refine lv_aload_n hx hb dS_addFilled_27 rfl (lv_at hl 2 rfl) ?_
    refine mp_get hE.1 hI hS2.1 rfl gx_S 3 (by decide) (List.mem_cons_of_mem _ gf_S32) rfl dS_addFilled_28 ?_
    refine mp_getN hE.1 hI iT rfl gx_W 4 (by decide) (ct_nw hE (q := ("BindingBench$Workshop", 63, "BindingBench$Walk", "count", "I")) (by decide +kernel)) rfl dS_addFilled_31 ?_
    refine lv_iadd hx hb dS_addFilled_34 ?_
    rw [nI_add]
    refine lv_istore hx hb dS_addFilled_35 hl (by decide) rfl (fun ls hl => ?_)
    refine lv_iload hx hb dS_addFilled_37 (lv_at hl 1 rfl) ?_
    refine lv_iload hx hb dS_addFilled_39 (lv_at hl 0 rfl) ?_
    have after : ∀ (w3 : mp_W) (M3 : List Int) (H : Heap) (locs : List Loc) (ls : Array Slot), M3.length ≤ M'.length + 2000 → M3 ++ pt_fill ((A.drop (r + 1)).take (b - (r + 1))) ((B.drop c).take (d - c)) (tm_wk 0 1 u x) = M ++ pt_fill ((A.drop a).take (b - a)) ((B.drop c).take (d - c)) ([], 0) → mp_off (fp_F f mi) w w3 → pt_S K w3 f mi M3 → pt_W K w3 (f 7) (f 8) 0 1 u → mp_I D cl_all (mp_A w s.heap.size) s.heap w3 H locs →
        lv_has ls 10 [(9, .int (nI (100 + u.2))), (8, .int (ci_i x)), (7, .int (nI r)), (0, .ref (f 2)), (1, .ref (f (13 + 2 * i))), (2, .int (nI a)), (3, .int (nI b)), (4, .ref (f (13 + 2 * j))), (5, .int (nI c)), (6, .int (nI d))] → W p l e { frames := 3, cells := 0, slots := 0, locals := 150 } s m ([Value.ref (f 2), .ref (f (13 + 2 * i)), .int (nI a), .int (nI b), .ref (f (13 + 2 * j)), .int (nI c), .int (nI d)] : List Value).toArray below meth c' H locs 0 0 (MQ below (ct_Q D w s.heap.size (fun v w' => v = none ∧ mp_off (fp_F f mi) w w' ∧ pt_S K w' f mi (M ++ pt_fill ((A.drop a).take (b - a)) ((B.drop c).take (d - c)) ([], 0)))) ([Value.ref (f 2), .ref (f (13 + 2 * i)), .int (nI a), .int (nI b), .ref (f (13 + 2 * j)), .int (nI c), .int (nI d)] : List Value).toArray s 0 0 (mp_A w s.heap.size)) (F0 m 87 ls []) := by
      intro w3 M3 H locs ls hM3 heq3 ho3 hS3 hw3 hI hl
      obtain ⟨g3, iT3, iA3⟩ := id hw3
      refine lv_aload_n hx hb dS_addFilled_87 rfl (lv_at hl 3 rfl) ?_
      refine mp_get hE.1 hI hS3.1 rfl gx_S 3 (by decide) (List.mem_cons_of_mem _ gf_S32) rfl dS_addFilled_88 ?_
      refine lv_iload hx hb dS_addFilled_91 (lv_at hl 1 rfl) ?_
      refine ct_V (n := 1) hE hI (kW_pass (x := x) hw3 b1 (by omega)) iT3 rfl gm_S66 gi_W_pass gs_W_W_pass gz_W gc_W_pass (by decide +kernel) ⟨Nat.le_of_ble_eq_true rfl, Nat.le_of_ble_eq_true rfl⟩ rfl hl.1 rfl (Nat.le_of_ble_eq_true rfl) dS_addFilled_93 ⟨Nat.le_of_ble_eq_true rfl, Nat.le_of_ble_eq_true rfl⟩ (fun v w4 H locs hq hI => ?_)
      obtain ⟨rfl, ho4, hw4⟩ := hq
      show W _ _ _ _ _ _ _ _ _ _ _ _ _ _ _ (F0 _ _ _ [])
      refine lv_iinc (k := 2) (v := nI (r + 1)) hx hb dS_addFilled_96 hl rfl (nI_1 r) (by decide) rfl (fun ls hl => ?_)
      refine lv_goto (tgt := 10) hx hb dS_addFilled_99 (by decide) ?_
      have hl := lv_sub hl [0, 3, 4, 5, 6, 7, 8, 9] rfl
      exact ih (b - (r + 1)) ls w4 H locs (by omega) ⟨r + 1, tm_wk 0 1 u x, M3, rfl, by omega, by omega, by omega, hub.wk (by omega) (by omega) x, heq3, hl, ho3.tr (sub1 ho4), hS3.bin hf hm ho4 ⟨_, hw4⟩, hw4, hI⟩
    have wkeep : ∀ {w3 : mp_W}, mp_off (fp_R f mi) w2 w3 → pt_W K w3 (f 7) (f 8) 0 1 u := fun h => hw2.off h (nr _ (by omega) (by omega) (by omega) (by omega) (by omega)) (nr _ (by omega) (by omega) (by omega) (by omega) (by omega))
    refine lv_icmp_ne (tgt := 64) hx hb dS_addFilled_41 (by decide) (fun hy => ?_) (fun hy => ?_)
    · have hy : ¬ x = ((100 + u.2 : Nat) : Int) := fun q => hy (by rw [q, ci_nat])
      refine lv_aload_n hx hb dS_addFilled_64 rfl (lv_at hl 3 rfl) ?_
      refine mp_get hE.1 hI hS2.1 rfl gx_S 0 (by decide) (List.mem_cons_of_mem _ gf_S14) rfl dS_addFilled_65 ?_
      refine lv_iload hx hb dS_addFilled_68 (lv_at hl 1 rfl) ?_
      refine lv_iload hx hb dS_addFilled_70 (lv_at hl 0 rfl) ?_
      have adding : ∀ z, tm_gf (fun k => tm_fl 0 1 (tm_gr k) ((B.drop c).take (d - c)) ([], 0)) x u.2 = [z] → W p l e { frames := 3, cells := 0, slots := 0, locals := 150 } s m ([Value.ref (f 2), .ref (f (13 + 2 * i)), .int (nI a), .int (nI b), .ref (f (13 + 2 * j)), .int (nI c), .int (nI d)] : List Value).toArray below meth c' H locs 0 0 (MQ below (ct_Q D w s.heap.size (fun v w' => v = none ∧ mp_off (fp_F f mi) w w' ∧ pt_S K w' f mi (M ++ pt_fill ((A.drop a).take (b - a)) ((B.drop c).take (d - c)) ([], 0)))) ([Value.ref (f 2), .ref (f (13 + 2 * i)), .int (nI a), .int (nI b), .ref (f (13 + 2 * j)), .int (nI c), .int (nI d)] : List Value).toArray s 0 0 (mp_A w s.heap.size)) (F0 m 84 ls [.int (ci_i z), .ref (f (13 + 2 * mi))]) := by
        intro z hz
        refine ct_V (n := 1) hE hI (kT_add (z := z) hS2.2.1 (by decide) (by omega)) mT rfl gm_S41 gi_T_add gs_T_T_add gz_T gc_T_add (by decide +kernel) ⟨Nat.le_of_ble_eq_true rfl, Nat.le_of_ble_eq_true rfl⟩ rfl hl.1 rfl (Nat.le_of_ble_eq_true rfl) dS_addFilled_84 ⟨Nat.le_of_ble_eq_true rfl, Nat.le_of_ble_eq_true rfl⟩ (fun v w3 H locs hq hI => ?_)
        obtain ⟨rfl, ho3, hp3⟩ := hq
        refine after w3 (M' ++ [z]) H locs ls (by rw [List.length_append]; show M'.length + 1 ≤ _; omega) ?_ (ho.tr (sub2 ho3)) (hS2.made hf hm ho3 hp3) (hw2.off ho3 (nm _ (by omega) (by omega) (by omega)) (nm _ (by omega) (by omega) (by omega))) hI hl
        rw [← heq, hz, List.append_assoc]
      refine lv_icmp_le (tgt := 82) hx hb dS_addFilled_72 (by decide) (fun hz => ?_) (fun hz => ?_)
      · have hz : x ≤ ((100 + u.2 : Nat) : Int) := by
          rw [← ci_nat] at hz
          exact (ci_le (by omega) (by omega)).mp hz
        refine lv_iload hx hb dS_addFilled_82 (lv_at hl 1 rfl) ?_
        exact adding x (by unfold tm_gf; rw [if_neg (by omega), if_neg (by omega)])
      · have hz : ((100 + u.2 : Nat) : Int) < x := by
          rw [← ci_nat] at hz
          have : ¬ x ≤ ((100 + u.2 : Nat) : Int) := fun q => hz ((ci_le (by omega) (by omega)).mpr q)
          omega
        refine lv_iload hx hb dS_addFilled_75 (lv_at hl 1 rfl) ?_
        refine lv_iconst (v := 1) hx hb dS_addFilled_77 (by decide) ?_
        refine lv_isub hx hb dS_addFilled_78 ?_
        rw [ci_1, ci_sub]
        refine lv_goto (tgt := 84) hx hb dS_addFilled_79 (by decide) ?_
        exact adding (x - 1) (by unfold tm_gf; rw [if_neg (by omega), if_pos (by omega)])
    · have hy : x = ((100 + u.2 : Nat) : Int) := by
        rw [← ci_nat] at hy
        exact (ci_eq (by omega) (by omega)).mp hy
      refine lv_aload_n hx hb dS_addFilled_44 rfl (lv_at hl 3 rfl) ?_
      refine lv_aload hx hb dS_addFilled_45 (lv_at hl 7 rfl) ?_
      refine lv_iload hx hb dS_addFilled_47 (lv_at hl 8 rfl) ?_
      refine lv_iload hx hb dS_addFilled_49 (lv_at hl 9 rfl) ?_
      refine lv_aload_n hx hb dS_addFilled_51 rfl (lv_at hl 3 rfl) ?_
      refine mp_get hE.1 hI hS2.1 rfl gx_S 3 (by decide) (List.mem_cons_of_mem _ gf_S32) rfl dS_addFilled_52 ?_
      refine mp_getN hE.1 hI iT rfl gx_W 4 (by decide) (ct_nw hE (q := ("BindingBench$Workshop", 63, "BindingBench$Walk", "count", "I")) (by decide +kernel)) rfl dS_addFilled_55 ?_
      refine ct_V (n := 4) hE hI (kS_addRaised (a := c) (b := d) (mo := u.2) hf hm hS2 hj hjm hb2 hcd hdB (by omega) (by omega)) hS2.1 rfl gm_S105 gi_S_addRaised gs_S_S_addRaised gz_S gc_S_addRaised (by decide +kernel) ⟨Nat.le_of_ble_eq_true rfl, Nat.le_of_ble_eq_true rfl⟩ rfl hl.1 rfl (Nat.le_of_ble_eq_true rfl) dS_addFilled_58 ⟨Nat.le_of_ble_eq_true rfl, Nat.le_of_ble_eq_true rfl⟩ (fun v w3 H locs hq hI => ?_)
      obtain ⟨rfl, ho3, hS3⟩ := hq
      show W _ _ _ _ _ _ _ _ _ _ _ _ _ _ _ (F0 _ _ _ [])
      refine lv_goto (tgt := 87) hx hb dS_addFilled_61 (by decide) ?_
      refine after w3 _ H locs ls ?_ ?_ (ho.tr (sub3 ho3)) hS3 (wkeep ho3) hI hl
      · rw [List.length_append, tm_fl_len1, hPl]; omega
      · rw [← heq, List.append_assoc]
        unfold tm_gf
        rw [if_pos (by omega)]
end KS4
