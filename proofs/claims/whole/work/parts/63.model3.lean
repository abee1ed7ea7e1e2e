/-! the reference: depth, keep -/
def mpp : List Nat → List Nat
  | [] => []
  | c :: s => if c = 1 then mpp s else (c - 1) :: s
theorem mpp_1 (s : List Nat) : mpp (1 :: s) = mpp s := rfl
theorem mpp_2 (s : List Nat) : mpp (2 :: s) = 1 :: s := rfl
theorem mpp_len : ∀ s : List Nat, (mpp s).length ≤ s.length := by
  intro s
  induction s with
  | nil => exact Nat.le_refl _
  | cons c s ih =>
    unfold mpp
    split
    · rw [List.length_cons]; omega
    · exact Nat.le_refl _
def msk (g : Nat → Int32) (s : List Nat) : Prop := (∀ i x, s.reverse[i]? = some x → g i = nI x) ∧ ∀ x ∈ s, x = 1 ∨ x = 2
theorem msk.tail {g : Nat → Int32} {c : Nat} {s : List Nat} (h : msk g (c :: s)) : msk g s := by
  refine ⟨fun i x hx => h.1 i x ?_, fun x hx => h.2 x (List.mem_cons_of_mem _ hx)⟩
  have hlt := (List.getElem?_eq_some_iff.mp hx).1
  rw [List.reverse_cons, List.getElem?_append_left hlt]
  exact hx
theorem msk.top {g : Nat → Int32} {c : Nat} {s : List Nat} (h : msk g (c :: s)) : g s.length = nI c := by
  refine h.1 s.length c ?_
  rw [List.reverse_cons, List.getElem?_append_right (by simp)]
  simp
theorem msk.put {g : Nat → Int32} {s : List Nat} (h : msk g s) {c : Nat} (hc : c = 1 ∨ c = 2) : msk (upd g s.length (nI c)) (c :: s) := by
  refine ⟨fun i x hx => ?_, fun x hx => (List.mem_cons.mp hx).elim (fun e => by rw [e]; exact hc) (h.2 x)⟩
  rw [List.reverse_cons] at hx
  unfold upd
  by_cases hi : i < s.reverse.length
  · rw [List.getElem?_append_left hi] at hx
    rw [List.length_reverse] at hi
    rw [if_neg (by omega)]
    exact h.1 i x hx
  · have hlt := (List.getElem?_eq_some_iff.mp hx).1
    simp at hlt hi
    have : i = s.length := by omega
    subst this
    rw [List.getElem?_append_right (by simp)] at hx
    simp at hx
    rw [if_pos rfl, hx]
theorem msk.low {g : Nat → Int32} {s : List Nat} (h : msk g s) {j : Nat} (hj : s.length ≤ j) (v : Int32) : msk (upd g j v) s := by
  refine ⟨fun i x hx => ?_, h.2⟩
  have hlt := (List.getElem?_eq_some_iff.mp hx).1
  rw [List.length_reverse] at hlt
  unfold upd
  rw [if_neg (by omega)]
  exact h.1 i x hx
section KM3
variable {l : Launch} {n0 : Nat} {D : va_G} {K : Nat → ClassId} {w : mp_W} {h : Nat → Nat} {I : mI} {A : mA}
abbrev po_d (K : Nat → ClassId) (h : Nat → Nat) (w : mp_W) (I : mI) (A : mA) (d : Nat) : Option Value → mp_W → Prop := fun v w' => v = some (.int (nI d)) ∧ ∃ A', mo K h w w' I A' ∧ eqA [7] A A'
set_option maxRecDepth 100000 in
set_option maxHeartbeats 2000000 in
theorem kM_depth {k : Nat} {t : Std.Format} (hv : mv K w h I A) (h2 : 2 ≤ k) (h25 : k < 25) (h6 : k ≠ 6) (h7 : k ≠ 7) (hL : pt_h (A k) (tm_row t)) (hLm : tm_sz t ≤ ml k) (hz : tm_sz t ≤ 2000) (hbd : ∀ x ∈ tm_row t, -1000000 ≤ x ∧ x ≤ 1000000) (hs : tm_sc t []) : ct_M l n0 D K yM_depth (Cond.code yM_depth cM_depth 6 (some .int)) 1 40 0 0 [.ref (h 0), .ref (h k), .int (nI (tm_sz t))] w (po_d K h w I A (tm_dp t)) := by
  have hmp := (ml_pos (k := k)).2
  have hlen := tm_row_len t
  obtain ⟨L, eL⟩ : ∃ L, tm_row t = L := ⟨_, rfl⟩
  obtain ⟨N, eN⟩ : ∃ N, tm_sz t = N := ⟨_, rfl⟩
  rw [eL] at hL hbd hlen
  rw [eN] at hLm hz hlen
  rw [eN]
  obtain ⟨dp, edp⟩ : ∃ d, tm_dp t = d := ⟨_, rfl⟩
  rw [edp]
  refine ct_go (own := nm_M) (by decide) rfl (Nat.le_of_ble_eq_true rfl) ?_
  intro p e s m below meth c ls hE hI hr hk hn hl
  have hx := hE.1.1.1
  have hb := hE.1.1.2.1
  have hl : lv_has ls 6 [(0, .ref (h 0)), (1, .ref (h k)), (2, .int (nI N))] := hl
  have pop : ∀ (stk : List Nat) (i mx : Nat) (w1 : mp_W) (A1 : mA) (H : Heap) (locs : List Loc) (ls : Array Slot), stk.length ≤ 2002 → mo K h w w1 I A1 → eqA [7] A A1 → msk (A1 7) stk → mp_I D cl_all (mp_A w s.heap.size) s.heap w1 H locs → lv_has ls 6 [(5, .int (nI i)), (4, .int (nI stk.length)), (3, .int (nI mx)), (0, .ref (h 0)), (1, .ref (h k)), (2, .int (nI N))] →
      (∀ (w2 : mp_W) (A2 : mA) (H : Heap) (locs : List Loc) (ls : Array Slot), mo K h w w2 I A2 → eqA [7] A A2 → msk (A2 7) (mpp stk) → mp_I D cl_all (mp_A w s.heap.size) s.heap w2 H locs → lv_has ls 6 [(5, .int (nI i)), (4, .int (nI (mpp stk).length)), (3, .int (nI mx)), (0, .ref (h 0)), (1, .ref (h k)), (2, .int (nI N))] → W p l e { frames := 1, cells := 0, slots := 0, locals := 40 } s m ([Value.ref (h 0), .ref (h k), .int (nI N)] : List Value).toArray below meth c H locs 0 0 (MQ below (ct_Q D w s.heap.size (po_d K h w I A dp)) ([Value.ref (h 0), .ref (h k), .int (nI N)] : List Value).toArray s 0 0 (mp_A w s.heap.size)) (F0 m 99 ls [])) →
      W p l e { frames := 1, cells := 0, slots := 0, locals := 40 } s m ([Value.ref (h 0), .ref (h k), .int (nI N)] : List Value).toArray below meth c H locs 0 0 (MQ below (ct_Q D w s.heap.size (po_d K h w I A dp)) ([Value.ref (h 0), .ref (h k), .int (nI N)] : List Value).toArray s 0 0 (mp_A w s.heap.size)) (F0 m 71 ls []) := by
    intro stk
    induction stk with
    | nil =>
      intro i mx w1 A1 H locs ls hlen hv1 ha1 hsk hI hl kk
      refine lv_iload hx hb dM_depth_71 (lv_at hl 1 rfl) ?_
      refine lv_if_le (tgt := 99) hx hb dM_depth_73 (by decide) (fun hq => ?_) (fun hq => ?_)
      · exact kk w1 A1 H locs ls hv1 ha1 hsk hI hl
      · exact absurd (show nI 0 ≤ 0 by decide) hq
    | cons c0 stk ih =>
      intro i mx w1 A1 H locs ls hlen hv1 ha1 hsk hI hl kk
      have h01 := hv1.1.2.1
      have h71 : w1 (h 7) = some (ob_I K 2002 (A1 7)) := hv1.1.2.2.2 7 (by decide) (by decide)
      have hlc : (c0 :: stk).length = stk.length + 1 := rfl
      rw [hlc] at hl hlen
      have hc0 := hsk.2 c0 (List.mem_cons_self ..)
      refine lv_iload hx hb dM_depth_71 (lv_at hl 1 rfl) ?_
      refine lv_if_le (tgt := 99) hx hb dM_depth_73 (by decide) (fun hq => ?_) (fun hq => ?_)
      · exact absurd ((nI_leI (a := stk.length + 1) (b := 0) (by omega) (by omega)).mp hq) (by omega)
      · skip
        refine lv_aload_n hx hb dM_depth_76 rfl (lv_at hl 3 rfl) ?_
        refine mp_get hE.1 hI h01 rfl gx_M 11 (by decide) (List.mem_cons_of_mem _ gf_M49) rfl dM_depth_77 ?_
        refine lv_iload hx hb dM_depth_80 (lv_at hl 1 rfl) ?_
        refine lv_iconst (v := nI 1) hx hb dM_depth_82 (by decide) ?_
        refine lv_isub hx hb dM_depth_83 ?_
        rw [show nI (stk.length + 1) - nI 1 = nI stk.length by rw [pk_sub (by omega)]; rfl]
        refine lv_dup2_11 hx hb dM_depth_84 rfl rfl ?_
        refine mp_ild hE.1 hI h71 0 rfl (vp_in_nI (by omega) (by omega)) dM_depth_85 ?_
        refine lv_iconst (v := nI 1) hx hb dM_depth_86 (by decide) ?_
        refine lv_isub hx hb dM_depth_87 ?_
        rw [nI_clamp (by omega), hsk.top, show nI c0 - nI 1 = nI (c0 - 1) by rw [pk_sub (by omega)]]
        refine lv_dup_x2 hx hb dM_depth_88 rfl rfl rfl ?_
        refine mp_ist hE.1 hI h71 0 rfl (vp_in_nI (by omega) (by omega)) dM_depth_89 (fun H locs hI => ?_)
        rw [nI_clamp (by omega)] at hI
        have hv2 := hv1.1.upA (k := 7) (by decide) (by decide) (upd (A1 7) stk.length (nI (c0 - 1)))
        obtain ⟨w2, hw2⟩ : ∃ z, mp_up w1 (h 7) (ob_A K 7 (upd (A1 7) stk.length (nI (c0 - 1)))) = z := ⟨_, rfl⟩
        rw [hw2] at hv2
        have hI : mp_I D cl_all (mp_A w s.heap.size) s.heap w2 H locs := by rw [← hw2]; exact hI
        have hI2 := hI
        have hf2 : fm h w w2 := by rw [← hw2]; exact hv1.2.up (by decide) _
        have ha2 := ha1.up (j := 7) (by simp) (upd (A1 7) stk.length (nI (c0 - 1)))
        refine lv_if_ne (tgt := 99) hx hb dM_depth_90 (by decide) (fun hq2 => ?_) (fun hq2 => ?_)
        · have hc2 : c0 = 2 := by
            rcases hc0 with rfl | rfl
            · exact absurd (by decide) hq2
            · rfl
          subst hc2
          refine kk w2 _ H locs ls ⟨hv2, hf2⟩ ha2 ?_ hI2 hl
          rw [mpp_2, au_self]
          exact hsk.tail.put (Or.inl rfl)
        · have hc1 : c0 = 1 := by
            rcases hc0 with rfl | rfl
            · rfl
            · exact absurd hq2 (by decide)
          subst hc1
          refine lv_iinc (k := 1) (v := nI stk.length) hx hb dM_depth_93 hl rfl (by rw [← ci_nat, ← ci_nat, show Int32.ofInt (-1) = ci_i (-1) from rfl, ci_add]; congr 1; omega) (by decide) rfl (fun ls hl => ?_)
          refine lv_goto (tgt := 71) hx hb dM_depth_96 (by decide) ?_
          refine ih i mx w2 _ H locs ls (by omega) ⟨hv2, hf2⟩ ha2 ?_ hI2 (lv_sub hl [1, 0, 2, 3, 4, 5] rfl) (fun w3 A3 H locs ls b1 b2 b3 b4 b5 => kk w3 A3 H locs ls b1 b2 (by rw [mpp_1]; exact b3) b4 (by rw [mpp_1]; exact b5))
          rw [au_self]
          exact hsk.tail.low (Nat.le_refl _) _
  have walk : ∀ (t : Std.Format) (F : List Nat), tm_sc t F → ∀ (r : List Int) (i mx : Nat) (stk : List Nat) (w1 : mp_W) (A1 : mA) (H : Heap) (locs : List Loc) (ls : Array Slot), L.drop i = tm_row t ++ r → i + tm_sz t ≤ N → mx ≤ 3000 → stk.length + tm_dp t ≤ 2001 → mo K h w w1 I A1 → eqA [7] A A1 → msk (A1 7) stk → mp_I D cl_all (mp_A w s.heap.size) s.heap w1 H locs → lv_has ls 6 [(5, .int (nI i)), (4, .int (nI stk.length)), (3, .int (nI mx)), (0, .ref (h 0)), (1, .ref (h k)), (2, .int (nI N))] →
      (∀ (w2 : mp_W) (A2 : mA) (H : Heap) (locs : List Loc) (ls : Array Slot), mo K h w w2 I A2 → eqA [7] A A2 → msk (A2 7) (mpp stk) → mp_I D cl_all (mp_A w s.heap.size) s.heap w2 H locs → lv_has ls 6 [(5, .int (nI (i + tm_sz t))), (4, .int (nI (mpp stk).length)), (3, .int (nI (max mx (stk.length + tm_dp t)))), (0, .ref (h 0)), (1, .ref (h k)), (2, .int (nI N))] → W p l e { frames := 1, cells := 0, slots := 0, locals := 40 } s m ([Value.ref (h 0), .ref (h k), .int (nI N)] : List Value).toArray below meth c H locs 0 0 (MQ below (ct_Q D w s.heap.size (po_d K h w I A dp)) ([Value.ref (h 0), .ref (h k), .int (nI N)] : List Value).toArray s 0 0 (mp_A w s.heap.size)) (F0 m 8 ls [])) →
      W p l e { frames := 1, cells := 0, slots := 0, locals := 40 } s m ([Value.ref (h 0), .ref (h k), .int (nI N)] : List Value).toArray below meth c H locs 0 0 (MQ below (ct_Q D w s.heap.size (po_d K h w I A dp)) ([Value.ref (h 0), .ref (h k), .int (nI N)] : List Value).toArray s 0 0 (mp_A w s.heap.size)) (F0 m 8 ls []) := by
    have head : ∀ (x : Int) (i mx : Nat) (stk : List Nat) (w1 : mp_W) (A1 : mA) (H : Heap) (locs : List Loc) (ls : Array Slot), L[i]? = some x → i < N → mx ≤ 3000 → stk.length ≤ 2000 → mo K h w w1 I A1 → eqA [7] A A1 → lv_has ls 6 [(5, .int (nI i)), (4, .int (nI stk.length)), (3, .int (nI mx)), (0, .ref (h 0)), (1, .ref (h k)), (2, .int (nI N))] → mp_I D cl_all (mp_A w s.heap.size) s.heap w1 H locs →
        (∀ ls, lv_has ls 6 [(3, .int (nI (max mx (stk.length + 1)))), (5, .int (nI i)), (4, .int (nI stk.length)), (0, .ref (h 0)), (1, .ref (h k)), (2, .int (nI N))] → W p l e { frames := 1, cells := 0, slots := 0, locals := 40 } s m ([Value.ref (h 0), .ref (h k), .int (nI N)] : List Value).toArray below meth c H locs 0 0 (MQ below (ct_Q D w s.heap.size (po_d K h w I A dp)) ([Value.ref (h 0), .ref (h k), .int (nI N)] : List Value).toArray s 0 0 (mp_A w s.heap.size)) (F0 m 27 ls [.int (ci_i x)])) →
        W p l e { frames := 1, cells := 0, slots := 0, locals := 40 } s m ([Value.ref (h 0), .ref (h k), .int (nI N)] : List Value).toArray below meth c H locs 0 0 (MQ below (ct_Q D w s.heap.size (po_d K h w I A dp)) ([Value.ref (h 0), .ref (h k), .int (nI N)] : List Value).toArray s 0 0 (mp_A w s.heap.size)) (F0 m 8 ls []) := by
      intro x i mx stk w1 A1 H locs ls e1 hiN hmx hsl hv1 ha1 hl hI kk
      have hrow := hv1.1.row h2 h25 h6
      have hLk : pt_h (A1 k) L := by rw [ha1 k (by simp; exact h7)]; exact hL
      refine lv_iload hx hb dM_depth_8 (lv_at hl 0 rfl) ?_
      refine lv_iload_n hx hb dM_depth_10 rfl (lv_at hl 5 rfl) ?_
      refine lv_icmp_ge (tgt := 105) hx hb dM_depth_11 (by decide) (fun hq => ?_) (fun hq => ?_)
      · exact absurd ((nI_leI (by omega) (by omega)).mp hq) (by omega)
      · skip
        refine lv_iload_n hx hb dM_depth_14 rfl (lv_at hl 2 rfl) ?_
        refine lv_iload hx hb dM_depth_15 (lv_at hl 1 rfl) ?_
        refine lv_iconst (v := nI 1) hx hb dM_depth_17 (by decide) ?_
        refine lv_iadd hx hb dM_depth_18 ?_
        rw [show nI stk.length + nI 1 = nI (stk.length + 1) from (Int32.ofNat_add _ _).symm]
        refine va_mmax hx hb (by rw [hE.1.1.2.2.1]; exact hl.1.symm) hE.1.1.2.2.2.1 (ct_w hE gm_M78) (ct_w hE gt_Jm_max) (ct_w hE gz_Jm) (ct_w hE gc_Jm_max) (Nat.le_of_ble_eq_true rfl) (Nat.le_of_ble_eq_true rfl) (Nat.zero_le _) (Nat.zero_le _) dM_depth_19 ?_
        rw [ci_max (by omega) (by omega)]
        refine lv_istore_n hx hb dM_depth_22 rfl hl (by decide) rfl (fun ls hl => ?_)
        refine lv_aload_n hx hb dM_depth_23 rfl (lv_at hl 4 rfl) ?_
        refine lv_iload hx hb dM_depth_24 (lv_at hl 1 rfl) ?_
        refine mp_ild hE.1 hI hrow 0 rfl (vp_in_nI (by omega) (by omega)) dM_depth_26 ?_
        rw [nI_clamp (by omega), hLk i x e1]
        exact kk ls hl
    have push : ∀ (x : Int) (cn i mx : Nat) (stk : List Nat) (w1 : mp_W) (A1 : mA) (H : Heap) (locs : List Loc) (ls : Array Slot), L[i]? = some x → (x = 1000 ∧ cn = 2 ∨ 2000 ≤ x ∧ cn = 1) → -1000000 ≤ x ∧ x ≤ 1000000 → i < N → mx ≤ 3000 → stk.length ≤ 2000 → mo K h w w1 I A1 → eqA [7] A A1 → msk (A1 7) stk → mp_I D cl_all (mp_A w s.heap.size) s.heap w1 H locs → lv_has ls 6 [(5, .int (nI i)), (4, .int (nI stk.length)), (3, .int (nI mx)), (0, .ref (h 0)), (1, .ref (h k)), (2, .int (nI N))] →
        (∀ (w2 : mp_W) (A2 : mA) (H : Heap) (locs : List Loc) (ls : Array Slot), mo K h w w2 I A2 → eqA [7] A A2 → msk (A2 7) (cn :: stk) → mp_I D cl_all (mp_A w s.heap.size) s.heap w2 H locs → lv_has ls 6 [(5, .int (nI (i + 1))), (4, .int (nI (cn :: stk).length)), (3, .int (nI (max mx (stk.length + 1)))), (0, .ref (h 0)), (1, .ref (h k)), (2, .int (nI N))] → W p l e { frames := 1, cells := 0, slots := 0, locals := 40 } s m ([Value.ref (h 0), .ref (h k), .int (nI N)] : List Value).toArray below meth c H locs 0 0 (MQ below (ct_Q D w s.heap.size (po_d K h w I A dp)) ([Value.ref (h 0), .ref (h k), .int (nI N)] : List Value).toArray s 0 0 (mp_A w s.heap.size)) (F0 m 8 ls [])) →
        W p l e { frames := 1, cells := 0, slots := 0, locals := 40 } s m ([Value.ref (h 0), .ref (h k), .int (nI N)] : List Value).toArray below meth c H locs 0 0 (MQ below (ct_Q D w s.heap.size (po_d K h w I A dp)) ([Value.ref (h 0), .ref (h k), .int (nI N)] : List Value).toArray s 0 0 (mp_A w s.heap.size)) (F0 m 8 ls []) := by
      intro x cn i mx stk w1 A1 H locs ls e1 hxc hxb hiN hmx hsl hv1 ha1 hsk hI hl kk
      refine head x i mx stk w1 A1 H locs ls e1 hiN hmx hsl hv1 ha1 hl hI (fun ls hl => ?_)
      have h01 := hv1.1.2.1
      have hrow := hv1.1.row h2 h25 h6
      have hLk : pt_h (A1 k) L := by rw [ha1 k (by simp; exact h7)]; exact hL
      have h71 : w1 (h 7) = some (ob_I K 2002 (A1 7)) := hv1.1.2.2.2 7 (by decide) (by decide)
      have tail : ∀ (ls : Array Slot), lv_has ls 6 [(4, .int (nI (stk.length + 1))), (3, .int (nI (max mx (stk.length + 1)))), (5, .int (nI i)), (0, .ref (h 0)), (1, .ref (h k)), (2, .int (nI N))] → W p l e { frames := 1, cells := 0, slots := 0, locals := 40 } s m ([Value.ref (h 0), .ref (h k), .int (nI N)] : List Value).toArray below meth c H locs 0 0 (MQ below (ct_Q D w s.heap.size (po_d K h w I A dp)) ([Value.ref (h 0), .ref (h k), .int (nI N)] : List Value).toArray s 0 0 (mp_A w s.heap.size)) (F0 m 67 ls [.int (nI cn), .int (nI stk.length), .ref (h 7)]) := by
        intro ls hl
        refine mp_ist hE.1 hI h71 0 rfl (vp_in_nI (by omega) (by omega)) dM_depth_67 (fun H locs hI => ?_)
        rw [nI_clamp (by omega)] at hI
        have hv2 := hv1.1.upA (k := 7) (by decide) (by decide) (upd (A1 7) stk.length (nI cn))
        obtain ⟨w2, hw2⟩ : ∃ z, mp_up w1 (h 7) (ob_A K 7 (upd (A1 7) stk.length (nI cn))) = z := ⟨_, rfl⟩
        rw [hw2] at hv2
        have hI : mp_I D cl_all (mp_A w s.heap.size) s.heap w2 H locs := by rw [← hw2]; exact hI
        refine lv_goto (tgt := 99) hx hb dM_depth_68 (by decide) ?_
        refine lv_iinc (k := 2) (v := nI (i + 1)) hx hb dM_depth_99 hl rfl (nI_1 i) (by decide) rfl (fun ls hl => ?_)
        refine lv_goto (tgt := 8) hx hb dM_depth_102 (by decide) ?_
        refine kk w2 _ H locs ls ⟨hv2, by rw [← hw2]; exact hv1.2.up (by decide) _⟩ (ha1.up (j := 7) (by simp) _) ?_ hI (lv_sub hl [0, 1, 2, 3, 4, 5] rfl)
        rw [au_self]
        exact hsk.put (by omega)
      have mid : ∀ (ls : Array Slot), lv_has ls 6 [(3, .int (nI (max mx (stk.length + 1)))), (5, .int (nI i)), (4, .int (nI stk.length)), (0, .ref (h 0)), (1, .ref (h k)), (2, .int (nI N))] → W p l e { frames := 1, cells := 0, slots := 0, locals := 40 } s m ([Value.ref (h 0), .ref (h k), .int (nI N)] : List Value).toArray below meth c H locs 0 0 (MQ below (ct_Q D w s.heap.size (po_d K h w I A dp)) ([Value.ref (h 0), .ref (h k), .int (nI N)] : List Value).toArray s 0 0 (mp_A w s.heap.size)) (F0 m 43 ls []) := by
        intro ls hl
        refine lv_aload_n hx hb dM_depth_43 rfl (lv_at hl 3 rfl) ?_
        refine mp_get hE.1 hI h01 rfl gx_M 11 (by decide) (List.mem_cons_of_mem _ gf_M49) rfl dM_depth_44 ?_
        refine lv_iload hx hb dM_depth_47 (lv_at hl 2 rfl) ?_
        refine lv_iinc (k := 2) (v := nI (stk.length + 1)) hx hb dM_depth_49 hl rfl (nI_1 stk.length) (by decide) rfl (fun ls hl => ?_)
        refine lv_aload_n hx hb dM_depth_52 rfl (lv_at hl 4 rfl) ?_
        refine lv_iload hx hb dM_depth_53 (lv_at hl 2 rfl) ?_
        refine mp_ild hE.1 hI hrow 0 rfl (vp_in_nI (by omega) (by omega)) dM_depth_55 ?_
        refine lv_sipush (v := ci_i 1000) hx hb dM_depth_56 (by decide) ?_
        rw [nI_clamp (by omega), hLk i x e1]
        refine lv_icmp_ne (tgt := 66) hx hb dM_depth_59 (by decide) (fun hq => ?_) (fun hq => ?_)
        · have hq : ¬ x = 1000 := fun e => hq (by rw [e])
          have hcn : cn = 1 := by omega
          subst hcn
          refine lv_iconst (v := nI 1) hx hb dM_depth_66 (by decide) ?_
          exact tail ls hl
        · have hq : x = 1000 := (ci_eq (by omega) (by omega)).mp hq
          have hcn : cn = 2 := by omega
          subst hcn
          refine lv_iconst (v := nI 2) hx hb dM_depth_62 (by decide) ?_
          refine lv_goto (tgt := 67) hx hb dM_depth_63 (by decide) ?_
          exact tail ls hl
      refine lv_sipush (v := ci_i 1000) hx hb dM_depth_27 (by decide) ?_
      refine lv_icmp_eq (tgt := 43) hx hb dM_depth_30 (by decide) (fun hq => ?_) (fun hq => ?_)
      · exact mid ls hl
      · have hq : ¬ x = 1000 := fun e => hq (by rw [e])
        refine lv_aload_n hx hb dM_depth_33 rfl (lv_at hl 4 rfl) ?_
        refine lv_iload hx hb dM_depth_34 (lv_at hl 1 rfl) ?_
        refine mp_ild hE.1 hI hrow 0 rfl (vp_in_nI (by omega) (by omega)) dM_depth_36 ?_
        refine lv_sipush (v := ci_i 2000) hx hb dM_depth_37 (by decide) ?_
        rw [nI_clamp (by omega), hLk i x e1]
        refine lv_icmp_lt (tgt := 71) hx hb dM_depth_40 (by decide) (fun hq2 => ?_) (fun hq2 => ?_)
        · rw [ci_lt (by omega) (by omega)] at hq2
          omega
        · exact mid ls hl
    intro t
    induction t using tm_ind with
    | hl t hlf =>
      intro F hsc r i mx stk w1 A1 H locs ls hdr hiN hmx hsl hv1 ha1 hsk hI hl kk
      rw [tm_sz_leaf hlf] at hiN kk
      rw [tm_dp_leaf hlf] at hsl kk
      rw [tm_row_leaf hlf] at hdr
      rw [tm_sc_leaf hlf] at hsc
      have hiL : i < L.length := by omega
      obtain ⟨x, e1, m1⟩ := pt_at hiL
      have hxb := hbd x m1
      have hx0 : x = tm_val t := by
        rw [pt_drop e1] at hdr
        exact (List.cons.inj hdr).1
      have hx99 : x ≤ 99 := by rw [hx0]; omega
      refine head x i mx stk w1 A1 H locs ls e1 (by omega) hmx (by omega) hv1 ha1 hl hI (fun ls hl => ?_)
      have hrow := hv1.1.row h2 h25 h6
      have hLk : pt_h (A1 k) L := by rw [ha1 k (by simp; exact h7)]; exact hL
      refine lv_sipush (v := ci_i 1000) hx hb dM_depth_27 (by decide) ?_
      refine lv_icmp_eq (tgt := 43) hx hb dM_depth_30 (by decide) (fun hq => ?_) (fun hq => ?_)
      · rw [ci_eq (by omega) (by omega)] at hq
        omega
      · skip
        refine lv_aload_n hx hb dM_depth_33 rfl (lv_at hl 4 rfl) ?_
        refine lv_iload hx hb dM_depth_34 (lv_at hl 1 rfl) ?_
        refine mp_ild hE.1 hI hrow 0 rfl (vp_in_nI (by omega) (by omega)) dM_depth_36 ?_
        refine lv_sipush (v := ci_i 2000) hx hb dM_depth_37 (by decide) ?_
        rw [nI_clamp (by omega), hLk i x e1]
        refine lv_icmp_lt (tgt := 71) hx hb dM_depth_40 (by decide) (fun hq2 => ?_) (fun hq2 => ?_)
        · refine pop stk i (max mx (stk.length + 1)) w1 A1 H locs ls (by omega) hv1 ha1 hsk hI (lv_sub hl [1, 2, 0, 3, 4, 5] rfl) (fun w2 A2 H locs ls b1 b2 b3 b4 hl => ?_)
          have hI := b4
          refine lv_iinc (k := 0) (v := nI (i + 1)) hx hb dM_depth_99 hl rfl (nI_1 i) (by decide) rfl (fun ls hl => ?_)
          refine lv_goto (tgt := 8) hx hb dM_depth_102 (by decide) ?_
          exact kk w2 A2 H locs ls b1 b2 b3 b4 hl
        · rw [ci_lt (by omega) (by omega)] at hq2
          omega
    | hf j a0 iha =>
      intro F hsc r i mx stk w1 A1 H locs ls hdr hiN hmx hsl hv1 ha1 hsk hI hl kk
      have hsz : tm_sz (.tag j a0) = 1 + tm_sz a0 := rfl
      have hdp := tm_dp_f j a0
      have hpos := tm_sz_pos a0
      rw [hsz] at hiN kk
      rw [hdp] at hsl kk
      rw [tm_row_fun] at hdr
      have hiL : i < L.length := by omega
      obtain ⟨x, e1, m1⟩ := pt_at hiL
      have hxb := hbd x m1
      rw [pt_drop e1] at hdr
      have hx0 : x = 2000 + (j : Int) := (List.cons.inj hdr).1
      refine push x 1 i mx stk w1 A1 H locs ls e1 (Or.inr ⟨by omega, rfl⟩) hxb (by omega) hmx (by omega) hv1 ha1 hsk hI hl (fun w2 A2 H locs ls b1 b2 b3 b4 b5 => ?_)
      refine iha (j :: F) hsc r (i + 1) _ (1 :: stk) w2 A2 H locs ls (List.cons.inj hdr).2 (by omega) (by omega) (by rw [List.length_cons]; omega) b1 b2 b3 b4 b5 (fun w3 A3 H locs ls c1 c2 c3 c4 c5 => ?_)
      rw [mpp_1] at c3 c5
      refine kk w3 A3 H locs ls c1 c2 c3 c4 ?_
      rw [show i + 1 + tm_sz a0 = i + (1 + tm_sz a0) by omega, show max (max mx (stk.length + 1)) ((1 :: stk).length + tm_dp a0) = max mx (stk.length + (1 + tm_dp a0)) by rw [List.length_cons]; omega] at c5
      exact c5
    | ha a0 b0 iha ihb =>
      intro F hsc r i mx stk w1 A1 H locs ls hdr hiN hmx hsl hv1 ha1 hsk hI hl kk
      have hsz : tm_sz (.append a0 b0) = 1 + tm_sz a0 + tm_sz b0 := rfl
      have hdp := tm_dp_a a0 b0
      have hpa := tm_sz_pos a0
      have hpb := tm_sz_pos b0
      have hdpb := tm_dp_pos b0
      rw [hsz] at hiN kk
      rw [hdp] at hsl kk
      rw [tm_row_app] at hdr
      have hiL : i < L.length := by omega
      obtain ⟨x, e1, m1⟩ := pt_at hiL
      have hxb := hbd x m1
      rw [pt_drop e1] at hdr
      have hx0 : x = 1000 := (List.cons.inj hdr).1
      have hdr2 : L.drop (i + 1) = tm_row a0 ++ (tm_row b0 ++ r) := by rw [(List.cons.inj hdr).2]; exact List.append_assoc ..
      have hdr3 : L.drop (i + 1 + tm_sz a0) = tm_row b0 ++ r := by rw [← List.drop_drop, hdr2, ← tm_row_len a0, List.drop_left]
      refine push x 2 i mx stk w1 A1 H locs ls e1 (Or.inl ⟨hx0, rfl⟩) hxb (by omega) hmx (by omega) hv1 ha1 hsk hI hl (fun w2 A2 H locs ls b1 b2 b3 b4 b5 => ?_)
      refine iha F hsc.1 _ (i + 1) _ (2 :: stk) w2 A2 H locs ls hdr2 (by omega) (by omega) (by rw [List.length_cons]; omega) b1 b2 b3 b4 b5 (fun w3 A3 H locs ls c1 c2 c3 c4 c5 => ?_)
      rw [mpp_2] at c3 c5
      refine ihb F hsc.2 r (i + 1 + tm_sz a0) _ (1 :: stk) w3 A3 H locs ls hdr3 (by omega) (by rw [List.length_cons]; omega) (by rw [List.length_cons]; omega) c1 c2 c3 c4 c5 (fun w4 A4 H locs ls d1 d2 d3 d4 d5 => ?_)
      rw [mpp_1] at d3 d5
      refine kk w4 A4 H locs ls d1 d2 d3 d4 ?_
      rw [show i + 1 + tm_sz a0 + tm_sz b0 = i + (1 + tm_sz a0 + tm_sz b0) by omega, show max (max (max mx (stk.length + 1)) ((2 :: stk).length + tm_dp a0)) ((1 :: stk).length + tm_dp b0) = max mx (stk.length + (1 + max (tm_dp a0) (tm_dp b0))) by rw [List.length_cons, List.length_cons]; omega] at d5
      exact d5
  have hdz := tm_dp_sz t
  refine lv_iconst (v := nI 0) hx hb dM_depth_0 (by decide) ?_
  refine lv_istore_n hx hb dM_depth_1 rfl hl (by decide) rfl (fun ls hl => ?_)
  refine lv_iconst (v := nI 0) hx hb dM_depth_2 (by decide) ?_
  refine lv_istore hx hb dM_depth_3 hl (by decide) rfl (fun ls hl => ?_)
  refine lv_iconst (v := nI 0) hx hb dM_depth_5 (by decide) ?_
  refine lv_istore hx hb dM_depth_6 hl (by decide) rfl (fun ls hl => ?_)
  refine walk t [] hs [] 0 0 [] w A _ _ ls (by rw [eL]; simp) (by omega) (by omega) (by show 0 + _ ≤ 2001; omega) ⟨hv, fm.rf _ _⟩ (eqA.rf _ _) ⟨fun i x hx => by simp at hx, fun x hx => by cases hx⟩ hI hl (fun w2 A2 H locs ls b1 b2 b3 b4 b5 => ?_)
  have hI := b4
  have hl := b5
  rw [eN, edp] at hl
  refine lv_iload hx hb dM_depth_8 (lv_at hl 0 rfl) ?_
  refine lv_iload_n hx hb dM_depth_10 rfl (lv_at hl 5 rfl) ?_
  refine lv_icmp_ge (tgt := 105) hx hb dM_depth_11 (by decide) (fun hq => ?_) (fun hq => ?_)
  · refine lv_iload_n hx hb dM_depth_105 rfl (lv_at hl 2 rfl) ?_
    refine ct_iret hE hI hr hk ⟨?_, A2, b1, b2⟩ (by decide) (by decide) dM_depth_106
    rw [show max 0 (([] : List Nat).length + dp) = dp by simp]
  · exact absurd (nI_le (by omega) (by omega)) hq
end KM3
