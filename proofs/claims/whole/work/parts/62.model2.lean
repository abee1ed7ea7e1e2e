/-! the reference: add of rows, end -/
section KM2
variable {l : Launch} {n0 : Nat} {D : va_G} {K : Nat → ClassId} {w : mp_W} {h : Nat → Nat} {I : mI} {A : mA}
theorem mv.row (hv : mv K w h I A) {k : Nat} (h2 : 2 ≤ k) (h25 : k < 25) (h6 : k ≠ 6) : w (h k) = some (ob_I K (ml k) (A k)) := by
  have := hv.2.2.2 k h2 h25
  rw [show ob_A K k (A k) = ob_I K (ml k) (A k) by show Sum.inl (mcl K k, ml k, Sum.inl (A k)) = _; rw [mcl_ne h6]] at this
  exact this
abbrev po_m (K : Nat → ClassId) (h : Nat → Nat) (w : mp_W) (I : mI) (A : mA) (M : List Int) : Option Value → mp_W → Prop := fun v w' => v = none ∧ ∃ I' A', mo K h w w' I' A' ∧ mk_m I' A' M ∧ eqI [1, 3] I I' ∧ eqA [3] A A'
set_option maxRecDepth 100000 in
theorem kM_add2 {M L : List Int} {k a b : Nat} (hv : mv K w h I A) (hm : mk_m I A M) (h2 : 2 ≤ k) (h25 : k < 25) (h6 : k ≠ 6) (h3 : k ≠ 3) (hL : pt_h (A k) L) (hab : a ≤ b) (hbL : b ≤ L.length) (hLm : L.length ≤ ml k) : ct_M l n0 D K yM_add2 (Cond.code yM_add2 cM_add2 5 none) 1 30 0 0 [.ref (h 0), .ref (h k), .int (nI a), .int (nI b)] w (po_m K h w I A (M ++ (L.drop a).take (b - a))) := by
  have hmp := (ml_pos (k := k)).2
  refine ct_go (own := nm_M) (by decide) rfl (Nat.le_of_ble_eq_true rfl) ?_
  intro p e s m below meth c ls hE hI hr hk hn hl
  have hx := hE.1.1.1
  have hb := hE.1.1.2.1
  have hl : lv_has ls 5 [(0, .ref (h 0)), (1, .ref (h k)), (2, .int (nI a)), (3, .int (nI b))] := hl
  refine lv_iload_n hx hb dM_add2_0 rfl (lv_at hl 2 rfl) ?_
  refine lv_istore hx hb dM_add2_1 hl (by decide) rfl (fun ls hl => ?_)
  have loop : ∀ (n i : Nat) (w1 : mp_W) (I1 : mI) (A1 : mA) (H : Heap) (locs : List Loc) (ls : Array Slot), i + n = b → a ≤ i → mo K h w w1 I1 A1 → mk_m I1 A1 (M ++ (L.drop a).take (i - a)) → eqI [1, 3] I I1 → eqA [3] A A1 → mp_I D cl_all (mp_A w s.heap.size) s.heap w1 H locs → lv_has ls 5 [(4, .int (nI i)), (0, .ref (h 0)), (1, .ref (h k)), (2, .int (nI a)), (3, .int (nI b))] →
      W p l e { frames := 1, cells := 0, slots := 0, locals := 30 } s m ([Value.ref (h 0), .ref (h k), .int (nI a), .int (nI b)] : List Value).toArray below meth c H locs 0 0 (MQ below (ct_Q D w s.heap.size (po_m K h w I A (M ++ (L.drop a).take (b - a)))) ([Value.ref (h 0), .ref (h k), .int (nI a), .int (nI b)] : List Value).toArray s 0 0 (mp_A w s.heap.size)) (F0 m 3 ls []) := by
    intro n
    induction n with
    | zero =>
      intro i w1 I1 A1 H locs ls hin hai hv1 hm1 hi1 ha1 hI hl
      have : i = b := by omega
      subst this
      refine lv_iload hx hb dM_add2_3 (lv_at hl 0 rfl) ?_
      refine lv_iload_n hx hb dM_add2_5 rfl (lv_at hl 4 rfl) ?_
      refine lv_icmp_ge (tgt := 23) hx hb dM_add2_6 (by decide) (fun hq => ?_) (fun hq => ?_)
      · exact ct_vret hE hI hr hk ⟨rfl, I1, A1, hv1, hm1, hi1, ha1⟩ (by decide) (by decide) dM_add2_23
      · exact absurd (nI_le (Nat.le_refl _) (by omega)) hq
    | succ n ih =>
      intro i w1 I1 A1 H locs ls hin hai hv1 hm1 hi1 ha1 hI hl
      obtain ⟨x, e1, m1⟩ := pt_at (show i < L.length by omega)
      have h01 := hv1.1.2.1
      have hrow := hv1.1.row h2 h25 h6
      have hLk : pt_h (A1 k) L := by rw [ha1 k (by simp; exact h3)]; exact hL
      refine lv_iload hx hb dM_add2_3 (lv_at hl 0 rfl) ?_
      refine lv_iload_n hx hb dM_add2_5 rfl (lv_at hl 4 rfl) ?_
      refine lv_icmp_ge (tgt := 23) hx hb dM_add2_6 (by decide) (fun hq => ?_) (fun hq => ?_)
      · exact absurd ((nI_leI (by omega) (by omega)).mp hq) (by omega)
      · skip
        refine lv_aload_n hx hb dM_add2_9 rfl (lv_at hl 1 rfl) ?_
        refine lv_aload_n hx hb dM_add2_10 rfl (lv_at hl 2 rfl) ?_
        refine lv_iload hx hb dM_add2_11 (lv_at hl 0 rfl) ?_
        refine mp_ild hE.1 hI hrow 0 rfl (vp_in_nI (by omega) (by omega)) dM_add2_13 ?_
        rw [nI_clamp (by omega), hLk i x e1]
        refine ct_V (n := 1) hE hI (kM_add (z := x) hv1.1 hm1) h01 rfl gm_M71 gi_M_add gs_M_M_add gz_M gc_M_add (by decide +kernel) ⟨Nat.le_of_ble_eq_true rfl, Nat.le_of_ble_eq_true rfl⟩ rfl hl.1 rfl (Nat.le_of_ble_eq_true rfl) dM_add2_14 ⟨Nat.le_of_ble_eq_true rfl, Nat.le_of_ble_eq_true rfl⟩ (fun v w2 H locs hq hI => ?_)
        obtain ⟨rfl, I2, A2, hv2, hm2, hi2, ha2⟩ := hq
        show W _ _ _ _ _ _ _ _ _ _ _ _ _ _ _ (F0 _ _ _ [])
        refine lv_iinc (k := 0) (v := nI (i + 1)) hx hb dM_add2_17 hl rfl (nI_1 i) (by decide) rfl (fun ls hl => ?_)
        refine lv_goto (tgt := 3) hx hb dM_add2_20 (by decide) ?_
        refine ih (i + 1) w2 I2 A2 H locs ls (by omega) (by omega) ⟨hv2.1, hv1.2.tr hv2.2⟩ ?_ (hi1.tr hi2) (ha1.tr ha2) hI hl
        have : (L.drop a).take (i + 1 - a) = (L.drop a).take (i - a) ++ [x] := by
          rw [show i + 1 - a = (i - a) + 1 by omega, List.take_add_one, List.getElem?_drop, show a + (i - a) = i by omega, e1]
          rfl
        rw [this, ← List.append_assoc]
        exact hm2
  exact loop (b - a) a w I A _ _ ls (by omega) (Nat.le_refl _) ⟨hv, fm.rf _ _⟩ (by simpa using hm) (eqI.rf _ _) (eqA.rf _ _) hI hl
set_option maxRecDepth 100000 in
theorem kM_add3 {M L B : List Int} {k k2 a b c d : Nat} {tk : Int} (hv : mv K w h I A) (hm : mk_m I A M) (h2 : 2 ≤ k) (h25 : k < 25) (h6 : k ≠ 6) (h3 : k ≠ 3) (hL : pt_h (A k) L) (hab : a ≤ b) (hbL : b ≤ L.length) (hLm : L.length ≤ ml k) (g2 : 2 ≤ k2) (g25 : k2 < 25) (g6 : k2 ≠ 6) (g3 : k2 ≠ 3) (hB : pt_h (A k2) B) (hcd : c ≤ d) (hdB : d ≤ B.length) (hBm : B.length ≤ ml k2) (hbd : ∀ x ∈ L, -1000000 ≤ x ∧ x ≤ 1000000) (htk : -1000000 ≤ tk ∧ tk ≤ 1000000) : ct_M l n0 D K yM_add3 (Cond.code yM_add3 cM_add3 9 none) 2 60 0 0 [.ref (h 0), .ref (h k), .int (nI a), .int (nI b), .int (ci_i tk), .ref (h k2), .int (nI c), .int (nI d)] w (po_m K h w I A (M ++ ((L.drop a).take (b - a)).flatMap (fun x => if x = tk then (B.drop c).take (d - c) else [x]))) := by
  have hmp := (ml_pos (k := k)).2
  obtain ⟨g, hg⟩ : ∃ g, (fun x : Int => if x = tk then (B.drop c).take (d - c) else [x]) = g := ⟨_, rfl⟩
  rw [hg]
  refine ct_go (own := nm_M) (by decide) rfl (Nat.le_of_ble_eq_true rfl) ?_
  intro p e s m below meth c' ls hE hI hr hk hn hl
  have hx := hE.1.1.1
  have hb := hE.1.1.2.1
  have hl : lv_has ls 9 [(0, .ref (h 0)), (1, .ref (h k)), (2, .int (nI a)), (3, .int (nI b)), (4, .int (ci_i tk)), (5, .ref (h k2)), (6, .int (nI c)), (7, .int (nI d))] := hl
  refine lv_iload_n hx hb dM_add3_0 rfl (lv_at hl 2 rfl) ?_
  refine lv_istore hx hb dM_add3_1 hl (by decide) rfl (fun ls hl => ?_)
  have loop : ∀ (n i : Nat) (w1 : mp_W) (I1 : mI) (A1 : mA) (H : Heap) (locs : List Loc) (ls : Array Slot), i + n = b → a ≤ i → mo K h w w1 I1 A1 → mk_m I1 A1 (M ++ ((L.drop a).take (i - a)).flatMap g) → eqI [1, 3] I I1 → eqA [3] A A1 → mp_I D cl_all (mp_A w s.heap.size) s.heap w1 H locs → lv_has ls 9 [(8, .int (nI i)), (0, .ref (h 0)), (1, .ref (h k)), (2, .int (nI a)), (3, .int (nI b)), (4, .int (ci_i tk)), (5, .ref (h k2)), (6, .int (nI c)), (7, .int (nI d))] →
      W p l e { frames := 2, cells := 0, slots := 0, locals := 60 } s m ([Value.ref (h 0), .ref (h k), .int (nI a), .int (nI b), .int (ci_i tk), .ref (h k2), .int (nI c), .int (nI d)] : List Value).toArray below meth c' H locs 0 0 (MQ below (ct_Q D w s.heap.size (po_m K h w I A (M ++ ((L.drop a).take (b - a)).flatMap g))) ([Value.ref (h 0), .ref (h k), .int (nI a), .int (nI b), .int (ci_i tk), .ref (h k2), .int (nI c), .int (nI d)] : List Value).toArray s 0 0 (mp_A w s.heap.size)) (F0 m 3 ls []) := by
    intro n
    induction n with
    | zero =>
      intro i w1 I1 A1 H locs ls hin hai hv1 hm1 hi1 ha1 hI hl
      have : i = b := by omega
      subst this
      refine lv_iload hx hb dM_add3_3 (lv_at hl 0 rfl) ?_
      refine lv_iload_n hx hb dM_add3_5 rfl (lv_at hl 4 rfl) ?_
      refine lv_icmp_ge (tgt := 45) hx hb dM_add3_6 (by decide) (fun hq => ?_) (fun hq => ?_)
      · exact ct_vret hE hI hr hk ⟨rfl, I1, A1, hv1, hm1, hi1, ha1⟩ (by decide) (by decide) dM_add3_45
      · exact absurd (nI_le (Nat.le_refl _) (by omega)) hq
    | succ n ih =>
      intro i w1 I1 A1 H locs ls hin hai hv1 hm1 hi1 ha1 hI hl
      obtain ⟨x, e1, m1⟩ := pt_at (show i < L.length by omega)
      have hxb := hbd x m1
      have h01 := hv1.1.2.1
      have hrow := hv1.1.row h2 h25 h6
      have hLk : pt_h (A1 k) L := by rw [ha1 k (by simp; exact h3)]; exact hL
      have hBk : pt_h (A1 k2) B := by rw [ha1 k2 (by simp; exact g3)]; exact hB
      have etk : (L.drop a).take (i + 1 - a) = (L.drop a).take (i - a) ++ [x] := by
        rw [show i + 1 - a = (i - a) + 1 by omega, List.take_add_one, List.getElem?_drop, show a + (i - a) = i by omega, e1]
        rfl
      have next : ∀ (w2 : mp_W) (I2 : mI) (A2 : mA) (H : Heap) (locs : List Loc) (ls : Array Slot), mo K h w w2 I2 A2 → mk_m I2 A2 ((M ++ ((L.drop a).take (i - a)).flatMap g) ++ g x) → eqI [1, 3] I I2 → eqA [3] A A2 → mp_I D cl_all (mp_A w s.heap.size) s.heap w2 H locs → lv_has ls 9 [(8, .int (nI i)), (0, .ref (h 0)), (1, .ref (h k)), (2, .int (nI a)), (3, .int (nI b)), (4, .int (ci_i tk)), (5, .ref (h k2)), (6, .int (nI c)), (7, .int (nI d))] →
          W p l e { frames := 2, cells := 0, slots := 0, locals := 60 } s m ([Value.ref (h 0), .ref (h k), .int (nI a), .int (nI b), .int (ci_i tk), .ref (h k2), .int (nI c), .int (nI d)] : List Value).toArray below meth c' H locs 0 0 (MQ below (ct_Q D w s.heap.size (po_m K h w I A (M ++ ((L.drop a).take (b - a)).flatMap g))) ([Value.ref (h 0), .ref (h k), .int (nI a), .int (nI b), .int (ci_i tk), .ref (h k2), .int (nI c), .int (nI d)] : List Value).toArray s 0 0 (mp_A w s.heap.size)) (F0 m 39 ls []) := by
        intro w2 I2 A2 H locs ls hv2 hm2 hi2 ha2 hI hl
        refine lv_iinc (k := 0) (v := nI (i + 1)) hx hb dM_add3_39 hl rfl (nI_1 i) (by decide) rfl (fun ls hl => ?_)
        refine lv_goto (tgt := 3) hx hb dM_add3_42 (by decide) ?_
        refine ih (i + 1) w2 I2 A2 H locs ls (by omega) (by omega) hv2 ?_ hi2 ha2 hI hl
        rw [etk, List.flatMap_append, ← List.append_assoc]
        simpa using hm2
      refine lv_iload hx hb dM_add3_3 (lv_at hl 0 rfl) ?_
      refine lv_iload_n hx hb dM_add3_5 rfl (lv_at hl 4 rfl) ?_
      refine lv_icmp_ge (tgt := 45) hx hb dM_add3_6 (by decide) (fun hq => ?_) (fun hq => ?_)
      · exact absurd ((nI_leI (by omega) (by omega)).mp hq) (by omega)
      · skip
        refine lv_aload_n hx hb dM_add3_9 rfl (lv_at hl 2 rfl) ?_
        refine lv_iload hx hb dM_add3_10 (lv_at hl 0 rfl) ?_
        refine mp_ild hE.1 hI hrow 0 rfl (vp_in_nI (by omega) (by omega)) dM_add3_12 ?_
        rw [nI_clamp (by omega), hLk i x e1]
        refine lv_iload hx hb dM_add3_13 (lv_at hl 5 rfl) ?_
        refine lv_icmp_ne (tgt := 31) hx hb dM_add3_15 (by decide) (fun hq2 => ?_) (fun hq2 => ?_)
        · have hq2 : ¬ x = tk := fun e => hq2 (by rw [e])
          refine lv_aload_n hx hb dM_add3_31 rfl (lv_at hl 1 rfl) ?_
          refine lv_aload_n hx hb dM_add3_32 rfl (lv_at hl 2 rfl) ?_
          refine lv_iload hx hb dM_add3_33 (lv_at hl 0 rfl) ?_
          refine mp_ild hE.1 hI hrow 0 rfl (vp_in_nI (by omega) (by omega)) dM_add3_35 ?_
          rw [nI_clamp (by omega), hLk i x e1]
          refine ct_V (n := 1) hE hI (kM_add (z := x) hv1.1 hm1) h01 rfl gm_M71 gi_M_add gs_M_M_add gz_M gc_M_add (by decide +kernel) ⟨Nat.le_of_ble_eq_true rfl, Nat.le_of_ble_eq_true rfl⟩ rfl hl.1 rfl (Nat.le_of_ble_eq_true rfl) dM_add3_36 ⟨Nat.le_of_ble_eq_true rfl, Nat.le_of_ble_eq_true rfl⟩ (fun v w2 H locs hq hI => ?_)
          obtain ⟨rfl, I2, A2, hv2, hm2, hi2, ha2⟩ := hq
          show W _ _ _ _ _ _ _ _ _ _ _ _ _ _ _ (F0 _ _ _ [])
          refine next w2 I2 A2 H locs ls ⟨hv2.1, hv1.2.tr hv2.2⟩ ?_ (hi1.tr hi2) (ha1.tr ha2) hI hl
          rw [← hg]
          simp only [if_neg hq2]
          rw [hg]
          exact hm2
        · have hq2 : x = tk := (ci_eq (by omega) (by omega)).mp hq2
          refine lv_aload_n hx hb dM_add3_18 rfl (lv_at hl 1 rfl) ?_
          refine lv_aload hx hb dM_add3_19 (lv_at hl 6 rfl) ?_
          refine lv_iload hx hb dM_add3_21 (lv_at hl 7 rfl) ?_
          refine lv_iload hx hb dM_add3_23 (lv_at hl 8 rfl) ?_
          refine ct_V (n := 3) hE hI (kM_add2 (k := k2) (a := c) (b := d) hv1.1 hm1 g2 g25 g6 g3 hBk hcd hdB hBm) h01 rfl gm_M75 gi_M_add2 gs_M_M_add2 gz_M gc_M_add2 (by decide +kernel) ⟨Nat.le_of_ble_eq_true rfl, Nat.le_of_ble_eq_true rfl⟩ rfl hl.1 rfl (Nat.le_of_ble_eq_true rfl) dM_add3_25 ⟨Nat.le_of_ble_eq_true rfl, Nat.le_of_ble_eq_true rfl⟩ (fun v w2 H locs hq hI => ?_)
          obtain ⟨rfl, I2, A2, hv2, hm2, hi2, ha2⟩ := hq
          show W _ _ _ _ _ _ _ _ _ _ _ _ _ _ _ (F0 _ _ _ [])
          refine lv_goto (tgt := 39) hx hb dM_add3_28 (by decide) ?_
          refine next w2 I2 A2 H locs ls ⟨hv2.1, hv1.2.tr hv2.2⟩ ?_ (hi1.tr hi2) (ha1.tr ha2) hI hl
          rw [← hg]
          simp only [if_pos hq2]
          rw [hg]
          exact hm2
  exact loop (b - a) a w I A _ _ ls (by omega) (Nat.le_refl _) ⟨hv, fm.rf _ _⟩ (by simpa using hm) (eqI.rf _ _) (eqA.rf _ _) hI hl
/-- a row of terms, one after the other -/
theorem tm_fo_cons (t : Std.Format) (ts : List Std.Format) : (t :: ts).flatMap tm_row = tm_row t ++ ts.flatMap tm_row := rfl
set_option maxRecDepth 100000 in
theorem kM_end {L r : List Int} {k a : Nat} {t : Std.Format} {E : List Nat} (hv : mv K w h I A) (h2 : 2 ≤ k) (h25 : k < 25) (h6 : k ≠ 6) (hL : pt_h (A k) L) (hLm : L.length ≤ ml k) (hbd : ∀ x ∈ L, -1000000 ≤ x ∧ x ≤ 1000000) (hd : L.drop a = tm_row t ++ r) (hs : tm_sc t E) (ha : a ≤ L.length) : ct_M l n0 D K yM_end (Cond.code yM_end cM_end 4 (some .int)) 0 0 0 0 [.ref (h k), .int (nI a)] w (fun v w' => w' = w ∧ v = some (.int (nI (a + tm_sz t)))) := by
  have hmp := (ml_pos (k := k)).2
  have hrow := hv.row h2 h25 h6
  refine ct_go (own := nm_M) (by decide) rfl (Nat.le_of_ble_eq_true rfl) ?_
  intro p e s m below meth c ls hE hI hr hk hn hl
  have hx := hE.1.1.1
  have hb := hE.1.1.2.1
  have hl : lv_has ls 4 [(0, .ref (h k)), (1, .int (nI a))] := hl
  refine lv_iload_n hx hb dM_end_0 rfl (lv_at hl 1 rfl) ?_
  refine lv_istore_n hx hb dM_end_1 rfl hl (by decide) rfl (fun ls hl => ?_)
  refine lv_iconst (v := nI 1) hx hb dM_end_2 (by decide) ?_
  refine lv_istore_n hx hb dM_end_3 rfl hl (by decide) rfl (fun ls hl => ?_)
  have loop : ∀ (n i : Nat) (ts : List (Std.Format × List Nat)) (ls : Array Slot), (ts.map (fun q => tm_sz q.1)).sum = n → (∀ q ∈ ts, tm_sc q.1 q.2) → L.drop i = ts.flatMap (fun q => tm_row q.1) ++ r → i + n = a + tm_sz t → i + n ≤ L.length → ts.length ≤ L.length → lv_has ls 4 [(3, .int (nI ts.length)), (2, .int (nI i)), (0, .ref (h k)), (1, .int (nI a))] →
      W p l e { frames := 0, cells := 0, slots := 0, locals := 0 } s m ([Value.ref (h k), .int (nI a)] : List Value).toArray below meth c s.heap [] 0 0 (MQ below (ct_Q D w s.heap.size (fun v w' => w' = w ∧ v = some (.int (nI (a + tm_sz t))))) ([Value.ref (h k), .int (nI a)] : List Value).toArray s 0 0 (mp_A w s.heap.size)) (F0 m 4 ls []) := by
    intro n
    induction n using Nat.strongRecOn with
    | ind n ih =>
    intro i ts ls hsum hsc hdr hin hiL htl hl
    cases ts with
    | nil =>
      have : n = 0 := by rw [← hsum]; rfl
      subst this
      refine lv_iload_n hx hb dM_end_4 rfl (lv_at hl 0 rfl) ?_
      refine lv_if_le (tgt := 44) hx hb dM_end_5 (by decide) (fun hq => ?_) (fun hq => ?_)
      · refine lv_iload_n hx hb dM_end_44 rfl (lv_at hl 1 rfl) ?_
        exact ct_iret hE hI hr hk ⟨rfl, by rw [← hin]; rfl⟩ (by decide) (by decide) dM_end_45
      · exact absurd (show nI 0 ≤ 0 by decide) hq
    | cons q ts =>
      obtain ⟨u, F⟩ := q
      have hu : tm_sc u F := hsc (u, F) (List.mem_cons_self ..)
      have hpos := tm_sz_pos u
      have hsum : tm_sz u + (ts.map (fun q => tm_sz q.1)).sum = n := hsum
      have hdr : L.drop i = tm_row u ++ (ts.flatMap (fun q => tm_row q.1) ++ r) := by rw [hdr]; exact List.append_assoc ..
      have hiL2 : i < L.length := by omega
      obtain ⟨x, e1, m1⟩ := pt_at hiL2
      have hxb := hbd x m1
      have hdr1 := pt_drop e1
      have next : ∀ (ts' : List (Std.Format × List Nat)) (n' : Nat) (ls : Array Slot), n' + 1 = n → (ts'.map (fun q => tm_sz q.1)).sum = n' → (∀ q ∈ ts', tm_sc q.1 q.2) → L.drop (i + 1) = ts'.flatMap (fun q => tm_row q.1) ++ r → ts'.length ≤ L.length → lv_has ls 4 [(3, .int (nI ts'.length)), (2, .int (nI i)), (0, .ref (h k)), (1, .int (nI a))] →
          W p l e { frames := 0, cells := 0, slots := 0, locals := 0 } s m ([Value.ref (h k), .int (nI a)] : List Value).toArray below meth c s.heap [] 0 0 (MQ below (ct_Q D w s.heap.size (fun v w' => w' = w ∧ v = some (.int (nI (a + tm_sz t))))) ([Value.ref (h k), .int (nI a)] : List Value).toArray s 0 0 (mp_A w s.heap.size)) (F0 m 38 ls []) := by
        intro ts' n' ls hn' hs' hsc' hd' hl' hl
        refine lv_iinc (k := 1) (v := nI (i + 1)) hx hb dM_end_38 hl rfl (nI_1 i) (by decide) rfl (fun ls hl => ?_)
        refine lv_goto (tgt := 4) hx hb dM_end_41 (by decide) ?_
        exact ih n' (by omega) (i + 1) ts' ls hs' hsc' hd' (by omega) (by omega) hl' (lv_sub hl [1, 0, 2, 3] rfl)
      refine lv_iload_n hx hb dM_end_4 rfl (lv_at hl 0 rfl) ?_
      refine lv_if_le (tgt := 44) hx hb dM_end_5 (by decide) (fun hq => ?_) (fun hq => ?_)
      · have : ((u, F) :: ts).length = ts.length + 1 := rfl
        rw [this] at hq
        exact absurd ((nI_leI (a := ts.length + 1) (b := 0) (by omega) (by omega)).mp hq) (by omega)
      · skip
        refine lv_iload_n hx hb dM_end_8 rfl (lv_at hl 0 rfl) ?_
        refine lv_aload_n hx hb dM_end_9 rfl (lv_at hl 2 rfl) ?_
        refine lv_iload_n hx hb dM_end_10 rfl (lv_at hl 1 rfl) ?_
        refine mp_ild hE.1 hI hrow 0 rfl (vp_in_nI (by omega) (by omega)) dM_end_11 ?_
        refine lv_sipush (v := ci_i 1000) hx hb dM_end_12 (by decide) ?_
        rw [nI_clamp (by omega), hL i x e1]
        rcases tm_cases u with hlf | ⟨j, c0, rfl⟩ | ⟨a0, b0, rfl⟩
        · rw [tm_row_leaf hlf] at hdr
          have hx0 : x = tm_val u ∧ L.drop (i + 1) = ts.flatMap (fun q => tm_row q.1) ++ r := by
            rw [hdr1] at hdr
            exact ⟨(List.cons.inj hdr).1, (List.cons.inj hdr).2⟩
          have hsz1 := tm_sz_leaf hlf
          rw [tm_sc_leaf hlf] at hu
          have hx99 : x ≤ 99 := by rw [hx0.1]; omega
          refine lv_icmp_ne (tgt := 22) hx hb dM_end_15 (by decide) (fun hq2 => ?_) (fun hq2 => ?_)
          · skip
            refine lv_aload_n hx hb dM_end_22 rfl (lv_at hl 2 rfl) ?_
            refine lv_iload_n hx hb dM_end_23 rfl (lv_at hl 1 rfl) ?_
            refine mp_ild hE.1 hI hrow 0 rfl (vp_in_nI (by omega) (by omega)) dM_end_24 ?_
            refine lv_sipush (v := ci_i 2000) hx hb dM_end_25 (by decide) ?_
            rw [nI_clamp (by omega), hL i x e1]
            refine lv_icmp_lt (tgt := 35) hx hb dM_end_28 (by decide) (fun hq3 => ?_) (fun hq3 => ?_)
            · skip
              refine lv_iconst (v := (-1)) hx hb dM_end_35 (by decide) ?_
              refine lv_iadd hx hb dM_end_36 ?_
              rw [show nI ((u, F) :: ts).length + (-1) = nI ts.length by show nI (ts.length + 1) + (-1) = _; rw [← ci_nat, ← ci_nat, ci_m1, ci_add]; congr 1; omega]
              refine lv_istore_n hx hb dM_end_37 rfl hl (by decide) rfl (fun ls hl => ?_)
              exact next ts (n - 1) ls (by omega) (by omega) (fun q hq => hsc q (List.mem_cons_of_mem _ hq)) hx0.2 (by have := htl; simp at this; omega) hl
            · rw [ci_lt (by omega) (by omega)] at hq3
              omega
          · rw [ci_eq (by omega) (by omega)] at hq2
            omega
        · rw [tm_row_fun] at hdr
          have hx0 : x = 2000 + (j : Int) ∧ L.drop (i + 1) = ((c0, j :: F) :: ts).flatMap (fun q => tm_row q.1) ++ r := by
            rw [hdr1] at hdr
            refine ⟨(List.cons.inj hdr).1, ?_⟩
            rw [(List.cons.inj hdr).2]
            exact (List.append_assoc ..).symm
          have hsz1 : tm_sz (.tag j c0) = 1 + tm_sz c0 := rfl
          refine lv_icmp_ne (tgt := 22) hx hb dM_end_15 (by decide) (fun hq2 => ?_) (fun hq2 => ?_)
          · skip
            refine lv_aload_n hx hb dM_end_22 rfl (lv_at hl 2 rfl) ?_
            refine lv_iload_n hx hb dM_end_23 rfl (lv_at hl 1 rfl) ?_
            refine mp_ild hE.1 hI hrow 0 rfl (vp_in_nI (by omega) (by omega)) dM_end_24 ?_
            refine lv_sipush (v := ci_i 2000) hx hb dM_end_25 (by decide) ?_
            rw [nI_clamp (by omega), hL i x e1]
            refine lv_icmp_lt (tgt := 35) hx hb dM_end_28 (by decide) (fun hq3 => ?_) (fun hq3 => ?_)
            · rw [ci_lt (by omega) (by omega)] at hq3
              omega
            · skip
              refine lv_iconst (v := nI 0) hx hb dM_end_31 (by decide) ?_
              refine lv_goto (tgt := 36) hx hb dM_end_32 (by decide) ?_
              refine lv_iadd hx hb dM_end_36 ?_
              rw [show nI ((Std.Format.tag j c0, F) :: ts).length + nI 0 = nI ((c0, j :: F) :: ts).length from (Int32.ofNat_add _ _).symm]
              refine lv_istore_n hx hb dM_end_37 rfl hl (by decide) rfl (fun ls hl => ?_)
              exact next ((c0, j :: F) :: ts) (n - 1) ls (by omega) (by simp only [List.map_cons, List.sum_cons]; omega) (fun q hq => (List.mem_cons.mp hq).elim (fun e => by rw [e]; exact hu) (fun hq => hsc q (List.mem_cons_of_mem _ hq))) hx0.2 htl hl
          · rw [ci_eq (by omega) (by omega)] at hq2
            omega
        · rw [tm_row_app] at hdr
          have hx0 : x = 1000 ∧ L.drop (i + 1) = ((a0, F) :: (b0, F) :: ts).flatMap (fun q => tm_row q.1) ++ r := by
            rw [hdr1] at hdr
            refine ⟨(List.cons.inj hdr).1, ?_⟩
            rw [(List.cons.inj hdr).2]
            show (tm_row a0 ++ tm_row b0) ++ (ts.flatMap (fun q => tm_row q.1) ++ r) = (tm_row a0 ++ (tm_row b0 ++ ts.flatMap (fun q => tm_row q.1))) ++ r
            simp only [List.append_assoc]
          have hsz1 : tm_sz (.append a0 b0) = 1 + tm_sz a0 + tm_sz b0 := rfl
          have hlen2 : ts.length + 2 ≤ L.length := by
            have : ∀ (qs : List (Std.Format × List Nat)), qs.length ≤ (qs.map (fun q => tm_sz q.1)).sum := by
              intro qs
              induction qs with
              | nil => exact Nat.le_refl _
              | cons q qs ihq =>
                have := tm_sz_pos q.1
                rw [List.map_cons, List.sum_cons, List.length_cons]
                omega
            have := this ts
            have := tm_sz_pos a0
            have := tm_sz_pos b0
            omega
          refine lv_icmp_ne (tgt := 22) hx hb dM_end_15 (by decide) (fun hq2 => ?_) (fun hq2 => ?_)
          · exact absurd (by rw [hx0.1]) hq2
          · skip
            refine lv_iconst (v := nI 1) hx hb dM_end_18 (by decide) ?_
            refine lv_goto (tgt := 36) hx hb dM_end_19 (by decide) ?_
            refine lv_iadd hx hb dM_end_36 ?_
            rw [show nI ((Std.Format.append a0 b0, F) :: ts).length + nI 1 = nI ((a0, F) :: (b0, F) :: ts).length from (Int32.ofNat_add _ _).symm]
            refine lv_istore_n hx hb dM_end_37 rfl hl (by decide) rfl (fun ls hl => ?_)
            exact next ((a0, F) :: (b0, F) :: ts) (n - 1) ls (by omega) (by simp only [List.map_cons, List.sum_cons]; omega) (fun q hq => (List.mem_cons.mp hq).elim (fun e => by rw [e]; exact hu.1) (fun hq => (List.mem_cons.mp hq).elim (fun e => by rw [e]; exact hu.2) (fun hq => hsc q (List.mem_cons_of_mem _ hq)))) hx0.2 (by simpa using hlen2) hl
  have hlen : a + tm_sz t ≤ L.length := by
    have := congrArg List.length hd
    rw [List.length_drop, List.length_append, tm_row_len] at this
    omega
  have hsp := tm_sz_pos t
  refine loop (tm_sz t) a [(t, E)] ls (by show tm_sz t + 0 = _; omega) (fun q hq => by simp at hq; rw [hq]; exact hs) (by rw [hd]; show _ = (tm_row t ++ []) ++ r; rw [List.append_nil]) rfl hlen (by show 1 ≤ _; omega) hl
end KM2
