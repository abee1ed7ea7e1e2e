/-! the law: its loop, its beginning -/
theorem and15 (x : Int32) : 0 ≤ (x &&& 15).toInt ∧ (x &&& 15).toInt ≤ 15 := by
  have h1 : (x &&& 15).toBitVec.toNat ≤ 15 := by
    rw [Int32.toBitVec_and, BitVec.toNat_and]
    exact Nat.le_trans Nat.and_le_right (by decide)
  have h2 : (x &&& 15).toInt = ((x &&& 15).toBitVec.toNat : Int) := by
    show (x &&& 15).toBitVec.toInt = _
    exact BitVec.toInt_eq_toNat_of_lt (by omega)
  omega
abbrev ob_M0 : List Value := [.int 0, .null, .null, .null, .null, .null, .int 0, .int 0, .int 0, .null, .int 0, .null, .int 0, .int 0, .null]
theorem nd_M : ∀ j, j < 15 → defaultValue (ty_M j) = vp_V ob_M0 j := fun j hj => by
  have h : j = 0 ∨ j = 1 ∨ j = 2 ∨ j = 3 ∨ j = 4 ∨ j = 5 ∨ j = 6 ∨ j = 7 ∨ j = 8 ∨ j = 9 ∨ j = 10 ∨ j = 11 ∨ j = 12 ∨ j = 13 ∨ j = 14 := by omega
  rcases h with rfl | rfl | rfl | rfl | rfl | rfl | rfl | rfl | rfl | rfl | rfl | rfl | rfl | rfl | rfl <;> rfl
theorem lx_drop {p : Program} {l : Launch} {e : Env} {R : Room} {s : State} {m : MethodId} {args : Array Value} {below : List Frame} {meth : Method} {c : Code} {H : Heap} {locs : List Loc} {cells slots : Nat} {Q : State → Prop} {g : JFrame} (h : ∀ q ∈ locs, s.heap.size ≤ q.base) (k : W p l e R s m args below meth c H [] cells slots Q g) : W p l e R s m args below meth c H locs cells slots Q g := fun T hT X => k T hT (Stand.dropFresh (locs := []) (J := locs) (by simpa using X) h)
section LW3
variable {p : Program} {l : Launch} {e : Env} {R : Room} {s : State} {m : MethodId} {args : Array Value} {below : List Frame} {meth : Method} {c : Code} {Q : State → Prop}
variable {n0 : Nat} {D : va_G} {K : Nat → ClassId} {A : Nat → Prop} {w0 : mp_W} {c0 : Cond} {b L : Nat} {xs : Nat → Int32} {xb xm ja : Nat}
set_option maxRecDepth 100000 in
set_option maxHeartbeats 4000000 in
theorem law_loop (C : LC p l R s m c args D K n0 w0 A c0 b L xs) (hRc : 600000 ≤ R.cells) (hRs : 7000000 ≤ R.slots) (hL25 : L ≤ 2560) (hend : ∀ (H : Heap) (locs : List Loc) (ls : Array Slot) (cells slots : Nat), (∀ q ∈ locs, A q.base) → cells ≤ 600000 → slots ≤ 7000000 → W p l e R s m args below meth c H locs cells slots Q (F0 m 1105 ls [.int 1])) :
    ∀ (n k : Nat), n + k = 513 → ∀ (w : mp_W) (H : Heap) (locs : List Loc) (ls : Array Slot) (cells slots bc : Nat), LI K w xb xm ja bc → mp_I D cl_all A s.heap w H locs → lv_has ls 7 [(4, .int (nI (5 * k))), (0, .ref b), (1, .ref xb), (2, .ref xm), (3, .ref ja)] → 65 * cells ≤ 65 * (75 + 306 * k) + bc → slots ≤ 362928 + 6012 * k + 2 * bc →
      W p l e R s m args below meth c H locs cells slots Q (F0 m 23 ls []) := by
  have hE := C.1
  have hx := hE.1.1.1
  have hb := hE.1.1.2.1
  intro n
  induction n using Nat.strongRecOn with
  | ind n ih =>
  intro k hnk w H locs ls cells slots bc hL hI hl hc hs
  have hbc : bc ≤ 1000000 := by
    obtain ⟨f, mi, h, I, A1, σ, O, c1, g, hB, -⟩ := hL
    exact hB.2.2.2.2.2.2.2.2
  refine lv_iload hx hb dL_law_23 (lv_at hl 0 rfl) ?_
  refine lv_aload_n hx hb dL_law_25 rfl (lv_at hl 1 rfl) ?_
  refine lx_len C hI dL_law_26 ?_
  refine lv_iconst (v := ci_i 5) hx hb dL_law_27 (by decide) ?_
  refine lv_isub hx hb dL_law_28 ?_
  rw [← ci_nat L, ci_sub, ← ci_nat (5 * k)]
  refine lv_icmp_gt (tgt := 1104) hx hb dL_law_29 (by decide) (fun hq => ?_) (fun hq => ?_)
  · refine lv_iconst (v := 1) hx hb dL_law_1104 (by decide) ?_
    exact hend H locs ls cells slots hI.2.1.2.2 (by omega) (by omega)
  · have hi : 5 * k + 5 ≤ L := by
      have : ¬ ((L : Int) - 5 < ((5 * k : Nat) : Int)) := fun hh => hq ((ci_lt (by omega) (by omega)).mpr hh)
      omega
    rw [ci_nat] at *
    refine lv_aload_n hx hb dL_law_32 rfl (lv_at hl 1 rfl) ?_
    refine lv_iload hx hb dL_law_33 (lv_at hl 0 rfl) ?_
    refine lx_ild C hI (i := 5 * k) (by omega) rfl dL_law_35 ?_
    refine lv_bipush (v := 15) hx hb dL_law_36 (by decide) ?_
    refine lv_iand hx hb dL_law_38 ?_
    have a15 := and15 (xs (5 * k))
    obtain ⟨vN, hv⟩ : ∃ v : Nat, (xs (5 * k) &&& 15).toInt = (v : Int) := ⟨(xs (5 * k) &&& 15).toInt.toNat, by omega⟩
    have hoff : ((xs (5 * k) &&& 15).toInt - 0).toNat = vN := by omega
    have hrc : 65 * cells + 1019890 ≤ 65 * R.cells + bc := by omega
    have hrs : slots + 2006012 ≤ R.slots + 2 * bc := by omega
    have kk : LK p l e R s m args below meth c Q D K A b xb xm ja bc (5 * k) cells slots := by
      intro w' H' locs' ls hc1 hs1 bc' hL' hI' hl h1 h2
      refine lv_iinc (k := 0) (v := nI (5 * (k + 1))) hx hb dL_law_1098 hl rfl (nI_add (5 * k) 5) (by decide) rfl (fun ls hl => ?_)
      refine lv_goto (tgt := 23) hx hb dL_law_1101 (by decide) ?_
      exact ih (n - 1) (by omega) (k + 1) (by omega) w' H' locs' ls _ _ bc' hL' hI' hl (by omega) (by omega)
    have hcs : vN = 0 ∨ vN = 1 ∨ vN = 2 ∨ vN = 3 ∨ vN = 4 ∨ vN = 5 ∨ vN = 6 ∨ vN = 7 ∨ vN = 8 ∨ vN = 9 ∨ vN = 10 ∨ vN = 11 ∨ vN = 12 ∨ vN = 13 ∨ 14 ≤ vN := by omega
    rcases hcs with rfl | rfl | rfl | rfl | rfl | rfl | rfl | rfl | rfl | rfl | rfl | rfl | rfl | rfl | hbig
    · refine lv_tableIn (tgt := 108) (off := 69) hx hb dL_law_39 (by omega) (by omega) (by rw [hoff]; rfl) (by decide) ?_
      exact cs_free C hI hL (by omega) hl hrc hrs kk
    · refine lv_tableIn (tgt := 156) (off := 117) hx hb dL_law_39 (by omega) (by omega) (by rw [hoff]; rfl) (by decide) ?_
      exact cs_apply C hI hL (by omega) hl hrc hrs kk
    · refine lv_tableIn (tgt := 236) (off := 197) hx hb dL_law_39 (by omega) (by omega) (by rw [hoff]; rfl) (by decide) ?_
      exact cs_bind C hI hL (by omega) hl hrc hrs kk
    · refine lv_tableIn (tgt := 316) (off := 277) hx hb dL_law_39 (by omega) (by omega) (by rw [hoff]; rfl) (by decide) ?_
      exact cs_put C hI hL (by omega) hl hrc hrs kk
    · refine lv_tableIn (tgt := 408) (off := 369) hx hb dL_law_39 (by omega) (by omega) (by rw [hoff]; rfl) (by decide) ?_
      exact cs_open C hI hL (by omega) hl hrc hrs kk
    · refine lv_tableIn (tgt := 488) (off := 449) hx hb dL_law_39 (by omega) (by omega) (by rw [hoff]; rfl) (by decide) ?_
      exact cs_part C hI hL (by omega) hl hrc hrs kk
    · refine lv_tableIn (tgt := 564) (off := 525) hx hb dL_law_39 (by omega) (by omega) (by rw [hoff]; rfl) (by decide) ?_
      exact cs_step C hI hL (by omega) hl hrc hrs kk
    · refine lv_tableIn (tgt := 639) (off := 600) hx hb dL_law_39 (by omega) (by omega) (by rw [hoff]; rfl) (by decide) ?_
      exact cs_head C hI hL (by omega) hl hrc hrs kk
    · refine lv_tableIn (tgt := 707) (off := 668) hx hb dL_law_39 (by omega) (by omega) (by rw [hoff]; rfl) (by decide) ?_
      exact cs_normal C hI hL (by omega) hl hrc hrs kk
    · refine lv_tableIn (tgt := 775) (off := 736) hx hb dL_law_39 (by omega) (by omega) (by rw [hoff]; rfl) (by decide) ?_
      exact cs_same C hI hL (by omega) hl hrc hrs kk
    · refine lv_tableIn (tgt := 850) (off := 811) hx hb dL_law_39 (by omega) (by omega) (by rw [hoff]; rfl) (by decide) ?_
      exact cs_about C hI hL (by omega) hl hrc hrs kk
    · refine lv_tableIn (tgt := 918) (off := 879) hx hb dL_law_39 (by omega) (by omega) (by rw [hoff]; rfl) (by decide) ?_
      exact cs_has C hI hL (by omega) hl hrc hrs kk
    · refine lv_tableIn (tgt := 986) (off := 947) hx hb dL_law_39 (by omega) (by omega) (by rw [hoff]; rfl) (by decide) ?_
      exact cs_write C hI hL (by omega) hl hrc hrs kk
    · refine lv_tableIn (tgt := 1042) (off := 1003) hx hb dL_law_39 (by omega) (by omega) (by rw [hoff]; rfl) (by decide) ?_
      exact cs_out C hI hL (by omega) hl hrc hrs kk
    · refine lv_tableOut (tgt := 1098) hx hb dL_law_39 (by omega) (by decide) ?_
      exact kk w H locs ls cells slots bc hL hI hl (by omega) (by omega)
set_option maxRecDepth 100000 in
set_option maxHeartbeats 4000000 in
theorem law_start (C : LC p l R s m c args D K n0 w0 A c0 b L xs) (hXc : cn_X s) (hRc : 600000 ≤ R.cells) (hRs : 7000000 ≤ R.slots) (hL25 : L ≤ 2560) (hend : ∀ (H : Heap) (locs : List Loc) (ls : Array Slot) (cells slots : Nat), (∀ q ∈ locs, A q.base) → cells ≤ 600000 → slots ≤ 7000000 → W p l e R s m args below meth c H locs cells slots Q (F0 m 1105 ls [.int 1]))
    (hI : mp_I D cl_all A s.heap w0 s.heap []) {ls : Array Slot} (hl : lv_has ls 7 [(0, .ref b)]) : W p l e R s m args below meth c s.heap [] 0 0 Q (F0 m 0 ls []) := by
  have hE := C.1
  have hx := hE.1.1.1
  have hb := hE.1.1.2.1
  obtain ⟨hLN, hRf, hRl⟩ := C.2.2.2.2.2.2
  refine mp_new (ci := 4) (fs := [.null, .null, .null]) hE.1 hI rfl gx_B ty_B to_B (List.mem_cons_of_mem _ gk_L8) (List.mem_cons_of_mem _ gn_B) (List.mem_cons_of_mem _ gz_B) nd_B (by omega) (by omega) dL_law_0 (fun xb H hq1 hI => ?_)
  obtain ⟨x1, hx1⟩ : ∃ z, mp_up w0 xb (.inr (4, [.null, .null, .null])) = z := ⟨_, rfl⟩
  have hI : mp_I D cl_all A s.heap x1 H [] := by rw [← hx1]; exact hI
  have e1 : x1 xb = some (.inr (4, [.null, .null, .null])) := by rw [← hx1]; exact mp_up_self ..
  refine lv_dup hx hb dL_law_3 rfl ?_
  refine cn_In (n := 0) hXc hE hI (kB_init e1) rfl gm_L68 gi_B_init gz_B gc_B_init (by decide +kernel) ⟨by omega, by omega⟩ rfl hl.1 rfl (Nat.le_of_ble_eq_true rfl) dL_law_4 ⟨by omega, by omega⟩ (fun v w2 H locs hq hI => ?_)
  obtain ⟨rfl, hmk⟩ := hq
  show W _ _ _ _ _ _ _ _ _ _ _ _ _ _ _ (F0 _ _ _ [.ref xb])
  obtain ⟨f, hB2, hf0, hfn, hk2⟩ := hmk.iv (by rw [e1]; simp)
  refine lv_astore_n hx hb dL_law_7 rfl hl (by decide) rfl (fun ls hl => ?_)
  refine mp_new (ci := 5) (fs := ob_M0) hE.1 hI rfl gx_M ty_M to_M (List.mem_cons_of_mem _ gk_L69) (List.mem_cons_of_mem _ gn_M) (List.mem_cons_of_mem _ gz_M) nd_M (by omega) (by omega) dL_law_8 (fun xm H hq3 hI => ?_)
  obtain ⟨x3, hx3⟩ : ∃ z, mp_up w2 xm (.inr (5, ob_M0)) = z := ⟨_, rfl⟩
  have hI : mp_I D cl_all A s.heap x3 H locs := by rw [← hx3]; exact hI
  have e3 : x3 xm = some (.inr (5, ob_M0)) := by rw [← hx3]; exact mp_up_self ..
  have k3 : ∀ q, q ≠ xm → x3 q = w2 q := fun q hq => by rw [← hx3, mp_up_ne _ _ hq]
  refine lv_dup hx hb dL_law_11 rfl ?_
  refine cn_In (n := 0) hXc hE hI (kM_init e3) rfl gm_L71 gi_M_init gz_M gc_M_init (by decide +kernel) ⟨by omega, by omega⟩ rfl hl.1 rfl (Nat.le_of_ble_eq_true rfl) dL_law_12 ⟨by omega, by omega⟩ (fun v w4 H locs hq hI => ?_)
  obtain ⟨rfl, hmk2⟩ := hq
  show W _ _ _ _ _ _ _ _ _ _ _ _ _ _ _ (F0 _ _ _ [.ref xm])
  obtain ⟨h, ⟨I4, A4, hst⟩, hh0, hhn, hk4⟩ := hmk2.iv
  refine lv_astore_n hx hb dL_law_15 rfl hl (by decide) rfl (fun ls hl => ?_)
  refine lv_iconst (v := nI 1) hx hb dL_law_16 (by decide) ?_
  refine mp_newa (atype := .long) hE.1 hI (List.mem_cons_of_mem _ ga_long) rfl 2 rfl (a0 := (1, .inr (.inl (fun _ => 0)))) (fun _ => rfl) (nI_pos (by omega)) (nI_clamp (by omega)) (by decide) (by omega) (by omega) dL_law_17 (fun ja H hq5 hI => ?_)
  obtain ⟨x5, hx5⟩ : ∃ z, mp_up w4 ja (ob_J K (fun _ => 0)) = z := ⟨_, rfl⟩
  have hI : mp_I D cl_all A s.heap x5 H locs := by rw [← hx5]; exact hI
  have e5 : x5 ja = some (ob_J K (fun _ => 0)) := by rw [← hx5]; exact mp_up_self ..
  have k5 : ∀ q, q ≠ ja → x5 q = w4 q := fun q hq => by rw [← hx5, mp_up_ne _ _ hq]
  refine lv_astore_n hx hb dL_law_19 rfl hl (by decide) rfl (fun ls hl => ?_)
  refine lv_iconst (v := nI 0) hx hb dL_law_20 (by decide) ?_
  refine lv_istore hx hb dL_law_21 hl (by decide) rfl (fun ls hl => ?_)
  have d2 := hB2.dom
  have n3 : ∀ i, i < 49 → f i ≠ xm := fun i hi e => d2 i hi (by rw [e]; exact hq3)
  have f3 : ∀ i, i < 49 → x3 (f i) = w2 (f i) := fun i hi => k3 _ (n3 i hi)
  have f4 : ∀ i, i < 49 → w4 (f i) = w2 (f i) := fun i hi => by
    obtain ⟨z, hz⟩ := Option.ne_none_iff_exists'.mp (d2 i hi)
    rw [hz]
    exact hk4 _ _ (by rw [f3 i hi]; exact hz) (n3 i hi)
  have n5 : ∀ i, i < 49 → ja ≠ f i := fun i hi e => d2 i hi (by rw [← f4 i hi, ← e]; exact hq5)
  have m5 : ∀ j, j < 25 → ja ≠ h j := fun j hj e => hst.dom j hj (by rw [← e]; exact hq5)
  have fh : ∀ i, i < 49 → ∀ j, j < 25 → f i ≠ h j := by
    intro i hi j hj e
    by_cases hj0 : j = 0
    · rw [hj0, hh0] at e
      exact n3 i hi e
    · have := hhn j hj hj0
      rw [← e, f3 i hi] at this
      exact d2 i hi this
  have hLI : LI K x5 xb xm ja 64 := ⟨f, 16, h, I4, A4, op_new, [], 0, _, hB2.fr (fun i hi => by rw [k5 _ (fun e => n5 i hi e.symm), f4 i hi]), hst.fr (fun j hj => k5 _ (fun e => m5 j hj e.symm)), e5, hf0, hh0, fh, n5, m5⟩
  exact law_loop C hRc hRs hL25 hend 513 0 rfl x5 H locs ls _ _ 64 hLI hI (lv_sub hl [0, 4, 3, 2, 1] rfl) (by omega) (by omega)
end LW3
