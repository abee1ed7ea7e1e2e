/-! Workshop: reduce -/
section KS9
variable {l : Launch} {n0 : Nat} {D : va_G} {K : Nat → ClassId} {w : mp_W} {f : Nat → Nat} {mi : Nat}
/-- the Workshop as calls find it: its Walks, and its two Terms of 2000 cells -/
def pt_G (K : Nat → ClassId) (w : mp_W) (f : Nat → Nat) (mi : Nat) : Prop := (mi = 16 ∨ mi = 17) ∧ (∃ M, pt_S K w f mi M) ∧ pt_V K w (f (13 + 2 * (33 - mi))) (f (14 + 2 * (33 - mi))) 2000
abbrev fp_G (f : Nat → Nat) : List Nat := [f 2, f 5, f 6, f 7, f 8, f 9, f 10, f 45, f 46, f 47, f 48]
theorem fp_G_S (hm : mi = 16 ∨ mi = 17) {x y : mp_W} (h : mp_off (fp_S f mi) x y) : mp_off (fp_G f) x y := by
  refine h.mono (fun q hq => ?_)
  rcases hm with rfl | rfl <;> simp at hq ⊢ <;> omega
theorem pt_V.off {w w' : mp_W} {t ar cap : Nat} {S : List Nat} (h : pt_V K w t ar cap) (ho : mp_off S w w') (h1 : t ∉ S) (h2 : ar ∉ S) : pt_V K w' t ar cap := by
  obtain ⟨n, g, a1, a2, a3⟩ := h
  exact ⟨n, g, by rw [ho t h1]; exact a1, by rw [ho ar h2]; exact a2, a3⟩
abbrev po_rd (K : Nat → ClassId) (f : Nat → Nat) (w : mp_W) (hd : Bool) (t : Std.Format) : Option Value → mp_W → Prop := fun v w' => ∃ n u mi', tm_rd hd 301 0 t = some (some (n, u)) ∧ v = some (.int (nI n)) ∧ mp_off (fp_G f) w w' ∧ pt_G K w' f mi' ∧ pt_R K w' (f (13 + 2 * (33 - mi'))) (f (14 + 2 * (33 - mi'))) 2000 (tm_db u []) ∧ tm_ok u
abbrev th_rd (K : Nat → ClassId) (f : Nat → Nat) (w : mp_W) (hd : Bool) (t : Std.Format) : String → mp_W → Prop := fun E w' => ∃ mi', ((E = "java/lang/IllegalStateException" ∧ tm_rd hd 301 0 t = none) ∨ (E = "java/lang/ArithmeticException" ∧ tm_rd hd 301 0 t = some none)) ∧ mp_off (fp_G f) w w' ∧ pt_G K w' f mi'
theorem tm_rd_0 (hd : Bool) (n : Nat) (t : Std.Format) : tm_rd hd 0 n t = some none := rfl
theorem tm_rd_no {hd : Bool} {k n : Nat} {t : Std.Format} (h : (if hd = true then tm_h1 (tm_ks t) else tm_f1 (tm_ks t)) = none) : tm_rd hd (k + 1) n t = some (some (n, t)) := by
  show (match (if hd = true then tm_h1 (tm_ks t) else tm_f1 (tm_ks t)) with
    | none => some (some (n, t))
    | some p => match tm_chk (tm_ct t p) with
      | none => none
      | some u => tm_rd hd k (n + 1) u) = _
  rw [h]
theorem tm_rd_bad {hd : Bool} {k n p : Nat} {t : Std.Format} (h : (if hd = true then tm_h1 (tm_ks t) else tm_f1 (tm_ks t)) = some p) (hc : tm_chk (tm_ct t p) = none) : tm_rd hd (k + 1) n t = none := by
  show (match (if hd = true then tm_h1 (tm_ks t) else tm_f1 (tm_ks t)) with
    | none => some (some (n, t))
    | some p => match tm_chk (tm_ct t p) with
      | none => none
      | some u => tm_rd hd k (n + 1) u) = _
  rw [h]
  show (match tm_chk (tm_ct t p) with
      | none => none
      | some u => tm_rd hd k (n + 1) u) = _
  rw [hc]
theorem tm_rd_on {hd : Bool} {k n p : Nat} {t u : Std.Format} (h : (if hd = true then tm_h1 (tm_ks t) else tm_f1 (tm_ks t)) = some p) (hc : tm_chk (tm_ct t p) = some u) : tm_rd hd (k + 1) n t = tm_rd hd k (n + 1) u := by
  show (match (if hd = true then tm_h1 (tm_ks t) else tm_f1 (tm_ks t)) with
    | none => some (some (n, t))
    | some p => match tm_chk (tm_ct t p) with
      | none => none
      | some u => tm_rd hd k (n + 1) u) = _
  rw [h]
  show (match tm_chk (tm_ct t p) with
      | none => none
      | some u => tm_rd hd k (n + 1) u) = _
  rw [hc]
set_option maxRecDepth 100000 in
set_option maxHeartbeats 4000000 in
theorem kS_reduce (hl0 : l.stackTraces = false) {i ci : Nat} {v0 : Int32} {hd : Bool} {t : Std.Format} (hf : ph_i f) (hG : pt_G K w f mi) (hi : i < 16) (ha : pt_R K w (f (13 + 2 * i)) (f (14 + 2 * i)) ci (tm_db t [])) (hok : tm_ok t) (hv0 : v0 = 0 ↔ hd = false) :
    ct_X l n0 D K yS_reduce (Cond.code yS_reduce cS_reduce 7 (some .int)) 8 240 303 4000 [.ref (f 2), .ref (f (13 + 2 * i)), .int v0] w (po_rd K f w hd t) (th_rd K f w hd t) := by
  obtain ⟨hm, ⟨M0, hS0⟩, hV0⟩ := hG
  have nG : ∀ x, x < 45 → (x < 2 ∨ 10 < x ∨ x = 3 ∨ x = 4) → f x ∉ fp_G f := fun x h q => hf.nin (by omega) [2, 5, 6, 7, 8, 9, 10, 45, 46, 47, 48] (by intro b hb; simp at hb; omega)
  refine ct_goX (own := nm_S) (by decide) rfl (Nat.le_of_ble_eq_true rfl) ?_
  intro p e s m below meth c ls hE hI hr hk hout hl
  have hx := hE.1.1.1
  have hb := hE.1.1.2.1
  have hl : lv_has ls 7 [(0, .ref (f 2)), (1, .ref (f (13 + 2 * i))), (2, .int v0)] := hl
  refine lv_aload_n hx hb dS_reduce_0 rfl (lv_at hl 0 rfl) ?_
  refine mp_get hE.1 hI hS0.1 rfl gx_S 1 (by decide) (List.mem_cons_of_mem _ gf_S20) rfl dS_reduce_1 ?_
  refine lv_aload_n hx hb dS_reduce_4 rfl (lv_at hl 1 rfl) ?_
  obtain ⟨nn, gg, vT, vA, vc⟩ := id hV0
  refine ct_V (n := 1) hE hI (kT_become hV0 ha) vT rfl gm_S77 gi_T_become gs_T_T_become gz_T gc_T_become (by decide +kernel) ⟨Nat.le_of_ble_eq_true rfl, Nat.le_of_ble_eq_true rfl⟩ rfl hl.1 rfl (Nat.le_of_ble_eq_true rfl) dS_reduce_5 ⟨Nat.le_of_ble_eq_true rfl, Nat.le_of_ble_eq_true rfl⟩ (fun v w1 H locs hq hI => ?_)
  obtain ⟨rfl, ar', cap', -, hsame, ho1, hp1⟩ := hq
  have hlen : (tm_db t []).length ≤ 2000 := Nat.le_trans ha.2.1 ha.2.2.1
  obtain ⟨rfl, rfl⟩ := hsame hlen
  have ns : ∀ x, x < 49 → x ≠ 13 + 2 * (33 - mi) → x ≠ 14 + 2 * (33 - mi) → f x ∉ [f (13 + 2 * (33 - mi)), f (14 + 2 * (33 - mi))] := fun x h q1 q2 => hf.nin h [13 + 2 * (33 - mi), 14 + 2 * (33 - mi)] (by intro b hb; simp at hb; omega)
  have hS1 : pt_S K w1 f mi M0 := by
    obtain ⟨h1, h2, ⟨u1, h3⟩, ⟨u2, h4⟩, u3, h5⟩ := hS0
    exact ⟨by rw [ho1 _ (ns 2 (by decide) (by omega) (by omega))]; exact h1, h2.off ho1 (ns _ (by omega) (by omega) (by omega)) (ns _ (by omega) (by omega) (by omega)), ⟨u1, h3.off ho1 (ns 5 (by decide) (by omega) (by omega)) (ns 6 (by decide) (by omega) (by omega))⟩, ⟨u2, h4.off ho1 (ns 7 (by decide) (by omega) (by omega)) (ns 8 (by decide) (by omega) (by omega))⟩, u3, h5.off ho1 (ns 9 (by decide) (by omega) (by omega)) (ns 10 (by decide) (by omega) (by omega))⟩
  have hoG : mp_off (fp_G f) w w1 := ho1.mono (fun q hq => by rcases hm with rfl | rfl <;> simp at hq ⊢ <;> omega)
  show W _ _ _ _ _ _ _ _ _ _ _ _ _ _ _ (F0 _ _ _ [.int _])
  refine lv_pop hx hb dS_reduce_8 rfl ?_
  refine lv_iconst (v := 0) hx hb dS_reduce_9 (by decide) ?_
  refine lv_istore_n hx hb dS_reduce_10 rfl hl (by decide) rfl (fun ls hl => ?_)
  refine lv_iconst (v := 0) hx hb dS_reduce_11 (by decide) ?_
  refine lv_istore hx hb dS_reduce_12 hl (by decide) rfl (fun ls hl => ?_)
  have loop : ∀ (k : Nat) (n fr mi : Nat) (t' : Std.Format) (w2 : mp_W) (M : List Int) (ls : Array Slot) (H : Heap) (locs : List Loc), n + k = 301 → fr ≤ 2000 → (mi = 16 ∨ mi = 17) → pt_S K w2 f mi M → pt_R K w2 (f (13 + 2 * (33 - mi))) (f (14 + 2 * (33 - mi))) 2000 (tm_db t' []) → tm_ok t' → (hd = false → ∀ j, j < fr → ¬ tm_rx t' j) → tm_rd hd k n t' = tm_rd hd 301 0 t → mp_off (fp_G f) w w2 → mp_I D cl_all (mp_A w s.heap.size) s.heap w2 H locs → lv_has ls 7 [(4, .int (nI n)), (3, .int (nI fr)), (0, .ref (f 2)), (1, .ref (f (13 + 2 * i))), (2, .int v0)] →
      W p l e { frames := 8, cells := 303, slots := 4000, locals := 240 } s m ([Value.ref (f 2), .ref (f (13 + 2 * i)), .int v0] : List Value).toArray below meth c H locs (1 + n) (2000 + 6 * n) (vx_MQ below (ct_Q D w s.heap.size (po_rd K f w hd t)) (ct_C D w s.heap.size (th_rd K f w hd t)) ([Value.ref (f 2), .ref (f (13 + 2 * i)), .int v0] : List Value).toArray s 303 4000 (mp_A w s.heap.size)) (F0 m 14 ls []) := by
    intro k
    induction k with
    | zero =>
      intro n fr mi t' w2 M ls H locs hnk hfr hm hS hp hok' hno hrd ho hI hl
      have : n = 301 := by omega
      subst this
      rw [tm_rd_0] at hrd
      refine lv_iload hx hb dS_reduce_14 (lv_at hl 0 rfl) ?_
      refine lv_sipush (v := nI 300) hx hb dS_reduce_16 (by decide) ?_
      refine lv_icmp_gt (tgt := 96) hx hb dS_reduce_19 (by decide) (fun hq => ?_) (fun hq => ?_)
      · exact ct_throw hE hl0 hI (cls := "java/lang/ArithmeticException") (text := "too many STEPS") (names := ["java/lang/RuntimeException", "java/lang/Exception"]) (ic := 102) (by decide +kernel) (by decide +kernel) gk_S98 gz_Jh (by decide +kernel) oa_S98_102 og_S98_102 hl.1 dS_reduce_96 dS_reduce_99 dS_reduce_100 dS_reduce_102 dS_reduce_105 hout (Nat.le_of_ble_eq_true rfl) (Nat.le_of_ble_eq_true rfl) (Nat.le_of_ble_eq_true rfl) (Nat.le_of_ble_eq_true rfl) hk ⟨mi, Or.inr ⟨rfl, hrd.symm⟩, ho, hm, ⟨M, hS⟩, hp.V⟩ (Nat.le_of_ble_eq_true rfl) (Nat.le_of_ble_eq_true rfl)
      · exact absurd (nI_lt (a := 300) (b := 301) (by omega) (by omega)) hq
    | succ k ih =>
      intro n fr mi t' w2 M ls H locs hnk hfr hm hS hp hok' hno hrd ho hI hl
      have hz' : (tm_db t' []).length ≤ 2000 := hp.2.1
      have h1 : 1 ≤ (tm_db t' []).length := by rw [tm_db_len]; exact tm_sz_pos t'
      obtain ⟨gs, sT, sA, sf, sc, sc2, sx⟩ := hp.out
      have going : ∀ (r : Int32) (ls : Array Slot) (H : Heap) (locs : List Loc), ((∃ q, r = nI q ∧ tm_rx t' q ∧ (if hd = true then tm_h1 (tm_ks t') else tm_f1 (tm_ks t')) = some q) ∨ (r = -1 ∧ (if hd = true then tm_h1 (tm_ks t') else tm_f1 (tm_ks t')) = none)) → mp_I D cl_all (mp_A w s.heap.size) s.heap w2 H locs → lv_has ls 7 [(4, .int (nI n)), (3, .int (nI fr)), (0, .ref (f 2)), (1, .ref (f (13 + 2 * i))), (2, .int v0)] →
          W p l e { frames := 8, cells := 303, slots := 4000, locals := 240 } s m ([Value.ref (f 2), .ref (f (13 + 2 * i)), .int v0] : List Value).toArray below meth c H locs (1 + n) (2000 + 6 * n) (vx_MQ below (ct_Q D w s.heap.size (po_rd K f w hd t)) (ct_C D w s.heap.size (th_rd K f w hd t)) ([Value.ref (f 2), .ref (f (13 + 2 * i)), .int v0] : List Value).toArray s 303 4000 (mp_A w s.heap.size)) (F0 m 44 ls [.int r]) := by
        intro r ls H locs hrr hI hl
        refine lv_istore hx hb dS_reduce_44 hl (by decide) rfl (fun ls hl => ?_)
        refine lv_iload hx hb dS_reduce_46 (lv_at hl 0 rfl) ?_
        refine lv_iconst (v := (-1)) hx hb dS_reduce_48 (by decide) ?_
        refine lv_icmp_ne (tgt := 55) hx hb dS_reduce_49 (by decide) (fun hq => ?_) (fun hq => ?_)
        · rcases hrr with ⟨q, rfl, hrx, hst⟩ | ⟨e, -⟩
          · have hlt := tm_rx_lt hrx
            rw [tm_db_len] at hz'
            obtain ⟨e1, e2, c1, c2, c3, c4, c5, c6⟩ := tm_con hok' hrx
            have hsz : (tm_db (tm_ct t' q) []).length ≤ 2000 → ∀ x ∈ tm_db (tm_ct t' q) [], -2 ≤ x ∧ x ≤ 1000000 := fun h => tm_db_b c6 (by rw [tm_db_len] at h; exact h)
            refine lv_aload_n hx hb dS_reduce_55 rfl (lv_at hl 3 rfl) ?_
            refine lv_aload_n hx hb dS_reduce_56 rfl (lv_at hl 3 rfl) ?_
            refine mp_get hE.1 hI hS.1 rfl gx_S 1 (by decide) (List.mem_cons_of_mem _ gf_S20) rfl dS_reduce_57 ?_
            refine lv_iload hx hb dS_reduce_60 (lv_at hl 0 rfl) ?_
            refine ct_VX (n := 2) hE hI (kS_contract hl0 hf hm hS (i := 33 - mi) (by omega) (by omega) hp c1 c2 c3 c4 c5 hsz) hS.1 rfl gm_S88 gi_S_contract gs_S_S_contract gz_S gc_S_contract (by decide +kernel) ⟨Nat.le_of_ble_eq_true rfl, Nat.le_of_ble_eq_true rfl⟩ rfl hl.1 rfl (Nat.le_of_ble_eq_true rfl) dS_reduce_62 ⟨by show 1 + n + 1 ≤ 303; omega, by show 2000 + 6 * n + 6 ≤ 4000; omega⟩ (fun v w3 H locs hq hI => ?_) (fun E q ce w3 H locs ht hI hq hv hcl => ?_)
            · obtain ⟨rfl, hbad, ho3, hS3⟩ := hq
              rw [tm_bad] at hbad
              cases hchk : tm_chk (tm_ct t' q) with
              | none => exact absurd hchk hbad
              | some u =>
                obtain ⟨hoku, hdbu, -, hz1, hz2⟩ := tm_chk_ok c6 hchk
                show W _ _ _ _ _ _ _ _ _ _ _ _ _ _ _ (F0 _ _ _ [.ref _])
                have nS : ∀ x, x < 49 → x ≠ 13 + 2 * mi → x ≠ 14 + 2 * mi → (x < 5 ∨ 10 < x) → f x ∉ fp_S f mi := fun x h q1 q2 q3 => hf.nin h [5, 6, 7, 8, 9, 10, 13 + 2 * mi, 14 + 2 * mi] (by intro b hb; simp at hb; omega)
                have hp3 := hp.off ho3 (nS _ (by omega) (by omega) (by omega) (by omega)) (nS _ (by omega) (by omega) (by omega) (by omega))
                refine lv_astore hx hb dS_reduce_65 hl (by decide) rfl (fun ls hl => ?_)
                refine lv_aload_n hx hb dS_reduce_67 rfl (lv_at hl 4 rfl) ?_
                refine lv_aload_n hx hb dS_reduce_68 rfl (lv_at hl 4 rfl) ?_
                refine mp_get hE.1 hI hS3.1 rfl gx_S 1 (by decide) (List.mem_cons_of_mem _ gf_S20) rfl dS_reduce_69 ?_
                refine mp_put hE.1 hI hS3.1 rfl gx_S ty_S to_S tn_S 0 (by decide) (List.mem_cons_of_mem _ gf_S14) rfl rfl rfl (Nat.le_of_ble_eq_true rfl) dS_reduce_72 (fun H locs hI => ?_)
                obtain ⟨w4, hw4⟩ : ∃ z, mp_up w3 (f 2) (.inr (3, [.ref (f (13 + 2 * (33 - mi))), .ref (f (13 + 2 * (33 - mi))), .ref (f 5), .ref (f 7), .ref (f 9)])) = z := ⟨_, rfl⟩
                have hI : mp_I D cl_all (mp_A w s.heap.size) s.heap w4 H locs := by rw [← hw4]; exact hI
                have hS4 : w4 (f 2) = some (.inr (3, [.ref (f (13 + 2 * (33 - mi))), .ref (f (13 + 2 * (33 - mi))), .ref (f 5), .ref (f 7), .ref (f 9)])) := by rw [← hw4]; exact mp_up_self ..
                refine lv_aload_n hx hb dS_reduce_75 rfl (lv_at hl 4 rfl) ?_
                refine lv_aload hx hb dS_reduce_76 (lv_at hl 0 rfl) ?_
                refine mp_put hE.1 hI hS4 rfl gx_S ty_S to_S tn_S 1 (by decide) (List.mem_cons_of_mem _ gf_S20) rfl rfl rfl (Nat.le_of_ble_eq_true rfl) dS_reduce_78 (fun H locs hI => ?_)
                obtain ⟨w5, hw5⟩ : ∃ z, mp_up w4 (f 2) (ob_S f (33 - mi)) = z := ⟨_, rfl⟩
                have e33 : 33 - (33 - mi) = mi := by omega
                have hI : mp_I D cl_all (mp_A w s.heap.size) s.heap w5 H locs := by
                  rw [← hw5]
                  unfold ob_S
                  rw [e33]
                  exact hI
                have ho5 : mp_off [f 2] w3 w5 := by rw [← hw5, ← hw4]; exact ((mp_off.rf _ _).up (by simp) _).up (by simp) _
                have n2 : ∀ x, x < 49 → x ≠ 2 → f x ∉ [f 2] := fun x h q => hf.nin h [2] (by intro b hb; simp at hb; omega)
                have hS5 : pt_S K w5 f (33 - mi) (tm_db t' []) := by
                  obtain ⟨-, h2, ⟨u1, h3⟩, ⟨u2, h4⟩, u3, h5⟩ := hS3
                  exact ⟨by rw [← hw5]; exact mp_up_self .., hp3.1.off ho5 (n2 _ (by omega) (by omega)) (n2 _ (by omega) (by omega)), ⟨u1, h3.off ho5 (n2 5 (by decide) (by decide)) (n2 6 (by decide) (by decide))⟩, ⟨u2, h4.off ho5 (n2 7 (by decide) (by decide)) (n2 8 (by decide) (by decide))⟩, u3, h5.off ho5 (n2 9 (by decide) (by decide)) (n2 10 (by decide) (by decide))⟩
                have hp5 : pt_R K w5 (f (13 + 2 * (33 - (33 - mi)))) (f (14 + 2 * (33 - (33 - mi)))) 2000 (tm_db u []) := by
                  rw [e33, hdbu]
                  exact ⟨hS3.2.1.off ho5 (n2 _ (by omega) (by omega)) (n2 _ (by omega) (by omega)), by rw [tm_db_len]; exact hz1, by omega, tm_db_b c6 hz1⟩
                have hoG5 : mp_off (fp_G f) w w5 := (ho.tr (fp_G_S hm ho3)).tr (ho5.mono (fun q hq => by simp at hq ⊢; omega))
                refine lv_iconst (v := 0) hx hb dS_reduce_81 (by decide) ?_
                refine lv_iload hx hb dS_reduce_82 (lv_at hl 1 rfl) ?_
                refine lv_iconst (v := nI 1) hx hb dS_reduce_84 (by decide) ?_
                refine lv_isub hx hb dS_reduce_85 ?_
                refine va_mmax hx hb (by rw [hE.1.1.2.2.1]; exact hl.1.symm) hE.1.1.2.2.2.1 (ct_w hE gm_S92) (ct_w hE gt_Jm_max) (ct_w hE gz_Jm) (ct_w hE gc_Jm_max) (Nat.le_of_ble_eq_true rfl) (Nat.le_of_ble_eq_true rfl) (by show 1 + n + 1 ≤ 303; omega) (by show 2000 + 6 * n + 6 ≤ 4000; omega) dS_reduce_86 ?_
                rw [ci_max0 q (by omega)]
                refine lv_istore_n hx hb dS_reduce_89 rfl hl (by decide) rfl (fun ls hl => ?_)
                refine lv_iinc (k := 3) (v := nI (n + 1)) hx hb dS_reduce_90 hl rfl (nI_1 n) (by decide) rfl (fun ls hl => ?_)
                refine lv_goto (tgt := 14) hx hb dS_reduce_93 (by decide) ?_
                have hl := lv_sub hl [0, 1, 4, 5, 6] rfl
                refine W.widen (k := 1 + (n + 1)) (n := 2000 + 6 * (n + 1)) (by omega) (by omega) ?_
                refine ih (n + 1) (q - 1) (33 - mi) u w5 _ ls H locs (by omega) (by omega) (by omega) hS5 hp5 hoku (fun hh j hj => ?_) (by rw [← hrd, tm_rd_on hst hchk]) hoG5 hI hl
                rw [← pt_rx_tm, hdbu]
                unfold pt_rx
                rw [tm_con_pre hok' hrx (by omega), tm_con_pre hok' hrx (by omega)]
                have := (tm_f1_some _ q (by rw [hh] at hst; exact hst)).2 j (by omega)
                exact fun z => this ((pt_rx_tm t' j).mp z)
            · obtain ⟨rfl, hbad, ho3, M3, hS3⟩ := ht
              rw [tm_bad] at hbad
              have nS : ∀ x, x < 49 → x ≠ 13 + 2 * mi → x ≠ 14 + 2 * mi → (x < 5 ∨ 10 < x) → f x ∉ fp_S f mi := fun x h q1 q2 q3 => hf.nin h [5, 6, 7, 8, 9, 10, 13 + 2 * mi, 14 + 2 * mi] (by intro b hb; simp at hb; omega)
              exact ct_out hI hout hk hq hv hcl ⟨mi, Or.inl ⟨rfl, by rw [← hrd, tm_rd_bad hst hbad]⟩, ho.tr (fp_G_S hm ho3), hm, ⟨M3, hS3⟩, hp.V.off ho3 (nS _ (by omega) (by omega) (by omega) (by omega)) (nS _ (by omega) (by omega) (by omega) (by omega))⟩ (by omega) (by omega)
          · exact absurd e hq
        · rcases hrr with ⟨q, rfl, hrx, -⟩ | ⟨-, hst⟩
          · have hlt := tm_rx_lt hrx
            rw [tm_db_len] at hz'
            exact absurd (by rw [hq]; decide) (nI_pos (n := q) (by omega))
          · skip
            refine lv_iload hx hb dS_reduce_52 (lv_at hl 1 rfl) ?_
            exact vx_ret (ct_iret hE hI hr hk ⟨n, t', mi, by rw [← hrd, tm_rd_no hst], rfl, ho, ⟨hm, ⟨M, hS⟩, hp.V⟩, hp, hok'⟩ (by omega) (by omega) dS_reduce_54)
      refine lv_iload hx hb dS_reduce_14 (lv_at hl 0 rfl) ?_
      refine lv_sipush (v := nI 300) hx hb dS_reduce_16 (by decide) ?_
      refine lv_icmp_gt (tgt := 96) hx hb dS_reduce_19 (by decide) (fun hq => ?_) (fun hq => ?_)
      · exact absurd hq (nI_nlt (by omega) (by omega))
      · skip
        refine lv_iload_n hx hb dS_reduce_22 rfl (lv_at hl 4 rfl) ?_
        refine lv_if_eq (tgt := 36) hx hb dS_reduce_23 (by decide) (fun hz => ?_) (fun hz => ?_)
        · have hd0 : hd = false := hv0.mp hz
          refine lv_aload_n hx hb dS_reduce_36 rfl (lv_at hl 2 rfl) ?_
          refine mp_get hE.1 hI hS.1 rfl gx_S 1 (by decide) (List.mem_cons_of_mem _ gf_S20) rfl dS_reduce_37 ?_
          refine lv_iload_n hx hb dS_reduce_40 rfl (lv_at hl 1 rfl) ?_
          refine ct_V (n := 1) hE hI (kT_firstRedex (a := fr) hp (by omega) h1) sT rfl gm_S85 gi_T_firstRedex gs_T_T_firstRedex gz_T gc_T_firstRedex (by decide +kernel) ⟨Nat.le_of_ble_eq_true rfl, Nat.le_of_ble_eq_true rfl⟩ rfl hl.1 rfl (Nat.le_of_ble_eq_true rfl) dS_reduce_41 ⟨by show 1 + n + 0 ≤ 303; omega, by show 2000 + 6 * n + 0 ≤ 4000; omega⟩ (fun v w1 H locs hq hI => ?_)
          obtain ⟨hw, r, rfl, hrr⟩ := hq
          subst w1
          show W _ _ _ _ _ _ _ _ _ _ _ _ _ _ _ (F0 _ _ _ [.int _])
          refine going r ls H locs ?_ hI hl
          rcases hrr with ⟨q, e, hge, hrx, hlt⟩ | ⟨e, hno2⟩
          · refine Or.inl ⟨q, e, (pt_rx_tm t' q).mp hrx, ?_⟩
            rw [hd0]
            refine tm_f1_is ((pt_rx_tm t' q).mp hrx) (fun j hj => ?_)
            by_cases hjf : j < fr
            · exact hno hd0 j hjf
            · exact fun z => hlt j (by omega) hj ((pt_rx_tm t' j).mpr z)
          · refine Or.inr ⟨e, ?_⟩
            rw [hd0]
            refine tm_f1_no (fun j => ?_)
            by_cases hjf : j < fr
            · exact hno hd0 j hjf
            · exact fun z => hno2 j (by omega) ((pt_rx_tm t' j).mpr z)
        · have hd1 : hd = true := by
            cases hd with
            | true => rfl
            | false => exact absurd (hv0.mpr rfl) hz
          refine lv_aload_n hx hb dS_reduce_26 rfl (lv_at hl 2 rfl) ?_
          refine mp_get hE.1 hI hS.1 rfl gx_S 1 (by decide) (List.mem_cons_of_mem _ gf_S20) rfl dS_reduce_27 ?_
          refine ct_V (n := 0) hE hI (kT_headRedex hp h1) sT rfl gm_S81 gi_T_headRedex gs_T_T_headRedex gz_T gc_T_headRedex (by decide +kernel) ⟨Nat.le_of_ble_eq_true rfl, Nat.le_of_ble_eq_true rfl⟩ rfl hl.1 rfl (Nat.le_of_ble_eq_true rfl) dS_reduce_30 ⟨by show 1 + n + 0 ≤ 303; omega, by show 2000 + 6 * n + 0 ≤ 4000; omega⟩ (fun v w1 H locs hq hI => ?_)
          obtain ⟨hw, r, rfl, hrr⟩ := hq
          subst w1
          show W _ _ _ _ _ _ _ _ _ _ _ _ _ _ _ (F0 _ _ _ [.int _])
          refine lv_goto (tgt := 44) hx hb dS_reduce_33 (by decide) ?_
          refine going r ls H locs ?_ hI hl
          rcases hrr with ⟨q, e, hrx, hlt⟩ | ⟨e, hno2⟩
          · refine Or.inl ⟨q, e, (pt_rx_tm t' q).mp hrx, ?_⟩
            rw [hd1]
            exact tm_h1_is ((pt_rx_tm t' q).mp hrx) (fun j hj => ⟨(tm_ks_db t' j).mpr (hlt j hj).1, fun z => (hlt j hj).2 ((pt_rx_tm t' j).mpr z)⟩)
          · refine Or.inr ⟨e, ?_⟩
            rw [hd1]
            refine tm_h1_no (fun j hj z => hno2 j (fun r hr => ?_) ((pt_rx_tm t' j).mpr z))
            exact ⟨(tm_ks_db t' r).mp (hj r hr).1, fun y => (hj r hr).2 ((pt_rx_tm t' r).mp y)⟩
  exact loop 301 0 0 mi t w1 M0 ls H locs rfl (by omega) hm hS1 hp1 hok (fun _ j hj => by omega) rfl hoG hI hl
end KS9
