/-! Workshop: isTooDeep, checked, join -/
def pt_bad (M : List Int) : Prop := 2000 < M.length ∨ (150 < M.length ∧ 150 < tm_dd M ([], 0) 0 + 1)
theorem pt_dd_le {L : List Int} (hL : L.length ≤ 2000) : tm_dd L ([], 0) 0 ≤ 150 + 2000 := by
  have key : ∀ (L : List Int) (u : List Nat × Nat) (i d : Nat), pt_ub u i → d ≤ 150 ∨ d ≤ i → tm_dd L u d ≤ 150 + (i + L.length) := by
    intro L
    induction L with
    | nil => intro u i d _ hd; show d ≤ _; omega
    | cons x L ih =>
      intro u i d hu hd
      show (if d < 150 then tm_dd L (tm_wk 1 1 u x) (max d u.2) else d) ≤ _
      split
      · have h1 := hu.1
        have := ih (tm_wk 1 1 u x) (i + 1) (max d u.2) (hu.wk (by omega) (by omega) x) (by omega)
        rw [List.length_cons]
        omega
      · rw [List.length_cons]; omega
  have := key L ([], 0) 0 0 pt_ub0 (by omega)
  omega
section KS2
variable {l : Launch} {n0 : Nat} {D : va_G} {K : Nat → ClassId} {w : mp_W} {f : Nat → Nat} {mi : Nat}
set_option maxRecDepth 100000 in
theorem kS_isTooDeep {i cap : Nat} {u : List Nat × Nat} {L : List Int} (hf : ph_i f) (hS : w (f 2) = some (ob_S f mi)) (hi : i < 18) (hp : pt_R K w (f (13 + 2 * i)) (f (14 + 2 * i)) cap L) (hw : pt_W K w (f 5) (f 6) 1 1 u) : ct_M l n0 D K yS_isTooDeep (Cond.code yS_isTooDeep cS_isTooDeep 2 (some .boolean)) 2 80 0 0 [.ref (f 2), .ref (f (13 + 2 * i))] w (fun v w' => (∃ r : Int32, v = some (.int r) ∧ ((r = 1 ∧ 150 < L.length ∧ 150 < tm_dd L ([], 0) 0 + 1) ∨ (r = 0 ∧ ¬ (150 < L.length ∧ 150 < tm_dd L ([], 0) 0 + 1)))) ∧ mp_off [f 5, f 6] w w' ∧ ∃ u', pt_W K w' (f 5) (f 6) 1 1 u') := by
  obtain ⟨g, hT, hA, hg, hc, hc2, hx2⟩ := hp.out
  have hdd : tm_dd L ([], 0) 0 ≤ 150 + 2000 := pt_dd_le (by omega)
  refine ct_go (own := nm_S) (by decide) rfl (Nat.le_of_ble_eq_true rfl) ?_
  intro p e s m below meth c ls hE hI hr hk hn hl
  have hx := hE.1.1.1
  have hb := hE.1.1.2.1
  have hl : lv_has ls 2 [(0, .ref (f 2)), (1, .ref (f (13 + 2 * i)))] := hl
  refine lv_aload_n hx hb dS_isTooDeep_0 rfl (lv_at hl 1 rfl) ?_
  refine mp_getN hE.1 hI hT rfl gx_T 1 (by decide) (ct_nw hE (q := ("BindingBench$Workshop", 44, "BindingBench$Term", "size", "I")) (by decide +kernel)) rfl dS_isTooDeep_1 ?_
  refine lv_sipush (v := nI 150) hx hb dS_isTooDeep_4 (by decide) ?_
  refine lv_icmp_le (tgt := 25) hx hb dS_isTooDeep_7 (by decide) (fun hq => ?_) (fun hq => ?_)
  · have hq : L.length ≤ 150 := (nI_leI (by omega) (by omega)).mp hq
    refine lv_iconst (v := 0) hx hb dS_isTooDeep_25 (by decide) ?_
    exact ct_zret hE hI hr hk (Or.inl rfl) ⟨⟨0, rfl, Or.inr ⟨rfl, fun h => by omega⟩⟩, mp_off.rf _ _, u, hw⟩ (by decide) (by decide) dS_isTooDeep_26
  · have hq : 150 < L.length := Nat.lt_of_not_le (fun h => hq (nI_le h (by omega)))
    refine lv_aload_n hx hb dS_isTooDeep_10 rfl (lv_at hl 0 rfl) ?_
    refine lv_aload_n hx hb dS_isTooDeep_11 rfl (lv_at hl 1 rfl) ?_
    refine ct_V (n := 1) hE hI (kS_depth hf hS hi hp hw) hS rfl gm_S122 gi_S_depth gs_S_S_depth gz_S gc_S_depth (by decide +kernel) ⟨Nat.le_of_ble_eq_true rfl, Nat.le_of_ble_eq_true rfl⟩ rfl hl.1 rfl (Nat.le_of_ble_eq_true rfl) dS_isTooDeep_12 ⟨Nat.le_of_ble_eq_true rfl, Nat.le_of_ble_eq_true rfl⟩ (fun v w1 H locs hq hI => ?_)
    obtain ⟨rfl, ho, u', hw1⟩ := hq
    show W _ _ _ _ _ _ _ _ _ _ _ _ _ _ _ (F0 _ _ _ [.int _])
    refine lv_sipush (v := nI 150) hx hb dS_isTooDeep_15 (by decide) ?_
    refine lv_icmp_le (tgt := 25) hx hb dS_isTooDeep_18 (by decide) (fun hz => ?_) (fun hz => ?_)
    · have hz : tm_dd L ([], 0) 0 + 1 ≤ 150 := (nI_leI (by omega) (by omega)).mp hz
      refine lv_iconst (v := 0) hx hb dS_isTooDeep_25 (by decide) ?_
      exact ct_zret hE hI hr hk (Or.inl rfl) ⟨⟨0, rfl, Or.inr ⟨rfl, fun h => by omega⟩⟩, ho, u', hw1⟩ (by decide) (by decide) dS_isTooDeep_26
    · have hz : 150 < tm_dd L ([], 0) 0 + 1 := Nat.lt_of_not_le (fun h => hz (nI_le h (by omega)))
      refine lv_iconst (v := 1) hx hb dS_isTooDeep_21 (by decide) ?_
      refine lv_goto (tgt := 26) hx hb dS_isTooDeep_22 (by decide) ?_
      exact ct_zret hE hI hr hk (Or.inr rfl) ⟨⟨1, rfl, Or.inl ⟨rfl, by assumption, hz⟩⟩, ho, u', hw1⟩ (by decide) (by decide) dS_isTooDeep_26
set_option maxRecDepth 100000 in
theorem kS_checked (hl0 : l.stackTraces = false) {u : List Nat × Nat} {M : List Int} (hf : ph_i f) (hm : mi = 16 ∨ mi = 17) (hS : w (f 2) = some (ob_S f mi)) (hp : pt_T K w (f (13 + 2 * mi)) (f (14 + 2 * mi)) 2000 M) (hML : M.length < 1073741824) (hMb : M.length ≤ 2000 → ∀ x ∈ M, -2 ≤ x ∧ x ≤ 1000000) (hw : pt_W K w (f 5) (f 6) 1 1 u) :
    ct_X l n0 D K yS_checked (Cond.code yS_checked cS_checked 1 (some (.object "BindingBench$Term"))) 6 140 1 6 [.ref (f 2)] w (fun v w' => v = some (.ref (f (13 + 2 * mi))) ∧ ¬ pt_bad M ∧ mp_off [f 5, f 6] w w' ∧ ∃ u', pt_W K w' (f 5) (f 6) 1 1 u') (fun E w' => E = "java/lang/IllegalStateException" ∧ pt_bad M ∧ mp_off [f 5, f 6] w w' ∧ ∃ u', pt_W K w' (f 5) (f 6) 1 1 u') := by
  obtain ⟨g, hT, hA, hg⟩ := id hp
  refine ct_goX (own := nm_S) (by decide) rfl (Nat.le_of_ble_eq_true rfl) ?_
  intro p e s m below meth c ls hE hI hr hk hout hl
  have hx := hE.1.1.1
  have hb := hE.1.1.2.1
  have hl : lv_has ls 1 [(0, .ref (f 2))] := hl
  refine lv_aload_n hx hb dS_checked_0 rfl (lv_at hl 0 rfl) ?_
  refine mp_get hE.1 hI hS rfl gx_S 0 (by decide) (List.mem_cons_of_mem _ gf_S14) rfl dS_checked_1 ?_
  refine mp_getN hE.1 hI hT rfl gx_T 1 (by decide) (ct_nw hE (q := ("BindingBench$Workshop", 44, "BindingBench$Term", "size", "I")) (by decide +kernel)) rfl dS_checked_4 ?_
  refine lv_sipush (v := nI 2000) hx hb dS_checked_7 (by decide) ?_
  refine lv_icmp_gt (tgt := 24) hx hb dS_checked_10 (by decide) (fun hq => ?_) (fun hq => ?_)
  · have hq : 2000 < M.length := (nI_ltI (by omega) (by omega)).mp hq
    exact ct_throw hE hl0 hI (cls := "java/lang/IllegalStateException") (text := "beyond the greatest SIZE or DEPTH") (names := ["java/lang/RuntimeException", "java/lang/Exception"]) (ic := 121) (by decide +kernel) (by decide +kernel) gk_S117 gz_Ji (by decide +kernel) oa_S117_121 og_S117_121 hl.1 dS_checked_24 dS_checked_27 dS_checked_28 dS_checked_30 dS_checked_33 hout (Nat.le_of_ble_eq_true rfl) (Nat.le_of_ble_eq_true rfl) (Nat.le_of_ble_eq_true rfl) (Nat.le_of_ble_eq_true rfl) hk ⟨rfl, Or.inl hq, mp_off.rf _ _, u, hw⟩ (Nat.le_of_ble_eq_true rfl) (Nat.le_of_ble_eq_true rfl)
  · have hq : M.length ≤ 2000 := (nI_leI (by omega) (by omega)).mp (Int32.not_lt.mp hq)
    have hpR : pt_R K w (f (13 + 2 * mi)) (f (14 + 2 * mi)) 2000 M := ⟨hp, hq, by omega, hMb hq⟩
    refine lv_aload_n hx hb dS_checked_13 rfl (lv_at hl 0 rfl) ?_
    refine lv_aload_n hx hb dS_checked_14 rfl (lv_at hl 0 rfl) ?_
    refine mp_get hE.1 hI hS rfl gx_S 0 (by decide) (List.mem_cons_of_mem _ gf_S14) rfl dS_checked_15 ?_
    refine ct_V (n := 1) hE hI (kS_isTooDeep hf hS (by omega) hpR hw) hS rfl gm_S113 gi_S_isTooDeep gs_S_S_isTooDeep gz_S gc_S_isTooDeep (by decide +kernel) ⟨Nat.le_of_ble_eq_true rfl, Nat.le_of_ble_eq_true rfl⟩ rfl hl.1 rfl (Nat.le_of_ble_eq_true rfl) dS_checked_18 ⟨Nat.le_of_ble_eq_true rfl, Nat.le_of_ble_eq_true rfl⟩ (fun v w1 H locs hq hI => ?_)
    obtain ⟨⟨r, rfl, hrr⟩, ho, u', hw1⟩ := hq
    show W _ _ _ _ _ _ _ _ _ _ _ _ _ _ _ (F0 _ _ _ [.int _])
    have hS1 : w1 (f 2) = some (ob_S f mi) := by rw [ho _ (hf.nin (by decide) [5, 6] (by decide))]; exact hS
    refine lv_if_eq (tgt := 34) hx hb dS_checked_21 (by decide) (fun hz => ?_) (fun hz => ?_)
    · rcases hrr with ⟨e, -⟩ | ⟨-, hn⟩
      · rw [e] at hz; exact absurd hz (by decide)
      refine lv_aload_n hx hb dS_checked_34 rfl (lv_at hl 0 rfl) ?_
      refine mp_get hE.1 hI hS1 rfl gx_S 0 (by decide) (List.mem_cons_of_mem _ gf_S14) rfl dS_checked_35 ?_
      exact vx_ret (ct_aret hE hI hr (Or.inl ⟨_, rfl⟩) hk ⟨rfl, fun h => by rcases h with h | h; omega; exact hn h, ho, u', hw1⟩ (by decide) (by decide) dS_checked_38)
    · rcases hrr with ⟨-, hy⟩ | ⟨e, -⟩
      · exact ct_throw hE hl0 hI (cls := "java/lang/IllegalStateException") (text := "beyond the greatest SIZE or DEPTH") (names := ["java/lang/RuntimeException", "java/lang/Exception"]) (ic := 121) (by decide +kernel) (by decide +kernel) gk_S117 gz_Ji (by decide +kernel) oa_S117_121 og_S117_121 hl.1 dS_checked_24 dS_checked_27 dS_checked_28 dS_checked_30 dS_checked_33 hout (Nat.le_of_ble_eq_true rfl) (Nat.le_of_ble_eq_true rfl) (Nat.le_of_ble_eq_true rfl) (Nat.le_of_ble_eq_true rfl) hk ⟨rfl, Or.inr hy, ho, u', hw1⟩ (Nat.le_of_ble_eq_true rfl) (Nat.le_of_ble_eq_true rfl)
      · exact absurd e hz
/-- the Workshop: its Walks, and the row that is made -/
def pt_S (K : Nat → ClassId) (w : mp_W) (f : Nat → Nat) (mi : Nat) (M : List Int) : Prop := w (f 2) = some (ob_S f mi) ∧ pt_T K w (f (13 + 2 * mi)) (f (14 + 2 * mi)) 2000 M ∧ (∃ u, pt_W K w (f 5) (f 6) 1 1 u) ∧ (∃ u, pt_W K w (f 7) (f 8) 0 1 u) ∧ ∃ u, pt_W K w (f 9) (f 10) 0 1 u
abbrev fp_S (f : Nat → Nat) (mi : Nat) : List Nat := [f 5, f 6, f 7, f 8, f 9, f 10, f (13 + 2 * mi), f (14 + 2 * mi)]
theorem pt_S.made {w w' : mp_W} {M M' : List Int} (h : pt_S K w f mi M) (hf : ph_i f) (hm : mi = 16 ∨ mi = 17) (ho : mp_off [f (13 + 2 * mi), f (14 + 2 * mi)] w w') (hp : pt_T K w' (f (13 + 2 * mi)) (f (14 + 2 * mi)) 2000 M') : pt_S K w' f mi M' := by
  obtain ⟨h1, -, ⟨u1, h3⟩, ⟨u2, h4⟩, u3, h5⟩ := h
  have nn : ∀ a, a < 13 → f a ∉ [f (13 + 2 * mi), f (14 + 2 * mi)] := fun a ha => hf.nin (by omega) [13 + 2 * mi, 14 + 2 * mi] (by intro b hb; simp at hb; omega)
  exact ⟨by rw [ho _ (nn 2 (by decide))]; exact h1, hp, ⟨u1, h3.off ho (nn 5 (by decide)) (nn 6 (by decide))⟩, ⟨u2, h4.off ho (nn 7 (by decide)) (nn 8 (by decide))⟩, u3, h5.off ho (nn 9 (by decide)) (nn 10 (by decide))⟩
theorem pt_S.lev {w w' : mp_W} {M : List Int} (h : pt_S K w f mi M) (hf : ph_i f) (hm : mi = 16 ∨ mi = 17) (ho : mp_off [f 5, f 6] w w') (hw : ∃ u, pt_W K w' (f 5) (f 6) 1 1 u) : pt_S K w' f mi M := by
  obtain ⟨h1, h2, -, ⟨u2, h4⟩, u3, h5⟩ := h
  have nn : ∀ a, a < 49 → a ≠ 5 → a ≠ 6 → f a ∉ [f 5, f 6] := fun a ha q1 q2 => hf.nin ha [5, 6] (by intro b hb; simp at hb; omega)
  exact ⟨by rw [ho _ (nn 2 (by decide) (by decide) (by decide))]; exact h1, h2.off ho (nn _ (by omega) (by omega) (by omega)) (nn _ (by omega) (by omega) (by omega)), hw, ⟨u2, h4.off ho (nn 7 (by decide) (by decide) (by decide)) (nn 8 (by decide) (by decide) (by decide))⟩, u3, h5.off ho (nn 9 (by decide) (by decide) (by decide)) (nn 10 (by decide) (by decide) (by decide))⟩
theorem mp_off.sub {S : List Nat} {w w1 : mp_W} (h : mp_off S w w1) {S' : List Nat} (hs : S.all (fun q => S'.contains q) = true) : mp_off S' w w1 := h.mono (fun q hq => by
  have := List.all_eq_true.mp hs q hq
  exact List.contains_iff_mem.mp this)
set_option maxRecDepth 100000 in
theorem kS_join (hl0 : l.stackTraces = false) {i j ci cj : Nat} {M A B : List Int} (hf : ph_i f) (hm : mi = 16 ∨ mi = 17) (hS : pt_S K w f mi M) (hi : i < 18) (hj : j < 18) (him : i ≠ mi) (hjm : j ≠ mi) (ha : pt_R K w (f (13 + 2 * i)) (f (14 + 2 * i)) ci A) (hb' : pt_R K w (f (13 + 2 * j)) (f (14 + 2 * j)) cj B) :
    ct_X l n0 D K yS_join (Cond.code yS_join cS_join 3 (some (.object "BindingBench$Term"))) 7 180 1 6 [.ref (f 2), .ref (f (13 + 2 * i)), .ref (f (13 + 2 * j))] w (fun v w' => v = some (.ref (f (13 + 2 * mi))) ∧ ¬ pt_bad (-1 :: (A ++ B)) ∧ mp_off (fp_S f mi) w w' ∧ pt_S K w' f mi (-1 :: (A ++ B))) (fun E w' => E = "java/lang/IllegalStateException" ∧ pt_bad (-1 :: (A ++ B)) ∧ mp_off (fp_S f mi) w w' ∧ ∃ M', pt_S K w' f mi M') := by
  have hA2 : A.length ≤ 2000 := Nat.le_trans ha.2.1 ha.2.2.1
  have hB2 : B.length ≤ 2000 := Nat.le_trans hb'.2.1 hb'.2.2.1
  have nm : ∀ a, a < 49 → a ≠ 13 + 2 * mi → a ≠ 14 + 2 * mi → f a ∉ [f (13 + 2 * mi), f (14 + 2 * mi)] := fun a h q1 q2 => hf.nin h [13 + 2 * mi, 14 + 2 * mi] (by intro b hb; simp at hb; omega)
  have sub2 : ∀ {x y : mp_W}, mp_off [f (13 + 2 * mi), f (14 + 2 * mi)] x y → mp_off (fp_S f mi) x y := fun h => h.mono (fun q hq => by simp at hq ⊢; omega)
  have sub1 : ∀ {x y : mp_W}, mp_off [f 5, f 6] x y → mp_off (fp_S f mi) x y := fun h => h.mono (fun q hq => by simp at hq ⊢; omega)
  obtain ⟨g, kT, kA, kf⟩ := hS.2.1
  refine ct_goX (own := nm_S) (by decide) rfl (Nat.le_of_ble_eq_true rfl) ?_
  intro p e s m below meth c ls hE hI hr hk hout hl
  have hx := hE.1.1.1
  have hb := hE.1.1.2.1
  have hl : lv_has ls 3 [(0, .ref (f 2)), (1, .ref (f (13 + 2 * i))), (2, .ref (f (13 + 2 * j)))] := hl
  refine lv_aload_n hx hb dS_join_0 rfl (lv_at hl 0 rfl) ?_
  refine mp_get hE.1 hI hS.1 rfl gx_S 0 (by decide) (List.mem_cons_of_mem _ gf_S14) rfl dS_join_1 ?_
  refine ct_V (n := 0) hE hI (kT_clear kT) kT rfl gm_S38 gi_T_clear gs_T_T_clear gz_T gc_T_clear (by decide +kernel) ⟨Nat.le_of_ble_eq_true rfl, Nat.le_of_ble_eq_true rfl⟩ rfl hl.1 rfl (Nat.le_of_ble_eq_true rfl) dS_join_4 ⟨Nat.le_of_ble_eq_true rfl, Nat.le_of_ble_eq_true rfl⟩ (fun v w1 H locs hq hI => ?_)
  obtain ⟨rfl, hw1⟩ := hq
  have ho1 : mp_off [f (13 + 2 * mi), f (14 + 2 * mi)] w w1 := by rw [hw1]; exact (mp_off.rf _ _).up (by simp) _
  have hp1 : pt_T K w1 (f (13 + 2 * mi)) (f (14 + 2 * mi)) 2000 [] := ⟨g, by rw [hw1]; exact mp_up_self .., by rw [hw1, mp_up_ne _ _ (hf.ne (by omega) (by omega) (by omega))]; exact kA, fun _ a x h => by simp at h⟩
  have hS1 := hS.made hf hm ho1 hp1
  clear hw1
  show W _ _ _ _ _ _ _ _ _ _ _ _ _ _ _ (F0 _ _ _ [])
  refine lv_aload_n hx hb dS_join_7 rfl (lv_at hl 0 rfl) ?_
  refine mp_get hE.1 hI hS1.1 rfl gx_S 0 (by decide) (List.mem_cons_of_mem _ gf_S14) rfl dS_join_8 ?_
  refine lv_iconst (v := (-1)) hx hb dS_join_11 (by decide) ?_
  obtain ⟨g1, kT1, kA1, kf1⟩ := id hp1
  refine ct_V (n := 1) hE hI (kT_add (z := -1) hp1 (by decide) (by simp)) kT1 rfl gm_S41 gi_T_add gs_T_T_add gz_T gc_T_add (by decide +kernel) ⟨Nat.le_of_ble_eq_true rfl, Nat.le_of_ble_eq_true rfl⟩ rfl hl.1 rfl (Nat.le_of_ble_eq_true rfl) dS_join_12 ⟨Nat.le_of_ble_eq_true rfl, Nat.le_of_ble_eq_true rfl⟩ (fun v w2 H locs hq hI => ?_)
  obtain ⟨rfl, ho2, hp2⟩ := hq
  have hS2 := hS1.made hf hm ho2 hp2
  show W _ _ _ _ _ _ _ _ _ _ _ _ _ _ _ (F0 _ _ _ [])
  have ho2' := ho1.tr ho2
  obtain ⟨ga, aT, aA, af, ac, ac2, ax⟩ := (ha.off ho2' (nm _ (by omega) (by omega) (by omega)) (nm _ (by omega) (by omega) (by omega))).out
  refine lv_aload_n hx hb dS_join_15 rfl (lv_at hl 0 rfl) ?_
  refine mp_get hE.1 hI hS2.1 rfl gx_S 0 (by decide) (List.mem_cons_of_mem _ gf_S14) rfl dS_join_16 ?_
  refine lv_aload_n hx hb dS_join_19 rfl (lv_at hl 1 rfl) ?_
  refine lv_iconst (v := nI 0) hx hb dS_join_20 (by decide) ?_
  refine lv_aload_n hx hb dS_join_21 rfl (lv_at hl 1 rfl) ?_
  refine mp_getN hE.1 hI aT rfl gx_T 1 (by decide) (ct_nw hE (q := ("BindingBench$Workshop", 44, "BindingBench$Term", "size", "I")) (by decide +kernel)) rfl dS_join_22 ?_
  obtain ⟨g2, kT2, kA2, kf2⟩ := id hp2
  refine ct_V (n := 3) hE hI (kT_addAll (a := 0) (b := A.length) hp2 aT aA af ac (by omega) (by omega) (by decide) (by omega) (by simp)) kT2 rfl gm_S48 gi_T_addAll gs_T_T_addAll gz_T gc_T_addAll (by decide +kernel) ⟨Nat.le_of_ble_eq_true rfl, Nat.le_of_ble_eq_true rfl⟩ rfl hl.1 rfl (Nat.le_of_ble_eq_true rfl) dS_join_25 ⟨Nat.le_of_ble_eq_true rfl, Nat.le_of_ble_eq_true rfl⟩ (fun v w3 H locs hq hI => ?_)
  obtain ⟨rfl, ho3, hp3⟩ := hq
  have hS3 := hS2.made hf hm ho3 hp3
  show W _ _ _ _ _ _ _ _ _ _ _ _ _ _ _ (F0 _ _ _ [])
  have ho3' := ho2'.tr ho3
  obtain ⟨gb, bT, bA, bf, bc, bc2, bx⟩ := (hb'.off ho3' (nm _ (by omega) (by omega) (by omega)) (nm _ (by omega) (by omega) (by omega))).out
  refine lv_aload_n hx hb dS_join_28 rfl (lv_at hl 0 rfl) ?_
  refine mp_get hE.1 hI hS3.1 rfl gx_S 0 (by decide) (List.mem_cons_of_mem _ gf_S14) rfl dS_join_29 ?_
  refine lv_aload_n hx hb dS_join_32 rfl (lv_at hl 2 rfl) ?_
  refine lv_iconst (v := nI 0) hx hb dS_join_33 (by decide) ?_
  refine lv_aload_n hx hb dS_join_34 rfl (lv_at hl 2 rfl) ?_
  refine mp_getN hE.1 hI bT rfl gx_T 1 (by decide) (ct_nw hE (q := ("BindingBench$Workshop", 44, "BindingBench$Term", "size", "I")) (by decide +kernel)) rfl dS_join_35 ?_
  obtain ⟨g3, kT3, kA3, kf3⟩ := id hp3
  refine ct_V (n := 3) hE hI (kT_addAll (a := 0) (b := B.length) hp3 bT bA bf bc (by omega) (by omega) (by decide) (by omega) (by simp; omega)) kT3 rfl gm_S48 gi_T_addAll gs_T_T_addAll gz_T gc_T_addAll (by decide +kernel) ⟨Nat.le_of_ble_eq_true rfl, Nat.le_of_ble_eq_true rfl⟩ rfl hl.1 rfl (Nat.le_of_ble_eq_true rfl) dS_join_38 ⟨Nat.le_of_ble_eq_true rfl, Nat.le_of_ble_eq_true rfl⟩ (fun v w4 H locs hq hI => ?_)
  obtain ⟨rfl, ho4, hp4⟩ := hq
  have e4 : [] ++ [-1] ++ List.take (A.length - 0) (List.drop 0 A) ++ List.take (B.length - 0) (List.drop 0 B) = -1 :: (A ++ B) := by simp
  rw [e4] at hp4
  have hS4 := hS3.made hf hm ho4 hp4
  show W _ _ _ _ _ _ _ _ _ _ _ _ _ _ _ (F0 _ _ _ [])
  have ho4' := ho3'.tr ho4
  refine lv_aload_n hx hb dS_join_41 rfl (lv_at hl 0 rfl) ?_
  obtain ⟨u4, hw4⟩ := hS4.2.2.1
  refine ct_VX (n := 0) hE hI (kS_checked hl0 hf hm hS4.1 hp4 (by simp; omega) (fun _ x hx => by rcases List.mem_cons.mp hx with e | e; omega; rcases List.mem_append.mp e with e | e; exact ax x e; exact bx x e) hw4) hS4.1 rfl gm_S52 gi_S_checked gs_S_S_checked gz_S gc_S_checked (by decide +kernel) ⟨Nat.le_of_ble_eq_true rfl, Nat.le_of_ble_eq_true rfl⟩ rfl hl.1 rfl (Nat.le_of_ble_eq_true rfl) dS_join_42 ⟨Nat.le_of_ble_eq_true rfl, Nat.le_of_ble_eq_true rfl⟩ (fun v w5 H locs hq hI => ?_) (fun E q ce w5 H locs ht hI hq hv hcl => ?_)
  · obtain ⟨rfl, hn, ho5, hu5⟩ := hq
    exact vx_ret (ct_aret hE hI hr (Or.inl ⟨_, rfl⟩) hk ⟨rfl, hn, (sub2 ho4').tr (sub1 ho5), hS4.lev hf hm ho5 hu5⟩ (by decide) (by decide) dS_join_45)
  · obtain ⟨rfl, hn, ho5, hu5⟩ := ht
    exact ct_out hI hout hk hq hv hcl ⟨rfl, hn, (sub2 ho4').tr (sub1 ho5), _, hS4.lev hf hm ho5 hu5⟩ (by decide) (by decide)
end KS2
