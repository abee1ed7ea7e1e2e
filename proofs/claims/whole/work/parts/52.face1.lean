/-! the bench as calls find it: registers hold the terms of σ, OUT is out; f are the labels of its cells -/
def iv_B (K : Nat → ClassId) (w : mp_W) (f : Nat → Nat) (mi : Nat) (σ : Nat → Std.Format) (bc : Nat) (out : List Int) : Prop :=
  ph_i f ∧ w (f 0) = some (.inr (4, [.ref (f 1), .ref (f 2), .ref (f 3)])) ∧ (∃ g, w (f 1) = some (ob_R K g) ∧ ∀ i, i < 16 → g i = some (f (13 + 2 * i))) ∧ pt_G K w f mi ∧
  (∀ i, i < 16 → (∃ cap, pt_R K w (f (13 + 2 * i)) (f (14 + 2 * i)) cap (tm_db (σ i) [])) ∧ tm_ok (σ i)) ∧ pt_Y K w (f 3) (f 4) (f 11) bc out ∧ (∃ u, pt_W K w (f 11) (f 12) 1 0 u) ∧ 64 ≤ bc ∧ bc ≤ 1000000
theorem pt_W.at {K : Nat → ClassId} {w : mp_W} {k ka fa ff : Nat} {u : List Nat × Nat} (h : pt_W K w k ka fa ff u) : w k ≠ none ∧ w ka ≠ none := by
  obtain ⟨g, h1, h2, -⟩ := h
  rw [h1, h2]
  exact ⟨by simp, by simp⟩
theorem pt_V.at {K : Nat → ClassId} {w : mp_W} {t ar cap : Nat} (h : pt_V K w t ar cap) : w t ≠ none ∧ w ar ≠ none := by
  obtain ⟨n, g, h1, h2, -⟩ := h
  rw [h1, h2]
  exact ⟨by simp, by simp⟩
theorem pt_T.at {K : Nat → ClassId} {w : mp_W} {t ar cap : Nat} {L : List Int} (h : pt_T K w t ar cap L) : w t ≠ none ∧ w ar ≠ none := by
  obtain ⟨g, h1, h2, -⟩ := h
  rw [h1, h2]
  exact ⟨by simp, by simp⟩
theorem iv_B.dom {K : Nat → ClassId} {w : mp_W} {f : Nat → Nat} {mi : Nat} {σ : Nat → Std.Format} {bc : Nat} {out : List Int} (h : iv_B K w f mi σ bc out) : ∀ j, j < 49 → w (f j) ≠ none := by
  obtain ⟨hf, h0, ⟨g, h1, -⟩, ⟨hm, ⟨M, hS, hT, ⟨u1, W1⟩, ⟨u2, W2⟩, u3, W3⟩, hV⟩, hr, hY, ⟨u4, W4⟩, -⟩ := h
  intro j hj
  by_cases a : j < 13
  · have : j = 0 ∨ j = 1 ∨ j = 2 ∨ j = 3 ∨ j = 4 ∨ j = 5 ∨ j = 6 ∨ j = 7 ∨ j = 8 ∨ j = 9 ∨ j = 10 ∨ j = 11 ∨ j = 12 := by omega
    rcases this with rfl | rfl | rfl | rfl | rfl | rfl | rfl | rfl | rfl | rfl | rfl | rfl | rfl
    · rw [h0]; simp
    · rw [h1]; simp
    · rw [hS]; simp
    · exact hY.at.1
    · exact hY.at.2
    · exact W1.at.1
    · exact W1.at.2
    · exact W2.at.1
    · exact W2.at.2
    · exact W3.at.1
    · exact W3.at.2
    · exact W4.at.1
    · exact W4.at.2
  · obtain ⟨i, hi⟩ : ∃ i, j = 13 + 2 * i ∨ j = 14 + 2 * i := ⟨(j - 13) / 2, by omega⟩
    by_cases hi6 : i < 16
    · obtain ⟨⟨cap, hR⟩, -⟩ := hr i hi6
      rcases hi with rfl | rfl
      · exact hR.1.at.1
      · exact hR.1.at.2
    · by_cases hm2 : i = mi
      · subst hm2
        rcases hi with rfl | rfl
        · exact hT.at.1
        · exact hT.at.2
      · have : i = 33 - mi := by omega
        subst this
        rcases hi with rfl | rfl
        · exact hV.at.1
        · exact hV.at.2
/-- the Workshop's own cells alone changed -/
theorem iv_B.ws {K : Nat → ClassId} {w w' : mp_W} {f : Nat → Nat} {mi mi' : Nat} {σ : Nat → Std.Format} {bc : Nat} {out : List Int} (h : iv_B K w f mi σ bc out) (ho : mp_off (fp_G f) w w') (hG : pt_G K w' f mi') : iv_B K w' f mi' σ bc out := by
  obtain ⟨hf, h0, ⟨g, h1, h1'⟩, -, hr, hY, ⟨u4, W4⟩, hb⟩ := h
  have nG : ∀ x, x < 45 → (x < 2 ∨ 10 < x ∨ x = 3 ∨ x = 4) → f x ∉ fp_G f := fun x h q => hf.nin (by omega) [2, 5, 6, 7, 8, 9, 10, 45, 46, 47, 48] (by intro b hb; simp at hb; omega)
  refine ⟨hf, by rw [ho _ (nG 0 (by decide) (by decide))]; exact h0, ⟨g, by rw [ho _ (nG 1 (by decide) (by decide))]; exact h1, h1'⟩, hG, fun i hi => ?_, ?_, ⟨u4, W4.off ho (nG 11 (by decide) (by decide)) (nG 12 (by decide) (by decide))⟩, hb⟩
  · obtain ⟨⟨cap, hR⟩, hk⟩ := hr i hi
    exact ⟨⟨cap, hR.off ho (nG _ (by omega) (by omega)) (nG _ (by omega) (by omega))⟩, hk⟩
  · obtain ⟨g2, a1, a2, a3⟩ := hY
    exact ⟨g2, by rw [ho _ (nG 3 (by decide) (by decide))]; exact a1, by rw [ho _ (nG 4 (by decide) (by decide))]; exact a2, a3⟩
abbrev fu (f : Nat → Nat) (k v : Nat) : Nat → Nat := fun j => if j = k then v else f j
abbrev su (σ : Nat → Std.Format) (k : Nat) (t : Std.Format) : Nat → Std.Format := fun i => if i = k then t else σ i
theorem fu_ne {f : Nat → Nat} {k v j : Nat} (h : j ≠ k) : fu f k v j = f j := if_neg h
theorem fu_self {f : Nat → Nat} {k v : Nat} : fu f k v k = v := if_pos rfl
theorem ph_fu {w : mp_W} {f : Nat → Nat} (h : ph_i f) (hd : ∀ j, j < 49 → w (f j) ≠ none) {k v : Nat} (hv : v = f k ∨ w v = none) : ph_i (fu f k v) := by
  rcases hv with rfl | hv
  · have : fu f k (f k) = f := by
      funext j
      by_cases e : j = k
      · subst e; exact fu_self
      · exact fu_ne e
    rw [this]
    exact h
  · intro i j hi hj e
    by_cases a : i = k
    · by_cases b : j = k
      · omega
      · rw [a, fu_self, fu_ne b] at e
        exact absurd hv (by rw [e]; exact hd j hj)
    · by_cases b : j = k
      · rw [b, fu_self, fu_ne a] at e
        exact absurd hv (by rw [← e]; exact hd i hi)
      · rw [fu_ne a, fu_ne b] at e
        exact h i j hi hj e
/-- a register took a new term -/
theorem iv_B.set {K : Nat → ClassId} {w w' : mp_W} {f : Nat → Nat} {mi : Nat} {σ : Nat → Std.Format} {bc t ar cap : Nat} {out : List Int} {u : Std.Format} (h : iv_B K w f mi σ bc out) (ht : t < 16) (har : ar = f (14 + 2 * t) ∨ w ar = none) (ho : mp_off [f (13 + 2 * t), ar] w w') (hR : pt_R K w' (f (13 + 2 * t)) ar cap (tm_db u [])) (hu : tm_ok u) : iv_B K w' (fu f (14 + 2 * t) ar) mi (su σ t u) bc out := by
  have hd := h.dom
  obtain ⟨hf, h0, ⟨g, h1, h1'⟩, ⟨hm, ⟨M, hS, hT, ⟨u1, W1⟩, ⟨u2, W2⟩, u3, W3⟩, hV⟩, hr, hY, ⟨u4, W4⟩, hb⟩ := h
  have hn : ∀ j, j < 49 → j ≠ 13 + 2 * t → j ≠ 14 + 2 * t → f j ∉ [f (13 + 2 * t), ar] := by
    intro j hj n1 n2
    simp
    refine ⟨hf.ne hj (by omega) n1, fun e => ?_⟩
    rcases har with e2 | e2
    · exact hf.ne hj (by omega) n2 (e.trans e2)
    · exact hd j hj (by rw [e]; exact e2)
  have ek : ∀ j, j ≠ 14 + 2 * t → fu f (14 + 2 * t) ar j = f j := fun j h => fu_ne h
  refine ⟨ph_fu (w := w) hf hd har, ?_, ⟨g, ?_, fun i hi => ?_⟩, ⟨hm, ⟨M, ?_, ?_, ⟨u1, ?_⟩, ⟨u2, ?_⟩, u3, ?_⟩, ?_⟩, fun i hi => ?_, ?_, ⟨u4, ?_⟩, hb⟩
  · rw [ek 0 (by omega), ek 1 (by omega), ek 2 (by omega), ek 3 (by omega), ho _ (hn 0 (by omega) (by omega) (by omega))]; exact h0
  · rw [ek 1 (by omega), ho _ (hn 1 (by omega) (by omega) (by omega))]; exact h1
  · rw [ek _ (by omega)]; exact h1' i hi
  · show w' (fu f (14 + 2 * t) ar 2) = some (.inr (3, [.ref (fu f (14 + 2 * t) ar (13 + 2 * mi)), .ref (fu f (14 + 2 * t) ar (13 + 2 * (33 - mi))), .ref (fu f (14 + 2 * t) ar 5), .ref (fu f (14 + 2 * t) ar 7), .ref (fu f (14 + 2 * t) ar 9)]))
    rw [ek 2 (by omega), ek _ (by omega), ek _ (by omega), ek 5 (by omega), ek 7 (by omega), ek 9 (by omega), ho _ (hn 2 (by omega) (by omega) (by omega))]; exact hS
  · rw [ek _ (by omega), ek _ (by omega)]; exact hT.off ho (hn _ (by omega) (by omega) (by omega)) (hn _ (by omega) (by omega) (by omega))
  · rw [ek 5 (by omega), ek 6 (by omega)]; exact W1.off ho (hn 5 (by omega) (by omega) (by omega)) (hn 6 (by omega) (by omega) (by omega))
  · rw [ek 7 (by omega), ek 8 (by omega)]; exact W2.off ho (hn 7 (by omega) (by omega) (by omega)) (hn 8 (by omega) (by omega) (by omega))
  · rw [ek 9 (by omega), ek 10 (by omega)]; exact W3.off ho (hn 9 (by omega) (by omega) (by omega)) (hn 10 (by omega) (by omega) (by omega))
  · rw [ek _ (by omega), ek _ (by omega)]; exact hV.off ho (hn _ (by omega) (by omega) (by omega)) (hn _ (by omega) (by omega) (by omega))
  · by_cases e : i = t
    · subst e
      rw [ek _ (by omega), fu_self, show su σ i u i = u from if_pos rfl]
      exact ⟨⟨cap, hR⟩, hu⟩
    · rw [ek _ (by omega), ek _ (by omega), show su σ t u i = σ i from if_neg e]
      obtain ⟨⟨cap2, hR2⟩, hk⟩ := hr i hi
      exact ⟨⟨cap2, hR2.off ho (hn _ (by omega) (by omega) (by omega)) (hn _ (by omega) (by omega) (by omega))⟩, hk⟩
  · rw [ek 3 (by omega), ek 4 (by omega), ek 11 (by omega)]
    obtain ⟨g2, a1, a2, a3⟩ := hY
    exact ⟨g2, by rw [ho _ (hn 3 (by omega) (by omega) (by omega))]; exact a1, by rw [ho _ (hn 4 (by omega) (by omega) (by omega))]; exact a2, a3⟩
  · rw [ek 11 (by omega), ek 12 (by omega)]; exact W4.off ho (hn 11 (by omega) (by omega) (by omega)) (hn 12 (by omega) (by omega) (by omega))
/-- how a call leaves the bench -/
def bx (K : Nat → ClassId) (w : mp_W) (f : Nat → Nat) (w' : mp_W) (σ : Nat → Std.Format) (bc : Nat) (out : List Int) : Prop :=
  ∃ f' mi', iv_B K w' f' mi' σ bc out ∧ f' 0 = f 0 ∧ (∀ j, j < 49 → f' j = f j ∨ w (f' j) = none) ∧ ∀ q x, w q = some x → (∀ j, j < 49 → q ≠ f j) → w' q = some x
theorem bx.rf {K : Nat → ClassId} {w : mp_W} {f : Nat → Nat} {mi : Nat} {σ : Nat → Std.Format} {bc : Nat} {out : List Int} (h : iv_B K w f mi σ bc out) : bx K w f w σ bc out := ⟨f, mi, h, rfl, fun _ _ => Or.inl rfl, fun _ _ h _ => h⟩
theorem bx.ws {K : Nat → ClassId} {w w' : mp_W} {f : Nat → Nat} {mi mi' : Nat} {σ : Nat → Std.Format} {bc : Nat} {out : List Int} (h : iv_B K w f mi σ bc out) (ho : mp_off (fp_G f) w w') (hG : pt_G K w' f mi') : bx K w f w' σ bc out := by
  refine ⟨f, mi', h.ws ho hG, rfl, fun _ _ => Or.inl rfl, fun q x hq hn => ?_⟩
  rw [ho q]
  · exact hq
  · simp
    exact ⟨hn 2 (by omega), hn 5 (by omega), hn 6 (by omega), hn 7 (by omega), hn 8 (by omega), hn 9 (by omega), hn 10 (by omega), hn 45 (by omega), hn 46 (by omega), hn 47 (by omega), hn 48 (by omega)⟩
/-- the Workshop worked, and then a register took a term -/
theorem bx.set {K : Nat → ClassId} {w w1 w' : mp_W} {f : Nat → Nat} {mi mi' : Nat} {σ : Nat → Std.Format} {bc t ar cap : Nat} {out : List Int} {u : Std.Format} (h : iv_B K w f mi σ bc out) (ho1 : mp_off (fp_G f) w w1) (h1 : iv_B K w1 f mi' σ bc out) (ht : t < 16) (har : ar = f (14 + 2 * t) ∨ w1 ar = none) (ho : mp_off [f (13 + 2 * t), ar] w1 w') (hR : pt_R K w' (f (13 + 2 * t)) ar cap (tm_db u [])) (hu : tm_ok u) : bx K w f w' (su σ t u) bc out := by
  have hfp : ∀ q, (∀ j, j < 49 → q ≠ f j) → q ∉ fp_G f := fun q hn => by
    simp
    exact ⟨hn 2 (by omega), hn 5 (by omega), hn 6 (by omega), hn 7 (by omega), hn 8 (by omega), hn 9 (by omega), hn 10 (by omega), hn 45 (by omega), hn 46 (by omega), hn 47 (by omega), hn 48 (by omega)⟩
  have hno : w1 ar = none → w ar = none := fun e => by
    have : ar ∉ fp_G f := hfp ar (fun j hj e2 => h1.dom j hj (by rw [← e2]; exact e))
    rw [← ho1 ar this]
    exact e
  refine ⟨fu f (14 + 2 * t) ar, mi', h1.set ht har ho hR hu, fu_ne (by omega), fun j hj => ?_, fun q x hq hn => ?_⟩
  · by_cases e : j = 14 + 2 * t
    · subst e
      rw [fu_self]
      exact har.imp id hno
    · exact Or.inl (fu_ne e)
  · have hq1 : w1 q = some x := by rw [ho1 q (hfp q hn)]; exact hq
    rw [ho q]
    · exact hq1
    · simp
      refine ⟨hn _ (by omega), fun e => ?_⟩
      rcases har with e2 | e2
      · exact hn _ (by omega) (e.trans e2)
      · rw [e, e2] at hq1; cases hq1
theorem iv_B.S {K : Nat → ClassId} {w : mp_W} {f : Nat → Nat} {mi : Nat} {σ : Nat → Std.Format} {bc : Nat} {out : List Int} (h : iv_B K w f mi σ bc out) : ∃ M, pt_S K w f mi M := h.2.2.2.1.2.1
/-- after a Workshop call that leaves its own cells well -/
theorem pt_G.of {K : Nat → ClassId} {w w' : mp_W} {f : Nat → Nat} {mi : Nat} {M : List Int} (hf : ph_i f) (h : pt_G K w f mi) (ho : mp_off (fp_S f mi) w w') (hS : pt_S K w' f mi M) : pt_G K w' f mi := by
  obtain ⟨hm, -, hV⟩ := h
  have nS : ∀ x, x < 49 → x ≠ 13 + 2 * mi → x ≠ 14 + 2 * mi → (x < 5 ∨ 10 < x) → f x ∉ fp_S f mi := fun x h q1 q2 q3 => hf.nin h [5, 6, 7, 8, 9, 10, 13 + 2 * mi, 14 + 2 * mi] (by intro b hb; simp at hb; omega)
  exact ⟨hm, ⟨M, hS⟩, hV.off ho (nS _ (by omega) (by omega) (by omega) (by omega)) (nS _ (by omega) (by omega) (by omega) (by omega))⟩
/-- the numbers of registers and of FREE -/
def rk (i : Int32) : Option Nat := if 0 ≤ i.toInt ∧ i.toInt ≤ 15 then some i.toInt.toNat else none
def fk (i : Int32) : Option Nat := if 0 ≤ i.toInt ∧ i.toInt ≤ 99 then some i.toInt.toNat else none
theorem rk_some {i : Int32} {k : Nat} (h : rk i = some k) : k < 16 ∧ i = nI k := by
  unfold rk at h
  split at h
  · cases h
    refine ⟨by omega, ?_⟩
    rw [← ci_nat, Int.toNat_of_nonneg (by omega)]
    exact ci_of i
  · cases h
theorem fk_some {i : Int32} {k : Nat} (h : fk i = some k) : k < 100 ∧ i = nI k := by
  unfold fk at h
  split at h
  · cases h
    refine ⟨by omega, ?_⟩
    rw [← ci_nat, Int.toNat_of_nonneg (by omega)]
    exact ci_of i
  · cases h
section KB1
variable {l : Launch} {n0 : Nat} {D : va_G} {K : Nat → ClassId} {w : mp_W} {f : Nat → Nat} {mi bc : Nat} {σ : Nat → Std.Format} {out : List Int}
set_option maxRecDepth 100000 in
theorem kB_register (hl0 : l.stackTraces = false) (h : iv_B K w f mi σ bc out) (i : Int32) : ct_X l n0 D K yB_register (Cond.code yB_register cB_register 2 (some (.object "BindingBench$Term"))) 6 90 1 6 [.ref (f 0), .int i] w (fun v w' => w' = w ∧ ∃ k, rk i = some k ∧ v = some (.ref (f (13 + 2 * k)))) (fun E w' => w' = w ∧ E = nx_N ∧ rk i = none) := by
  obtain ⟨hf, h0, ⟨g, h1, h1'⟩, -⟩ := h
  have hi := ci_rng i
  refine ct_goX (own := nm_B) (by decide) rfl (Nat.le_of_ble_eq_true rfl) ?_
  intro p e s m below meth c ls hE hI hr hk hout hl
  have hx := hE.1.1.1
  have hb := hE.1.1.2.1
  have hl : lv_has ls 2 [(0, .ref (f 0)), (1, .int i)] := hl
  have bad : rk i = none → ∀ ls, lv_has ls 2 [(0, .ref (f 0)), (1, .int i)] → W p l e { frames := 6, cells := 1, slots := 6, locals := 90 } s m ([Value.ref (f 0), .int i] : List Value).toArray below meth c s.heap [] 0 0 (vx_MQ below (ct_Q D w s.heap.size (fun v w' => w' = w ∧ ∃ k, rk i = some k ∧ v = some (.ref (f (13 + 2 * k))))) (ct_C D w s.heap.size (fun E w' => w' = w ∧ E = nx_N ∧ rk i = none)) ([Value.ref (f 0), .int i] : List Value).toArray s 1 6 (mp_A w s.heap.size)) (F0 m 10 ls []) := by
    intro hb0 ls hl
    exact nx_throw hE hl0 hI (cls := nx_N) (sup := "java/lang/RuntimeException") (text := "no such REGISTER") (names := ["java/lang/Exception"]) (ic := 137) (i1 := 13) (b1 := prog_21_method_4_code) (by decide +kernel) (by decide +kernel) (by decide +kernel) nx_d0 nx_d1 nx_d2 nx_d5 gk_B133 gz_Jn (by decide +kernel) nx_oa nx_og hl.1 dB_register_10 dB_register_13 dB_register_14 dB_register_16 dB_register_19 hout (Nat.le_of_ble_eq_true rfl) (Nat.le_of_ble_eq_true rfl) (Nat.le_of_ble_eq_true rfl) (Nat.le_of_ble_eq_true rfl) hk ⟨rfl, rfl, hb0⟩ (Nat.le_of_ble_eq_true rfl) (Nat.le_of_ble_eq_true rfl)
  refine lv_iload_n hx hb dB_register_0 rfl (lv_at hl 1 rfl) ?_
  refine lv_if_lt (tgt := 10) hx hb dB_register_1 (by decide) (fun hq => ?_) (fun hq => ?_)
  · rw [Int32.lt_iff_toInt_lt] at hq
    exact bad (by unfold rk; rw [if_neg (by have : (0 : Int32).toInt = 0 := rfl; omega)]) ls hl
  · rw [Int32.lt_iff_toInt_lt] at hq
    refine lv_iload_n hx hb dB_register_4 rfl (lv_at hl 1 rfl) ?_
    refine lv_bipush (v := 16) hx hb dB_register_5 (by decide) ?_
    refine lv_icmp_lt (tgt := 20) hx hb dB_register_7 (by decide) (fun hq2 => ?_) (fun hq2 => ?_)
    · rw [Int32.lt_iff_toInt_lt] at hq2
      have e0 : (0 : Int32).toInt = 0 := rfl
      have e1 : (16 : Int32).toInt = 16 := rfl
      have hk0 : rk i = some i.toInt.toNat := by unfold rk; rw [if_pos (by omega)]
      obtain ⟨hk1, hk2⟩ := rk_some hk0
      refine lv_aload_n hx hb dB_register_20 rfl (lv_at hl 0 rfl) ?_
      refine mp_get hE.1 hI h0 rfl gx_B 0 (by decide) (List.mem_cons_of_mem _ gf_B11) rfl dB_register_21 ?_
      refine lv_iload_n hx hb dB_register_24 rfl (lv_at hl 1 rfl) ?_
      refine mp_ald hE.1 hI h1 3 rfl (by rw [hk2]; exact vp_in_nI hk1 (by omega)) dB_register_25 ?_
      rw [show i.toNatClampNeg = i.toInt.toNat from by rw [congrArg Int32.toNatClampNeg hk2]; exact nI_clamp (by omega), h1' _ hk1]
      exact vx_ret (ct_aret hE hI hr (Or.inl ⟨_, rfl⟩) hk ⟨rfl, _, hk0, rfl⟩ (by decide) (by decide) dB_register_26)
    · rw [Int32.lt_iff_toInt_lt] at hq2
      exact bad (by unfold rk; rw [if_neg (by have : (16 : Int32).toInt = 16 := rfl; omega)]) ls hl
set_option maxRecDepth 100000 in
theorem kB_checkFree (hl0 : l.stackTraces = false) (i : Int32) : ct_X l n0 D K yB_checkFree (Cond.code yB_checkFree cB_checkFree 1 none) 6 90 1 6 [.int i] w (fun v w' => w' = w ∧ v = none ∧ ∃ k, fk i = some k) (fun E w' => w' = w ∧ E = nx_N ∧ fk i = none) := by
  have hi := ci_rng i
  refine ct_goX (own := nm_B) (by decide) rfl (Nat.le_of_ble_eq_true rfl) ?_
  intro p e s m below meth c ls hE hI hr hk hout hl
  have hx := hE.1.1.1
  have hb := hE.1.1.2.1
  have hl : lv_has ls 1 [(0, .int i)] := hl
  have bad : fk i = none → ∀ ls, lv_has ls 1 [(0, .int i)] → W p l e { frames := 6, cells := 1, slots := 6, locals := 90 } s m ([Value.int i] : List Value).toArray below meth c s.heap [] 0 0 (vx_MQ below (ct_Q D w s.heap.size (fun v w' => w' = w ∧ v = none ∧ ∃ k, fk i = some k)) (ct_C D w s.heap.size (fun E w' => w' = w ∧ E = nx_N ∧ fk i = none)) ([Value.int i] : List Value).toArray s 1 6 (mp_A w s.heap.size)) (F0 m 10 ls []) := by
    intro hb0 ls hl
    exact nx_throw hE hl0 hI (cls := nx_N) (sup := "java/lang/RuntimeException") (text := "no such FREE") (names := ["java/lang/Exception"]) (ic := 137) (i1 := 13) (b1 := prog_21_method_4_code) (by decide +kernel) (by decide +kernel) (by decide +kernel) nx_d0 nx_d1 nx_d2 nx_d5 gk_B133 gz_Jn (by decide +kernel) nx_oa nx_og hl.1 dB_checkFree_10 dB_checkFree_13 dB_checkFree_14 dB_checkFree_16 dB_checkFree_19 hout (Nat.le_of_ble_eq_true rfl) (Nat.le_of_ble_eq_true rfl) (Nat.le_of_ble_eq_true rfl) (Nat.le_of_ble_eq_true rfl) hk ⟨rfl, rfl, hb0⟩ (Nat.le_of_ble_eq_true rfl) (Nat.le_of_ble_eq_true rfl)
  refine lv_iload_n hx hb dB_checkFree_0 rfl (lv_at hl 0 rfl) ?_
  refine lv_if_lt (tgt := 10) hx hb dB_checkFree_1 (by decide) (fun hq => ?_) (fun hq => ?_)
  · rw [Int32.lt_iff_toInt_lt] at hq
    exact bad (by unfold fk; rw [if_neg (by have : (0 : Int32).toInt = 0 := rfl; omega)]) ls hl
  · rw [Int32.lt_iff_toInt_lt] at hq
    refine lv_iload_n hx hb dB_checkFree_4 rfl (lv_at hl 0 rfl) ?_
    refine lv_bipush (v := 99) hx hb dB_checkFree_5 (by decide) ?_
    refine lv_icmp_le (tgt := 20) hx hb dB_checkFree_7 (by decide) (fun hq2 => ?_) (fun hq2 => ?_)
    · rw [Int32.le_iff_toInt_le] at hq2
      have e0 : (0 : Int32).toInt = 0 := rfl
      have e1 : (99 : Int32).toInt = 99 := rfl
      exact vx_ret (ct_vret hE hI hr hk ⟨rfl, rfl, i.toInt.toNat, by unfold fk; rw [if_pos (by omega)]⟩ (by decide) (by decide) dB_checkFree_20)
    · rw [Int32.le_iff_toInt_le] at hq2
      exact bad (by unfold fk; rw [if_neg (by have : (99 : Int32).toInt = 99 := rfl; omega)]) ls hl
end KB1
