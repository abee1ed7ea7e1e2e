/-! constructors: what is made anew; Term(int), Walk(int, int), Workshop(), Text() -/
/-- from w to w' the cells L were made, those of S changed, all others are as they were -/
def fz (S L : List Nat) (w w' : mp_W) : Prop := L.Nodup ∧ (∀ q ∈ L, w q = none ∧ w' q ≠ none) ∧ (∀ q ∈ S, w q ≠ none ∧ w' q ≠ none) ∧ ∀ q, q ∉ L → q ∉ S → w' q = w q
def ke (S : List Nat) (w w' : mp_W) : Prop := ∀ q x, w q = some x → q ∉ S → w' q = some x
theorem fz.kp {S L : List Nat} {w w' : mp_W} (h : fz S L w w') : ke S w w' := by
  intro q x hq hS
  by_cases hL : q ∈ L
  · rw [(h.2.1 q hL).1] at hq; cases hq
  · rw [h.2.2.2 q hL hS]; exact hq
theorem fz.nil {S : List Nat} {w : mp_W} (h : ∀ q ∈ S, w q ≠ none) : fz S [] w w := ⟨List.nodup_nil, fun _ h => (by cases h), fun q hq => ⟨h q hq, h q hq⟩, fun _ _ _ => rfl⟩
theorem fz.tr {S L S' L' : List Nat} {w w1 w2 : mp_W} (h : fz S L w w1) (h2 : fz S' L' w1 w2) (hs : ∀ q ∈ S', q ∈ S ∨ q ∈ L) : fz S (L ++ L') w w2 := by
  obtain ⟨a1, a2, a3, a4⟩ := h
  obtain ⟨b1, b2, b3, b4⟩ := h2
  have hL' : ∀ q ∈ L', q ∉ L ∧ q ∉ S := fun q hq => ⟨fun z => (a2 q z).2 (b2 q hq).1, fun z => (a3 q z).2 (b2 q hq).1⟩
  have hk : ∀ q, w1 q ≠ none → w2 q ≠ none := by
    intro q hq
    by_cases h1 : q ∈ L'
    · exact (b2 q h1).2
    · by_cases h2 : q ∈ S'
      · exact (b3 q h2).2
      · rw [b4 q h1 h2]; exact hq
  refine ⟨?_, fun q hq => ?_, fun q hq => ⟨(a3 q hq).1, hk q (a3 q hq).2⟩, fun q hq hS => ?_⟩
  · rw [List.nodup_append]
    exact ⟨a1, b1, fun x hx y hy e => (hL' y hy).1 (by rw [← e]; exact hx)⟩
  · rcases List.mem_append.mp hq with hq | hq
    · exact ⟨(a2 q hq).1, hk q (a2 q hq).2⟩
    · exact ⟨by rw [← a4 q (hL' q hq).1 (hL' q hq).2]; exact (b2 q hq).1, (b2 q hq).2⟩
  · have h1 : q ∉ L := fun z => hq (List.mem_append_left _ z)
    have h2 : q ∉ L' := fun z => hq (List.mem_append_right _ z)
    have h3 : q ∉ S' := fun z => (hs q z).elim hS h1
    rw [b4 q h2 h3, a4 q h1 hS]
theorem fz.one {S : List Nat} {w : mp_W} {q : Nat} {x : va_E} (hS : ∀ q ∈ S, w q ≠ none) (hq : w q = none) : fz S [q] w (mp_up w q x) := by
  refine ⟨by simp, fun y hy => ?_, fun y hy => ⟨hS y hy, ?_⟩, fun y hy _ => mp_up_ne _ _ (by simpa using hy)⟩
  · have : y = q := by simpa using hy
    subst this
    exact ⟨hq, by rw [mp_up_self]; simp⟩
  · by_cases e : y = q
    · subst e; exact absurd hq (hS y hy)
    · rw [mp_up_ne _ _ e]; exact hS y hy
theorem fz.upd {S : List Nat} {w : mp_W} {q : Nat} {x : va_E} (hS : ∀ y ∈ S, w y ≠ none) (hq : q ∈ S) : fz S [] w (mp_up w q x) := by
  refine ⟨List.nodup_nil, fun _ h => (by cases h), fun y hy => ⟨hS y hy, ?_⟩, fun y _ hy => mp_up_ne _ _ (fun e => hy (by rw [e]; exact hq))⟩
  by_cases e : y = q
  · subst e; rw [mp_up_self]; simp
  · rw [mp_up_ne _ _ e]; exact hS y hy
theorem fz.sub {S S' L : List Nat} {w w' : mp_W} (h : fz S L w w') (hs : ∀ q ∈ S, q ∈ S') (h2 : ∀ q ∈ S', w q ≠ none) : fz S' L w w' := by
  refine ⟨h.1, h.2.1, fun q hq => ⟨h2 q hq, ?_⟩, fun q hL hS => h.2.2.2 q hL (fun z => hS (hs q z))⟩
  by_cases e : q ∈ S
  · exact (h.2.2.1 q e).2
  · by_cases e2 : q ∈ L
    · exact (h.2.1 q e2).2
    · rw [h.2.2.2 q e2 e]; exact h2 q hq
theorem ke.tr {S : List Nat} {w w1 w2 : mp_W} (h : ke S w w1) (h2 : ke S w1 w2) : ke S w w2 := fun q x hq hS => h2 q x (h q x hq hS) hS
theorem pt_W.kp {K : Nat → ClassId} {w w' : mp_W} {k ka fa ff : Nat} {u : List Nat × Nat} {S : List Nat} (h : pt_W K w k ka fa ff u) (ho : ke S w w') (h1 : k ∉ S) (h2 : ka ∉ S) : pt_W K w' k ka fa ff u := by
  obtain ⟨f, a1, a2, a3⟩ := h
  exact ⟨f, ho k _ a1 h1, ho ka _ a2 h2, a3⟩
theorem pt_T.kp {K : Nat → ClassId} {w w' : mp_W} {t ar cap : Nat} {L : List Int} {S : List Nat} (h : pt_T K w t ar cap L) (ho : ke S w w') (h1 : t ∉ S) (h2 : ar ∉ S) : pt_T K w' t ar cap L := by
  obtain ⟨f, a1, a2, a3⟩ := h
  exact ⟨f, ho t _ a1 h1, ho ar _ a2 h2, a3⟩
theorem nd_T : ∀ j, j < 2 → defaultValue (ty_T j) = vp_V [.null, .int 0] j := fun j hj => by
  match j, hj with
  | 0, _ => rfl
  | 1, _ => rfl
theorem nd_W : ∀ j, j < 5 → defaultValue (ty_W j) = vp_V [.int 0, .int 0, .null, .int 0, .int 0] j := fun j hj => by
  match j, hj with
  | 0, _ => rfl
  | 1, _ => rfl
  | 2, _ => rfl
  | 3, _ => rfl
  | 4, _ => rfl
theorem nd_S : ∀ j, j < 5 → defaultValue (ty_S j) = vp_V [.null, .null, .null, .null, .null] j := fun j hj => by
  match j, hj with
  | 0, _ => rfl
  | 1, _ => rfl
  | 2, _ => rfl
  | 3, _ => rfl
  | 4, _ => rfl
theorem nd_X : ∀ j, j < 3 → defaultValue (ty_X j) = vp_V [.null, .int 0, .null] j := fun j hj => by
  match j, hj with
  | 0, _ => rfl
  | 1, _ => rfl
  | 2, _ => rfl
theorem nd_B : ∀ j, j < 3 → defaultValue (ty_B j) = vp_V [.null, .null, .null] j := fun j hj => by
  match j, hj with
  | 0, _ => rfl
  | 1, _ => rfl
  | 2, _ => rfl
section KC1
variable {l : Launch} {n0 : Nat} {D : va_G} {K : Nat → ClassId} {w : mp_W}
set_option maxRecDepth 100000 in
theorem kT_init {t n : Nat} (hT : w t = some (.inr (0, [.null, .int 0]))) (hn0 : n ≤ 2000) : ct_M l n0 D K yT_init (Cond.code yT_init cT_init 2 none) 1 40 1 n [.ref t, .int (nI n)] w (fun v w' => v = none ∧ ∃ q, fz [t] [q] w w' ∧ w' t = some (ob_T q 1) ∧ w' q = some (ob_I K n (fun _ => 0))) := by
  refine ct_go (own := nm_T) (by decide) rfl (Nat.le_of_ble_eq_true rfl) ?_
  intro p e s m below meth c ls hE hI hr hk hn hl
  have hx := hE.1.1.1
  have hb := hE.1.1.2.1
  have hl : lv_has ls 2 [(0, .ref t), (1, .int (nI n))] := hl
  refine lv_aload_n hx hb dT_init_0 rfl (lv_at hl 0 rfl) ?_
  refine W.objInit hx hb hE.1.1.2.2.2.1 (ct_w hE gm_T3) (ct_w hE gi_O_init) (ct_w hE gc_O_init) rfl (by rw [hE.1.1.2.2.1]; exact hl.1) rfl dT_init_1 (Nat.le_of_ble_eq_true rfl) (Nat.le_of_ble_eq_true rfl) ?_
  show W _ _ _ _ _ _ _ _ _ _ _ _ _ _ _ (F0 _ _ _ [])
  refine lv_aload_n hx hb dT_init_4 rfl (lv_at hl 0 rfl) ?_
  refine lv_iload_n hx hb dT_init_5 rfl (lv_at hl 1 rfl) ?_
  refine mp_newa (atype := .int) hE.1 hI (List.mem_cons_of_mem _ ga_int) rfl 0 rfl (a0 := (n, .inl (fun _ => 0))) (fun _ => rfl) (nI_pos (by omega)) (nI_clamp (by omega)) (by show n * 4 ≤ _; omega) (Nat.le_of_ble_eq_true rfl) (by show 0 + n ≤ n; omega) dT_init_6 (fun q H hq0 hI => ?_)
  have htq : t ≠ q := fun z => by rw [z, hq0] at hT; cases hT
  have hT1 : mp_up w q (ob_I K n (fun _ => 0)) t = some (.inr (0, [.null, .int 0])) := by rw [mp_up_ne _ _ htq]; exact hT
  refine mp_put hE.1 hI hT1 rfl gx_T ty_T to_T tn_T 0 (by decide) (List.mem_cons_of_mem _ gf_T9) rfl rfl rfl (Nat.le_of_ble_eq_true rfl) dT_init_8 (fun H locs hI => ?_)
  have hT2 : mp_up (mp_up w q (ob_I K n (fun _ => 0))) t (ob_T q 0) t = some (ob_T q 0) := mp_up_self ..
  refine lv_aload_n hx hb dT_init_11 rfl (lv_at hl 0 rfl) ?_
  refine lv_iconst (v := 1) hx hb dT_init_12 (by decide) ?_
  refine mp_put hE.1 hI hT2 rfl gx_T ty_T to_T tn_T 1 (by decide) (List.mem_cons_of_mem _ gf_T15) rfl rfl rfl (Nat.le_of_ble_eq_true rfl) dT_init_13 (fun H locs hI => ?_)
  have z1 : fz [t] [q] w (mp_up w q (ob_I K n (fun _ => 0))) := fz.one (by intro y hy; simp at hy; subst hy; rw [hT]; simp) hq0
  have z2 : fz [t] [] (mp_up w q (ob_I K n (fun _ => 0))) (mp_up (mp_up w q (ob_I K n (fun _ => 0))) t (ob_T q 0)) := fz.upd (by intro y hy; simp at hy; subst hy; rw [hT1]; simp) (by simp)
  have z3 : fz [t] [] (mp_up (mp_up w q (ob_I K n (fun _ => 0))) t (ob_T q 0)) (mp_up (mp_up (mp_up w q (ob_I K n (fun _ => 0))) t (ob_T q 0)) t (ob_T q 1)) := fz.upd (by intro y hy; simp at hy; subst hy; rw [hT2]; simp) (by simp)
  exact ct_vret hE hI hr hk ⟨rfl, q, (z1.tr z2 (fun _ h => Or.inl h)).tr z3 (fun _ h => Or.inl h), mp_up_self .., by rw [mp_up_ne _ _ (Ne.symm htq), mp_up_ne _ _ (Ne.symm htq)]; exact mp_up_self ..⟩ (by decide) (by omega) dT_init_16
set_option maxRecDepth 100000 in
theorem kW_init {k fa ff : Nat} (hT : w k = some (.inr (2, [.int 0, .int 0, .null, .int 0, .int 0]))) : ct_M l n0 D K yW_init (Cond.code yW_init cW_init 3 none) 1 40 1 150 [.ref k, .int (nI fa), .int (nI ff)] w (fun v w' => v = none ∧ ∃ q, fz [k] [q] w w' ∧ pt_W K w' k q fa ff ([], 0)) := by
  refine ct_go (own := nm_W) (by decide) rfl (Nat.le_of_ble_eq_true rfl) ?_
  intro p e s m below meth c ls hE hI hr hk hn hl
  have hx := hE.1.1.1
  have hb := hE.1.1.2.1
  have hl : lv_has ls 3 [(0, .ref k), (1, .int (nI fa)), (2, .int (nI ff))] := hl
  refine lv_aload_n hx hb dW_init_0 rfl (lv_at hl 0 rfl) ?_
  refine W.objInit hx hb hE.1.1.2.2.2.1 (ct_w hE gm_W3) (ct_w hE gi_O_init) (ct_w hE gc_O_init) rfl (by rw [hE.1.1.2.2.1]; exact hl.1) rfl dW_init_1 (Nat.le_of_ble_eq_true rfl) (Nat.le_of_ble_eq_true rfl) ?_
  show W _ _ _ _ _ _ _ _ _ _ _ _ _ _ _ (F0 _ _ _ [])
  refine lv_aload_n hx hb dW_init_4 rfl (lv_at hl 0 rfl) ?_
  refine lv_iload_n hx hb dW_init_5 rfl (lv_at hl 1 rfl) ?_
  refine mp_putF hE.1 hI hT rfl gx_W ty_W to_W tn_W 0 (by decide) (List.mem_cons_of_mem _ gf_W9) rfl hn rfl rfl rfl (Nat.le_of_ble_eq_true rfl) dW_init_6 (fun H locs hI => ?_)
  obtain ⟨w1, hw1⟩ : ∃ z, mp_up w k (.inr (2, [.int (nI fa), .int 0, .null, .int 0, .int 0])) = z := ⟨_, rfl⟩
  have hI : mp_I D cl_all (mp_A w s.heap.size) s.heap w1 H locs := by rw [← hw1]; exact hI
  have hT1 : w1 k = some (.inr (2, [.int (nI fa), .int 0, .null, .int 0, .int 0])) := by rw [← hw1]; exact mp_up_self ..
  have z1 : fz [k] [] w w1 := by rw [← hw1]; exact fz.upd (by intro y hy; simp at hy; subst hy; rw [hT]; simp) (by simp)
  refine lv_aload_n hx hb dW_init_9 rfl (lv_at hl 0 rfl) ?_
  refine lv_iload_n hx hb dW_init_10 rfl (lv_at hl 2 rfl) ?_
  refine mp_putF hE.1 hI hT1 rfl gx_W ty_W to_W tn_W 1 (by decide) (List.mem_cons_of_mem _ gf_W15) rfl hn rfl rfl rfl (Nat.le_of_ble_eq_true rfl) dW_init_11 (fun H locs hI => ?_)
  obtain ⟨w2, hw2⟩ : ∃ z, mp_up w1 k (.inr (2, [.int (nI fa), .int (nI ff), .null, .int 0, .int 0])) = z := ⟨_, rfl⟩
  have hI : mp_I D cl_all (mp_A w s.heap.size) s.heap w2 H locs := by rw [← hw2]; exact hI
  have hT2 : w2 k = some (.inr (2, [.int (nI fa), .int (nI ff), .null, .int 0, .int 0])) := by rw [← hw2]; exact mp_up_self ..
  have z2 : fz [k] [] w1 w2 := by rw [← hw2]; exact fz.upd (by intro y hy; simp at hy; subst hy; rw [hT1]; simp) (by simp)
  refine lv_aload_n hx hb dW_init_14 rfl (lv_at hl 0 rfl) ?_
  refine lv_sipush (v := nI 150) hx hb dW_init_15 (by decide) ?_
  refine mp_newa (atype := .int) hE.1 hI (List.mem_cons_of_mem _ ga_int) rfl 0 rfl (a0 := (150, .inl (fun _ => 0))) (fun _ => rfl) (nI_pos (by omega)) (nI_clamp (by omega)) (Nat.le_of_ble_eq_true rfl) (Nat.le_of_ble_eq_true rfl) (Nat.le_of_ble_eq_true rfl) dW_init_18 (fun q H hq0 hI => ?_)
  obtain ⟨w3, hw3⟩ : ∃ z, mp_up w2 q (ob_I K 150 (fun _ => 0)) = z := ⟨_, rfl⟩
  have hI : mp_I D cl_all (mp_A w s.heap.size) s.heap w3 H locs := by rw [← hw3]; exact hI
  have htq : k ≠ q := fun z => by rw [z, hq0] at hT2; cases hT2
  have hT3 : w3 k = some (.inr (2, [.int (nI fa), .int (nI ff), .null, .int 0, .int 0])) := by rw [← hw3, mp_up_ne _ _ htq]; exact hT2
  have z3 : fz [k] [q] w2 w3 := by rw [← hw3]; exact fz.one (by intro y hy; simp at hy; subst hy; rw [hT2]; simp) hq0
  refine mp_putF hE.1 hI hT3 rfl gx_W ty_W to_W tn_W 2 (by decide) (List.mem_cons_of_mem _ gf_W18) rfl hn rfl rfl rfl (Nat.le_of_ble_eq_true rfl) dW_init_20 (fun H locs hI => ?_)
  have z4 : fz [k] [] w3 (mp_up w3 k (ob_W fa ff q 0 0)) := fz.upd (by intro y hy; simp at hy; subst hy; rw [hT3]; simp) (by simp)
  have hz := ((z1.tr z2 (fun _ h => Or.inl h)).tr z3 (fun _ h => Or.inl h)).tr z4 (fun _ h => Or.inl h)
  refine ct_vret hE hI hr hk ⟨rfl, q, hz, fun _ => 0, mp_up_self .., ?_, Nat.zero_le _, fun i x h => by simp at h⟩ (by decide) (by decide) dW_init_23
  rw [mp_up_ne _ _ (Ne.symm htq), ← hw3]
  exact mp_up_self ..
end KC1
