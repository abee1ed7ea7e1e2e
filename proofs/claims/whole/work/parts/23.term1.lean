/-! pictures: a Term of the row L, a Walk -/
def mp_off (S : List Nat) (w w' : mp_W) : Prop := ∀ q, q ∉ S → w' q = w q
theorem mp_off.rf (S : List Nat) (w : mp_W) : mp_off S w w := fun _ _ => rfl
theorem mp_off.up {S : List Nat} {w w' : mp_W} (h : mp_off S w w') {a : Nat} (ha : a ∈ S) (x : va_E) : mp_off S w (mp_up w' a x) := fun q hq => by
  rw [mp_up_ne _ _ (fun z => hq (by rw [z]; exact ha))]
  exact h q hq
theorem mp_off.tr {S : List Nat} {w w1 w2 : mp_W} (h : mp_off S w w1) (h2 : mp_off S w1 w2) : mp_off S w w2 := fun q hq => (h2 q hq).trans (h q hq)
theorem mp_off.mono {S S' : List Nat} {w w1 : mp_W} (h : mp_off S w w1) (hs : ∀ q ∈ S, q ∈ S') : mp_off S' w w1 := fun q hq => h q (fun z => hq (hs q z))
theorem gx_T {c0 : Cond} : ∀ x ∈ u_ws nm_T tf_T 2, x ∈ c0 :: gw_l := fun x h => List.mem_cons_of_mem _ (gu_T x h)
theorem gx_W {c0 : Cond} : ∀ x ∈ u_ws nm_W tf_W 5, x ∈ c0 :: gw_l := fun x h => List.mem_cons_of_mem _ (gu_W x h)
theorem gx_X {c0 : Cond} : ∀ x ∈ u_ws nm_X tf_X 3, x ∈ c0 :: gw_l := fun x h => List.mem_cons_of_mem _ (gu_X x h)
theorem gx_S {c0 : Cond} : ∀ x ∈ u_ws nm_S tf_S 5, x ∈ c0 :: gw_l := fun x h => List.mem_cons_of_mem _ (gu_S x h)
theorem gx_B {c0 : Cond} : ∀ x ∈ u_ws nm_B tf_B 3, x ∈ c0 :: gw_l := fun x h => List.mem_cons_of_mem _ (gu_B x h)
theorem gx_M {c0 : Cond} : ∀ x ∈ u_ws nm_M tf_M 15, x ∈ c0 :: gw_l := fun x h => List.mem_cons_of_mem _ (gu_M x h)
abbrev ob_T (ar : Nat) (n : Int32) : va_E := .inr (0, [.ref ar, .int n])
abbrev ob_I (K : Nat → ClassId) (cap : Nat) (f : Nat → Int32) : va_E := .inl (K 0, cap, .inl f)
/-- the array's first places hold the row -/
def pt_h (f : Nat → Int32) (L : List Int) : Prop := ∀ (i : Nat) (x : Int), L[i]? = some x → f i = ci_i x
def pt_T (K : Nat → ClassId) (w : mp_W) (t ar cap : Nat) (L : List Int) : Prop := ∃ f, w t = some (ob_T ar (nI L.length)) ∧ w ar = some (ob_I K cap f) ∧ (L.length ≤ cap → pt_h f L)
section KT
variable {l : Launch} {n0 : Nat} {D : va_G} {K : Nat → ClassId} {w : mp_W}
set_option maxRecDepth 100000 in
theorem kT_clear {t ar : Nat} {n : Int32} (hT : w t = some (ob_T ar n)) : ct_M l n0 D K yT_clear (Cond.code yT_clear cT_clear 1 none) 0 0 0 0 [.ref t] w (fun v w' => v = none ∧ w' = mp_up w t (ob_T ar 0)) := by
  refine ct_go (own := nm_T) (by decide) rfl (Nat.le_of_ble_eq_true rfl) ?_
  intro p e s m below meth c ls hE hI hr hk hn hl
  have hl : lv_has ls 1 [(0, .ref t)] := hl
  have hx := hE.1.1.1
  have hb := hE.1.1.2.1
  refine lv_aload_n hx hb dT_clear_0 rfl (lv_at hl 0 rfl) ?_
  refine lv_iconst (v := 0) hx hb dT_clear_1 (by decide) ?_
  refine mp_put hE.1 hI hT rfl gx_T ty_T to_T tn_T 1 (by decide) (List.mem_cons_of_mem _ gf_T15) rfl rfl rfl (Nat.le_of_ble_eq_true rfl) dT_clear_2 (fun H locs hI => ?_)
  exact ct_vret hE hI hr hk ⟨rfl, rfl⟩ (by decide) (by decide) dT_clear_5
set_option maxRecDepth 100000 in
theorem kT_first {t ar cap : Nat} {n : Int32} {f : Nat → Int32} (hT : w t = some (ob_T ar n)) (hA : w ar = some (ob_I K cap f)) (hc : 0 < cap) (hc2 : cap < 2147483648) : ct_M l n0 D K yT_first (Cond.code yT_first cT_first 1 (some .int)) 0 0 0 0 [.ref t] w (fun v w' => v = some (.int (f 0)) ∧ w' = w) := by
  refine ct_go (own := nm_T) (by decide) rfl (Nat.le_of_ble_eq_true rfl) ?_
  intro p e s m below meth c ls hE hI hr hk hn hl
  have hl : lv_has ls 1 [(0, .ref t)] := hl
  have hx := hE.1.1.1
  have hb := hE.1.1.2.1
  refine lv_aload_n hx hb dT_first_0 rfl (lv_at hl 0 rfl) ?_
  refine mp_get hE.1 hI hT rfl gx_T 0 (by decide) (List.mem_cons_of_mem _ gf_T9) rfl dT_first_1 ?_
  refine lv_iconst (v := 0) hx hb dT_first_4 (by decide) ?_
  refine mp_ild hE.1 hI hA 0 rfl (by have := ci_in hc hc2; exact this) dT_first_5 ?_
  exact ct_iret hE hI hr hk ⟨rfl, rfl⟩ (by decide) (by decide) dT_first_6
end KT
