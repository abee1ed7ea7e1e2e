/-! Term: becomeFree, takes, add -/
theorem ct_nw {p : Program} {m : MethodId} {c : Code} {cc : ByteArray} {nL : Nat} {s : State} {args : Array Value} {c0 : Cond} {own : String} {D : va_G} {K : Nat → ClassId} {n0 : Nat} {w0 : mp_W} {A : Nat → Prop} (hE : ct_E p m c cc nL s args c0 own D K n0 w0 A) {q : String × Nat × String × String × String} (hq : q ∈ ct_fl) : va_Nw (.fieldLinkNest q.1 q.2.1 q.2.2.1 q.2.2.2.1 q.2.2.2.2 "BindingBench") s := hE.2.1.2.2.1.1 q hq
theorem pt_h.snoc {f : Nat → Int32} {L : List Int} (h : pt_h f L) (z : Int) : pt_h (upd f L.length (ci_i z)) (L ++ [z]) := by
  intro i x hx
  by_cases hi : i = L.length
  · subst hi
    have : z = x := by simpa using hx
    rw [pk_us, this]
  · rw [pk_un hi]
    refine h i x ?_
    have hl := (List.getElem?_eq_some_iff.mp hx).1
    rw [List.length_append, List.length_cons, List.length_nil] at hl
    rw [List.getElem?_append_left (by omega)] at hx
    exact hx
theorem pt_ne {w : mp_W} {a b : Nat} {x y : va_E} (ha : w a = some x) (hb : w b = some y) (h : x ≠ y) : a ≠ b := fun e => h (by rw [e, hb] at ha; exact (Option.some.inj ha).symm)
theorem pt_io {o : Nat × List Value} {z : ClassId × vp_A} : (Sum.inr o : va_E) ≠ Sum.inl z := fun h => by cases h
theorem pt_oi {o : Nat × List Value} {z : ClassId × vp_A} : (Sum.inl z : va_E) ≠ Sum.inr o := fun h => by cases h
section KT2
variable {l : Launch} {n0 : Nat} {D : va_G} {K : Nat → ClassId} {w : mp_W}
set_option maxRecDepth 100000 in
theorem kT_becomeFree {t ar cap : Nat} {n x : Int32} {f : Nat → Int32} (hT : w t = some (ob_T ar n)) (hA : w ar = some (ob_I K cap f)) (hc : 0 < cap) (hc2 : cap < 2147483648) : ct_M l n0 D K yT_becomeFree (Cond.code yT_becomeFree cT_becomeFree 2 none) 0 0 0 0 [.ref t, .int x] w (fun v w' => v = none ∧ w' = mp_up (mp_up w ar (ob_I K cap (upd f 0 x))) t (ob_T ar 1)) := by
  refine ct_go (own := nm_T) (by decide) rfl (Nat.le_of_ble_eq_true rfl) ?_
  intro p e s m below meth c ls hE hI hr hk hn hl
  have hx := hE.1.1.1
  have hb := hE.1.1.2.1
  have hl : lv_has ls 2 [(0, .ref t), (1, .int x)] := hl
  refine lv_aload_n hx hb dT_becomeFree_0 rfl (lv_at hl 0 rfl) ?_
  refine mp_get hE.1 hI hT rfl gx_T 0 (by decide) (List.mem_cons_of_mem _ gf_T9) rfl dT_becomeFree_1 ?_
  refine lv_iconst (v := 0) hx hb dT_becomeFree_4 (by decide) ?_
  refine lv_iload_n hx hb dT_becomeFree_5 rfl (lv_at hl 1 rfl) ?_
  refine mp_ist hE.1 hI hA 0 rfl (by have := ci_in hc hc2; exact this) dT_becomeFree_6 (fun H locs hI => ?_)
  have hT1 : mp_up w ar (ob_I K cap (upd f (0 : Int32).toNatClampNeg x)) t = some (ob_T ar n) := by rw [mp_up_ne _ _ (pt_ne hT hA pt_io)]; exact hT
  refine lv_aload_n hx hb dT_becomeFree_7 rfl (lv_at hl 0 rfl) ?_
  refine lv_iconst (v := 1) hx hb dT_becomeFree_8 (by decide) ?_
  refine mp_put hE.1 hI hT1 rfl gx_T ty_T to_T tn_T 1 (by decide) (List.mem_cons_of_mem _ gf_T15) rfl rfl rfl (Nat.le_of_ble_eq_true rfl) dT_becomeFree_9 (fun H locs hI => ?_)
  exact ct_vret hE hI hr hk ⟨rfl, rfl⟩ (by decide) (by decide) dT_becomeFree_12
set_option maxRecDepth 100000 in
theorem kT_takes {t ar cap : Nat} {n x : Int32} {f : Nat → Int32} (hT : w t = some (ob_T ar n)) (hA : w ar = some (ob_I K cap f)) : ct_M l n0 D K yT_takes (Cond.code yT_takes cT_takes 2 (some .boolean)) 0 0 0 0 [.ref t, .int x] w (fun v w' => v = some (.int (if nI cap - n < x then 0 else 1)) ∧ w' = w) := by
  refine ct_go (own := nm_T) (by decide) rfl (Nat.le_of_ble_eq_true rfl) ?_
  intro p e s m below meth c ls hE hI hr hk hn hl
  have hx := hE.1.1.1
  have hb := hE.1.1.2.1
  have hl : lv_has ls 2 [(0, .ref t), (1, .int x)] := hl
  refine lv_iload_n hx hb dT_takes_0 rfl (lv_at hl 1 rfl) ?_
  refine lv_aload_n hx hb dT_takes_1 rfl (lv_at hl 0 rfl) ?_
  refine mp_get hE.1 hI hT rfl gx_T 0 (by decide) (List.mem_cons_of_mem _ gf_T9) rfl dT_takes_2 ?_
  refine mp_len (v := nI cap) hE.1 hI hA 0 rfl rfl dT_takes_5 ?_
  refine lv_aload_n hx hb dT_takes_6 rfl (lv_at hl 0 rfl) ?_
  refine mp_get hE.1 hI hT rfl gx_T 1 (by decide) (List.mem_cons_of_mem _ gf_T15) rfl dT_takes_7 ?_
  refine lv_isub hx hb dT_takes_10 ?_
  refine lv_icmp_gt (tgt := 18) hx hb dT_takes_11 (by decide) (fun hc => ?_) (fun hc => ?_)
  · refine lv_iconst (v := 0) hx hb dT_takes_18 (by decide) ?_
    exact ct_zret hE hI hr hk (Or.inl rfl) ⟨by rw [if_pos hc], rfl⟩ (by decide) (by decide) dT_takes_19
  · refine lv_iconst (v := 1) hx hb dT_takes_14 (by decide) ?_
    refine lv_goto (tgt := 19) hx hb dT_takes_15 (by decide) ?_
    exact ct_zret hE hI hr hk (Or.inr rfl) ⟨by rw [if_neg hc], rfl⟩ (by decide) (by decide) dT_takes_19
set_option maxRecDepth 100000 in
theorem kT_add {t ar cap : Nat} {L : List Int} {z : Int} (hp : pt_T K w t ar cap L) (hc2 : cap < 2147483648) (hL : L.length < 2147483647) : ct_M l n0 D K yT_add (Cond.code yT_add cT_add 2 none) 0 0 0 0 [.ref t, .int (ci_i z)] w (fun v w' => v = none ∧ mp_off [t, ar] w w' ∧ pt_T K w' t ar cap (L ++ [z])) := by
  obtain ⟨f, hT, hA, hf⟩ := hp
  refine ct_go (own := nm_T) (by decide) rfl (Nat.le_of_ble_eq_true rfl) ?_
  intro p e s m below meth c ls hE hI hr hk hn hl
  have hx := hE.1.1.1
  have hb := hE.1.1.2.1
  have hl : lv_has ls 2 [(0, .ref t), (1, .int (ci_i z))] := hl
  have hne : t ≠ ar := pt_ne hT hA pt_io
  refine lv_aload_n hx hb dT_add_0 rfl (lv_at hl 0 rfl) ?_
  refine mp_get hE.1 hI hT rfl gx_T 1 (by decide) (List.mem_cons_of_mem _ gf_T15) rfl dT_add_1 ?_
  refine lv_aload_n hx hb dT_add_4 rfl (lv_at hl 0 rfl) ?_
  refine mp_get hE.1 hI hT rfl gx_T 0 (by decide) (List.mem_cons_of_mem _ gf_T9) rfl dT_add_5 ?_
  refine mp_len (v := nI cap) hE.1 hI hA 0 rfl rfl dT_add_8 ?_
  refine lv_icmp_ge (tgt := 22) hx hb dT_add_9 (by decide) (fun hc => ?_) (fun hc => ?_)
  · have hLc : cap ≤ L.length := (nI_leI hc2 (by omega)).mp hc
    refine lv_aload_n hx hb dT_add_22 rfl (lv_at hl 0 rfl) ?_
    refine lv_dup hx hb dT_add_23 rfl ?_
    refine mp_get hE.1 hI hT rfl gx_T 1 (by decide) (List.mem_cons_of_mem _ gf_T15) rfl dT_add_24 ?_
    refine lv_iconst (v := 1) hx hb dT_add_27 (by decide) ?_
    refine lv_iadd hx hb dT_add_28 ?_
    refine mp_put hE.1 hI hT rfl gx_T ty_T to_T tn_T 1 (by decide) (List.mem_cons_of_mem _ gf_T15) rfl rfl rfl (Nat.le_of_ble_eq_true rfl) dT_add_29 (fun H locs hI => ?_)
    refine ct_vret hE hI hr hk ⟨rfl, (mp_off.rf _ _).up (by simp) _, f, ?_, ?_, fun h => ?_⟩ (by decide) (by decide) dT_add_32
    · rw [mp_up_self, List.length_append, List.length_cons, List.length_nil, ← nI_1]
      rfl
    · rw [mp_up_ne _ _ (Ne.symm hne)]; exact hA
    · rw [List.length_append, List.length_cons, List.length_nil] at h; omega
  · have hLc : L.length < cap := Nat.lt_of_not_le (fun h => hc (nI_le h (by omega)))
    refine lv_aload_n hx hb dT_add_12 rfl (lv_at hl 0 rfl) ?_
    refine mp_get hE.1 hI hT rfl gx_T 0 (by decide) (List.mem_cons_of_mem _ gf_T9) rfl dT_add_13 ?_
    refine lv_aload_n hx hb dT_add_16 rfl (lv_at hl 0 rfl) ?_
    refine mp_get hE.1 hI hT rfl gx_T 1 (by decide) (List.mem_cons_of_mem _ gf_T15) rfl dT_add_17 ?_
    refine lv_iload_n hx hb dT_add_20 rfl (lv_at hl 1 rfl) ?_
    refine mp_ist hE.1 hI hA 0 rfl (vp_in_nI hLc (by omega)) dT_add_21 (fun H locs hI => ?_)
    rw [nI_clamp (show L.length < 2 ^ 31 by omega)] at hI
    have hT1 : mp_up w ar (ob_I K cap (upd f L.length (ci_i z))) t = some (ob_T ar (nI L.length)) := by rw [mp_up_ne _ _ hne]; exact hT
    refine lv_aload_n hx hb dT_add_22 rfl (lv_at hl 0 rfl) ?_
    refine lv_dup hx hb dT_add_23 rfl ?_
    refine mp_get hE.1 hI hT1 rfl gx_T 1 (by decide) (List.mem_cons_of_mem _ gf_T15) rfl dT_add_24 ?_
    refine lv_iconst (v := 1) hx hb dT_add_27 (by decide) ?_
    refine lv_iadd hx hb dT_add_28 ?_
    refine mp_put hE.1 hI hT1 rfl gx_T ty_T to_T tn_T 1 (by decide) (List.mem_cons_of_mem _ gf_T15) rfl rfl rfl (Nat.le_of_ble_eq_true rfl) dT_add_29 (fun H locs hI => ?_)
    refine ct_vret hE hI hr hk ⟨rfl, ((mp_off.rf _ _).up (by simp) _).up (by simp) _, upd f L.length (ci_i z), ?_, ?_, fun h => ?_⟩ (by decide) (by decide) dT_add_32
    · rw [mp_up_self, List.length_append, List.length_cons, List.length_nil, ← nI_1]
      rfl
    · rw [mp_up_ne _ _ (Ne.symm hne), mp_up_self]
    · exact (hf (by omega)).snoc z
end KT2
