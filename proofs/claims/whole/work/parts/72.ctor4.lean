/-! the reference's constructor: the array of registers, Arrays.fill -/
theorem va_D.add {A : Nat → Prop} {ws : va_W} {a : Nat} {e : va_E} (hD : va_D A ws) (hf : ∀ (k : Nat) (q : Nat × va_E), ws[k]? = some q → q.1 ≠ a) (hA : A a) : va_D A (ws ++ [(a, e)]) := by
  have key : ∀ (k : Nat) (q : Nat × va_E), (ws ++ [(a, e)])[k]? = some q → ws[k]? = some q ∨ (k = ws.length ∧ q = (a, e)) := by
    intro k q hk
    by_cases hl : k < ws.length
    · rw [List.getElem?_append_left hl] at hk
      exact Or.inl hk
    · rw [List.getElem?_append_right (by omega)] at hk
      have hz : k - ws.length < 1 := (List.getElem?_eq_some_iff.mp hk).1
      have hk0 : k = ws.length := by omega
      subst hk0
      rw [Nat.sub_self] at hk
      exact Or.inr ⟨rfl, (Option.some.inj hk).symm⟩
  refine ⟨fun i j p q hi hj hpq => ?_, fun k q hk => ?_⟩
  · rcases key i p hi with h1 | ⟨h1, rfl⟩
    · rcases key j q hj with h2 | ⟨h2, rfl⟩
      · exact hD.1 i j p q h1 h2 hpq
      · exact absurd hpq (hf i p h1)
    · rcases key j q hj with h2 | ⟨h2, rfl⟩
      · exact absurd hpq.symm (hf j q h2)
      · omega
  · rcases key k q hk with h1 | ⟨_, rfl⟩
    · exact hD.2 k q h1
    · exact hA
theorem cell_ext {x : Cell} {a : ClassId} {b : Array Value} (h1 : x.cls = a) (h2 : x.slots = b) (h3 : x.vm = .none) (h4 : x.monitor = {}) (h5 : x.hash = none) : x = { cls := a, slots := b, vm := .none } := by
  obtain ⟨_, _, _, _, _⟩ := x
  simp only at h1 h2 h3 h4 h5
  subst h1; subst h2; subst h3; subst h4; subst h5
  rfl
theorem outerC_arrV (cA : ClassId) (N h0 : Nat) : Jvm.Free.Multi.outerC cA N h0 N = arrV cA N (fun j => .ref (h0 + 1 + j)) := by
  obtain ⟨o1, o2, o3⟩ := Jvm.Free.Multi.outerC_facts cA N h0 N
  obtain ⟨o4, o5⟩ := Jvm.Free.Multi.outerC_plain cA N h0 N
  refine cell_ext o1 ?_ o2 o4 o5
  apply Array.ext_getElem?
  intro j
  by_cases hj : j < N
  · rw [Jvm.Free.Multi.outerC_slot cA N h0 N j hj, if_pos hj]
    have := arrV_read cA (fun j => Value.ref (h0 + 1 + j)) hj
    exact this.symm
  · rw [Array.getElem?_eq_none (by omega), Array.getElem?_eq_none (by simp; omega)]
section WMNA
variable {p : Program} {l : Launch} {e : Env} {R : Room} {s : State} {m : MethodId} {args : Array Value} {below : List Frame} {meth : Method} {c : Code} {H : Heap} {locs : List Loc} {cells slots : Nat} {Q : State → Prop} {cc : ByteArray} {nL pc : Nat} {own : String} {ls : Array Slot} {rest : List Value}
theorem W_mna (hexec : p.tables.exec = Jvm.exec) (hb : c.code = cc) {index : Nat} (hown : s.vm.findClass own = some m.cls) (hclink : (Cond.classLink own index "[[I").before args s = true) (hover : (Cond.arrayOver (.array .int)).before args s = true) (harr : (Cond.arrayClass .int).before args s = true) (hdg : decode cc pc = .ok (.multianewarray index 2, 4))
    {n k : Int32} {N M : Nat} (hn0 : ¬ n < 0) (hk0 : ¬ k < 0) (hN : n.toNatClampNeg = N) (hM : k.toNatClampNeg = M) (hb1 : N * 4 ≤ 536870912) (hb2 : M * 4 ≤ 536870912) (hcells : cells + (1 + N) ≤ R.cells) (hslots : slots + (N + N * M) ≤ R.slots)
    (kk : ∀ (H1 : Heap) (cA comp : ClassId), H1.size = H.size + 1 + N → (∀ q, q < H.size → H1[q]? = H[q]?) → H1[H.size]? = some (arrV cA N (fun j => .ref (H.size + 1 + j))) → (∀ j, j < N → H1[H.size + 1 + j]? = some (arrV comp M (fun _ => .int 0))) → s.vm.findClass "[[I" = some cA → s.vm.findClass "[I" = some comp →
      W p l e R s m args below meth c H1 locs (cells + 1 + N) (slots + N + N * M) Q (F0 m (pc + 4) ls (.ref H.size :: rest))) : W p l e R s m args below meth c H locs cells slots Q (F0 m pc ls (.int k :: .int n :: rest)) := by
  intro T hT X
  subst hT; subst hb; subst hN; subst hM
  obtain ⟨vm₁, cA, comp, hW, hfA, hfC, -, -, X1, step⟩ := X.multianewarray2F hexec (ty := .int) hown hclink hover harr (g := F0 m pc ls (.int k :: .int n :: rest)) rfl hdg rfl hn0 hk0 hb1 hb2 (by omega) rfl rfl hcells hslots
  obtain ⟨f1, f2, f3, f4⟩ := Jvm.Free.Multi.fill_facts (T.setVm vm₁) cA comp n.toNatClampNeg k.toNatClampNeg (defaultValue .int) n.toNatClampNeg
  rw [outerC_arrV] at f2
  obtain ⟨t, a1, b1⟩ := kk _ cA comp f1 (fun q hq => Jvm.Free.Multi.fill_old (T.setVm vm₁) cA comp _ _ _ hq _) f2 (fun j hj => by
    rw [← arrV_new]
    exact Jvm.Free.Multi.fill_inner (T.setVm vm₁) cA comp _ _ _ _ j hj) hfA hfC _ rfl X1
  exact ⟨t, step t a1, b1⟩
end WMNA
def mna (cA cI : ClassId) (N M : Nat) (w : mp_W) (a j : Nat) : mp_W := fun q => if q = a then some (.inl (cA, N, .inr (.inr (.inr (.inr (fun i => some (a + 1 + i))))))) else if a < q ∧ q < a + 1 + j then some (.inl (cI, M, .inl (fun _ => 0))) else w q
theorem mna_0 (cA cI : ClassId) (N M : Nat) (w : mp_W) (a : Nat) : mna cA cI N M w a 0 = mp_up w a (.inl (cA, N, .inr (.inr (.inr (.inr (fun i => some (a + 1 + i))))))) := by
  funext q
  unfold mna
  by_cases h : q = a
  · rw [if_pos h, h, mp_up_self]
  · rw [if_neg h, mp_up_ne _ _ h, if_neg (by omega)]
theorem mna_s (cA cI : ClassId) (N M : Nat) (w : mp_W) (a j : Nat) : mna cA cI N M w a (j + 1) = mp_up (mna cA cI N M w a j) (a + 1 + j) (.inl (cI, M, .inl (fun _ => 0))) := by
  funext q
  by_cases h : q = a + 1 + j
  · rw [h, mp_up_self]
    unfold mna
    rw [if_neg (by omega), if_pos (by omega)]
  · rw [mp_up_ne _ _ h]
    unfold mna
    by_cases h2 : q = a
    · rw [if_pos h2, if_pos h2]
    · rw [if_neg h2, if_neg h2]
      by_cases h3 : a < q ∧ q < a + 1 + j
      · rw [if_pos (by omega), if_pos h3]
      · rw [if_neg (by omega), if_neg h3]
section MPM
variable {p : Program} {l : Launch} {e : Env} {R : Room} {s : State} {m : MethodId} {args : Array Value} {below : List Frame} {meth : Method} {c : Code} {H : Heap} {locs : List Loc} {cells slots : Nat} {Q : State → Prop}
variable {D : va_G} {cl : List vw_C} {tys : List (ClassId × FieldType)} {A : Nat → Prop} {H0 : Heap} {w : mp_W} {cc : ByteArray} {nL pc : Nat} {Ts : List Cond} {own : String} {ls : Array Slot} {rest : List Value}
theorem mp_mna (hX : mp_X p m c cc nL s args Ts own D cl tys) (hI : mp_I D cl A H0 w H locs) {index : Nat} (hclink : Cond.classLink own index "[[I" ∈ Ts) (hover : (Cond.arrayOver (.array .int)).before args s = true) (harr : Cond.arrayClass .int ∈ Ts) {cA cI : ClassId} (t0 t1 : Nat) (ht0 : tys[t0]? = some (cI, .int)) (ht1 : tys[t1]? = some (cA, .array .int))
    {n k : Int32} {N M : Nat} (hn0 : ¬ n < 0) (hk0 : ¬ k < 0) (hN : n.toNatClampNeg = N) (hM : k.toNatClampNeg = M) (hb1 : N * 4 ≤ 536870912) (hb2 : M * 4 ≤ 536870912) (hcells : cells + (1 + N) ≤ R.cells) (hslots : slots + (N + N * M) ≤ R.slots) (hdg : decode cc pc = .ok (.multianewarray index 2, 4))
    (kk : ∀ (a : Nat) (H1 : Heap), (∀ q, a ≤ q → w q = none) → mp_I D cl A H0 (mna cA cI N M w a N) H1 locs → W p l e R s m args below meth c H1 locs (cells + 1 + N) (slots + N + N * M) Q (F0 m (pc + 4) ls (.ref a :: rest))) : W p l e R s m args below meth c H locs cells slots Q (F0 m pc ls (.int k :: .int n :: rest)) := by
  obtain ⟨⟨hx, hb, -, hown, hts⟩, hK⟩ := hX
  obtain ⟨⟨ws, hP, hD, hcv⟩, hS, hA⟩ := hI
  refine W_mna hx hb hown (hts _ hclink) hover (hts _ harr) hdg hn0 hk0 hN hM hb1 hb2 hcells hslots (fun H1 c1 c2 z1 o1 e1 e2 f1 f2 => ?_)
  have h1 : c1 = cA := Option.some.inj (f1.symm.trans (show s.vm.findClass _ = some cA from (hK.2 t1 _ ht1).2))
  have h2 : c2 = cI := Option.some.inj (f2.symm.trans (show s.vm.findClass _ = some cI from (hK.2 t0 _ ht0).2))
  subst h1
  subst h2
  have hk : ∀ (k : Nat) (x : Nat × va_E), ws[k]? = some x → H1[x.1]? = H[x.1]? := fun k x hx => o1 x.1 ((hP k x hx).lt)
  have hnone : ∀ q, H.size ≤ q → w q = none := by
    intro q hq
    cases hw : w q with
    | none => rfl
    | some z =>
      obtain ⟨i, hi⟩ := hcv.at hw
      have hlt : q < H.size := (hP i _ hi).lt
      omega
  have hD1 := hD.push (e := .inl (c1, N, .inr (.inr (.inr (.inr (fun i => some (H.size + 1 + i))))))) hP rfl (hA _ hS.1)
  have base : ∀ j, j ≤ N → ∃ ws', va_P D cl ws' H1 ∧ va_D A ws' ∧ mp_cov (mna c1 c2 N M w H.size j) ws' ∧ ∀ (k : Nat) (x : Nat × va_E), ws'[k]? = some x → x.1 < H.size + 1 + j := by
    intro j
    induction j with
    | zero =>
      intro _
      refine ⟨ws ++ [(H.size, .inl (c1, N, .inr (.inr (.inr (.inr (fun i => some (H.size + 1 + i)))))))], (hP.kept hk).app (fun k x hx => ?_), hD1, by rw [mna_0]; exact (hcv.push hD1).1, fun k x hx => ?_⟩
      · have hz : k < 1 := (List.getElem?_eq_some_iff.mp hx).1
        rw [show k = 0 by omega] at hx
        cases hx
        show H1[H.size]? = some (vp_cell _ _)
        rw [vp_cell_q]
        exact e1
      · rcases List.mem_append.mp (List.mem_of_getElem? hx) with hm | hm
        · obtain ⟨i, hi⟩ := List.getElem?_of_mem hm
          have := (hP i _ hi).lt
          omega
        · rw [List.mem_singleton.mp hm]
          omega
    | succ j ih =>
      intro hj
      obtain ⟨ws', i1, i2, i3, i4⟩ := ih (by omega)
      have hD2 := i2.add (a := H.size + 1 + j) (e := .inl (c2, M, .inl (fun _ => 0))) (fun k x hx => by have := i4 k x hx; omega) (hA _ (by have := hS.1; omega))
      refine ⟨ws' ++ [(H.size + 1 + j, .inl (c2, M, .inl (fun _ => 0)))], i1.app (fun k x hx => ?_), hD2, by rw [mna_s]; exact (i3.push hD2).1, fun k x hx => ?_⟩
      · have hz : k < 1 := (List.getElem?_eq_some_iff.mp hx).1
        rw [show k = 0 by omega] at hx
        cases hx
        exact e2 j (by omega)
      · rcases List.mem_append.mp (List.mem_of_getElem? hx) with hm | hm
        · obtain ⟨i, hi⟩ := List.getElem?_of_mem hm
          have := i4 i _ hi
          omega
        · rw [List.mem_singleton.mp hm]
          show H.size + 1 + j < _
          omega
  obtain ⟨ws', i1, i2, i3, -⟩ := base N (Nat.le_refl _)
  exact kk H.size H1 hnone ⟨⟨ws', i1, i2, i3⟩, ⟨by have := hS.1; omega, fun x h1 h2 => (o1 x (Nat.lt_of_lt_of_le h1 hS.1)).trans (hS.2.1 x h1 h2), hS.2.2⟩, hA⟩
end MPM
theorem dJ_fill_0 : decode cJ_fill 0 = .ok (.iconst 0, 1) := by decide +kernel
theorem dJ_fill_1 : decode cJ_fill 1 = .ok (.istore_n 2, 1) := by decide +kernel
theorem dJ_fill_2 : decode cJ_fill 2 = .ok (.aload_n 0, 1) := by decide +kernel
theorem dJ_fill_3 : decode cJ_fill 3 = .ok (.arraylength, 1) := by decide +kernel
theorem dJ_fill_4 : decode cJ_fill 4 = .ok (.istore_n 3, 1) := by decide +kernel
theorem dJ_fill_5 : decode cJ_fill 5 = .ok (.iload_n 2, 1) := by decide +kernel
theorem dJ_fill_6 : decode cJ_fill 6 = .ok (.iload_n 3, 1) := by decide +kernel
theorem dJ_fill_7 : decode cJ_fill 7 = .ok (.if_icmp .ge 13, 3) := by decide +kernel
theorem dJ_fill_10 : decode cJ_fill 10 = .ok (.aload_n 0, 1) := by decide +kernel
theorem dJ_fill_11 : decode cJ_fill 11 = .ok (.iload_n 2, 1) := by decide +kernel
theorem dJ_fill_12 : decode cJ_fill 12 = .ok (.iload_n 1, 1) := by decide +kernel
theorem dJ_fill_13 : decode cJ_fill 13 = .ok (.iastore, 1) := by decide +kernel
theorem dJ_fill_14 : decode cJ_fill 14 = .ok (.iinc 2 1, 3) := by decide +kernel
theorem dJ_fill_17 : decode cJ_fill 17 = .ok (.goto (-12), 3) := by decide +kernel
theorem dJ_fill_20 : decode cJ_fill 20 = .ok (.return_, 1) := by decide +kernel
theorem mp_up_up (w : mp_W) (a : Nat) (x y : va_E) : mp_up (mp_up w a x) a y = mp_up w a y := by
  funext q
  by_cases h : q = a
  · rw [h, mp_up_self, mp_up_self]
  · rw [mp_up_ne _ _ h, mp_up_ne _ _ h, mp_up_ne _ _ h]
theorem mp_up_id {w : mp_W} {a : Nat} {x : va_E} (h : w a = some x) : mp_up w a x = w := by
  funext q
  by_cases hq : q = a
  · rw [hq, mp_up_self, h]
  · rw [mp_up_ne _ _ hq]
section KJF
variable {l : Launch} {n0 : Nat} {D : va_G} {K : Nat → ClassId} {w : mp_W}
set_option maxRecDepth 100000 in
theorem kJ_fill {a N : Nat} {g : Nat → Int32} {x0 : Int32} (ha : w a = some (ob_I K N g)) (hN : N < 1000000) : ct_M l n0 D K yJ_fill (Cond.code yJ_fill cJ_fill 4 none) 0 0 0 0 [.ref a, .int x0] w (fun v w' => v = none ∧ ∃ g', w' = mp_up w a (ob_I K N g') ∧ ∀ i, i < N → g' i = x0) := by
  refine ct_go (own := "java/util/Arrays") (by decide) rfl (Nat.le_of_ble_eq_true rfl) ?_
  intro p e s m below meth c ls hE hI hr hk hn hl
  have hx := hE.1.1.1
  have hb := hE.1.1.2.1
  have hl : lv_has ls 4 [(0, .ref a), (1, .int x0)] := hl
  refine lv_iconst (v := nI 0) hx hb dJ_fill_0 (by decide) ?_
  refine lv_istore_n hx hb dJ_fill_1 rfl hl (by decide) rfl (fun ls hl => ?_)
  refine lv_aload_n hx hb dJ_fill_2 rfl (lv_at hl 1 rfl) ?_
  refine mp_len (v := nI N) hE.1 hI ha 0 rfl rfl dJ_fill_3 ?_
  refine lv_istore_n hx hb dJ_fill_4 rfl hl (by decide) rfl (fun ls hl => ?_)
  have loop : ∀ (q i : Nat) (g1 : Nat → Int32) (H : Heap) (locs : List Loc) (ls : Array Slot), i + q = N → (∀ j, j < i → g1 j = x0) → mp_I D cl_all (mp_A w s.heap.size) s.heap (mp_up w a (ob_I K N g1)) H locs → lv_has ls 4 [(2, .int (nI i)), (3, .int (nI N)), (0, .ref a), (1, .int x0)] →
      W p l e { frames := 0, cells := 0, slots := 0, locals := 0 } s m ([Value.ref a, .int x0] : List Value).toArray below meth c H locs 0 0 (MQ below (ct_Q D w s.heap.size (fun v w' => v = none ∧ ∃ g', w' = mp_up w a (ob_I K N g') ∧ ∀ i, i < N → g' i = x0)) ([Value.ref a, .int x0] : List Value).toArray s 0 0 (mp_A w s.heap.size)) (F0 m 5 ls []) := by
    intro q
    induction q with
    | zero =>
      intro i g1 H locs ls hiq hg hI hl
      have hi : i = N := by omega
      subst hi
      refine lv_iload_n hx hb dJ_fill_5 rfl (lv_at hl 0 rfl) ?_
      refine lv_iload_n hx hb dJ_fill_6 rfl (lv_at hl 1 rfl) ?_
      refine lv_icmp_ge (tgt := 20) hx hb dJ_fill_7 (by decide) (fun hq => ?_) (fun hq => ?_)
      · exact ct_vret hE hI hr hk ⟨rfl, g1, rfl, hg⟩ (by decide) (by decide) dJ_fill_20
      · exact absurd (nI_le (Nat.le_refl _) (by omega)) hq
    | succ q ih =>
      intro i g1 H locs ls hiq hg hI hl
      refine lv_iload_n hx hb dJ_fill_5 rfl (lv_at hl 0 rfl) ?_
      refine lv_iload_n hx hb dJ_fill_6 rfl (lv_at hl 1 rfl) ?_
      refine lv_icmp_ge (tgt := 20) hx hb dJ_fill_7 (by decide) (fun hq => ?_) (fun hq => ?_)
      · exact absurd ((nI_leI (by omega) (by omega)).mp hq) (by omega)
      · refine lv_aload_n hx hb dJ_fill_10 rfl (lv_at hl 2 rfl) ?_
        refine lv_iload_n hx hb dJ_fill_11 rfl (lv_at hl 0 rfl) ?_
        refine lv_iload_n hx hb dJ_fill_12 rfl (lv_at hl 3 rfl) ?_
        refine mp_ist hE.1 hI (mp_up_self w a (ob_I K N g1)) 0 rfl (vp_in_nI (by omega) (by omega)) dJ_fill_13 (fun H locs hI => ?_)
        rw [nI_clamp (by omega), mp_up_up] at hI
        refine lv_iinc (k := 0) (v := nI (i + 1)) hx hb dJ_fill_14 hl rfl (nI_1 i) (by decide) rfl (fun ls hl => ?_)
        refine lv_goto (tgt := 5) hx hb dJ_fill_17 (by decide) ?_
        refine ih (i + 1) (upd g1 i x0) _ _ ls (by omega) (fun j hj => ?_) hI hl
        show (if j = i then x0 else g1 j) = x0
        by_cases e1 : j = i
        · rw [if_pos e1]
        · rw [if_neg e1]
          exact hg j (by omega)
  exact loop N 0 g _ _ ls (by omega) (fun j hj => absurd hj (by omega)) (by rw [mp_up_id ha]; exact hI) (lv_sub hl [1, 0, 2, 3] rfl)
end KJF
/-- what is made anew, cell by cell -/
def cz (w w' : mp_W) (x : Nat) (ob : va_E) (N : List (Nat × va_E)) : Prop := fz [x] (N.map Prod.fst) w w' ∧ w' x = some ob ∧ ∀ y ∈ N, w' y.1 = some y.2
theorem cz.nil {w : mp_W} {x : Nat} {ob : va_E} (h : w x = some ob) : cz w w x ob [] := ⟨fz.nil (mp_some h), h, fun _ h => by cases h⟩
theorem cz.ne {w w' : mp_W} {x : Nat} {ob : va_E} {N : List (Nat × va_E)} (h : cz w w' x ob N) : ∀ y ∈ N, y.1 ≠ x := fun y hy e => by
  have h1 := (h.1.2.1 y.1 (List.mem_map.mpr ⟨y, hy, rfl⟩)).1
  have h2 := (h.1.2.2.1 x (by simp)).1
  rw [e] at h1
  exact h2 h1
theorem cz.new {w w1 : mp_W} {x q : Nat} {ob ob2 : va_E} {N : List (Nat × va_E)} (h : cz w w1 x ob N) (hq : w1 q = none) : cz w (mp_up w1 q ob2) x ob (N ++ [(q, ob2)]) := by
  have hqx : x ≠ q := fun e => by rw [← e, h.2.1] at hq; cases hq
  refine ⟨?_, by rw [mp_up_ne _ _ hqx]; exact h.2.1, fun y hy => ?_⟩
  · rw [List.map_append]
    exact h.1.tr (fz.one (mp_some h.2.1) hq) (fun q hq => Or.inl hq)
  · rcases List.mem_append.mp hy with hy | hy
    · have e1 := h.2.2 y hy
      rw [mp_up_ne _ _ (fun e => by rw [e, hq] at e1; cases e1)]
      exact e1
    · rw [List.mem_singleton.mp hy]
      exact mp_up_self ..
theorem cz.put {w w1 : mp_W} {x : Nat} {ob ob' : va_E} {N : List (Nat × va_E)} (h : cz w w1 x ob N) : cz w (mp_up w1 x ob') x ob' N := by
  refine ⟨?_, mp_up_self .., fun y hy => ?_⟩
  · have := h.1.tr (show fz [x] [] w1 (mp_up w1 x ob') from fz.upd (mp_some h.2.1) (by simp)) (fun q hq => Or.inl hq)
    rwa [List.append_nil] at this
  · rw [mp_up_ne _ _ (h.ne y hy)]
    exact h.2.2 y hy
theorem cz.mn {cA cI : ClassId} {R M : Nat} {w w1 : mp_W} {x a : Nat} {ob : va_E} {N : List (Nat × va_E)} (h : cz w w1 x ob N) (hq : ∀ q, a ≤ q → w1 q = none) : ∀ j, cz w (mna cA cI R M w1 a j) x ob (N ++ (a, .inl (cA, R, .inr (.inr (.inr (.inr (fun i => some (a + 1 + i))))))) :: (List.range j).map (fun i => (a + 1 + i, .inl (cI, M, .inl (fun _ => 0))))) := by
  intro j
  induction j with
  | zero =>
    rw [mna_0]
    exact h.new (hq a (Nat.le_refl _))
  | succ j ih =>
    have hn : mna cA cI R M w1 a j (a + 1 + j) = none := by
      unfold mna
      rw [if_neg (by omega), if_neg (by omega)]
      exact hq _ (by omega)
    have := ih.new (ob2 := .inl (cI, M, .inl (fun _ => 0))) hn
    rw [mna_s, List.range_succ, List.map_append]
    simpa using this
theorem cz.upd {w w1 : mp_W} {x q : Nat} {ob e1 e2 : va_E} {N1 N2 : List (Nat × va_E)} (h : cz w w1 x ob (N1 ++ (q, e1) :: N2)) : cz w (mp_up w1 q e2) x ob (N1 ++ (q, e2) :: N2) := by
  have hqx : x ≠ q := fun e => h.ne (q, e1) (by simp) e.symm
  have em : (N1 ++ (q, e2) :: N2).map Prod.fst = (N1 ++ (q, e1) :: N2).map Prod.fst := by simp
  have hnd := h.1.1
  have hqm : q ∈ (N1 ++ (q, e1) :: N2).map Prod.fst := by simp
  rw [List.map_append, List.map_cons] at hnd
  have hn2 : ∀ y, y ∈ N1 ∨ y ∈ N2 → y.1 ≠ q := by
    intro y hy e
    rw [List.nodup_append] at hnd
    obtain ⟨-, n2, n3⟩ := hnd
    rcases hy with hy | hy
    · exact n3 y.1 (List.mem_map.mpr ⟨y, hy, rfl⟩) q (by simp) e
    · rw [List.nodup_cons] at n2
      exact n2.1 (List.mem_map.mpr ⟨y, hy, e⟩)
  refine ⟨?_, by rw [mp_up_ne _ _ hqx]; exact h.2.1, fun y hy => ?_⟩
  · rw [em]
    obtain ⟨z1, z2, z3, z4⟩ := h.1
    refine ⟨z1, fun r hr => ⟨(z2 r hr).1, ?_⟩, fun r hr => ⟨(z3 r hr).1, ?_⟩, fun r h1 h2 => ?_⟩
    · by_cases e : r = q
      · rw [e, mp_up_self]; simp
      · rw [mp_up_ne _ _ e]; exact (z2 r hr).2
    · have : r = x := by simpa using hr
      rw [this, mp_up_ne _ _ hqx, h.2.1]
      simp
    · rw [mp_up_ne _ _ (fun e => h1 (by rw [e]; exact hqm))]
      exact z4 r h1 h2
  · rcases List.mem_append.mp hy with hy | hy
    · rw [mp_up_ne _ _ (hn2 y (Or.inl hy))]
      exact h.2.2 y (by simp [hy])
    · rcases List.mem_cons.mp hy with hy | hy
      · rw [hy]
        exact mp_up_self ..
      · rw [mp_up_ne _ _ (hn2 y (Or.inr hy))]
        exact h.2.2 y (by simp [hy])
abbrev z0 : Nat → Int32 := fun _ => 0
abbrev oGn (K : Nat → ClassId) (a : Nat) : va_E := .inl (K 4, 16, .inr (.inr (.inr (.inr (fun i => some (a + 1 + i))))))
abbrev oRn (K : Nat → ClassId) (a : Nat) : List (Nat × va_E) := (List.range 16).map (fun i => (a + 1 + i, ob_I K 2000 z0))
def mk_M (K : Nat → ClassId) (w w' : mp_W) (x : Nat) : Prop := ∃ a q2 q3 q4 q5 q6 q7 q8 g, (∀ i, i < 16 → g i = (1 : Int32)) ∧ cz w w' x (.inr (5, [.int 0, .ref a, .ref q2, .ref q3, .ref q4, .ref q5, .int 0, .int 0, .int 0, .ref q6, .int 0, .ref q7, .int 0, .int 0, .ref q8]))
  ((a, oGn K a) :: (oRn K a ++ [(q2, ob_I K 16 g), (q3, ob_I K 2001 z0), (q4, ob_I K 2001 z0), (q5, ob_I K 2001 z0), (q6, .inl (K 1, 310000, .inl z0)), (q7, ob_I K 2002 z0), (q8, ob_I K 8000 z0)]))
def pmM (k : Nat) : Nat := if k < 2 then k else if k < 9 then k + 16 else k - 7
theorem pmM_i : ∀ i, i < 25 → ∀ j, j < 25 → pmM i = pmM j → i = j := by decide +kernel
theorem pmM_lt : ∀ i, i < 25 → pmM i < 25 := by decide +kernel
theorem mk_M.iv {K : Nat → ClassId} {w w' : mp_W} {x : Nat} (h : mk_M K w w' x) : ∃ h, (∃ I A, st K h w' w' I A op_new [] 0) ∧ h 0 = x ∧ (∀ j, j < 25 → j ≠ 0 → w (h j) = none) ∧ ∀ q v, w q = some v → q ≠ x → w' q = some v := by
  obtain ⟨a, q2, q3, q4, q5, q6, q7, q8, g, hg, C⟩ := h
  obtain ⟨L, hL⟩ : ∃ L, L = a :: ((List.range 16).map (fun i => a + 1 + i) ++ [q2, q3, q4, q5, q6, q7, q8]) := ⟨_, rfl⟩
  have hz := C.1
  have hmap : (((a, oGn K a) :: (oRn K a ++ [(q2, ob_I K 16 g), (q3, ob_I K 2001 z0), (q4, ob_I K 2001 z0), (q5, ob_I K 2001 z0), (q6, .inl (K 1, 310000, .inl z0)), (q7, ob_I K 2002 z0), (q8, ob_I K 8000 z0)])).map Prod.fst) = L := by
    rw [hL, List.map_cons, List.map_append, List.map_map]
    rfl
  rw [hmap] at hz
  have hx0 : w x ≠ none := (hz.2.2.1 x (by simp)).1
  have hnx : x ∉ L := fun hm => hx0 (hz.2.1 x hm).1
  have hlen : (x :: L).length = 25 := by rw [hL]; simp
  have hnd : (x :: L).Nodup := List.nodup_cons.mpr ⟨hnx, hz.1⟩
  obtain ⟨F, hF⟩ : ∃ F : Nat → Nat, F = fun i => ((x :: L)[i]?).getD 0 := ⟨_, rfl⟩
  have hFat : ∀ i v, (x :: L)[i]? = some v → F i = v := fun i v h => by rw [hF]; simp only [h]; rfl
  have hq : ∀ k v, ([q2, q3, q4, q5, q6, q7, q8] : List Nat)[k]? = some v → F (18 + k) = v := fun k v hk => hFat _ _ (by
    rw [show 18 + k = 16 + k + 1 + 1 by omega, List.getElem?_cons_succ, hL, List.getElem?_cons_succ, List.getElem?_append_right (by simp)]
    simpa using hk)
  have hr : ∀ i, i < 16 → F (2 + i) = a + 1 + i := fun i hi => hFat _ _ (by
    rw [show 2 + i = i + 1 + 1 by omega, List.getElem?_cons_succ, hL, List.getElem?_cons_succ, List.getElem?_append_left (by simpa using hi), List.getElem?_map, List.getElem?_range hi]
    rfl)
  have f0 : F (pmM 0) = x := hFat 0 x rfl
  have f1 : F (pmM 1) = a := hFat 1 a (by rw [hL]; rfl)
  have f2 : F (pmM 2) = q2 := hq 0 q2 rfl
  have f3 : F (pmM 3) = q3 := hq 1 q3 rfl
  have f4 : F (pmM 4) = q4 := hq 2 q4 rfl
  have f5 : F (pmM 5) = q5 := hq 3 q5 rfl
  have f6 : F (pmM 6) = q6 := hq 4 q6 rfl
  have f7 : F (pmM 7) = q7 := hq 5 q7 rfl
  have f8 : F (pmM 8) = q8 := hq 6 q8 rfl
  have f9 : ∀ i, i < 16 → F (pmM (9 + i)) = a + 1 + i := fun i hi => by
    have : pmM (9 + i) = 2 + i := by unfold pmM; rw [if_neg (by omega), if_neg (by omega)]; omega
    rw [this]
    exact hr i hi
  have hph : ∀ i j, i < 25 → j < 25 → F (pmM i) = F (pmM j) → i = j := by
    intro i j hi hj e
    refine pmM_i i hi j hj ?_
    have hi2 := pmM_lt i hi
    have hj2 := pmM_lt j hj
    have g1 := List.getElem?_eq_getElem (l := x :: L) (i := pmM i) (by omega)
    have g2 := List.getElem?_eq_getElem (l := x :: L) (i := pmM j) (by omega)
    have e2 : (x :: L)[pmM i] = (x :: L)[pmM j] := by
      rw [← hFat _ _ g1, ← hFat _ _ g2]
      exact e
    have hpw := List.pairwise_iff_getElem.mp hnd
    rcases Nat.lt_trichotomy (pmM i) (pmM j) with hh | hh | hh
    · exact absurd e2 (hpw _ _ (by omega) (by omega) hh)
    · exact hh
    · exact absurd e2.symm (hpw _ _ (by omega) (by omega) hh)
  have hok : tm_ok (lfm 0) := ⟨Or.inl ⟨by decide, by decide⟩, trivial, by decide, by decide⟩
  have hin := C.2.2
  obtain ⟨h, hh⟩ : ∃ h : Nat → Nat, h = fun k => if k < 9 then F (pmM k) else a + 1 + (k - 9) := ⟨_, rfl⟩
  have h9 : ∀ i, h (9 + i) = a + 1 + i := fun i => by
    rw [hh]
    show (if 9 + i < 9 then F (pmM (9 + i)) else a + 1 + (9 + i - 9)) = a + 1 + i
    rw [if_neg (by omega)]
    omega
  have hlo : ∀ k, k < 9 → h k = F (pmM k) := fun k hk => by
    rw [hh]
    show (if k < 9 then F (pmM k) else a + 1 + (k - 9)) = _
    rw [if_pos hk]
  have hall : ∀ k, k < 25 → h k = F (pmM k) := fun k hk => by
    by_cases h1 : k < 9
    · exact hlo k h1
    · obtain ⟨i, rfl⟩ : ∃ i, k = 9 + i := ⟨k - 9, by omega⟩
      rw [h9, f9 i (by omega)]
  have g0 : h 0 = x := (hlo 0 (by decide)).trans f0
  have g1 : h 1 = a := (hlo 1 (by decide)).trans f1
  have g2 : h 2 = q2 := (hlo 2 (by decide)).trans f2
  have g3 : h 3 = q3 := (hlo 3 (by decide)).trans f3
  have g4 : h 4 = q4 := (hlo 4 (by decide)).trans f4
  have g5 : h 5 = q5 := (hlo 5 (by decide)).trans f5
  have g6 : h 6 = q6 := (hlo 6 (by decide)).trans f6
  have g7 : h 7 = q7 := (hlo 7 (by decide)).trans f7
  have g8 : h 8 = q8 := (hlo 8 (by decide)).trans f8
  refine ⟨h, ⟨fun _ => 0, fun k => if k = 2 then g else z0, ⟨⟨fun i j hi hj e => hph i j hi hj (by rw [← hall i hi, ← hall j hj]; exact e), ?_, ?_, fun k hk2 hk25 => ?_⟩, fm.rf _ _⟩, fun i hi => ⟨?_, ?_, hok⟩, ⟨rfl, (fun i v hi => by cases hi), by decide⟩, rfl⟩, g0, fun j hj hj0 => ?_, fun q v hq hn => ?_⟩
  · show w' (h 0) = some (.inr (5, [.int 0, .ref (h 1), .ref (h 2), .ref (h 3), .ref (h 4), .ref (h 5), .int 0, .int 0, .int 0, .ref (h 6), .int 0, .ref (h 7), .int 0, .int 0, .ref (h 8)]))
    rw [g0, g1, g2, g3, g4, g5, g6, g7, g8]
    exact C.2.1
  · show w' (h 1) = some (.inl (K 4, 16, .inr (.inr (.inr (.inr (fun i => some (h (9 + i))))))))
    rw [show (fun i => some (h (9 + i))) = fun i => some (a + 1 + i) from funext (fun i => by rw [h9]), g1]
    exact hin (a, oGn K a) (List.mem_cons_self ..)
  · have hk9 : k = 2 ∨ k = 3 ∨ k = 4 ∨ k = 5 ∨ k = 6 ∨ k = 7 ∨ k = 8 ∨ ∃ i, i < 16 ∧ k = 9 + i := by
      by_cases hn9 : k < 9
      · omega
      · exact Or.inr (Or.inr (Or.inr (Or.inr (Or.inr (Or.inr (Or.inr ⟨k - 9, by omega, by omega⟩))))))
    rcases hk9 with rfl | rfl | rfl | rfl | rfl | rfl | rfl | ⟨i, hi, rfl⟩
    · rw [g2]; exact hin (q2, ob_I K 16 g) (by simp)
    · rw [g3]; exact hin (q3, ob_I K 2001 z0) (by simp)
    · rw [g4]; exact hin (q4, ob_I K 2001 z0) (by simp)
    · rw [g5]; exact hin (q5, ob_I K 2001 z0) (by simp)
    · rw [g6]; exact hin (q6, .inl (K 1, 310000, .inl z0)) (by simp)
    · rw [g7]; exact hin (q7, ob_I K 2002 z0) (by simp)
    · rw [g8]; exact hin (q8, ob_I K 8000 z0) (by simp)
    · rw [h9]
      have := hin (a + 1 + i, ob_I K 2000 z0) (List.mem_cons_of_mem _ (List.mem_append_left _ (List.mem_map.mpr ⟨i, List.mem_range.mpr hi, rfl⟩)))
      rw [this]
      show some (ob_I K 2000 z0) = some (.inl (mcl K (9 + i), ml (9 + i), .inl (if 9 + i = 2 then g else z0)))
      rw [mcl_r, ml_r, if_neg (by omega)]
  · show (if 2 = 2 then g else z0) i = nI 1
    rw [if_pos rfl]
    exact hg i hi
  · show pt_h (if 9 + i = 2 then g else z0) [0]
    rw [if_neg (by omega)]
    intro k v hk
    rcases k with _ | k
    · have : v = 0 := by simpa using hk.symm
      rw [this]
      rfl
    · simp at hk
  · have hj2 := pmM_lt j hj
    have hj3 : pmM j ≠ 0 := by
      unfold pmM
      split
      · omega
      · split <;> omega
    have gg := List.getElem?_eq_getElem (l := x :: L) (i := pmM j) (by omega)
    rw [hall j hj, hFat _ _ gg]
    have hm : (x :: L)[pmM j] ∈ L := by
      obtain ⟨z, hz0⟩ : ∃ z, pmM j = z + 1 := ⟨pmM j - 1, by omega⟩
      simp only [hz0, List.getElem_cons_succ]
      exact List.getElem_mem _
    exact (hz.2.1 _ hm).1
  · exact hz.kp q v hq (by simpa using hn)
section KC4
variable {l : Launch} {n0 : Nat} {D : va_G} {K : Nat → ClassId} {w : mp_W}
set_option maxRecDepth 100000 in
set_option maxHeartbeats 4000000 in
theorem kM_init {x : Nat} (hB : w x = some (.inr (5, [.int 0, .null, .null, .null, .null, .null, .int 0, .int 0, .int 0, .null, .int 0, .null, .int 0, .int 0, .null]))) : cn_M l n0 D K yM_init (Cond.code yM_init cM_init 1 none) 3 120 24 358037 [.ref x] w (fun v w' => v = none ∧ mk_M K w w' x) := by
  refine cn_go (own := nm_M) (by decide) rfl (Nat.le_of_ble_eq_true rfl) ?_
  intro p e s m below meth c ls hX hE hI hr hk hn hl
  have hx := hE.1.1.1
  have hb := hE.1.1.2.1
  have hl : lv_has ls 1 [(0, .ref x)] := hl
  have C0 := cz.nil hB
  refine lv_aload_n hx hb dM_init_0 rfl (lv_at hl 0 rfl) ?_
  refine W.objInit hx hb hE.1.1.2.2.2.1 (ct_w hE gm_M1) (ct_w hE gi_O_init) (ct_w hE gc_O_init) rfl (by rw [hE.1.1.2.2.1]; exact hl.1) rfl dM_init_1 (Nat.le_of_ble_eq_true rfl) (Nat.le_of_ble_eq_true rfl) ?_
  show W _ _ _ _ _ _ _ _ _ _ _ _ _ _ _ (F0 _ _ _ [])
  refine lv_aload_n hx hb dM_init_4 rfl (lv_at hl 0 rfl) ?_
  refine lv_iconst (v := 0) hx hb dM_init_5 (by decide) ?_
  refine mp_put hE.1 hI hB rfl gx_M ty_M to_M tn_M 0 (by decide) (List.mem_cons_of_mem _ gf_M7) rfl rfl rfl (Nat.le_of_ble_eq_true rfl) dM_init_6 (fun H locs hI => ?_)
  have C1 := C0.put (ob' := .inr (5, [.int 0, .null, .null, .null, .null, .null, .int 0, .int 0, .int 0, .null, .int 0, .null, .int 0, .int 0, .null]))
  obtain ⟨x1, hx1⟩ : ∃ z, mp_up w x (.inr (5, [.int 0, .null, .null, .null, .null, .null, .int 0, .int 0, .int 0, .null, .int 0, .null, .int 0, .int 0, .null])) = z := ⟨_, rfl⟩
  rw [hx1] at C1
  have hI : mp_I D cl_all (mp_A w s.heap.size) s.heap x1 H locs := by rw [← hx1]; exact hI
  refine lv_aload_n hx hb dM_init_9 rfl (lv_at hl 0 rfl) ?_
  refine lv_bipush (v := nI 16) hx hb dM_init_10 (by decide) ?_
  refine lv_sipush (v := nI 2000) hx hb dM_init_12 (by decide) ?_
  refine mp_mna hE.1 hI (List.mem_cons_of_mem _ gk_M13) hX.2 (List.mem_cons_of_mem _ ga_int) 0 4 rfl rfl (nI_pos (by omega)) (nI_pos (by omega)) (nI_clamp (by omega)) (nI_clamp (by omega)) (by decide) (by decide) (Nat.le_of_ble_eq_true rfl) (Nat.le_of_ble_eq_true rfl) dM_init_15 (fun a H hq0 hI => ?_)
  have C2 := C1.mn (cA := K 4) (cI := K 0) (R := 16) (M := 2000) hq0 16
  obtain ⟨x2, hx2⟩ : ∃ z, mna (K 4) (K 0) 16 2000 x1 a 16 = z := ⟨_, rfl⟩
  rw [hx2] at C2
  have hI : mp_I D cl_all (mp_A w s.heap.size) s.heap x2 H locs := by rw [← hx2]; exact hI
  refine mp_putF hE.1 hI C2.2.1 rfl gx_M ty_M to_M tn_M 1 (by decide) (List.mem_cons_of_mem _ gf_M15) rfl hn rfl rfl rfl (Nat.le_of_ble_eq_true rfl) dM_init_19 (fun H locs hI => ?_)
  have C3 := C2.put (ob' := .inr (5, [.int 0, .ref a, .null, .null, .null, .null, .int 0, .int 0, .int 0, .null, .int 0, .null, .int 0, .int 0, .null]))
  obtain ⟨x3, hx3⟩ : ∃ z, mp_up x2 x (.inr (5, [.int 0, .ref a, .null, .null, .null, .null, .int 0, .int 0, .int 0, .null, .int 0, .null, .int 0, .int 0, .null])) = z := ⟨_, rfl⟩
  rw [hx3] at C3
  have hI : mp_I D cl_all (mp_A w s.heap.size) s.heap x3 H locs := by rw [← hx3]; exact hI
  refine lv_aload_n hx hb dM_init_22 rfl (lv_at hl 0 rfl) ?_
  refine lv_bipush (v := nI 16) hx hb dM_init_23 (by decide) ?_
  refine mp_newa (atype := .int) hE.1 hI (List.mem_cons_of_mem _ ga_int) rfl 0 rfl (a0 := (16, .inl z0)) (fun _ => rfl) (nI_pos (by omega)) (nI_clamp (by omega)) (Nat.le_of_ble_eq_true rfl) (Nat.le_of_ble_eq_true rfl) (Nat.le_of_ble_eq_true rfl) dM_init_25 (fun q2 H hq0 hI => ?_)
  have C4 := C3.new (ob2 := .inl (K 0, 16, .inl z0)) hq0
  obtain ⟨x4, hx4⟩ : ∃ z, mp_up x3 q2 (.inl (K 0, 16, .inl z0)) = z := ⟨_, rfl⟩
  rw [hx4] at C4
  have hI : mp_I D cl_all (mp_A w s.heap.size) s.heap x4 H locs := by rw [← hx4]; exact hI
  refine mp_putF hE.1 hI C4.2.1 rfl gx_M ty_M to_M tn_M 2 (by decide) (List.mem_cons_of_mem _ gf_M18) rfl hn rfl rfl rfl (Nat.le_of_ble_eq_true rfl) dM_init_27 (fun H locs hI => ?_)
  have C5 := C4.put (ob' := .inr (5, [.int 0, .ref a, .ref q2, .null, .null, .null, .int 0, .int 0, .int 0, .null, .int 0, .null, .int 0, .int 0, .null]))
  obtain ⟨x5, hx5⟩ : ∃ z, mp_up x4 x (.inr (5, [.int 0, .ref a, .ref q2, .null, .null, .null, .int 0, .int 0, .int 0, .null, .int 0, .null, .int 0, .int 0, .null])) = z := ⟨_, rfl⟩
  rw [hx5] at C5
  have hI : mp_I D cl_all (mp_A w s.heap.size) s.heap x5 H locs := by rw [← hx5]; exact hI
  refine lv_aload_n hx hb dM_init_30 rfl (lv_at hl 0 rfl) ?_
  refine lv_sipush (v := nI 2001) hx hb dM_init_31 (by decide) ?_
  refine mp_newa (atype := .int) hE.1 hI (List.mem_cons_of_mem _ ga_int) rfl 0 rfl (a0 := (2001, .inl z0)) (fun _ => rfl) (nI_pos (by omega)) (nI_clamp (by omega)) (Nat.le_of_ble_eq_true rfl) (Nat.le_of_ble_eq_true rfl) (Nat.le_of_ble_eq_true rfl) dM_init_34 (fun q3 H hq0 hI => ?_)
  have C6 := C5.new (ob2 := .inl (K 0, 2001, .inl z0)) hq0
  obtain ⟨x6, hx6⟩ : ∃ z, mp_up x5 q3 (.inl (K 0, 2001, .inl z0)) = z := ⟨_, rfl⟩
  rw [hx6] at C6
  have hI : mp_I D cl_all (mp_A w s.heap.size) s.heap x6 H locs := by rw [← hx6]; exact hI
  refine mp_putF hE.1 hI C6.2.1 rfl gx_M ty_M to_M tn_M 3 (by decide) (List.mem_cons_of_mem _ gf_M22) rfl hn rfl rfl rfl (Nat.le_of_ble_eq_true rfl) dM_init_36 (fun H locs hI => ?_)
  have C7 := C6.put (ob' := .inr (5, [.int 0, .ref a, .ref q2, .ref q3, .null, .null, .int 0, .int 0, .int 0, .null, .int 0, .null, .int 0, .int 0, .null]))
  obtain ⟨x7, hx7⟩ : ∃ z, mp_up x6 x (.inr (5, [.int 0, .ref a, .ref q2, .ref q3, .null, .null, .int 0, .int 0, .int 0, .null, .int 0, .null, .int 0, .int 0, .null])) = z := ⟨_, rfl⟩
  rw [hx7] at C7
  have hI : mp_I D cl_all (mp_A w s.heap.size) s.heap x7 H locs := by rw [← hx7]; exact hI
  refine lv_aload_n hx hb dM_init_39 rfl (lv_at hl 0 rfl) ?_
  refine lv_sipush (v := nI 2001) hx hb dM_init_40 (by decide) ?_
  refine mp_newa (atype := .int) hE.1 hI (List.mem_cons_of_mem _ ga_int) rfl 0 rfl (a0 := (2001, .inl z0)) (fun _ => rfl) (nI_pos (by omega)) (nI_clamp (by omega)) (Nat.le_of_ble_eq_true rfl) (Nat.le_of_ble_eq_true rfl) (Nat.le_of_ble_eq_true rfl) dM_init_43 (fun q4 H hq0 hI => ?_)
  have C8 := C7.new (ob2 := .inl (K 0, 2001, .inl z0)) hq0
  obtain ⟨x8, hx8⟩ : ∃ z, mp_up x7 q4 (.inl (K 0, 2001, .inl z0)) = z := ⟨_, rfl⟩
  rw [hx8] at C8
  have hI : mp_I D cl_all (mp_A w s.heap.size) s.heap x8 H locs := by rw [← hx8]; exact hI
  refine mp_putF hE.1 hI C8.2.1 rfl gx_M ty_M to_M tn_M 4 (by decide) (List.mem_cons_of_mem _ gf_M25) rfl hn rfl rfl rfl (Nat.le_of_ble_eq_true rfl) dM_init_45 (fun H locs hI => ?_)
  have C9 := C8.put (ob' := .inr (5, [.int 0, .ref a, .ref q2, .ref q3, .ref q4, .null, .int 0, .int 0, .int 0, .null, .int 0, .null, .int 0, .int 0, .null]))
  obtain ⟨x9, hx9⟩ : ∃ z, mp_up x8 x (.inr (5, [.int 0, .ref a, .ref q2, .ref q3, .ref q4, .null, .int 0, .int 0, .int 0, .null, .int 0, .null, .int 0, .int 0, .null])) = z := ⟨_, rfl⟩
  rw [hx9] at C9
  have hI : mp_I D cl_all (mp_A w s.heap.size) s.heap x9 H locs := by rw [← hx9]; exact hI
  refine lv_aload_n hx hb dM_init_48 rfl (lv_at hl 0 rfl) ?_
  refine lv_sipush (v := nI 2001) hx hb dM_init_49 (by decide) ?_
  refine mp_newa (atype := .int) hE.1 hI (List.mem_cons_of_mem _ ga_int) rfl 0 rfl (a0 := (2001, .inl z0)) (fun _ => rfl) (nI_pos (by omega)) (nI_clamp (by omega)) (Nat.le_of_ble_eq_true rfl) (Nat.le_of_ble_eq_true rfl) (Nat.le_of_ble_eq_true rfl) dM_init_52 (fun q5 H hq0 hI => ?_)
  have C10 := C9.new (ob2 := .inl (K 0, 2001, .inl z0)) hq0
  obtain ⟨x10, hx10⟩ : ∃ z, mp_up x9 q5 (.inl (K 0, 2001, .inl z0)) = z := ⟨_, rfl⟩
  rw [hx10] at C10
  have hI : mp_I D cl_all (mp_A w s.heap.size) s.heap x10 H locs := by rw [← hx10]; exact hI
  refine mp_putF hE.1 hI C10.2.1 rfl gx_M ty_M to_M tn_M 5 (by decide) (List.mem_cons_of_mem _ gf_M28) rfl hn rfl rfl rfl (Nat.le_of_ble_eq_true rfl) dM_init_54 (fun H locs hI => ?_)
  have C11 := C10.put (ob' := .inr (5, [.int 0, .ref a, .ref q2, .ref q3, .ref q4, .ref q5, .int 0, .int 0, .int 0, .null, .int 0, .null, .int 0, .int 0, .null]))
  obtain ⟨x11, hx11⟩ : ∃ z, mp_up x10 x (.inr (5, [.int 0, .ref a, .ref q2, .ref q3, .ref q4, .ref q5, .int 0, .int 0, .int 0, .null, .int 0, .null, .int 0, .int 0, .null])) = z := ⟨_, rfl⟩
  rw [hx11] at C11
  have hI : mp_I D cl_all (mp_A w s.heap.size) s.heap x11 H locs := by rw [← hx11]; exact hI
  refine lv_aload_n hx hb dM_init_57 rfl (lv_at hl 0 rfl) ?_
  refine lv_iconst (v := 0) hx hb dM_init_58 (by decide) ?_
  refine mp_put hE.1 hI C11.2.1 rfl gx_M ty_M to_M tn_M 6 (by decide) (List.mem_cons_of_mem _ gf_M31) rfl rfl rfl (Nat.le_of_ble_eq_true rfl) dM_init_59 (fun H locs hI => ?_)
  have C12 := C11.put (ob' := .inr (5, [.int 0, .ref a, .ref q2, .ref q3, .ref q4, .ref q5, .int 0, .int 0, .int 0, .null, .int 0, .null, .int 0, .int 0, .null]))
  obtain ⟨x12, hx12⟩ : ∃ z, mp_up x11 x (.inr (5, [.int 0, .ref a, .ref q2, .ref q3, .ref q4, .ref q5, .int 0, .int 0, .int 0, .null, .int 0, .null, .int 0, .int 0, .null])) = z := ⟨_, rfl⟩
  rw [hx12] at C12
  have hI : mp_I D cl_all (mp_A w s.heap.size) s.heap x12 H locs := by rw [← hx12]; exact hI
  refine lv_aload_n hx hb dM_init_62 rfl (lv_at hl 0 rfl) ?_
  refine lv_iconst (v := 0) hx hb dM_init_63 (by decide) ?_
  refine mp_put hE.1 hI C12.2.1 rfl gx_M ty_M to_M tn_M 7 (by decide) (List.mem_cons_of_mem _ gf_M34) rfl rfl rfl (Nat.le_of_ble_eq_true rfl) dM_init_64 (fun H locs hI => ?_)
  have C13 := C12.put (ob' := .inr (5, [.int 0, .ref a, .ref q2, .ref q3, .ref q4, .ref q5, .int 0, .int 0, .int 0, .null, .int 0, .null, .int 0, .int 0, .null]))
  obtain ⟨x13, hx13⟩ : ∃ z, mp_up x12 x (.inr (5, [.int 0, .ref a, .ref q2, .ref q3, .ref q4, .ref q5, .int 0, .int 0, .int 0, .null, .int 0, .null, .int 0, .int 0, .null])) = z := ⟨_, rfl⟩
  rw [hx13] at C13
  have hI : mp_I D cl_all (mp_A w s.heap.size) s.heap x13 H locs := by rw [← hx13]; exact hI
  refine lv_aload_n hx hb dM_init_67 rfl (lv_at hl 0 rfl) ?_
  refine lv_iconst (v := 0) hx hb dM_init_68 (by decide) ?_
  refine mp_put hE.1 hI C13.2.1 rfl gx_M ty_M to_M tn_M 8 (by decide) (List.mem_cons_of_mem _ gf_M37) rfl rfl rfl (Nat.le_of_ble_eq_true rfl) dM_init_69 (fun H locs hI => ?_)
  have C14 := C13.put (ob' := .inr (5, [.int 0, .ref a, .ref q2, .ref q3, .ref q4, .ref q5, .int 0, .int 0, .int 0, .null, .int 0, .null, .int 0, .int 0, .null]))
  obtain ⟨x14, hx14⟩ : ∃ z, mp_up x13 x (.inr (5, [.int 0, .ref a, .ref q2, .ref q3, .ref q4, .ref q5, .int 0, .int 0, .int 0, .null, .int 0, .null, .int 0, .int 0, .null])) = z := ⟨_, rfl⟩
  rw [hx14] at C14
  have hI : mp_I D cl_all (mp_A w s.heap.size) s.heap x14 H locs := by rw [← hx14]; exact hI
  refine lv_aload_n hx hb dM_init_72 rfl (lv_at hl 0 rfl) ?_
  refine lv_ldc hx hb hE.1.1.2.2.2.1 (hE.1.1.2.2.2.2 _ (List.mem_cons_of_mem _ gq_M41)) dM_init_73 ?_
  refine W.eq (g2 := F0 m 75 ls [.int (nI 310000), .ref x]) rfl ?_
  refine mp_newa (atype := .byte) hE.1 hI (List.mem_cons_of_mem _ ga_byte) rfl 1 rfl (a0 := (310000, .inl z0)) (fun _ => rfl) (nI_pos (by omega)) (nI_clamp (by omega)) (Nat.le_of_ble_eq_true rfl) (Nat.le_of_ble_eq_true rfl) (Nat.le_of_ble_eq_true rfl) dM_init_75 (fun q6 H hq0 hI => ?_)
  have C15 := C14.new (ob2 := .inl (K 1, 310000, .inl z0)) hq0
  obtain ⟨x15, hx15⟩ : ∃ z, mp_up x14 q6 (.inl (K 1, 310000, .inl z0)) = z := ⟨_, rfl⟩
  rw [hx15] at C15
  have hI : mp_I D cl_all (mp_A w s.heap.size) s.heap x15 H locs := by rw [← hx15]; exact hI
  refine mp_putF hE.1 hI C15.2.1 rfl gx_M ty_M to_M tn_M 9 (by decide) (List.mem_cons_of_mem _ gf_M42) rfl hn rfl rfl rfl (Nat.le_of_ble_eq_true rfl) dM_init_77 (fun H locs hI => ?_)
  have C16 := C15.put (ob' := .inr (5, [.int 0, .ref a, .ref q2, .ref q3, .ref q4, .ref q5, .int 0, .int 0, .int 0, .ref q6, .int 0, .null, .int 0, .int 0, .null]))
  obtain ⟨x16, hx16⟩ : ∃ z, mp_up x15 x (.inr (5, [.int 0, .ref a, .ref q2, .ref q3, .ref q4, .ref q5, .int 0, .int 0, .int 0, .ref q6, .int 0, .null, .int 0, .int 0, .null])) = z := ⟨_, rfl⟩
  rw [hx16] at C16
  have hI : mp_I D cl_all (mp_A w s.heap.size) s.heap x16 H locs := by rw [← hx16]; exact hI
  refine lv_aload_n hx hb dM_init_80 rfl (lv_at hl 0 rfl) ?_
  refine lv_iconst (v := 0) hx hb dM_init_81 (by decide) ?_
  refine mp_put hE.1 hI C16.2.1 rfl gx_M ty_M to_M tn_M 10 (by decide) (List.mem_cons_of_mem _ gf_M46) rfl rfl rfl (Nat.le_of_ble_eq_true rfl) dM_init_82 (fun H locs hI => ?_)
  have C17 := C16.put (ob' := .inr (5, [.int 0, .ref a, .ref q2, .ref q3, .ref q4, .ref q5, .int 0, .int 0, .int 0, .ref q6, .int 0, .null, .int 0, .int 0, .null]))
  obtain ⟨x17, hx17⟩ : ∃ z, mp_up x16 x (.inr (5, [.int 0, .ref a, .ref q2, .ref q3, .ref q4, .ref q5, .int 0, .int 0, .int 0, .ref q6, .int 0, .null, .int 0, .int 0, .null])) = z := ⟨_, rfl⟩
  rw [hx17] at C17
  have hI : mp_I D cl_all (mp_A w s.heap.size) s.heap x17 H locs := by rw [← hx17]; exact hI
  refine lv_aload_n hx hb dM_init_85 rfl (lv_at hl 0 rfl) ?_
  refine lv_sipush (v := nI 2002) hx hb dM_init_86 (by decide) ?_
  refine mp_newa (atype := .int) hE.1 hI (List.mem_cons_of_mem _ ga_int) rfl 0 rfl (a0 := (2002, .inl z0)) (fun _ => rfl) (nI_pos (by omega)) (nI_clamp (by omega)) (Nat.le_of_ble_eq_true rfl) (Nat.le_of_ble_eq_true rfl) (Nat.le_of_ble_eq_true rfl) dM_init_89 (fun q7 H hq0 hI => ?_)
  have C18 := C17.new (ob2 := .inl (K 0, 2002, .inl z0)) hq0
  obtain ⟨x18, hx18⟩ : ∃ z, mp_up x17 q7 (.inl (K 0, 2002, .inl z0)) = z := ⟨_, rfl⟩
  rw [hx18] at C18
  have hI : mp_I D cl_all (mp_A w s.heap.size) s.heap x18 H locs := by rw [← hx18]; exact hI
  refine mp_putF hE.1 hI C18.2.1 rfl gx_M ty_M to_M tn_M 11 (by decide) (List.mem_cons_of_mem _ gf_M49) rfl hn rfl rfl rfl (Nat.le_of_ble_eq_true rfl) dM_init_91 (fun H locs hI => ?_)
  have C19 := C18.put (ob' := .inr (5, [.int 0, .ref a, .ref q2, .ref q3, .ref q4, .ref q5, .int 0, .int 0, .int 0, .ref q6, .int 0, .ref q7, .int 0, .int 0, .null]))
  obtain ⟨x19, hx19⟩ : ∃ z, mp_up x18 x (.inr (5, [.int 0, .ref a, .ref q2, .ref q3, .ref q4, .ref q5, .int 0, .int 0, .int 0, .ref q6, .int 0, .ref q7, .int 0, .int 0, .null])) = z := ⟨_, rfl⟩
  rw [hx19] at C19
  have hI : mp_I D cl_all (mp_A w s.heap.size) s.heap x19 H locs := by rw [← hx19]; exact hI
  refine lv_aload_n hx hb dM_init_94 rfl (lv_at hl 0 rfl) ?_
  refine lv_iconst (v := 0) hx hb dM_init_95 (by decide) ?_
  refine mp_put hE.1 hI C19.2.1 rfl gx_M ty_M to_M tn_M 12 (by decide) (List.mem_cons_of_mem _ gf_M52) rfl rfl rfl (Nat.le_of_ble_eq_true rfl) dM_init_96 (fun H locs hI => ?_)
  have C20 := C19.put (ob' := .inr (5, [.int 0, .ref a, .ref q2, .ref q3, .ref q4, .ref q5, .int 0, .int 0, .int 0, .ref q6, .int 0, .ref q7, .int 0, .int 0, .null]))
  obtain ⟨x20, hx20⟩ : ∃ z, mp_up x19 x (.inr (5, [.int 0, .ref a, .ref q2, .ref q3, .ref q4, .ref q5, .int 0, .int 0, .int 0, .ref q6, .int 0, .ref q7, .int 0, .int 0, .null])) = z := ⟨_, rfl⟩
  rw [hx20] at C20
  have hI : mp_I D cl_all (mp_A w s.heap.size) s.heap x20 H locs := by rw [← hx20]; exact hI
  refine lv_aload_n hx hb dM_init_99 rfl (lv_at hl 0 rfl) ?_
  refine lv_iconst (v := 0) hx hb dM_init_100 (by decide) ?_
  refine mp_put hE.1 hI C20.2.1 rfl gx_M ty_M to_M tn_M 13 (by decide) (List.mem_cons_of_mem _ gf_M55) rfl rfl rfl (Nat.le_of_ble_eq_true rfl) dM_init_101 (fun H locs hI => ?_)
  have C21 := C20.put (ob' := .inr (5, [.int 0, .ref a, .ref q2, .ref q3, .ref q4, .ref q5, .int 0, .int 0, .int 0, .ref q6, .int 0, .ref q7, .int 0, .int 0, .null]))
  obtain ⟨x21, hx21⟩ : ∃ z, mp_up x20 x (.inr (5, [.int 0, .ref a, .ref q2, .ref q3, .ref q4, .ref q5, .int 0, .int 0, .int 0, .ref q6, .int 0, .ref q7, .int 0, .int 0, .null])) = z := ⟨_, rfl⟩
  rw [hx21] at C21
  have hI : mp_I D cl_all (mp_A w s.heap.size) s.heap x21 H locs := by rw [← hx21]; exact hI
  refine lv_aload_n hx hb dM_init_104 rfl (lv_at hl 0 rfl) ?_
  refine lv_sipush (v := nI 8000) hx hb dM_init_105 (by decide) ?_
  refine mp_newa (atype := .int) hE.1 hI (List.mem_cons_of_mem _ ga_int) rfl 0 rfl (a0 := (8000, .inl z0)) (fun _ => rfl) (nI_pos (by omega)) (nI_clamp (by omega)) (Nat.le_of_ble_eq_true rfl) (Nat.le_of_ble_eq_true rfl) (Nat.le_of_ble_eq_true rfl) dM_init_108 (fun q8 H hq0 hI => ?_)
  have C22 := C21.new (ob2 := .inl (K 0, 8000, .inl z0)) hq0
  obtain ⟨x22, hx22⟩ : ∃ z, mp_up x21 q8 (.inl (K 0, 8000, .inl z0)) = z := ⟨_, rfl⟩
  rw [hx22] at C22
  have hI : mp_I D cl_all (mp_A w s.heap.size) s.heap x22 H locs := by rw [← hx22]; exact hI
  refine mp_putF hE.1 hI C22.2.1 rfl gx_M ty_M to_M tn_M 14 (by decide) (List.mem_cons_of_mem _ gf_M58) rfl hn rfl rfl rfl (Nat.le_of_ble_eq_true rfl) dM_init_110 (fun H locs hI => ?_)
  have C23 := C22.put (ob' := .inr (5, [.int 0, .ref a, .ref q2, .ref q3, .ref q4, .ref q5, .int 0, .int 0, .int 0, .ref q6, .int 0, .ref q7, .int 0, .int 0, .ref q8]))
  obtain ⟨x23, hx23⟩ : ∃ z, mp_up x22 x (.inr (5, [.int 0, .ref a, .ref q2, .ref q3, .ref q4, .ref q5, .int 0, .int 0, .int 0, .ref q6, .int 0, .ref q7, .int 0, .int 0, .ref q8])) = z := ⟨_, rfl⟩
  rw [hx23] at C23
  have hI : mp_I D cl_all (mp_A w s.heap.size) s.heap x23 H locs := by rw [← hx23]; exact hI
  refine lv_aload_n hx hb dM_init_113 rfl (lv_at hl 0 rfl) ?_
  refine mp_get hE.1 hI C23.2.1 rfl gx_M 2 (by decide) (List.mem_cons_of_mem _ gf_M18) rfl dM_init_114 ?_
  refine lv_iconst (v := 1) hx hb dM_init_117 (by decide) ?_
  have C23' : cz w x23 x (.inr (5, [.int 0, .ref a, .ref q2, .ref q3, .ref q4, .ref q5, .int 0, .int 0, .int 0, .ref q6, .int 0, .ref q7, .int 0, .int 0, .ref q8])) (((a, oGn K a) :: oRn K a) ++ (q2, ob_I K 16 z0) :: [(q3, ob_I K 2001 z0), (q4, ob_I K 2001 z0), (q5, ob_I K 2001 z0), (q6, .inl (K 1, 310000, .inl z0)), (q7, ob_I K 2002 z0), (q8, ob_I K 8000 z0)]) := by
    simpa using C23
  have hs2 : x23 q2 = some (ob_I K 16 z0) := C23'.2.2 (q2, ob_I K 16 z0) (by simp)
  refine ct_St (n := 2) hE hI (kJ_fill (x0 := 1) hs2 (by decide)) gm_M61 gt_J_fill gz_Ja gc_J_fill (by decide +kernel) ⟨Nat.le_of_ble_eq_true rfl, Nat.le_of_ble_eq_true rfl⟩ rfl hl.1 rfl (Nat.le_of_ble_eq_true rfl) dM_init_118 ⟨Nat.le_of_ble_eq_true rfl, Nat.le_of_ble_eq_true rfl⟩ (fun v w1 H locs hq hI => ?_)
  obtain ⟨rfl, g, rfl, hg⟩ := hq
  show W _ _ _ _ _ _ _ _ _ _ _ _ _ _ _ (F0 _ _ _ [])
  exact ct_vret hE hI hr hk ⟨rfl, a, q2, q3, q4, q5, q6, q7, q8, g, hg, C23'.upd⟩ (by decide) (by decide) dM_init_121
end KC4
