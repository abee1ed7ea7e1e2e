/-! worlds as maps from addresses: what a cell holds, wherever it stands in the list -/
abbrev mp_W : Type := Nat → Option va_E
def mp_cov (w : mp_W) (ws : va_W) : Prop := ∀ a x, w a = some x ↔ (a, x) ∈ ws
def mp_up (w : mp_W) (a : Nat) (x : va_E) : mp_W := fun q => if q = a then some x else w q
theorem mp_up_self (w : mp_W) (a : Nat) (x : va_E) : mp_up w a x a = some x := if_pos rfl
theorem mp_up_ne (w : mp_W) {a q : Nat} (x : va_E) (h : q ≠ a) : mp_up w a x q = w q := if_neg h
theorem mp_cov.at {w : mp_W} {ws : va_W} {a : Nat} {x : va_E} (h : mp_cov w ws) (hw : w a = some x) : ∃ k : Nat, ws[k]? = some (a, x) := List.getElem?_of_mem ((h a x).mp hw)
theorem mp_cov.set {A : Nat → Prop} {w : mp_W} {ws : va_W} {k a : Nat} {e0 x : va_E} (h : mp_cov w ws) (hD : va_D A ws) (hk : ws[k]? = some (a, e0)) : mp_cov (mp_up w a x) (ws.set k (a, x)) := by
  intro q z
  constructor
  · intro hq
    by_cases hqa : q = a
    · subst hqa
      rw [mp_up_self] at hq
      cases hq
      exact List.mem_of_getElem? (List.getElem?_set_self (List.getElem?_eq_some_iff.mp hk).1)
    · rw [mp_up_ne _ _ hqa] at hq
      obtain ⟨i, hi⟩ := h.at hq
      have hik : i ≠ k := fun y => hqa (by rw [y, hk] at hi; cases hi; rfl)
      exact List.mem_of_getElem? (by rw [List.getElem?_set_ne (Ne.symm hik)]; exact hi)
  · intro hm
    obtain ⟨i, hi⟩ := List.getElem?_of_mem hm
    by_cases hik : i = k
    · subst hik
      rw [List.getElem?_set_self (List.getElem?_eq_some_iff.mp hk).1] at hi
      cases hi
      exact mp_up_self ..
    · rw [List.getElem?_set_ne (Ne.symm hik)] at hi
      have hqa : q ≠ a := fun y => hik (hD.1 i k (q, z) (a, e0) hi hk y)
      rw [mp_up_ne _ _ hqa]
      exact (h q z).mpr (List.mem_of_getElem? hi)
theorem mp_cov.push {A : Nat → Prop} {w : mp_W} {ws : va_W} {q : Nat} {x : va_E} (h : mp_cov w ws) (hD : va_D A (ws ++ [(q, x)])) : mp_cov (mp_up w q x) (ws ++ [(q, x)]) ∧ w q = none := by
  have h0 : (ws ++ [(q, x)])[ws.length]? = some (q, x) := by simp
  have hn : ∀ z, (q, z) ∉ ws := by
    intro z hz
    obtain ⟨i, hi⟩ := List.getElem?_of_mem hz
    have hl := (List.getElem?_eq_some_iff.mp hi).1
    have := hD.1 i ws.length (q, z) (q, x) (by rw [List.getElem?_append_left hl]; exact hi) h0 rfl
    omega
  have hq : w q = none := by
    cases hw : w q with
    | none => rfl
    | some z => exact absurd ((h q z).mp hw) (hn z)
  refine ⟨fun a z => ?_, hq⟩
  by_cases ha : a = q
  · subst ha
    rw [mp_up_self]
    constructor
    · intro hz
      cases hz
      simp
    · intro hz
      rcases List.mem_append.mp hz with hz | hz
      · exact absurd hz (hn z)
      · have : (a, z) = (a, x) := by simpa using hz
        cases this
        rfl
  · rw [mp_up_ne _ _ ha, h a z]
    constructor
    · intro hz
      exact List.mem_append_left _ hz
    · intro hz
      rcases List.mem_append.mp hz with hz | hz
      · exact hz
      · have : (a, z) = (q, x) := by simpa using hz
        exact absurd (congrArg Prod.fst this) ha
/-- what a method may change: its world's cells, and those that it makes -/
def mp_A (w : mp_W) (sz : Nat) : Nat → Prop := fun q => (∃ x, w q = some x) ∨ sz ≤ q
def mp_P (D : va_G) (cl : List vw_C) (w : mp_W) (H : Heap) : Prop := ∃ ws, va_P D cl ws H ∧ va_D (fun _ => True) ws ∧ mp_cov w ws
def mp_I (D : va_G) (cl : List vw_C) (A : Nat → Prop) (H0 : Heap) (w : mp_W) (H : Heap) (locs : List Loc) : Prop := (∃ ws, va_P D cl ws H ∧ va_D A ws ∧ mp_cov w ws) ∧ va_S A H0 H locs ∧ ∀ q, H0.size ≤ q → A q
theorem mp_P.lt {D : va_G} {cl : List vw_C} {w : mp_W} {H : Heap} (h : mp_P D cl w H) {a : Nat} {x : va_E} (hw : w a = some x) : a < H.size := by
  obtain ⟨ws, hP, -, hc⟩ := h
  obtain ⟨k, hk⟩ := hc.at hw
  exact (hP k _ hk).lt
theorem mp_I.P {D : va_G} {cl : List vw_C} {A : Nat → Prop} {H0 : Heap} {w : mp_W} {H : Heap} {locs : List Loc} (h : mp_I D cl A H0 w H locs) : mp_P D cl w H := by
  obtain ⟨⟨ws, h1, h2, h3⟩, -⟩ := h
  exact ⟨ws, h1, h2.weaken (fun _ _ _ _ => trivial), h3⟩
theorem mp_I.inA {D : va_G} {cl : List vw_C} {A : Nat → Prop} {H0 : Heap} {w : mp_W} {H : Heap} {locs : List Loc} (h : mp_I D cl A H0 w H locs) {a : Nat} {x : va_E} (hw : w a = some x) : A a := by
  obtain ⟨⟨ws, h1, h2, h3⟩, -⟩ := h
  obtain ⟨k, hk⟩ := h3.at hw
  exact h2.2 k _ hk
theorem mp_I.free {D : va_G} {cl : List vw_C} {A : Nat → Prop} {H0 : Heap} {w : mp_W} {H : Heap} {locs : List Loc} (h : mp_I D cl A H0 w H locs) : ∀ q, mp_A w H.size q → A q := by
  intro q hq
  rcases hq with ⟨x, hx⟩ | hq
  · exact h.inA hx
  · exact h.2.2 q (Nat.le_trans h.2.1.1 hq)
/-- a method's start -/
theorem mp_P.I {D : va_G} {cl : List vw_C} {w : mp_W} {H : Heap} (h : mp_P D cl w H) : mp_I D cl (mp_A w H.size) H w H [] := by
  obtain ⟨ws, h1, h2, h3⟩ := h
  refine ⟨⟨ws, h1, ⟨h2.1, fun k q hk => Or.inl ⟨q.2, (h3 q.1 q.2).mpr (List.mem_of_getElem? hk)⟩⟩, h3⟩, va_S.rf, fun q hq => Or.inr hq⟩
/-- behind a call -/
theorem mp_I.back {D : va_G} {cl : List vw_C} {A : Nat → Prop} {H0 : Heap} {w w' : mp_W} {H H1 : Heap} {locs L : List Loc} (h : mp_I D cl A H0 w H locs) (hP : mp_P D cl w' H1) (hd : ∀ a x, w' a = some x → mp_A w H.size a) (hs : H.size ≤ H1.size) (hk : ∀ q, q < H.size → ¬ mp_A w H.size q → H1[q]? = H[q]?) (hL : ∀ q ∈ L, mp_A w H.size q.base) : mp_I D cl A H0 w' H1 (locs ++ L) := by
  have hF := h.free
  obtain ⟨ws, h1, h2, h3⟩ := hP
  refine ⟨⟨ws, h1, ⟨h2.1, fun k q hk => hF _ (hd q.1 q.2 ((h3 q.1 q.2).mpr (List.mem_of_getElem? hk)))⟩, h3⟩, ⟨Nat.le_trans h.2.1.1 hs, fun q hq hA => ?_, fun q hq => ?_⟩, h.2.2⟩
  · rw [hk q (Nat.lt_of_lt_of_le hq h.2.1.1) (fun z => hA (hF q z))]
    exact h.2.1.2.1 q hq hA
  · rcases List.mem_append.mp hq with hq | hq
    · exact h.2.1.2.2 q hq
    · exact hF _ (hL q hq)
abbrev mp_X (p : Program) (m : MethodId) (c : Code) (cc : ByteArray) (nL : Nat) (s : State) (args : Array Value) (Ts : List Cond) (own : String) (D : va_G) (cl : List vw_C) (tys : List (ClassId × FieldType)) : Prop := CallFix p m c cc nL s args Ts own ∧ va_K D cl tys s
theorem mp_RAu {U : State} {c1 c2 : ClassId} {ty : FieldType} (h1 : va_RA U c1 ty) (h2 : va_RA U c2 ty) : c1 = c2 := by
  cases ty with
  | object C =>
    obtain ⟨_, _, -, -, -, e1⟩ := h1
    obtain ⟨_, _, -, -, -, e2⟩ := h2
    exact Option.some.inj (e1.symm.trans e2)
  | _ => exact Option.some.inj (Eq.trans (Eq.symm (show U.vm.findClass _ = some c1 from h1)) (show U.vm.findClass _ = some c2 from h2))
section MPR
variable {p : Program} {l : Launch} {e : Env} {R : Room} {s : State} {m : MethodId} {args : Array Value} {below : List Frame} {meth : Method} {c : Code} {H : Heap} {locs : List Loc} {cells slots : Nat} {Q : State → Prop}
variable {D : va_G} {cl : List vw_C} {tys : List (ClassId × FieldType)} {A : Nat → Prop} {H0 : Heap} {w : mp_W} {cc : ByteArray} {nL pc : Nat} {Ts : List Cond} {own : String} {ls : Array Slot} {rest : List Value} {a : Nat}
theorem mp_get (hX : mp_X p m c cc nL s args Ts own D cl tys) (hI : mp_I D cl A H0 w H locs) {C : String} {T : u_T} {N ci index : Nat} {fs : List Value} (he : w a = some (.inr (ci, fs))) (hc : cl[ci]? = some (C, T, N)) (hin : ∀ w ∈ u_ws C T N, w ∈ Ts) (k : Nat) (hk : k < N) (hlink : Cond.fieldLink own index (T k).1 (T k).2.1 (T k).2.2.1 ∈ Ts) {v : Value} (hv : fs[k]? = some v) (hdg : decode cc pc = .ok (.getfield index, 3))
    (kk : W p l e R s m args below meth c H locs cells slots Q (F0 m (pc + 3) ls (v :: rest))) : W p l e R s m args below meth c H locs cells slots Q (F0 m pc ls (.ref a :: rest)) := by
  obtain ⟨⟨hx, hb, -, hown, hts⟩, hK⟩ := hX
  obtain ⟨⟨ws, hP, hD, hcv⟩, -⟩ := hI
  obtain ⟨q0, hq⟩ := hcv.at he
  exact va_get hx hb hts hin hown hK hP q0 hq hc k hk (hts _ hlink) (fun _ h => h) hv hdg kk
theorem mp_getN (hX : mp_X p m c cc nL s args Ts own D cl tys) (hI : mp_I D cl A H0 w H locs) {C host : String} {T : u_T} {N ci index : Nat} {fs : List Value} (he : w a = some (.inr (ci, fs))) (hc : cl[ci]? = some (C, T, N)) (hin : ∀ w ∈ u_ws C T N, w ∈ Ts) (k : Nat) (hk : k < N) (hlink : va_Nw (.fieldLinkNest own index (T k).1 (T k).2.1 (T k).2.2.1 host) s) {v : Value} (hv : fs[k]? = some v) (hdg : decode cc pc = .ok (.getfield index, 3))
    (kk : W p l e R s m args below meth c H locs cells slots Q (F0 m (pc + 3) ls (v :: rest))) : W p l e R s m args below meth c H locs cells slots Q (F0 m pc ls (.ref a :: rest)) := by
  obtain ⟨⟨hx, hb, -, hown, hts⟩, hK⟩ := hX
  obtain ⟨⟨ws, hP, hD, hcv⟩, -⟩ := hI
  obtain ⟨q0, hq⟩ := hcv.at he
  exact va_getN hx hb hts hin hown hK hP q0 hq hc k hk (va_Nw.use rfl hlink) (fun _ h => h) hv hdg kk
theorem mp_put (hX : mp_X p m c cc nL s args Ts own D cl tys) (hI : mp_I D cl A H0 w H locs) {C : String} {T : u_T} {N ci index : Nat} {fs : List Value} (he : w a = some (.inr (ci, fs))) (hc : cl[ci]? = some (C, T, N)) (hin : ∀ w ∈ u_ws C T N, w ∈ Ts) (ty0 : Nat → FieldType) (hty : ∀ k, k < N → parseFieldDescriptor (T k).2.2.1 = some (ty0 k)) (hnm : ∀ a, a < N → ∀ b, b < N → a ≠ b → (T a).2.1 ≠ (T b).2.1)
    (k : Nat) (hk : k < N) (hlink : Cond.fieldLink own index (T k).1 (T k).2.1 (T k).2.2.1 ∈ Ts) (hfin : (T k).2.2.2 = false) {v : Value} (hn : narrow (ty0 k) v = v) (hfit : fits (ty0 k) v = true) (hl : k < fs.length) (hdg : decode cc pc = .ok (.putfield index, 3))
    (kk : ∀ (H1 : Heap) (locs1 : List Loc), mp_I D cl A H0 (mp_up w a (.inr (ci, fs.set k v))) H1 locs1 → W p l e R s m args below meth c H1 locs1 cells slots Q (F0 m (pc + 3) ls rest)) : W p l e R s m args below meth c H locs cells slots Q (F0 m pc ls (v :: .ref a :: rest)) := by
  obtain ⟨⟨hx, hb, -, hown, hts⟩, hK⟩ := hX
  obtain ⟨⟨ws, hP, hD, hcv⟩, hS, hA⟩ := hI
  obtain ⟨q0, hq⟩ := hcv.at he
  exact va_put hx hb hts hin ty0 hty hnm hown hK hP hD hS q0 hq hc k hk (hts _ hlink) (fun _ h => h) hfin (hty k hk) hn hfit hl hdg (fun H1 locs1 hP1 hD1 hS1 => kk H1 locs1 ⟨⟨_, hP1, hD1, hcv.set hD hq⟩, hS1, hA⟩)
theorem mp_putN (hX : mp_X p m c cc nL s args Ts own D cl tys) (hI : mp_I D cl A H0 w H locs) {C host : String} {T : u_T} {N ci index : Nat} {fs : List Value} (he : w a = some (.inr (ci, fs))) (hc : cl[ci]? = some (C, T, N)) (hin : ∀ w ∈ u_ws C T N, w ∈ Ts) (ty0 : Nat → FieldType) (hty : ∀ k, k < N → parseFieldDescriptor (T k).2.2.1 = some (ty0 k)) (hnm : ∀ a, a < N → ∀ b, b < N → a ≠ b → (T a).2.1 ≠ (T b).2.1)
    (k : Nat) (hk : k < N) (hlink : va_Nw (.fieldLinkNest own index (T k).1 (T k).2.1 (T k).2.2.1 host) s) (hfin : (T k).2.2.2 = false) {v : Value} (hn : narrow (ty0 k) v = v) (hfit : fits (ty0 k) v = true) (hl : k < fs.length) (hdg : decode cc pc = .ok (.putfield index, 3))
    (kk : ∀ (H1 : Heap) (locs1 : List Loc), mp_I D cl A H0 (mp_up w a (.inr (ci, fs.set k v))) H1 locs1 → W p l e R s m args below meth c H1 locs1 cells slots Q (F0 m (pc + 3) ls rest)) : W p l e R s m args below meth c H locs cells slots Q (F0 m pc ls (v :: .ref a :: rest)) := by
  obtain ⟨⟨hx, hb, -, hown, hts⟩, hK⟩ := hX
  obtain ⟨⟨ws, hP, hD, hcv⟩, hS, hA⟩ := hI
  obtain ⟨q0, hq⟩ := hcv.at he
  exact va_putN hx hb hts hin ty0 hty hnm hown hK hP hD hS q0 hq hc k hk (va_Nw.use rfl hlink) (fun _ h => h) hfin (hty k hk) hn hfit hl hdg (fun H1 locs1 hP1 hD1 hS1 => kk H1 locs1 ⟨⟨_, hP1, hD1, hcv.set hD hq⟩, hS1, hA⟩)
theorem mp_putF (hX : mp_X p m c cc nL s args Ts own D cl tys) (hI : mp_I D cl A H0 w H locs) {C : String} {T : u_T} {N ci index : Nat} {fs : List Value} (he : w a = some (.inr (ci, fs))) (hc : cl[ci]? = some (C, T, N)) (hin : ∀ w ∈ u_ws C T N, w ∈ Ts) (ty0 : Nat → FieldType) (hty : ∀ k, k < N → parseFieldDescriptor (T k).2.2.1 = some (ty0 k)) (hnm : ∀ a, a < N → ∀ b, b < N → a ≠ b → (T a).2.1 ≠ (T b).2.1)
    (k : Nat) (hk : k < N) (hlink : Cond.fieldLink own index (T k).1 (T k).2.1 (T k).2.2.1 ∈ Ts) (hfin : (T k).2.2.2 = true) (hin2 : meth.name = "<init>") (hdecl : (T k).1 = own) {v : Value} (hn : narrow (ty0 k) v = v) (hfit : fits (ty0 k) v = true) (hl : k < fs.length) (hdg : decode cc pc = .ok (.putfield index, 3))
    (kk : ∀ (H1 : Heap) (locs1 : List Loc), mp_I D cl A H0 (mp_up w a (.inr (ci, fs.set k v))) H1 locs1 → W p l e R s m args below meth c H1 locs1 cells slots Q (F0 m (pc + 3) ls rest)) : W p l e R s m args below meth c H locs cells slots Q (F0 m pc ls (v :: .ref a :: rest)) := by
  obtain ⟨⟨hx, hb, -, hown, hts⟩, hK⟩ := hX
  obtain ⟨⟨ws, hP, hD, hcv⟩, hS, hA⟩ := hI
  obtain ⟨q0, hq⟩ := hcv.at he
  exact va_putF hx hb hts hin ty0 hty hnm hown hK hP hD hS q0 hq hc k hk (hts _ hlink) (fun _ h => h) hfin hin2 hdecl (hty k hk) hn hfit hl hdg (fun H1 locs1 hP1 hD1 hS1 => kk H1 locs1 ⟨⟨_, hP1, hD1, hcv.set hD hq⟩, hS1, hA⟩)
theorem mp_ild (hX : mp_X p m c cc nL s args Ts own D cl tys) (hI : mp_I D cl A H0 w H locs) {cA : ClassId} {n : Nat} {f : Nat → Int32} (ha : w a = some (.inl (cA, n, .inl f))) (t0 : Nat) (ht : tys[t0]? = some (cA, .int)) {i : Int32} (hin : vp_in i n) (hdg : decode cc pc = .ok (.iaload, 1))
    (kk : W p l e R s m args below meth c H locs cells slots Q (F0 m (pc + 1) ls (.int (f i.toNatClampNeg) :: rest))) : W p l e R s m args below meth c H locs cells slots Q (F0 m pc ls (.int i :: .ref a :: rest)) := by
  obtain ⟨⟨hx, hb, -, hown, hts⟩, hK⟩ := hX
  obtain ⟨⟨ws, hP, hD, hcv⟩, -⟩ := hI
  obtain ⟨q0, hq⟩ := hcv.at ha
  exact va_iald hx hb hK hP q0 t0 hq ht hin hdg kk
theorem mp_bld (hX : mp_X p m c cc nL s args Ts own D cl tys) (hI : mp_I D cl A H0 w H locs) {cA : ClassId} {n : Nat} {f : Nat → Int32} (ha : w a = some (.inl (cA, n, .inl f))) (t0 : Nat) (ht : tys[t0]? = some (cA, .byte)) {i : Int32} (hin : vp_in i n) (hdg : decode cc pc = .ok (.baload, 1))
    (kk : W p l e R s m args below meth c H locs cells slots Q (F0 m (pc + 1) ls (.int (f i.toNatClampNeg) :: rest))) : W p l e R s m args below meth c H locs cells slots Q (F0 m pc ls (.int i :: .ref a :: rest)) := by
  obtain ⟨⟨hx, hb, -, hown, hts⟩, hK⟩ := hX
  obtain ⟨⟨ws, hP, hD, hcv⟩, -⟩ := hI
  obtain ⟨q0, hq⟩ := hcv.at ha
  exact va_bald hx hb hK hP q0 t0 hq ht hin hdg kk
theorem mp_lld (hX : mp_X p m c cc nL s args Ts own D cl tys) (hI : mp_I D cl A H0 w H locs) {cA : ClassId} {n : Nat} {f : Nat → Int64} (ha : w a = some (.inl (cA, n, .inr (.inl f)))) (t0 : Nat) (ht : tys[t0]? = some (cA, .long)) {i : Int32} (hin : vp_in i n) (hdg : decode cc pc = .ok (.laload, 1))
    (kk : W p l e R s m args below meth c H locs cells slots Q (F0 m (pc + 1) ls (.long (f i.toNatClampNeg) :: rest))) : W p l e R s m args below meth c H locs cells slots Q (F0 m pc ls (.int i :: .ref a :: rest)) := by
  obtain ⟨⟨hx, hb, -, hown, hts⟩, hK⟩ := hX
  obtain ⟨⟨ws, hP, hD, hcv⟩, -⟩ := hI
  obtain ⟨q0, hq⟩ := hcv.at ha
  exact va_lald hx hb hK hP q0 t0 hq ht hin hdg kk
theorem mp_ist (hX : mp_X p m c cc nL s args Ts own D cl tys) (hI : mp_I D cl A H0 w H locs) {cA : ClassId} {n : Nat} {f : Nat → Int32} (ha : w a = some (.inl (cA, n, .inl f))) (t0 : Nat) (ht : tys[t0]? = some (cA, .int)) {i x : Int32} (hin : vp_in i n) (hdg : decode cc pc = .ok (.iastore, 1))
    (kk : ∀ (H1 : Heap) (locs1 : List Loc), mp_I D cl A H0 (mp_up w a (.inl (cA, n, .inl (upd f i.toNatClampNeg x)))) H1 locs1 → W p l e R s m args below meth c H1 locs1 cells slots Q (F0 m (pc + 1) ls rest)) : W p l e R s m args below meth c H locs cells slots Q (F0 m pc ls (.int x :: .int i :: .ref a :: rest)) := by
  obtain ⟨⟨hx, hb, -, hown, hts⟩, hK⟩ := hX
  obtain ⟨⟨ws, hP, hD, hcv⟩, hS, hA⟩ := hI
  obtain ⟨q0, hq⟩ := hcv.at ha
  exact va_iast hx hb hK hP hD hS q0 t0 hq ht hin hdg (fun H1 locs1 hP1 hD1 hS1 => kk H1 locs1 ⟨⟨_, hP1, hD1, hcv.set hD hq⟩, hS1, hA⟩)
theorem mp_bst (hX : mp_X p m c cc nL s args Ts own D cl tys) (hI : mp_I D cl A H0 w H locs) {cA : ClassId} {n : Nat} {f : Nat → Int32} (ha : w a = some (.inl (cA, n, .inl f))) (t0 : Nat) (ht : tys[t0]? = some (cA, .byte)) {i x : Int32} (hin : vp_in i n) (hdg : decode cc pc = .ok (.bastore, 1))
    (kk : ∀ (H1 : Heap) (locs1 : List Loc), mp_I D cl A H0 (mp_up w a (.inl (cA, n, .inl (upd f i.toNatClampNeg (vp_nar .byte x))))) H1 locs1 → W p l e R s m args below meth c H1 locs1 cells slots Q (F0 m (pc + 1) ls rest)) : W p l e R s m args below meth c H locs cells slots Q (F0 m pc ls (.int x :: .int i :: .ref a :: rest)) := by
  obtain ⟨⟨hx, hb, -, hown, hts⟩, hK⟩ := hX
  obtain ⟨⟨ws, hP, hD, hcv⟩, hS, hA⟩ := hI
  obtain ⟨q0, hq⟩ := hcv.at ha
  exact va_bast hx hb hK hP hD hS q0 t0 hq ht hin hdg (fun H1 locs1 hP1 hD1 hS1 => kk H1 locs1 ⟨⟨_, hP1, hD1, hcv.set hD hq⟩, hS1, hA⟩)
theorem mp_lst (hX : mp_X p m c cc nL s args Ts own D cl tys) (hI : mp_I D cl A H0 w H locs) {cA : ClassId} {n : Nat} {f : Nat → Int64} (ha : w a = some (.inl (cA, n, .inr (.inl f)))) (t0 : Nat) (ht : tys[t0]? = some (cA, .long)) {i : Int32} {x : Int64} (hin : vp_in i n) (hdg : decode cc pc = .ok (.lastore, 1))
    (kk : ∀ (H1 : Heap) (locs1 : List Loc), mp_I D cl A H0 (mp_up w a (.inl (cA, n, .inr (.inl (vp_updL f i.toNatClampNeg x))))) H1 locs1 → W p l e R s m args below meth c H1 locs1 cells slots Q (F0 m (pc + 1) ls rest)) : W p l e R s m args below meth c H locs cells slots Q (F0 m pc ls (.long x :: .int i :: .ref a :: rest)) := by
  obtain ⟨⟨hx, hb, -, hown, hts⟩, hK⟩ := hX
  obtain ⟨⟨ws, hP, hD, hcv⟩, hS, hA⟩ := hI
  obtain ⟨q0, hq⟩ := hcv.at ha
  exact va_last hx hb hK hP hD hS q0 t0 hq ht hin hdg (fun H1 locs1 hP1 hD1 hS1 => kk H1 locs1 ⟨⟨_, hP1, hD1, hcv.set hD hq⟩, hS1, hA⟩)
theorem mp_ald (hX : mp_X p m c cc nL s args Ts own D cl tys) (hI : mp_I D cl A H0 w H locs) {cA : ClassId} {C : String} {n : Nat} {f : Nat → Option Nat} (ha : w a = some (.inl (cA, n, .inr (.inr (.inr (.inr f)))))) (t0 : Nat) (ht : tys[t0]? = some (cA, .object C)) {i : Int32} (hin : vp_in i n) (hdg : decode cc pc = .ok (.aaload, 1))
    (kk : W p l e R s m args below meth c H locs cells slots Q (F0 m (pc + 1) ls (va_rf (f i.toNatClampNeg) :: rest))) : W p l e R s m args below meth c H locs cells slots Q (F0 m pc ls (.int i :: .ref a :: rest)) := by
  obtain ⟨⟨hx, hb, -, hown, hts⟩, hK⟩ := hX
  obtain ⟨⟨ws, hP, hD, hcv⟩, -⟩ := hI
  obtain ⟨q0, hq⟩ := hcv.at ha
  exact va_aldq hx hb hK hP q0 t0 hq ht hin hdg kk
theorem mp_ast (hX : mp_X p m c cc nL s args Ts own D cl tys) (hI : mp_I D cl A H0 w H locs) {cA : ClassId} {r : vw_C} {ci n v : Nat} {vs : List Value} {f : Nat → Option Nat} (ha : w a = some (.inl (cA, n, .inr (.inr (.inr (.inr f)))))) (t0 : Nat) (ht : tys[t0]? = some (cA, .object r.1)) (hv : w v = some (.inr (ci, vs))) (hc : cl[ci]? = some r) {i : Int32} (hin : vp_in i n) (hdg : decode cc pc = .ok (.aastore, 1))
    (kk : ∀ (H1 : Heap) (locs1 : List Loc), mp_I D cl A H0 (mp_up w a (.inl (cA, n, .inr (.inr (.inr (.inr (va_up f i.toNatClampNeg (some v)))))))) H1 locs1 → W p l e R s m args below meth c H1 locs1 cells slots Q (F0 m (pc + 1) ls rest)) : W p l e R s m args below meth c H locs cells slots Q (F0 m pc ls (.ref v :: .int i :: .ref a :: rest)) := by
  obtain ⟨⟨hx, hb, -, hown, hts⟩, hK⟩ := hX
  obtain ⟨⟨ws, hP, hD, hcv⟩, hS, hA⟩ := hI
  obtain ⟨q0, hq⟩ := hcv.at ha
  obtain ⟨qk, hqk⟩ := hcv.at hv
  exact va_astq hx hb hK hP hD hS q0 t0 qk ci hq ht hqk hc hin hdg (fun H1 locs1 hP1 hD1 hS1 => kk H1 locs1 ⟨⟨_, hP1, hD1, hcv.set hD hq⟩, hS1, hA⟩)
theorem mp_len (hX : mp_X p m c cc nL s args Ts own D cl tys) (hI : mp_I D cl A H0 w H locs) {cA : ClassId} {x : vp_A} (ha : w a = some (.inl (cA, x))) (t0 : Nat) {ty : FieldType} (ht : tys[t0]? = some (cA, ty)) {v : Int32} (hv : Int32.ofNat x.1 = v) (hdg : decode cc pc = .ok (.arraylength, 1))
    (kk : W p l e R s m args below meth c H locs cells slots Q (F0 m (pc + 1) ls (.int v :: rest))) : W p l e R s m args below meth c H locs cells slots Q (F0 m pc ls (.ref a :: rest)) := by
  obtain ⟨⟨hx, hb, -, hown, hts⟩, hK⟩ := hX
  obtain ⟨⟨ws, hP, hD, hcv⟩, -⟩ := hI
  obtain ⟨q0, hq⟩ := hcv.at ha
  exact va_alen hx hb hK hP q0 t0 hq ht hv hdg kk
theorem mp_newa (hX : mp_X p m c cc nL s args Ts own D cl tys) (hI : mp_I D cl A H0 w H locs) {atype : ArrayType} (harr : Cond.arrayClass (newarray.typeOf atype) ∈ Ts) {ty : FieldType} (hty : newarray.typeOf atype = ty) {cA : ClassId} (t0 : Nat) (ht : tys[t0]? = some (cA, ty))
    {n : Int32} {N' : Nat} {a0 : vp_A} (ha : ∀ cA : ClassId, vp_cell cA a0 = arrV cA N' (fun _ => defaultValue ty)) (hn : ¬ n < 0) (hN : n.toNatClampNeg = N') (hbytes : N' * componentBytes ty ≤ 536870912) (hcells : cells + 1 ≤ R.cells) (hslots : slots + N' ≤ R.slots) (hdg : decode cc pc = .ok (.newarray atype, 2))
    (kk : ∀ (q : Nat) (H1 : Heap), w q = none → mp_I D cl A H0 (mp_up w q (.inl (cA, a0))) H1 locs → W p l e R s m args below meth c H1 locs (cells + 1) (slots + N') Q (F0 m (pc + 2) ls (.ref q :: rest))) : W p l e R s m args below meth c H locs cells slots Q (F0 m pc ls (.int n :: rest)) := by
  obtain ⟨⟨hx, hb, -, hown, hts⟩, hK⟩ := hX
  obtain ⟨⟨ws, hP, hD, hcv⟩, hS, hA⟩ := hI
  refine va_newa hx hb (hts _ harr) hty hK hP hD hS hA ha hn hN hbytes hcells hslots hdg (fun q c1 H1 hK1 hP1 hD1 hS1 => ?_)
  have h2 : c1 = cA := mp_RAu (hK1.2 tys.length (c1, ty) (by simp)).2 (hK.2 t0 _ ht).2
  subst h2
  have h3 := hcv.push hD1
  exact kk q H1 h3.2 ⟨⟨_, hP1, hD1, h3.1⟩, hS1, hA⟩
theorem mp_new (hX : mp_X p m c cc nL s args Ts own D cl tys) (hI : mp_I D cl A H0 w H locs) {C : String} {T : u_T} {N ci index : Nat} (hc : cl[ci]? = some (C, T, N)) (hin : ∀ w ∈ u_ws C T N, w ∈ Ts) (ty : Nat → FieldType) (hty : ∀ k, k < N → parseFieldDescriptor (T k).2.2.1 = some (ty k)) (hcl : Cond.classLink own index C ∈ Ts) (hinst : Cond.instantiable C N ∈ Ts) (hini : Cond.initialized C ∈ Ts)
    {fs : List Value} (hfs : ∀ j, j < N → defaultValue (ty j) = vp_V fs j) (hcells : cells + 1 ≤ R.cells) (hslots : slots + N ≤ R.slots) (hdg : decode cc pc = .ok (.new index, 3))
    (kk : ∀ (q : Nat) (H1 : Heap), w q = none → mp_I D cl A H0 (mp_up w q (.inr (ci, fs))) H1 locs → W p l e R s m args below meth c H1 locs (cells + 1) (slots + N) Q (F0 m (pc + 3) ls (.ref q :: rest))) : W p l e R s m args below meth c H locs cells slots Q (F0 m pc ls rest) := by
  obtain ⟨⟨hx, hb, -, hown, hts⟩, hK⟩ := hX
  obtain ⟨⟨ws, hP, hD, hcv⟩, hS, hA⟩ := hI
  refine va_new hx hb hts hin ty hty hown (hts _ hcl) (hts _ hinst) (hts _ hini) hK hP hD hS hA hc hfs hcells hslots hdg (fun q H1 hP1 hD1 hS1 => ?_)
  have h3 := hcv.push hD1
  exact kk q H1 h3.2 ⟨⟨_, hP1, hD1, h3.1⟩, hS1, hA⟩
theorem mp_copy (hX : mp_X p m c cc nL s args Ts own D cl tys) (hI : mp_I D cl A H0 w H locs) (hls : ls.size = nL) {index : Nat} (hlink : Cond.methodLink own index arraycopyName ∈ Ts) (hnat : Cond.native arraycopyName ∈ Ts) (hstat : Cond.static arraycopyName ∈ Ts) (hini : Cond.initialized "java/lang/System" ∈ Ts)
    {a0 : Nat} {c0 c1 : ClassId} {n0 n1 : Nat} {f g : Nat → Int32} {ty : FieldType} (ha0 : w a0 = some (.inl (c0, n0, .inl f))) (ha1 : w a = some (.inl (c1, n1, .inl g))) (t0 t1 : Nat) (ht0 : tys[t0]? = some (c0, ty)) (ht1 : tys[t1]? = some (c1, ty)) (hprim : refKind ty = false)
    {sp dp n : Int32} (h1 : ¬ sp < 0) (h2 : ¬ dp < 0) (h3 : ¬ n < 0) (h4 : sp.toNatClampNeg + n.toNatClampNeg ≤ n0) (h5 : dp.toNatClampNeg + n.toNatClampNeg ≤ n1) (hfit : ∀ i, i < n.toNatClampNeg → fits ty (.int (f (sp.toNatClampNeg + i))) = true)
    (hframes : 1 ≤ R.frames) (hlocals : (rest.map fun v => v.category).sum + (nativeFrameWords "java/lang/System" "arraycopy" 5 + 11) ≤ R.locals) (hdg : decode cc pc = .ok (.invokestatic index, 3))
    (kk : ∀ (H1 : Heap) (locs1 : List Loc), mp_I D cl A H0 (mp_up w a (.inl (c1, n1, .inl (va_cpy f g sp.toNatClampNeg dp.toNatClampNeg n.toNatClampNeg)))) H1 locs1 → W p l e R s m args below meth c H1 locs1 cells slots Q (F0 m (pc + 3) ls rest)) : W p l e R s m args below meth c H locs cells slots Q (F0 m pc ls (.int n :: .int dp :: .ref a :: .int sp :: .ref a0 :: rest)) := by
  obtain ⟨⟨hx, hb, hml, hown, hts⟩, hK⟩ := hX
  obtain ⟨⟨ws, hP, hD, hcv⟩, hS, hA⟩ := hI
  obtain ⟨q0, hq0⟩ := hcv.at ha0
  obtain ⟨q1, hq1⟩ := hcv.at ha1
  exact va_copyi hx hb (by rw [hml, hls]) hown (hts _ hlink) (hts _ hnat) (hts _ hstat) (hts _ hini) hK hP hD hS q0 q1 t0 t1 hq0 hq1 ht0 ht1 hprim h1 h2 h3 h4 h5 hfit hframes hlocals hdg (fun H1 locs1 hP1 hD1 hS1 => kk H1 locs1 ⟨⟨_, hP1, hD1, hcv.set hD hq1⟩, hS1, hA⟩)
end MPR
