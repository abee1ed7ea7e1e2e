/-! the law: methods with handlers; the bench and the cell that the answer is laid into -/
def lx_l : List (String × String) := [("java/lang/IllegalStateException", "java/util/NoSuchElementException"), ("java/lang/IllegalArgumentException", "java/util/NoSuchElementException"), ("java/lang/IllegalStateException", "java/lang/IllegalArgumentException"), ("java/lang/ArithmeticException", "java/util/NoSuchElementException"), ("java/lang/ArithmeticException", "java/lang/IllegalStateException")]
def lx_X (U : State) : Prop := ∀ q ∈ lx_l, va_Nc q.1 q.2 U
theorem lx_X.moved {u U : State} (hvm : u.vm.Alike U.vm) (h : lx_X u) : lx_X U := fun q hq => va_Nc.moved hvm (h q hq)
def lx_P (n0 : Nat) (D : va_G) (K : Nat → ClassId) (w : mp_W) (sz : Nat) (av : List Value) : Array Value → State → Prop := fun a U => ct_P n0 D K w sz av a U ∧ lx_X U
theorem lx_blind {n0 : Nat} {D : va_G} {K : Nat → ClassId} {w : mp_W} {sz : Nat} {av : List Value} : FrameBlind (lx_P n0 D K w sz av) := by
  intro a U g mk h
  exact ⟨ct_blind a U g mk h.1, lx_X.moved (u := U) (U := U.calling g mk a) (Vm.Alike.refl U.vm) h.2⟩
def lx_M (l : Launch) (n0 : Nat) (D : va_G) (K : Nat → ClassId) (y : MethodName) (cw : Cond) (fr lo mc ms : Nat) (av : List Value) (w : mp_W) (post : Option Value → mp_W → Prop) : Prop :=
  ∀ sz, Met l y (cw :: gw_l) { frames := fr, cells := mc, slots := ms, locals := lo } (lx_P n0 D K w sz av) (ct_Q D w sz post) mc ms (mp_A w sz)
theorem mt_ofWH {l : Launch} {y : MethodName} {ws ws' : List Cond} {rm : Room} {Pc : Array Value → State → Prop} {Qc : Array Value → State → Outcome → State → Prop} {mc ms : Nat} {free : Addr → Prop} {cc : ByteArray} {maxL : Nat} {ret : Option FieldType} {hh : List (Nat × Nat × Nat × Nat)}
    (hy : plainName y.cls = true) (hw : ws = Cond.codeWith y cc maxL ret hh :: ws')
    (body : ∀ p e s m args below meth c s₁, BodyLoose p l y (headSpec ws rm) cc maxL ret e s m args below meth c s₁ → c.maxLocals = maxL → Pc args s →
      W p l e (headSpec ws rm).room s m args below meth c s.heap [] 0 0 (MQ below Qc args s mc ms free) (entryFrame m args maxL)) : Met l y ws rm Pc Qc mc ms free := by
  refine MetFree.of_bodyS (code := cc) (maxLocals := maxL) (ret := ret) hy ?_ ?_
  · intro args s m h hn
    obtain ⟨m9, meth, c, hn9, h1, h2, h3, h4, -, h5, h6, -⟩ := Cond.codeWith_spec (atoms_spec (ws := ws) h _ (by rw [hw]; exact List.mem_cons_self))
    cases hn.symm.trans hn9
    exact ⟨meth, c, h1, h2, h3, h4, h5, h6⟩
  · intro p e s m args below meth c s₁ B hml hP _
    have hh0 : s₁.heap = s.heap := by rw [B.state]; rfl
    obtain ⟨t, a1, o, b1, b2, b3⟩ := body p e s m args below meth c s₁ B hml hP s₁ hh0 (Stand.of_body B)
    exact ⟨t, o, a1, b1, b2, ⟨b3.1, b3.2⟩⟩
section LXB
variable {l : Launch} {n0 : Nat} {D : va_G} {K : Nat → ClassId}
theorem lx_go {y : MethodName} {cc : ByteArray} {maxL fr lo mc ms : Nat} {ret : Option FieldType} {hh : List (Nat × Nat × Nat × Nat)} {own : String} {av : List Value} {w : mp_W} {post : Option Value → mp_W → Prop} (hy : plainName y.cls = true) (ho : y.cls = own) (hav : (lg_sl av).length ≤ maxL)
    (body : ∀ (p : Program) (e : Env) (s : State) (m : MethodId) (below : List Frame) (meth : Method) (c : Code) (ls : Array Slot), lx_X s → ct_E p m c cc maxL s av.toArray (Cond.codeWith y cc maxL ret hh) own D K n0 w (mp_A w s.heap.size) → mp_I D cl_all (mp_A w s.heap.size) s.heap w s.heap [] → meth.sig.returnType = ret → meth.locks = false → c.exceptionTable.toList = tableOf hh → lv_has ls maxL (lv_args 0 av) →
      W p l e { frames := fr, cells := mc, slots := ms, locals := lo } s m av.toArray below meth c s.heap [] 0 0 (MQ below (ct_Q D w s.heap.size post) av.toArray s mc ms (mp_A w s.heap.size)) (F0 m 0 ls [])) :
    lx_M l n0 D K y (Cond.codeWith y cc maxL ret hh) fr lo mc ms av w post := by
  intro sz
  refine mt_ofWH (cc := cc) (maxL := maxL) (ret := ret) (hh := hh) hy rfl ?_
  intro p e s m args below meth c s₁ B hml hv
  obtain ⟨⟨rfl, hsz, hS⟩, hX⟩ := hv
  subst hsz
  have hl := lv_entry av (n := maxL) hav
  rw [lg_entry_eq]
  generalize (lg_sl av ++ List.replicate (maxL - (lg_sl av).length) Slot.unset).toArray = ls at hl ⊢
  have hown : s.vm.findClass own = some m.cls := by rw [← ho]; exact findClass_of_methodNamed B.named
  have hts := atoms_spec (ws := Cond.codeWith y cc maxL ret hh :: gw_l) B.pre
  exact body p e s m below meth c ls hX ⟨⟨⟨B.exec, B.bytes, hml, hown, hts⟩, hS.2.1⟩, hS, hS.A⟩ hS.1.I B.returns B.notSynchronized (vx_table (x := y) B (hts _ List.mem_cons_self)) hl
end LXB
section LXR
variable {p : Program} {l : Launch} {e : Env} {R : Room} {s : State} {m : MethodId} {args : Array Value} {below : List Frame} {meth : Method} {c : Code} {H : Heap} {locs : List Loc} {cells slots mc ms : Nat} {Q : State → Prop}
variable {n0 : Nat} {D : va_G} {K : Nat → ClassId} {A : Nat → Prop} {w w0 : mp_W} {cc : ByteArray} {nL pc : Nat} {c0 : Cond} {own : String} {ls : Array Slot} {rest : List Value}
variable {y : MethodName} {bytes : ByteArray} {maxL index n fr lo : Nat} {ret : Option FieldType} {hh : List (Nat × Nat × Nat × Nat)} {As st : List Value} {post' : Option Value → mp_W → Prop}
theorem lx_St (hX : lx_X s) (hE : ct_E p m c cc nL s args c0 own D K n0 w0 A) (hI : mp_I D cl_all A s.heap w H locs) (hM : lx_M l n0 D K y (Cond.codeWith y bytes maxL ret hh) fr lo mc ms As w post')
    (h1 : Cond.methodLink own index y ∈ gw_l) (h2 : Cond.static y ∈ gw_l) (h4 : Cond.initialized y.cls ∈ gw_l) (h5 : Cond.codeWith y bytes maxL ret hh ∈ gw_l)
    (hd : y.cls ≠ "java/lang/invoke/MethodHandle" ∧ y.cls ≠ "java/lang/invoke/VarHandle" ∧ (parseMethodDescriptor y.desc).map (fun d => d.parameters.length) = some n) (hR : fr + 1 ≤ R.frames ∧ 8 + (maxL + 11) + lo ≤ R.locals)
    (hn : As.length = n) (hls : ls.size = nL) (hst : st = As.reverse ++ rest) (hW : (rest.map fun v => v.category).sum ≤ 8) (hdg : decode cc pc = .ok (.invokestatic index, 3)) (hf : cells + mc ≤ R.cells ∧ slots + ms ≤ R.slots)
    (kk : ∀ (v : Option Value) (w' : mp_W) (H1 : Heap) (locs1 : List Loc), post' v w' → mp_I D cl_all A s.heap w' H1 locs1 → W p l e R s m args below meth c H1 locs1 (cells + mc) (slots + ms) Q (F0 m (pc + 3) ls (v.toList ++ rest))) :
    W p l e R s m args below meth c H locs cells slots Q (F0 m pc ls st) := by
  have hG : GoodIn (c0 :: gw_l) (va_wsS own index y (Cond.codeWith y bytes maxL ret hh :: gw_l)) := by
    intro x hx
    have hin : x ∈ gw_l := by
      unfold va_wsS at hx
      rcases List.mem_append.mp hx with hx | hx
      · simp only [List.mem_cons, List.not_mem_nil, or_false] at hx
        rcases hx with rfl | rfl | rfl
        · exact h1
        · exact h2
        · exact h4
      · rcases List.mem_cons.mp hx with rfl | hx
        · exact h5
        · exact hx
    exact ⟨List.mem_cons_of_mem _ hin, good_of_word (List.mem_filter.mp hin).2⟩
  have cw := vx_cwSW (R := R) (args := args) (s := s) (mc := mc) (ms := ms) (rm := { frames := fr, cells := mc, slots := ms, locals := lo }) n hE.1.1.2.2.2.2 hG rfl rfl rfl hd hR
  have run := vx_runSW (g := F0 m pc ls st) (rest := rest) (locs := locs) (cells := cells) (slots := slots) (below := below) (meth := meth) (e := e) hE.1.1 (hM H.size) cw ⟨lx_blind, fun U hU hW => ⟨⟨rfl, by rw [hU], ct_at hE hI hU hW⟩, lx_X.moved hW.alike hX⟩⟩ rfl hn hls hst (lv_room hW) hdg hf
  intro T hT X
  obtain ⟨v, st0, t, T', L, h0, X', hL, e1, e2, ⟨v', w', ho, hp, hP, hdm, hF⟩, hg⟩ := run T hT X
  cases ho
  obtain ⟨tt, a1, b1⟩ := kk v w' t.heap (locs ++ L) hp (ct_on hI h0 hP hdm hF hL) T' e1 X'
  exact ⟨tt, hg _ a1, b1⟩
/-- caught by the first, the second, the third row -/
theorem lx_c1 (hE : ct_E p m c cc nL s args c0 own D K n0 w0 A) {x : ExceptionTableEntry} {suf : List ExceptionTableEntry} (ht : c.exceptionTable.toList = x :: suf) {E : String} {ce : Cell} {q : Addr} (hx : covers x pc = true) (h0 : x.catchType ≠ 0) (hl : Cond.classLink own x.catchType E ∈ gw_l) (hc : (E, E) ∈ ct_ca)
    (hcell : H[q]? = some ce) (hv : ce.vm = .none) (hcl : s.vm.findClass E = some ce.cls) (kk : W p l e R s m args below meth c H locs cells slots Q (F0 m x.handlerPc ls [.ref q])) : vx_W p l e R s m args below meth c H locs cells slots Q (F0 m pc ls rest) q :=
  vx_catch hE.1.1.2.2.2.1 [] x suf ht (fun z hz => by cases hz) hx h0 (ct_w hE hl) (va_Nw.use rfl (hE.2.1.2.2.1.2.1 _ hc)) hcell hv hcl kk
theorem lx_c2 (hX : lx_X s) (hE : ct_E p m c cc nL s args c0 own D K n0 w0 A) {x1 x : ExceptionTableEntry} {suf : List ExceptionTableEntry} (ht : c.exceptionTable.toList = x1 :: x :: suf) {E E1 : String} {ce : Cell} {q : Addr} (h1 : x1.catchType ≠ 0) (hl1 : Cond.classLink own x1.catchType E1 ∈ gw_l) (hn1 : (E, E1) ∈ lx_l) (hx : covers x pc = true) (h0 : x.catchType ≠ 0) (hl : Cond.classLink own x.catchType E ∈ gw_l) (hc : (E, E) ∈ ct_ca)
    (hcell : H[q]? = some ce) (hv : ce.vm = .none) (hcl : s.vm.findClass E = some ce.cls) (kk : W p l e R s m args below meth c H locs cells slots Q (F0 m x.handlerPc ls [.ref q])) : vx_W p l e R s m args below meth c H locs cells slots Q (F0 m pc ls rest) q :=
  vx_catch hE.1.1.2.2.2.1 [x1] x suf ht (fun z hz => by
    rw [List.mem_singleton.mp hz]
    exact Or.inr ⟨h1, E1, ct_w hE hl1, hX _ hn1⟩) hx h0 (ct_w hE hl) (va_Nw.use rfl (hE.2.1.2.2.1.2.1 _ hc)) hcell hv hcl kk
theorem lx_c3 (hX : lx_X s) (hE : ct_E p m c cc nL s args c0 own D K n0 w0 A) {x1 x2 x : ExceptionTableEntry} {suf : List ExceptionTableEntry} (ht : c.exceptionTable.toList = x1 :: x2 :: x :: suf) {E E1 E2 : String} {ce : Cell} {q : Addr} (h1 : x1.catchType ≠ 0) (hl1 : Cond.classLink own x1.catchType E1 ∈ gw_l) (hn1 : (E, E1) ∈ lx_l) (h2 : x2.catchType ≠ 0) (hl2 : Cond.classLink own x2.catchType E2 ∈ gw_l) (hn2 : (E, E2) ∈ lx_l) (hx : covers x pc = true) (h0 : x.catchType ≠ 0) (hl : Cond.classLink own x.catchType E ∈ gw_l) (hc : (E, E) ∈ ct_ca)
    (hcell : H[q]? = some ce) (hv : ce.vm = .none) (hcl : s.vm.findClass E = some ce.cls) (kk : W p l e R s m args below meth c H locs cells slots Q (F0 m x.handlerPc ls [.ref q])) : vx_W p l e R s m args below meth c H locs cells slots Q (F0 m pc ls rest) q :=
  vx_catch hE.1.1.2.2.2.1 [x1, x2] x suf ht (fun z hz => by
    rcases List.mem_cons.mp hz with rfl | hz
    · exact Or.inr ⟨h1, E1, ct_w hE hl1, hX _ hn1⟩
    · rw [List.mem_singleton.mp hz]
      exact Or.inr ⟨h2, E2, ct_w hE hl2, hX _ hn2⟩) hx h0 (ct_w hE hl) (va_Nw.use rfl (hE.2.1.2.2.1.2.1 _ hc)) hcell hv hcl kk
end LXR
/-! what of the bench lies elsewhere -/
theorem pt_T.fr {K : Nat → ClassId} {w w' : mp_W} {t ar cap : Nat} {L : List Int} (h : pt_T K w t ar cap L) (e1 : w' t = w t) (e2 : w' ar = w ar) : pt_T K w' t ar cap L := by
  obtain ⟨g, h1, h2, h3⟩ := h
  exact ⟨g, by rw [e1]; exact h1, by rw [e2]; exact h2, h3⟩
theorem pt_W.fr {K : Nat → ClassId} {w w' : mp_W} {k ka fa ff : Nat} {u : List Nat × Nat} (h : pt_W K w k ka fa ff u) (e1 : w' k = w k) (e2 : w' ka = w ka) : pt_W K w' k ka fa ff u := by
  obtain ⟨g, h1, h2, h3⟩ := h
  exact ⟨g, by rw [e1]; exact h1, by rw [e2]; exact h2, h3⟩
theorem iv_B.fr {K : Nat → ClassId} {w w' : mp_W} {f : Nat → Nat} {mi : Nat} {σ : Nat → Std.Format} {bc : Nat} {out : List Int} (h : iv_B K w f mi σ bc out) (he : ∀ j, j < 49 → w' (f j) = w (f j)) : iv_B K w' f mi σ bc out := by
  obtain ⟨hf, h0, ⟨g, h1, h1'⟩, ⟨hm, ⟨M, S0, ST, ⟨u1, W1⟩, ⟨u2, W2⟩, u3, W3⟩, n9, g9, V1, V2, V3⟩, hr, ⟨g2, Y1, Y2, Y3⟩, ⟨u4, W4⟩, hb⟩ := h
  refine ⟨hf, by rw [he 0 (by decide)]; exact h0, ⟨g, by rw [he 1 (by decide)]; exact h1, h1'⟩, ⟨hm, ⟨M, by rw [he 2 (by decide)]; exact S0, ST.fr (he _ (by omega)) (he _ (by omega)), ⟨u1, W1.fr (he 5 (by decide)) (he 6 (by decide))⟩, ⟨u2, W2.fr (he 7 (by decide)) (he 8 (by decide))⟩, u3, W3.fr (he 9 (by decide)) (he 10 (by decide))⟩, n9, g9, by rw [he _ (by omega)]; exact V1, by rw [he _ (by omega)]; exact V2, V3⟩, fun i hi => ?_, ⟨g2, by rw [he 3 (by decide)]; exact Y1, by rw [he 4 (by decide)]; exact Y2, Y3⟩, ⟨u4, W4.fr (he 11 (by decide)) (he 12 (by decide))⟩, hb⟩
  obtain ⟨⟨cap, hR, hR2⟩, hk⟩ := hr i hi
  exact ⟨⟨cap, hR.fr (he _ (by omega)) (he _ (by omega)), hR2⟩, hk⟩
abbrev ob_J (K : Nat → ClassId) (g : Nat → Int64) : va_E := .inl (K 2, 1, .inr (.inl g))
/-- how a call through the law leaves the bench; ja the cell of the answer -/
def lb (K : Nat → ClassId) (w : mp_W) (f : Nat → Nat) (ja : Nat) (w' : mp_W) (σ : Nat → Std.Format) (bc : Nat) (out : List Int) : Prop :=
  ∃ f' mi', iv_B K w' f' mi' σ bc out ∧ f' 0 = f 0 ∧ (∀ j, j < 49 → f' j = f j ∨ w (f' j) = none) ∧ ∀ q x, w q = some x → (∀ j, j < 49 → q ≠ f j) → q ≠ ja → w' q = some x
theorem bx.tl {K : Nat → ClassId} {w w' : mp_W} {f : Nat → Nat} {ja : Nat} {σ : Nat → Std.Format} {bc : Nat} {out : List Int} (h : bx K w f w' σ bc out) : lb K w f ja w' σ bc out := by
  obtain ⟨f', mi', h1, h2, h3, h4⟩ := h
  exact ⟨f', mi', h1, h2, h3, fun q x hq hn _ => h4 q x hq hn⟩
theorem bx.at {K : Nat → ClassId} {w w' : mp_W} {f : Nat → Nat} {σ : Nat → Std.Format} {bc : Nat} {out : List Int} (h : bx K w f w' σ bc out) {q : Nat} {x : va_E} (hq : w q = some x) (hn : ∀ j, j < 49 → q ≠ f j) : w' q = some x := by
  obtain ⟨f', mi', h1, h2, h3, h4⟩ := h
  exact h4 q x hq hn
theorem bx.tlJ {K : Nat → ClassId} {w w' : mp_W} {f : Nat → Nat} {ja : Nat} {σ : Nat → Std.Format} {bc : Nat} {out : List Int} {x y : va_E} (h : bx K w f w' σ bc out) (hq : w ja = some x) (hn : ∀ j, j < 49 → ja ≠ f j) : lb K w f ja (mp_up w' ja y) σ bc out := by
  obtain ⟨f', mi', h1, h2, h3, h4⟩ := h
  refine ⟨f', mi', h1.fr (fun j hj => mp_up_ne _ _ (fun e => ?_)), h2, h3, fun q x hq hn hj => by rw [mp_up_ne _ _ hj]; exact h4 q x hq hn⟩
  rcases h3 j hj with e1 | e1
  · exact hn j hj (e.symm.trans e1)
  · rw [e, hq] at e1
    cases e1
/-- what a wrapper answers -/
abbrev po_L (K : Nat → ClassId) (w : mp_W) (f : Nat → Nat) (ja bc : Nat) (out : List Int) (r : oR) : Option Value → mp_W → Prop := fun v w' => v = some (.int (nI r.1)) ∧ lb K w f ja w' r.2.2 bc out ∧ ∃ g, w' ja = some (ob_J K g) ∧ (r.1 = 0 → g 0 = (nI r.2.1).toInt64)
abbrev po_Lv (K : Nat → ClassId) (w : mp_W) (f : Nat → Nat) (ja bc : Nat) (out : List Int) (r : oR) : Option Value → mp_W → Prop := fun v w' => v = some (.int (nI r.1)) ∧ lb K w f ja w' r.2.2 bc out
section PL
variable {K : Nat → ClassId} {w w1 : mp_W} {f : Nat → Nat} {ja bc : Nat} {out : List Int} {r : oR} {g : Nat → Int64}
theorem po_L.ok {x : Int64} (hj : w ja = some (ob_J K g)) (hjf : ∀ j, j < 49 → ja ≠ f j) (h0 : r.1 = 0) (hx : x = (nI r.2.1).toInt64) (hb : bx K w f w1 r.2.2 bc out) : po_L K w f ja bc out r (some (.int 0)) (mp_up w1 ja (ob_J K (vp_updL g 0 x))) := ⟨by rw [h0]; rfl, hb.tlJ hj hjf, _, mp_up_self .., fun _ => (if_pos rfl).trans hx⟩
theorem po_L.th {k : Nat} {v : Int32} (hj : w ja = some (ob_J K g)) (hjf : ∀ j, j < 49 → ja ≠ f j) (h0 : r.1 = k) (hk : k ≠ 0) (hv : v = nI k) (hb : bx K w f w1 r.2.2 bc out) : po_L K w f ja bc out r (some (.int v)) w1 := ⟨by rw [h0, hv], hb.tl, g, hb.at hj hjf, fun e => absurd (h0.symm.trans e) hk⟩
end PL
theorem ck_le (k : Nat) (σ : Nat → Std.Format) (t : Nat) (X : Std.Format) : (ck k σ t X).1 = 0 ∨ (ck k σ t X).1 = k := by
  cases h : tm_chk X with
  | none => rw [ck_none h]; exact Or.inr rfl
  | some u => rw [ck_some h]; exact Or.inl rfl
theorem op_apply_le (σ : Nat → Std.Format) (to a b : Int32) : (op_apply σ to a b).1 = 0 ∨ (op_apply σ to a b).1 = 1 ∨ (op_apply σ to a b).1 = 2 := by
  unfold op_apply
  split
  · exact (ck_le _ _ _ _).imp id Or.inr
  · exact Or.inr (Or.inl rfl)
theorem op_bind_le (σ : Nat → Std.Format) (to a b : Int32) : (op_bind σ to a b).1 = 0 ∨ (op_bind σ to a b).1 = 1 ∨ (op_bind σ to a b).1 = 2 := by
  unfold op_bind
  split
  · exact (ck_le _ _ _ _).imp id Or.inr
  · exact Or.inr (Or.inl rfl)
theorem op_put_le (σ : Nat → Std.Format) (to a b d : Int32) : (op_put σ to a b d).1 = 0 ∨ (op_put σ to a b d).1 = 1 ∨ (op_put σ to a b d).1 = 2 := by
  unfold op_put
  split
  · exact (ck_le _ _ _ _).imp id Or.inr
  · exact Or.inr (Or.inl rfl)
theorem op_free_le (σ : Nat → Std.Format) (to n : Int32) : (op_free σ to n).1 = 0 ∨ (op_free σ to n).1 = 1 := by
  unfold op_free
  split
  · exact Or.inl rfl
  · exact Or.inr rfl
theorem op_open_le (σ : Nat → Std.Format) (to a b : Int32) : (op_open σ to a b).1 = 0 ∨ (op_open σ to a b).1 = 1 ∨ (op_open σ to a b).1 = 2 ∨ (op_open σ to a b).1 = 3 := by
  unfold op_open
  split
  · split
    · exact (ck_le _ _ _ _).imp id (fun h => Or.inr (Or.inr h))
    · exact Or.inr (Or.inr (Or.inl rfl))
  · exact Or.inr (Or.inl rfl)
theorem op_part_le (σ : Nat → Std.Format) (to a b : Int32) : (op_part σ to a b).1 = 0 ∨ (op_part σ to a b).1 = 1 ∨ (op_part σ to a b).1 = 2 := by
  unfold op_part
  split
  · split
    · exact Or.inl rfl
    · exact Or.inr (Or.inr rfl)
  · exact Or.inr (Or.inl rfl)
theorem op_step_le (σ : Nat → Std.Format) (to a : Int32) : (op_step σ to a).1 = 0 ∨ (op_step σ to a).1 = 1 ∨ (op_step σ to a).1 = 2 := by
  unfold op_step
  split
  · split
    · exact Or.inl rfl
    · split
      · exact Or.inr (Or.inr rfl)
      · exact Or.inl rfl
  · exact Or.inr (Or.inl rfl)
theorem op_step_01 (σ : Nat → Std.Format) (to a : Int32) : (op_step σ to a).2.1 = 0 ∨ (op_step σ to a).2.1 = 1 := by
  unfold op_step
  split
  · split
    · exact Or.inl rfl
    · split
      · exact Or.inl rfl
      · exact Or.inr rfl
  · exact Or.inl rfl
theorem op_all_le (hd : Bool) (σ : Nat → Std.Format) (to a : Int32) : (op_all hd σ to a).1 = 0 ∨ (op_all hd σ to a).1 = 1 ∨ (op_all hd σ to a).1 = 2 ∨ (op_all hd σ to a).1 = 3 := by
  unfold op_all
  split
  · split
    · exact Or.inr (Or.inr (Or.inl rfl))
    · exact Or.inr (Or.inr (Or.inr rfl))
    · exact Or.inl rfl
  · exact Or.inr (Or.inl rfl)
theorem op_same_le (σ : Nat → Std.Format) (a b : Int32) : (op_same σ a b).1 = 0 ∨ (op_same σ a b).1 = 1 := by
  unfold op_same
  split
  · exact Or.inl rfl
  · exact Or.inr rfl
theorem op_same_01 (σ : Nat → Std.Format) (a b : Int32) : (op_same σ a b).2.1 = 0 ∨ (op_same σ a b).2.1 = 1 := by
  unfold op_same
  split
  · show (if _ then 1 else 0) = 0 ∨ (if _ then 1 else 0) = 1
    split
    · exact Or.inr rfl
    · exact Or.inl rfl
  · exact Or.inl rfl
theorem op_about_le (σ : Nat → Std.Format) (a b : Int32) : (op_about σ a b).1 = 0 ∨ (op_about σ a b).1 = 1 ∨ (op_about σ a b).1 = 2 := by
  unfold op_about
  split
  · split
    · exact Or.inl rfl
    · exact Or.inr (Or.inr rfl)
  · exact Or.inr (Or.inl rfl)
theorem op_has_le (σ : Nat → Std.Format) (a n : Int32) : (op_has σ a n).1 = 0 ∨ (op_has σ a n).1 = 1 := by
  unfold op_has
  split
  · exact Or.inl rfl
  · exact Or.inr rfl
