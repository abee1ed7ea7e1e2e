/-! contracts over worlds as maps: what a method is asked, what it answers, what it throws -/
abbrev ct_ty (K : Nat → ClassId) : List (ClassId × FieldType) := [(K 0, .int), (K 1, .byte), (K 2, .long), (K 3, .object "BindingBench$Term"), (K 4, .array .int)]
/-- words that hold of the tables, but are no good words: fields of nest mates, casts, methods that are declared; the texts; the statics of Throwable -/
def ct_fl : List (String × Nat × String × String × String) := [("BindingBench$Text", 36, "BindingBench$Term", "cells", "[I"), ("BindingBench$Workshop", 59, "BindingBench$Term", "cells", "[I"), ("BindingBench$Text", 31, "BindingBench$Term", "size", "I"), ("BindingBench$Workshop", 44, "BindingBench$Term", "size", "I"), ("BindingBench", 97, "BindingBench$Term", "size", "I"), ("BindingBench$Text", 40, "BindingBench$Walk", "count", "I"), ("BindingBench$Workshop", 63, "BindingBench$Walk", "count", "I"), ("BindingBench", 129, "BindingBench$Text", "bytes", "[B"), ("BindingBench", 121, "BindingBench$Text", "length", "I")]
def ct_ca : List (String × String) := [("java/util/NoSuchElementException", "java/util/NoSuchElementException"), ("java/lang/IllegalStateException", "java/lang/IllegalStateException"), ("java/lang/IllegalArgumentException", "java/lang/IllegalArgumentException"), ("java/lang/ArithmeticException", "java/lang/ArithmeticException"), ("java/lang/IndexOutOfBoundsException", "java/lang/IndexOutOfBoundsException"), ("[B", "java/lang/Cloneable")]
def ct_de : List MethodName := [⟨"java/lang/RuntimeException", "<init>", "()V"⟩, ⟨"java/lang/RuntimeException", "<init>", "(Ljava/lang/String;)V"⟩, ⟨"java/lang/Exception", "<init>", "()V"⟩, ⟨"java/lang/Exception", "<init>", "(Ljava/lang/String;)V"⟩, ⟨"java/lang/Throwable", "<init>", "()V"⟩, ⟨"java/lang/Throwable", "<init>", "(Ljava/lang/String;)V"⟩]
def ct_st : List (String × Nat × String) := [("BindingBench", 135, "no such REGISTER"), ("BindingBench", 138, "no such FREE"), ("BindingBench$Workshop", 119, "beyond the greatest SIZE or DEPTH"), ("BindingBench", 64, "no FUNCTION"), ("BindingBench", 72, "no (a b)"), ("BindingBench$Workshop", 100, "too many STEPS"), ("BindingBench", 113, "another what"), ("BindingBench", 126, "no such byte of OUT")]
def ct_Z (n0 : Nat) (U : State) : Prop :=
  (∀ q ∈ ct_fl, va_Nw (.fieldLinkNest q.1 q.2.1 q.2.2.1 q.2.2.2.1 q.2.2.2.2 "BindingBench") U) ∧ (∀ q ∈ ct_ca, va_Nw (.castable q.1 q.2) U) ∧ (∀ y ∈ ct_de, va_Nw (.declares y) U) ∧ (∀ q ∈ ct_st, ∃ a, vk_R q.1 q.2.1 q.2.2 a U) ∧
  vx_Zq Bundle.tN "UNASSIGNED_STACK" Bundle.steD (fun q => n0 ≤ q) U U.heap ∧ vx_Zq Bundle.tN "SUPPRESSED_SENTINEL" Bundle.listD (fun q => n0 ≤ q) U U.heap
theorem ct_Z.moved {n0 : Nat} {s U : State} (h : ct_Z n0 s) (hW : s.WarmedH U.vm) (hh : ∀ q, q < n0 → U.heap[q]? = s.heap[q]?) : ct_Z n0 U := by
  obtain ⟨h1, h2, h3, h4, h5, h6⟩ := h
  exact ⟨fun q hq => va_Nw.warmF hW (h1 q hq), fun q hq => va_Nw.warmC hW (h2 q hq), fun q hq => va_Nw.warmD hW (h3 q hq), fun q hq => (h4 q hq).imp fun a ha => vk_R.warm hW ha,
    vx_Zq.kept (vx_Zq.moved hW.alike h5) (fun a _ hn => hh a (Nat.lt_of_not_le hn)), vx_Zq.kept (vx_Zq.moved hW.alike h6) (fun a _ hn => hh a (Nat.lt_of_not_le hn))⟩
theorem ct_Z.same {n0 : Nat} {s U : State} (h : ct_Z n0 s) (hv : s.vm = U.vm) (hh : U.heap = s.heap) : ct_Z n0 U := by
  obtain ⟨h1, h2, h3, h4, h5, h6⟩ := h
  refine ⟨fun q hq => va_Nw.same rfl hv (h1 q hq), fun q hq => va_Nw.same rfl hv (h2 q hq), fun q hq => va_Nw.same rfl hv (h3 q hq), fun q hq => (h4 q hq).imp fun a ha => vk_R.same hv.symm ha, ?_, ?_⟩
  · rw [hh]; exact vx_Zq.moved (by rw [hv]; exact Vm.Alike.refl _) h5
  · rw [hh]; exact vx_Zq.moved (by rw [hv]; exact Vm.Alike.refl _) h6
/-- what holds where a method is entered: the world w, of cells from n0 on -/
def ct_S (n0 : Nat) (D : va_G) (K : Nat → ClassId) (w : mp_W) (U : State) : Prop := mp_P D cl_all w U.heap ∧ va_K D cl_all (ct_ty K) U ∧ ct_Z n0 U ∧ (∀ a x, w a = some x → n0 ≤ a) ∧ n0 ≤ U.heap.size
theorem ct_S.A {n0 : Nat} {D : va_G} {K : Nat → ClassId} {w : mp_W} {U : State} (h : ct_S n0 D K w U) : ∀ q, mp_A w U.heap.size q → n0 ≤ q := by
  intro q hq
  rcases hq with ⟨x, hx⟩ | hq
  · exact h.2.2.2.1 q x hx
  · exact Nat.le_trans h.2.2.2.2 hq
def ct_P (n0 : Nat) (D : va_G) (K : Nat → ClassId) (w : mp_W) (sz : Nat) (av : List Value) : Array Value → State → Prop := va_Pc av (fun U => U.heap.size = sz ∧ ct_S n0 D K w U)
theorem ct_blind {n0 : Nat} {D : va_G} {K : Nat → ClassId} {w : mp_W} {sz : Nat} {av : List Value} : FrameBlind (ct_P n0 D K w sz av) := by
  intro a U g mk h
  obtain ⟨h0, h1, h2, h3, h4, h5, h6⟩ := h
  exact ⟨h0, h1, h2, va_K.moved (u := U) (U := U.calling g mk a) (Vm.Alike.refl U.vm) h3, ct_Z.same (U := U.calling g mk a) h4 rfl rfl, h5, h6⟩
def ct_Q (D : va_G) (w : mp_W) (sz : Nat) (post : Option Value → mp_W → Prop) : Array Value → State → Outcome → State → Prop := fun _ st o t => ∃ (v : Option Value) (w' : mp_W), o = .returned v ∧ post v w' ∧ mp_P D cl_all w' t.heap ∧ (∀ a x, w' a = some x → mp_A w sz a) ∧ va_F (mp_A w sz) st t
def ct_C (D : va_G) (w : mp_W) (sz : Nat) (thr : String → mp_W → Prop) : String → State → State → Prop := fun E st t => ∃ w' : mp_W, thr E w' ∧ mp_P D cl_all w' t.heap ∧ (∀ a x, w' a = some x → mp_A w sz a) ∧ va_F (mp_A w sz) st t
/-- y at the arguments av and the world w returns, and 'post answer world'; fr frames, lo words of locals, mc cells of ms slots are its room -/
def ct_M (l : Launch) (n0 : Nat) (D : va_G) (K : Nat → ClassId) (y : MethodName) (cw : Cond) (fr lo mc ms : Nat) (av : List Value) (w : mp_W) (post : Option Value → mp_W → Prop) : Prop :=
  ∀ sz, Met l y (cw :: gw_l) { frames := fr, cells := mc, slots := ms, locals := lo } (ct_P n0 D K w sz av) (ct_Q D w sz post) mc ms (mp_A w sz)
/-- the same, or it throws an exception of the class E, and 'thr E world' -/
def ct_X (l : Launch) (n0 : Nat) (D : va_G) (K : Nat → ClassId) (y : MethodName) (cw : Cond) (fr lo mc ms : Nat) (av : List Value) (w : mp_W) (post : Option Value → mp_W → Prop) (thr : String → mp_W → Prop) : Prop :=
  ∀ sz, vx_Met l y (cw :: gw_l) { frames := fr, cells := mc, slots := ms, locals := lo } (ct_P n0 D K w sz av) (ct_Q D w sz post) (ct_C D w sz thr) mc ms (mp_A w sz)
/-- where a body's walk stands -/
def ct_E (p : Program) (m : MethodId) (c : Code) (cc : ByteArray) (nL : Nat) (s : State) (args : Array Value) (c0 : Cond) (own : String) (D : va_G) (K : Nat → ClassId) (n0 : Nat) (w0 : mp_W) (A : Nat → Prop) : Prop :=
  mp_X p m c cc nL s args (c0 :: gw_l) own D cl_all (ct_ty K) ∧ ct_S n0 D K w0 s ∧ ∀ q, A q → n0 ≤ q
section CTB
variable {l : Launch} {n0 : Nat} {D : va_G} {K : Nat → ClassId}
theorem ct_go {y : MethodName} {cc : ByteArray} {maxL fr lo mc ms : Nat} {ret : Option FieldType} {own : String} {av : List Value} {w : mp_W} {post : Option Value → mp_W → Prop} (hy : plainName y.cls = true) (ho : y.cls = own) (hav : (lg_sl av).length ≤ maxL)
    (body : ∀ (p : Program) (e : Env) (s : State) (m : MethodId) (below : List Frame) (meth : Method) (c : Code) (ls : Array Slot), ct_E p m c cc maxL s av.toArray (Cond.code y cc maxL ret) own D K n0 w (mp_A w s.heap.size) → mp_I D cl_all (mp_A w s.heap.size) s.heap w s.heap [] → meth.sig.returnType = ret → meth.locks = false → meth.name = y.name → lv_has ls maxL (lv_args 0 av) →
      W p l e { frames := fr, cells := mc, slots := ms, locals := lo } s m av.toArray below meth c s.heap [] 0 0 (MQ below (ct_Q D w s.heap.size post) av.toArray s mc ms (mp_A w s.heap.size)) (F0 m 0 ls [])) :
    ct_M l n0 D K y (Cond.code y cc maxL ret) fr lo mc ms av w post := by
  intro sz
  refine Met.ofW (cc := cc) (maxL := maxL) (ret := ret) hy rfl ?_
  intro p e s m args below meth c s₁ B hml hv
  obtain ⟨rfl, hsz, hS⟩ := hv
  subst hsz
  have hl := lv_entry av (n := maxL) hav
  rw [lg_entry_eq]
  generalize (lg_sl av ++ List.replicate (maxL - (lg_sl av).length) Slot.unset).toArray = ls at hl ⊢
  have hown : s.vm.findClass own = some m.cls := by rw [← ho]; exact findClass_of_methodNamed B.named
  exact body p e s m below meth c ls ⟨⟨⟨B.exec, B.bytes, hml, hown, atoms_spec (ws := Cond.code y cc maxL ret :: gw_l) B.pre⟩, hS.2.1⟩, hS, hS.A⟩ hS.1.I B.returns B.notSynchronized (name_of_methodNamed B.named B.method).1 hl
theorem ct_goX {y : MethodName} {cc : ByteArray} {maxL fr lo mc ms : Nat} {ret : Option FieldType} {own : String} {av : List Value} {w : mp_W} {post : Option Value → mp_W → Prop} {thr : String → mp_W → Prop} (hy : plainName y.cls = true) (ho : y.cls = own) (hav : (lg_sl av).length ≤ maxL)
    (body : ∀ (p : Program) (e : Env) (s : State) (m : MethodId) (below : List Frame) (meth : Method) (c : Code) (ls : Array Slot), ct_E p m c cc maxL s av.toArray (Cond.code y cc maxL ret) own D K n0 w (mp_A w s.heap.size) → mp_I D cl_all (mp_A w s.heap.size) s.heap w s.heap [] → meth.sig.returnType = ret → meth.locks = false → (∀ x ∈ c.exceptionTable.toList, False) → lv_has ls maxL (lv_args 0 av) →
      W p l e { frames := fr, cells := mc, slots := ms, locals := lo } s m av.toArray below meth c s.heap [] 0 0 (vx_MQ below (ct_Q D w s.heap.size post) (ct_C D w s.heap.size thr) av.toArray s mc ms (mp_A w s.heap.size)) (F0 m 0 ls [])) :
    ct_X l n0 D K y (Cond.code y cc maxL ret) fr lo mc ms av w post thr := by
  intro sz
  refine vx_ofW (cc := cc) (maxL := maxL) (ret := ret) hy rfl ?_
  intro p e s m args below meth c s₁ B hml hout hv
  obtain ⟨rfl, hsz, hS⟩ := hv
  subst hsz
  have hl := lv_entry av (n := maxL) hav
  rw [lg_entry_eq]
  generalize (lg_sl av ++ List.replicate (maxL - (lg_sl av).length) Slot.unset).toArray = ls at hl ⊢
  have hown : s.vm.findClass own = some m.cls := by rw [← ho]; exact findClass_of_methodNamed B.named
  exact body p e s m below meth c ls ⟨⟨⟨B.exec, B.bytes, hml, hown, atoms_spec (ws := Cond.code y cc maxL ret :: gw_l) B.pre⟩, hS.2.1⟩, hS, hS.A⟩ hS.1.I B.returns B.notSynchronized hout hl
end CTB
section CTR
variable {p : Program} {l : Launch} {e : Env} {R : Room} {s : State} {m : MethodId} {args : Array Value} {below : List Frame} {meth : Method} {c : Code} {H : Heap} {locs : List Loc} {cells slots mc ms : Nat} {Q : State → Prop}
variable {n0 : Nat} {D : va_G} {K : Nat → ClassId} {A : Nat → Prop} {w w0 : mp_W} {cc : ByteArray} {nL pc : Nat} {c0 : Cond} {own : String} {ls : Array Slot} {rest : List Value} {post : Option Value → mp_W → Prop}
theorem ct_fin (hI : mp_I D cl_all (mp_A w0 s.heap.size) s.heap w H locs) {v : Option Value} (hp : post v w) {t : State} (ht : t.heap = H) : ct_Q D w0 s.heap.size post args s (.returned v) t := by
  refine ⟨v, w, rfl, hp, by rw [ht]; exact hI.P, fun a x h => hI.inA h, hI.2.1.F ht⟩
theorem ct_vret (hE : ct_E p m c cc nL s args c0 own D K n0 w0 A) (hI : mp_I D cl_all (mp_A w0 s.heap.size) s.heap w H locs) (hr : meth.sig.returnType = none) (hk : meth.locks = false) (hp : post none w) (hc : cells ≤ mc) (hs : slots ≤ ms) (hdg : decode cc pc = .ok (.return_, 1)) :
    W p l e R s m args below meth c H locs cells slots (MQ below (ct_Q D w0 s.heap.size post) args s mc ms (mp_A w0 s.heap.size)) (F0 m pc ls []) :=
  W.widen hc hs (W.vret hE.1.1.1 hE.1.1.2.1 hr (fun t ht _ => ct_fin hI hp ht) hI.2.1.2.2 hdg hk)
theorem ct_iret (hE : ct_E p m c cc nL s args c0 own D K n0 w0 A) (hI : mp_I D cl_all (mp_A w0 s.heap.size) s.heap w H locs) (hr : meth.sig.returnType = some .int) (hk : meth.locks = false) {v : Int32} (hp : post (some (.int v)) w) (hc : cells ≤ mc) (hs : slots ≤ ms) (hdg : decode cc pc = .ok (.ireturn, 1)) :
    W p l e R s m args below meth c H locs cells slots (MQ below (ct_Q D w0 s.heap.size post) args s mc ms (mp_A w0 s.heap.size)) (F0 m pc ls [.int v]) :=
  W.widen hc hs (W.iret hE.1.1.1 hE.1.1.2.1 hr (fun t ht _ => ct_fin hI hp ht) hI.2.1.2.2 hdg hk)
theorem ct_zret (hE : ct_E p m c cc nL s args c0 own D K n0 w0 A) (hI : mp_I D cl_all (mp_A w0 s.heap.size) s.heap w H locs) (hr : meth.sig.returnType = some .boolean) (hk : meth.locks = false) {v : Int32} (hv : v = 0 ∨ v = 1) (hp : post (some (.int v)) w) (hc : cells ≤ mc) (hs : slots ≤ ms) (hdg : decode cc pc = .ok (.ireturn, 1)) :
    W p l e R s m args below meth c H locs cells slots (MQ below (ct_Q D w0 s.heap.size post) args s mc ms (mp_A w0 s.heap.size)) (F0 m pc ls [.int v]) :=
  W.widen hc hs (W.zret hE.1.1.1 hE.1.1.2.1 hr (by rcases hv with rfl | rfl; exact narrow_b0; exact narrow_b1) (fun t ht _ => ct_fin hI hp ht) hI.2.1.2.2 hdg hk)
theorem ct_aret (hE : ct_E p m c cc nL s args c0 own D K n0 w0 A) (hI : mp_I D cl_all (mp_A w0 s.heap.size) s.heap w H locs) {rt : FieldType} (hr : meth.sig.returnType = some rt) (hrt : (∃ n, rt = .object n) ∨ ∃ t, rt = .array t) (hk : meth.locks = false) {a : Nat} (hp : post (some (.ref a)) w) (hc : cells ≤ mc) (hs : slots ≤ ms) (hdg : decode cc pc = .ok (.areturn, 1)) :
    W p l e R s m args below meth c H locs cells slots (MQ below (ct_Q D w0 s.heap.size post) args s mc ms (mp_A w0 s.heap.size)) (F0 m pc ls [.ref a]) :=
  W.widen hc hs (W.aret hE.1.1.1 hE.1.1.2.1 hr hrt (Or.inr ⟨a, rfl⟩) (fun t ht _ => ct_fin hI hp ht) hI.2.1.2.2 hdg hk)
/-- what a callee is given -/
theorem ct_at (hE : ct_E p m c cc nL s args c0 own D K n0 w0 A) (hI : mp_I D cl_all A s.heap w H locs) {U : State} (hU : U.heap = H) (hW : s.WarmedH U.vm) : ct_S n0 D K w U := by
  obtain ⟨⟨-, hK⟩, hS, hA⟩ := hE
  refine ⟨by rw [hU]; exact hI.P, va_K.moved hW.alike hK, hS.2.2.1.moved hW (fun q hq => ?_), fun a x h => hA a (hI.inA h), by rw [hU]; exact Nat.le_trans hS.2.2.2.2 hI.2.1.1⟩
  rw [hU]
  exact hI.2.1.2.1 q (Nat.lt_of_lt_of_le hq hS.2.2.2.2) (fun z => Nat.not_lt.mpr (hA q z) hq)
theorem ct_recv (hE : ct_E p m c cc nL s args c0 own D K n0 w0 A) (hI : mp_I D cl_all A s.heap w H locs) {b ci N : Nat} {fs : List Value} {C : String} {T : u_T} (he : w b = some (.inr (ci, fs))) (hc : cl_all[ci]? = some (C, T, N)) : ∃ cell : Cell, H[b]? = some cell ∧ cell.vm.isStatics = false ∧ s.vm.findClass C = some cell.cls := by
  obtain ⟨⟨ws, hP, hD, hcv⟩, -⟩ := hI
  obtain ⟨k, hk⟩ := hcv.at he
  exact va_recv hE.1.2 hP hc hk
theorem ct_on (hI : mp_I D cl_all A s.heap w H locs) {w' : mp_W} {st₀ t : State} {L : List Loc} (h0 : st₀.heap = H) (hP : mp_P D cl_all w' t.heap) (hd : ∀ a x, w' a = some x → mp_A w H.size a) (hF : va_F (mp_A w H.size) st₀ t) (hL : ∀ q ∈ L, mp_A w H.size q.base) : mp_I D cl_all A s.heap w' t.heap (locs ++ L) := by
  subst h0
  exact hI.back hP hd hF.1 hF.2 hL
variable {y : MethodName} {bytes : ByteArray} {maxL index n fr lo : Nat} {ret : Option FieldType} {b : Nat} {As st : List Value} {post' : Option Value → mp_W → Prop} {thr : String → mp_W → Prop}
theorem ct_cb (hE : ct_E p m c cc nL s args c0 own D K n0 w0 A) (h1 : Cond.methodLink own index y ∈ gw_l) (h4 : Cond.initialized y.cls ∈ gw_l) (h5 : Cond.code y bytes maxL ret ∈ gw_l)
    (hd : y.cls ≠ "java/lang/invoke/MethodHandle" ∧ y.cls ≠ "java/lang/invoke/VarHandle" ∧ (parseMethodDescriptor y.desc).map (fun d => d.parameters.length) = some n) (hR : fr + 1 ≤ R.frames ∧ 8 + (maxL + 11) + lo ≤ R.locals) :
    CallB R s args own index y bytes maxL ret (Cond.code y bytes maxL ret :: gw_l) { frames := fr, cells := mc, slots := ms, locals := lo } mc ms n :=
  callB_of n hE.1.1.2.2.2.2 (gw_sub h5) rfl rfl rfl (hE.1.1.2.2.2.2 _ (List.mem_cons_of_mem _ h4)) (hE.1.1.2.2.2.2 _ (List.mem_cons_of_mem _ h1)) hd hR
theorem ct_w (hE : ct_E p m c cc nL s args c0 own D K n0 w0 A) {x : Cond} (h : x ∈ gw_l) : x.before args s = true := hE.1.1.2.2.2.2 _ (List.mem_cons_of_mem _ h)
theorem ct_V (hE : ct_E p m c cc nL s args c0 own D K n0 w0 A) (hI : mp_I D cl_all A s.heap w H locs) (hM : ct_M l n0 D K y (Cond.code y bytes maxL ret) fr lo mc ms (.ref b :: As) w post')
    {ci N : Nat} {fs : List Value} {C : String} {T : u_T} (he : w b = some (.inr (ci, fs))) (hc : cl_all[ci]? = some (C, T, N))
    (h1 : Cond.methodLink own index y ∈ gw_l) (h2 : Cond.instanceMethod y ∈ gw_l) (h3 : Cond.selects C y y ∈ gw_l) (h4 : Cond.initialized y.cls ∈ gw_l) (h5 : Cond.code y bytes maxL ret ∈ gw_l)
    (hd : y.cls ≠ "java/lang/invoke/MethodHandle" ∧ y.cls ≠ "java/lang/invoke/VarHandle" ∧ (parseMethodDescriptor y.desc).map (fun d => d.parameters.length) = some n) (hR : fr + 1 ≤ R.frames ∧ 8 + (maxL + 11) + lo ≤ R.locals)
    (hn : As.length = n) (hls : ls.size = nL) (hst : st = As.reverse ++ .ref b :: rest) (hW : (rest.map fun v => v.category).sum ≤ 8) (hdg : decode cc pc = .ok (.invokevirtual index, 3)) (hf : cells + mc ≤ R.cells ∧ slots + ms ≤ R.slots)
    (kk : ∀ (v : Option Value) (w' : mp_W) (H1 : Heap) (locs1 : List Loc), post' v w' → mp_I D cl_all A s.heap w' H1 locs1 → W p l e R s m args below meth c H1 locs1 (cells + mc) (slots + ms) Q (F0 m (pc + 3) ls (v.toList ++ rest))) :
    W p l e R s m args below meth c H locs cells slots Q (F0 m pc ls st) := by
  have run := va_runV (g := F0 m pc ls st) (rest := rest) (locs := locs) (cells := cells) (slots := slots) (below := below) (meth := meth) (e := e) hE.1.1 (hM H.size) ⟨ct_cb hE h1 h4 h5 hd hR, ct_w hE h2, ct_w hE h3⟩ ⟨ct_blind, ct_recv hE hI he hc, fun U hU hW => ⟨rfl, by rw [hU], ct_at hE hI hU hW⟩⟩ rfl hn hls hst (lv_room hW) hdg hf
  intro T hT X
  obtain ⟨v, st0, t, T', L, h0, X', hL, e1, e2, ⟨v', w', ho, hp, hP, hdm, hF⟩, hg⟩ := run T hT X
  cases ho
  obtain ⟨tt, a1, b1⟩ := kk v w' t.heap (locs ++ L) hp (ct_on hI h0 hP hdm hF hL) T' e1 X'
  exact ⟨tt, hg _ a1, b1⟩
theorem ct_St (hE : ct_E p m c cc nL s args c0 own D K n0 w0 A) (hI : mp_I D cl_all A s.heap w H locs) (hM : ct_M l n0 D K y (Cond.code y bytes maxL ret) fr lo mc ms As w post')
    (h1 : Cond.methodLink own index y ∈ gw_l) (h2 : Cond.static y ∈ gw_l) (h4 : Cond.initialized y.cls ∈ gw_l) (h5 : Cond.code y bytes maxL ret ∈ gw_l)
    (hd : y.cls ≠ "java/lang/invoke/MethodHandle" ∧ y.cls ≠ "java/lang/invoke/VarHandle" ∧ (parseMethodDescriptor y.desc).map (fun d => d.parameters.length) = some n) (hR : fr + 1 ≤ R.frames ∧ 8 + (maxL + 11) + lo ≤ R.locals)
    (hn : As.length = n) (hls : ls.size = nL) (hst : st = As.reverse ++ rest) (hW : (rest.map fun v => v.category).sum ≤ 8) (hdg : decode cc pc = .ok (.invokestatic index, 3)) (hf : cells + mc ≤ R.cells ∧ slots + ms ≤ R.slots)
    (kk : ∀ (v : Option Value) (w' : mp_W) (H1 : Heap) (locs1 : List Loc), post' v w' → mp_I D cl_all A s.heap w' H1 locs1 → W p l e R s m args below meth c H1 locs1 (cells + mc) (slots + ms) Q (F0 m (pc + 3) ls (v.toList ++ rest))) :
    W p l e R s m args below meth c H locs cells slots Q (F0 m pc ls st) := by
  have run := va_runS (g := F0 m pc ls st) (rest := rest) (locs := locs) (cells := cells) (slots := slots) (below := below) (meth := meth) (e := e) hE.1.1 (hM H.size) ⟨ct_cb hE h1 h4 h5 hd hR, ct_w hE h2⟩ ⟨ct_blind, fun U hU hW => ⟨rfl, by rw [hU], ct_at hE hI hU hW⟩⟩ rfl hn hls hst (lv_room hW) hdg hf
  intro T hT X
  obtain ⟨v, st0, t, T', L, h0, X', hL, e1, e2, ⟨v', w', ho, hp, hP, hdm, hF⟩, hg⟩ := run T hT X
  cases ho
  obtain ⟨tt, a1, b1⟩ := kk v w' t.heap (locs ++ L) hp (ct_on hI h0 hP hdm hF hL) T' e1 X'
  exact ⟨tt, hg _ a1, b1⟩
theorem ct_In (hE : ct_E p m c cc nL s args c0 own D K n0 w0 A) (hI : mp_I D cl_all A s.heap w H locs) (hM : ct_M l n0 D K y (Cond.code y bytes maxL none) fr lo mc ms (.ref b :: As) w post') (hy1 : y.name = "<init>")
    (h1 : Cond.methodLink own index y ∈ gw_l) (h2 : Cond.instanceMethod y ∈ gw_l) (h4 : Cond.initialized y.cls ∈ gw_l) (h5 : Cond.code y bytes maxL none ∈ gw_l)
    (hd : y.cls ≠ "java/lang/invoke/MethodHandle" ∧ y.cls ≠ "java/lang/invoke/VarHandle" ∧ (parseMethodDescriptor y.desc).map (fun d => d.parameters.length) = some n) (hR : fr + 1 ≤ R.frames ∧ 8 + (maxL + 11) + lo ≤ R.locals)
    (hn : As.length = n) (hls : ls.size = nL) (hst : st = As.reverse ++ .ref b :: rest) (hW : (rest.map fun v => v.category).sum ≤ 8) (hdg : decode cc pc = .ok (.invokespecial index, 3)) (hf : cells + mc ≤ R.cells ∧ slots + ms ≤ R.slots)
    (kk : ∀ (v : Option Value) (w' : mp_W) (H1 : Heap) (locs1 : List Loc), post' v w' → mp_I D cl_all A s.heap w' H1 locs1 → W p l e R s m args below meth c H1 locs1 (cells + mc) (slots + ms) Q (F0 m (pc + 3) ls (v.toList ++ rest))) :
    W p l e R s m args below meth c H locs cells slots Q (F0 m pc ls st) := by
  have run := va_runI (g := F0 m pc ls st) (rest := rest) (b := b) (As := As) (locs := locs) (cells := cells) (slots := slots) (below := below) (meth := meth) (e := e) hE.1.1 (hM H.size) ⟨ct_cb hE h1 h4 h5 hd hR, hy1, ct_w hE h2⟩ ⟨ct_blind, fun U hU hW => ⟨rfl, by rw [hU], ct_at hE hI hU hW⟩⟩ rfl hn hls hst (lv_room hW) hdg hf
  intro T hT X
  obtain ⟨v, st0, t, T', L, h0, X', hL, e1, e2, ⟨v', w', ho, hp, hP, hdm, hF⟩, hg⟩ := run T hT X
  cases ho
  obtain ⟨tt, a1, b1⟩ := kk v w' t.heap (locs ++ L) hp (ct_on hI h0 hP hdm hF hL) T' e1 X'
  exact ⟨tt, hg _ a1, b1⟩
end CTR
