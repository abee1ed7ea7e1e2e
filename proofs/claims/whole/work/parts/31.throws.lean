/-! calls of methods that may throw; throwing; what leaves a method -/
/-- a word of an exception's chain: a good one of the tables, or one of those that ct_Z has -/
def ct_okw (x : Cond) : Bool := (goodWord x && decide (x ∈ lw_tbl)) || (ct_ca.any (fun q => decide (x = .castable q.1 q.2)) || ct_de.any (fun y => decide (x = .declares y)))
section CTX
variable {p : Program} {l : Launch} {e : Env} {R : Room} {s : State} {m : MethodId} {args : Array Value} {below : List Frame} {meth : Method} {c : Code} {H : Heap} {locs : List Loc} {cells slots mc ms mc' ms' : Nat} {Q : State → Prop}
variable {n0 : Nat} {D : va_G} {K : Nat → ClassId} {A : Nat → Prop} {w w0 : mp_W} {cc : ByteArray} {nL pc : Nat} {c0 : Cond} {own : String} {ls : Array Slot} {rest : List Value} {post : Option Value → mp_W → Prop} {thr : String → mp_W → Prop}
theorem ct_okw_at (hE : ct_E p m c cc nL s args c0 own D K n0 w0 A) {L : List Cond} (h : L.all ct_okw = true) : ∀ x ∈ L, x.before args s = true := by
  intro x hx
  have h1 := List.all_eq_true.mp h x hx
  unfold ct_okw at h1
  rw [Bool.or_eq_true, Bool.or_eq_true, Bool.and_eq_true] at h1
  rcases h1 with ⟨h2, h3⟩ | h2 | h2
  · exact ct_w hE (List.mem_filter.mpr ⟨of_decide_eq_true h3, h2⟩)
  · obtain ⟨q, hq, he⟩ := List.any_eq_true.mp h2
    rw [of_decide_eq_true he]
    exact va_Nw.use rfl (hE.2.1.2.2.1.2.1 q hq)
  · obtain ⟨y, hy, he⟩ := List.any_eq_true.mp h2
    rw [of_decide_eq_true he]
    exact va_Nw.use rfl (hE.2.1.2.2.1.2.2.1 y hy)
theorem ct_out (hI : mp_I D cl_all (mp_A w0 s.heap.size) s.heap w H locs) (hout : ∀ x ∈ c.exceptionTable.toList, False) (hk : meth.locks = false) {E : String} {q : Addr} {ce : Cell} (hq : H[q]? = some ce) (hv : ce.vm = .none) (hcl : s.vm.findClass E = some ce.cls) (ht : thr E w) (hc : cells ≤ mc) (hs : slots ≤ ms) :
    vx_W p l e R s m args below meth c H locs cells slots (vx_MQ below (ct_Q D w0 s.heap.size post) (ct_C D w0 s.heap.size thr) args s mc ms (mp_A w0 s.heap.size)) (F0 m pc ls rest) q :=
  vx_out (fun x hx => absurd hx (hout x)) hk hq hv hcl (fun t ht' _ => ⟨w, ht, by rw [ht']; exact hI.P, fun a x h => hI.inA h, hI.2.1.F ht'⟩) hI.2.1.2.2 hc hs
theorem ct_throw (hE : ct_E p m c cc nL s args c0 own D K n0 w0 A) (hl : l.stackTraces = false) (hI : mp_I D cl_all (mp_A w0 s.heap.size) s.heap w H locs) {cls text : String} {names : List String} {ik is ic : Nat} (hcls : Bundle.fit cls = true) (hnames : ∀ n ∈ names, Bundle.fit n = true)
    (hk : Cond.classLink own ik cls ∈ gw_l) (hini : Cond.initialized cls ∈ gw_l) (hstr : (own, is, text) ∈ ct_st) (hat : (vx_atS own ic cls names).all ct_okw = true) (hgood : (Cond.classLink own ik cls :: Cond.initialized cls :: vx_atS own ic cls names).all vx_ot = true) (hls : ls.size = nL)
    (d0 : decode cc pc = .ok (.new ik, 3)) (d3 : decode cc (pc + 3) = .ok (.dup, 1)) (d4 : decode cc (pc + 4) = .ok (.ldc is, 2)) (d6 : decode cc (pc + 6) = .ok (.invokespecial ic, 3)) (d9 : decode cc (pc + 9) = .ok (.athrow, 1))
    (hout : ∀ x ∈ c.exceptionTable.toList, False) (hRf : names.length + 3 < R.frames) (hRl : (rest.map fun v => v.category).sum + (13 * (names.length + 1) + 43) ≤ R.locals) (hRc : cells + 1 ≤ R.cells) (hRs : slots + 6 ≤ R.slots) (hlk : meth.locks = false) (ht : thr cls w) (hc : cells + 1 ≤ mc) (hs : slots + 6 ≤ ms) :
    W p l e R s m args below meth c H locs cells slots (vx_MQ below (ct_Q D w0 s.heap.size post) (ct_C D w0 s.heap.size thr) args s mc ms (mp_A w0 s.heap.size)) (F0 m pc ls rest) := by
  obtain ⟨sa, hsa⟩ := hE.2.1.2.2.1.2.2.2.1 _ hstr
  have hAn : ∀ q, mp_A w0 s.heap.size q → n0 ≤ q := hE.2.1.A
  refine vx_throwS (A := mp_A w0 s.heap.size) hE.1.1.1 hE.1.1.2.1 hl hE.1.1.2.2.2.1 hcls hnames (ct_w hE hk) (ct_w hE hini) hsa (ct_okw_at hE hat) (fun x hx => List.all_eq_true.mp hgood x hx)
    (hE.2.1.2.2.1.2.2.2.2.1.narrow hAn) (hE.2.1.2.2.1.2.2.2.2.2.narrow hAn) hI.2.1 (by rw [hE.1.1.2.2.1]; exact hls) d0 d3 d4 d6 d9 (fun x hx => absurd hx (hout x)) hRf hRl hRc hRs hlk (fun t _ hz hq => ?_) hI.2.1.2.2 hc hs
  obtain ⟨⟨ws, hP, hD, hcv⟩, hS, hA⟩ := id hI
  refine ⟨w, ht, ⟨ws, hP.kept (fun k x hx => hq x.1 (hP k x hx).lt), hD.weaken (fun _ _ _ _ => trivial), hcv⟩, fun a x h => hI.inA h, Nat.le_trans hS.1 hz, fun q h1 h2 => ?_⟩
  rw [hq q (Nat.lt_of_lt_of_le h1 hS.1)]
  exact hS.2.1 q h1 h2
variable {y : MethodName} {bytes : ByteArray} {maxL index n fr lo : Nat} {ret : Option FieldType} {b : Nat} {As st : List Value} {post' : Option Value → mp_W → Prop} {thr' : String → mp_W → Prop}
theorem ct_VX (hE : ct_E p m c cc nL s args c0 own D K n0 w0 A) (hI : mp_I D cl_all A s.heap w H locs) (hM : ct_X l n0 D K y (Cond.code y bytes maxL ret) fr lo mc ms (.ref b :: As) w post' thr')
    {ci N : Nat} {fs : List Value} {C : String} {T : u_T} (he : w b = some (.inr (ci, fs))) (hc : cl_all[ci]? = some (C, T, N))
    (h1 : Cond.methodLink own index y ∈ gw_l) (h2 : Cond.instanceMethod y ∈ gw_l) (h3 : Cond.selects C y y ∈ gw_l) (h4 : Cond.initialized y.cls ∈ gw_l) (h5 : Cond.code y bytes maxL ret ∈ gw_l)
    (hd : y.cls ≠ "java/lang/invoke/MethodHandle" ∧ y.cls ≠ "java/lang/invoke/VarHandle" ∧ (parseMethodDescriptor y.desc).map (fun d => d.parameters.length) = some n) (hR : fr + 1 ≤ R.frames ∧ 8 + (maxL + 11) + lo ≤ R.locals)
    (hn : As.length = n) (hls : ls.size = nL) (hst : st = As.reverse ++ .ref b :: rest) (hW : (rest.map fun v => v.category).sum ≤ 8) (hdg : decode cc pc = .ok (.invokevirtual index, 3)) (hf : cells + mc ≤ R.cells ∧ slots + ms ≤ R.slots)
    (kk : ∀ (v : Option Value) (w' : mp_W) (H1 : Heap) (locs1 : List Loc), post' v w' → mp_I D cl_all A s.heap w' H1 locs1 → W p l e R s m args below meth c H1 locs1 (cells + mc) (slots + ms) Q (F0 m (pc + 3) ls (v.toList ++ rest)))
    (kt : ∀ (E : String) (q : Addr) (ce : Cell) (w' : mp_W) (H1 : Heap) (locs1 : List Loc), thr' E w' → mp_I D cl_all A s.heap w' H1 locs1 → H1[q]? = some ce → ce.vm = .none → s.vm.findClass E = some ce.cls → vx_W p l e R s m args below meth c H1 locs1 (cells + mc) (slots + ms) Q (F0 m pc ls rest) q) :
    W p l e R s m args below meth c H locs cells slots Q (F0 m pc ls st) := by
  have run := vx_runV (g := F0 m pc ls st) (rest := rest) (locs := locs) (cells := cells) (slots := slots) (below := below) (meth := meth) (e := e) hE.1.1 (hM H.size) ⟨ct_cb hE h1 h4 h5 hd hR, ct_w hE h2, ct_w hE h3⟩ ⟨ct_blind, ct_recv hE hI he hc, fun U hU hW => ⟨rfl, by rw [hU], ct_at hE hI hU hW⟩⟩ rfl hn hls hst (lv_room hW) hdg hf
  intro T hT X
  rcases run T hT X with ⟨v, st0, t, T', L, h0, X', hL, e1, e2, ⟨v', w', ho, hp, hP, hdm, hF⟩, hg⟩ | ⟨q, st0, t, T', L, E, ce, h0, X', hL, e1, e2, ⟨w', hp, hP, hdm, hF⟩, hq, hv, hcl, hg⟩
  · cases ho
    obtain ⟨tt, a1, b1⟩ := kk v w' t.heap (locs ++ L) hp (ct_on hI h0 hP hdm hF hL) T' e1 X'
    exact ⟨tt, hg _ a1, b1⟩
  · obtain ⟨tt, a1, b1⟩ := kt E q ce w' t.heap (locs ++ L) hp (ct_on hI h0 hP hdm hF hL) hq hv hcl T' e1 X'
    exact ⟨tt, hg.trans a1, b1⟩
theorem ct_StX (hE : ct_E p m c cc nL s args c0 own D K n0 w0 A) (hI : mp_I D cl_all A s.heap w H locs) (hM : ct_X l n0 D K y (Cond.code y bytes maxL ret) fr lo mc ms As w post' thr')
    (h1 : Cond.methodLink own index y ∈ gw_l) (h2 : Cond.static y ∈ gw_l) (h4 : Cond.initialized y.cls ∈ gw_l) (h5 : Cond.code y bytes maxL ret ∈ gw_l)
    (hd : y.cls ≠ "java/lang/invoke/MethodHandle" ∧ y.cls ≠ "java/lang/invoke/VarHandle" ∧ (parseMethodDescriptor y.desc).map (fun d => d.parameters.length) = some n) (hR : fr + 1 ≤ R.frames ∧ 8 + (maxL + 11) + lo ≤ R.locals)
    (hn : As.length = n) (hls : ls.size = nL) (hst : st = As.reverse ++ rest) (hW : (rest.map fun v => v.category).sum ≤ 8) (hdg : decode cc pc = .ok (.invokestatic index, 3)) (hf : cells + mc ≤ R.cells ∧ slots + ms ≤ R.slots)
    (kk : ∀ (v : Option Value) (w' : mp_W) (H1 : Heap) (locs1 : List Loc), post' v w' → mp_I D cl_all A s.heap w' H1 locs1 → W p l e R s m args below meth c H1 locs1 (cells + mc) (slots + ms) Q (F0 m (pc + 3) ls (v.toList ++ rest)))
    (kt : ∀ (E : String) (q : Addr) (ce : Cell) (w' : mp_W) (H1 : Heap) (locs1 : List Loc), thr' E w' → mp_I D cl_all A s.heap w' H1 locs1 → H1[q]? = some ce → ce.vm = .none → s.vm.findClass E = some ce.cls → vx_W p l e R s m args below meth c H1 locs1 (cells + mc) (slots + ms) Q (F0 m pc ls rest) q) :
    W p l e R s m args below meth c H locs cells slots Q (F0 m pc ls st) := by
  have run := vx_runS (g := F0 m pc ls st) (rest := rest) (locs := locs) (cells := cells) (slots := slots) (below := below) (meth := meth) (e := e) hE.1.1 (hM H.size) ⟨ct_cb hE h1 h4 h5 hd hR, ct_w hE h2⟩ ⟨ct_blind, fun U hU hW => ⟨rfl, by rw [hU], ct_at hE hI hU hW⟩⟩ rfl hn hls hst (lv_room hW) hdg hf
  intro T hT X
  rcases run T hT X with ⟨v, st0, t, T', L, h0, X', hL, e1, e2, ⟨v', w', ho, hp, hP, hdm, hF⟩, hg⟩ | ⟨q, st0, t, T', L, E, ce, h0, X', hL, e1, e2, ⟨w', hp, hP, hdm, hF⟩, hq, hv, hcl, hg⟩
  · cases ho
    obtain ⟨tt, a1, b1⟩ := kk v w' t.heap (locs ++ L) hp (ct_on hI h0 hP hdm hF hL) T' e1 X'
    exact ⟨tt, hg _ a1, b1⟩
  · obtain ⟨tt, a1, b1⟩ := kt E q ce w' t.heap (locs ++ L) hp (ct_on hI h0 hP hdm hF hL) hq hv hcl T' e1 X'
    exact ⟨tt, hg.trans a1, b1⟩
end CTX
