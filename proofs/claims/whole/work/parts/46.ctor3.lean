/-! the constructor of BindingBench: what it asks of arrays of Terms; its contract -/
def cn_X (U : State) : Prop := va_AO nm_T U ∧ (Cond.arrayOver (.array .int)).before #[] U = true
theorem cn_X.moved {u U : State} (hvm : u.vm.Alike U.vm) (h : cn_X u) : cn_X U := ⟨va_AO.moved hvm h.1, Jvm.Stand.arrayOver_alikeB hvm h.2⟩
def cn_P (n0 : Nat) (D : va_G) (K : Nat → ClassId) (w : mp_W) (sz : Nat) (av : List Value) : Array Value → State → Prop := fun a U => ct_P n0 D K w sz av a U ∧ cn_X U
theorem cn_blind {n0 : Nat} {D : va_G} {K : Nat → ClassId} {w : mp_W} {sz : Nat} {av : List Value} : FrameBlind (cn_P n0 D K w sz av) := by
  intro a U g mk h
  exact ⟨ct_blind a U g mk h.1, cn_X.moved (u := U) (U := U.calling g mk a) (Vm.Alike.refl U.vm) h.2⟩
def cn_M (l : Launch) (n0 : Nat) (D : va_G) (K : Nat → ClassId) (y : MethodName) (cw : Cond) (fr lo mc ms : Nat) (av : List Value) (w : mp_W) (post : Option Value → mp_W → Prop) : Prop :=
  ∀ sz, Met l y (cw :: gw_l) { frames := fr, cells := mc, slots := ms, locals := lo } (cn_P n0 D K w sz av) (ct_Q D w sz post) mc ms (mp_A w sz)
section CNB
variable {l : Launch} {n0 : Nat} {D : va_G} {K : Nat → ClassId}
theorem cn_go {y : MethodName} {cc : ByteArray} {maxL fr lo mc ms : Nat} {ret : Option FieldType} {own : String} {av : List Value} {w : mp_W} {post : Option Value → mp_W → Prop} (hy : plainName y.cls = true) (ho : y.cls = own) (hav : (lg_sl av).length ≤ maxL)
    (body : ∀ (p : Program) (e : Env) (s : State) (m : MethodId) (below : List Frame) (meth : Method) (c : Code) (ls : Array Slot), cn_X s → ct_E p m c cc maxL s av.toArray (Cond.code y cc maxL ret) own D K n0 w (mp_A w s.heap.size) → mp_I D cl_all (mp_A w s.heap.size) s.heap w s.heap [] → meth.sig.returnType = ret → meth.locks = false → meth.name = y.name → lv_has ls maxL (lv_args 0 av) →
      W p l e { frames := fr, cells := mc, slots := ms, locals := lo } s m av.toArray below meth c s.heap [] 0 0 (MQ below (ct_Q D w s.heap.size post) av.toArray s mc ms (mp_A w s.heap.size)) (F0 m 0 ls [])) :
    cn_M l n0 D K y (Cond.code y cc maxL ret) fr lo mc ms av w post := by
  intro sz
  refine Met.ofW (cc := cc) (maxL := maxL) (ret := ret) hy rfl ?_
  intro p e s m args below meth c s₁ B hml hv
  obtain ⟨⟨rfl, hsz, hS⟩, hX⟩ := hv
  subst hsz
  have hl := lv_entry av (n := maxL) hav
  rw [lg_entry_eq]
  generalize (lg_sl av ++ List.replicate (maxL - (lg_sl av).length) Slot.unset).toArray = ls at hl ⊢
  have hown : s.vm.findClass own = some m.cls := by rw [← ho]; exact findClass_of_methodNamed B.named
  exact body p e s m below meth c ls hX ⟨⟨⟨B.exec, B.bytes, hml, hown, atoms_spec (ws := Cond.code y cc maxL ret :: gw_l) B.pre⟩, hS.2.1⟩, hS, hS.A⟩ hS.1.I B.returns B.notSynchronized (name_of_methodNamed B.named B.method).1 hl
end CNB
section CNR
variable {p : Program} {l : Launch} {e : Env} {R : Room} {s : State} {m : MethodId} {args : Array Value} {below : List Frame} {meth : Method} {c : Code} {H : Heap} {locs : List Loc} {cells slots mc ms : Nat} {Q : State → Prop}
variable {n0 : Nat} {D : va_G} {K : Nat → ClassId} {A : Nat → Prop} {w w0 : mp_W} {cc : ByteArray} {nL pc : Nat} {c0 : Cond} {own : String} {ls : Array Slot} {rest : List Value}
variable {y : MethodName} {bytes : ByteArray} {maxL index n fr lo : Nat} {b : Nat} {As st : List Value} {post' : Option Value → mp_W → Prop}
theorem cn_In (hX : cn_X s) (hE : ct_E p m c cc nL s args c0 own D K n0 w0 A) (hI : mp_I D cl_all A s.heap w H locs) (hM : cn_M l n0 D K y (Cond.code y bytes maxL none) fr lo mc ms (.ref b :: As) w post') (hy1 : y.name = "<init>")
    (h1 : Cond.methodLink own index y ∈ gw_l) (h2 : Cond.instanceMethod y ∈ gw_l) (h4 : Cond.initialized y.cls ∈ gw_l) (h5 : Cond.code y bytes maxL none ∈ gw_l)
    (hd : y.cls ≠ "java/lang/invoke/MethodHandle" ∧ y.cls ≠ "java/lang/invoke/VarHandle" ∧ (parseMethodDescriptor y.desc).map (fun d => d.parameters.length) = some n) (hR : fr + 1 ≤ R.frames ∧ 8 + (maxL + 11) + lo ≤ R.locals)
    (hn : As.length = n) (hls : ls.size = nL) (hst : st = As.reverse ++ .ref b :: rest) (hW : (rest.map fun v => v.category).sum ≤ 8) (hdg : decode cc pc = .ok (.invokespecial index, 3)) (hf : cells + mc ≤ R.cells ∧ slots + ms ≤ R.slots)
    (kk : ∀ (v : Option Value) (w' : mp_W) (H1 : Heap) (locs1 : List Loc), post' v w' → mp_I D cl_all A s.heap w' H1 locs1 → W p l e R s m args below meth c H1 locs1 (cells + mc) (slots + ms) Q (F0 m (pc + 3) ls (v.toList ++ rest))) :
    W p l e R s m args below meth c H locs cells slots Q (F0 m pc ls st) := by
  have run := va_runI (g := F0 m pc ls st) (rest := rest) (b := b) (As := As) (locs := locs) (cells := cells) (slots := slots) (below := below) (meth := meth) (e := e) hE.1.1 (hM H.size) ⟨ct_cb hE h1 h4 h5 hd hR, hy1, ct_w hE h2⟩ ⟨cn_blind, fun U hU hW => ⟨⟨rfl, by rw [hU], ct_at hE hI hU hW⟩, cn_X.moved hW.alike hX⟩⟩ rfl hn hls hst (lv_room hW) hdg hf
  intro T hT X
  obtain ⟨v, st0, t, T', L, h0, X', hL, e1, e2, ⟨v', w', ho, hp, hP, hdm, hF⟩, hg⟩ := run T hT X
  cases ho
  obtain ⟨tt, a1, b1⟩ := kk v w' t.heap (locs ++ L) hp (ct_on hI h0 hP hdm hF hL) T' e1 X'
  exact ⟨tt, hg _ a1, b1⟩
end CNR
section MPQ
variable {p : Program} {l : Launch} {e : Env} {R : Room} {s : State} {m : MethodId} {args : Array Value} {below : List Frame} {meth : Method} {c : Code} {H : Heap} {locs : List Loc} {cells slots : Nat} {Q : State → Prop}
variable {D : va_G} {cl : List vw_C} {tys : List (ClassId × FieldType)} {A : Nat → Prop} {H0 : Heap} {w : mp_W} {cc : ByteArray} {nL pc : Nat} {Ts : List Cond} {own : String} {ls : Array Slot} {rest : List Value} {a : Nat}
theorem mp_newq (hX : mp_X p m c cc nL s args Ts own D cl tys) (hI : mp_I D cl A H0 w H locs) {C : String} {index : Nat} (hclink : Cond.classLink own index C ∈ Ts) (hover : va_AO C s) {cA : ClassId} (t0 : Nat) (ht : tys[t0]? = some (cA, .object C))
    {n : Int32} {N' : Nat} (hn : ¬ n < 0) (hN : n.toNatClampNeg = N') (hbytes : N' * 4 ≤ 536870912) (hcells : cells + 1 ≤ R.cells) (hslots : slots + N' ≤ R.slots) (hdg : decode cc pc = .ok (.anewarray index, 3))
    (kk : ∀ (q : Nat) (H1 : Heap), w q = none → mp_I D cl A H0 (mp_up w q (.inl (cA, N', .inr (.inr (.inr (.inr (fun _ => none))))))) H1 locs → W p l e R s m args below meth c H1 locs (cells + 1) (slots + N') Q (F0 m (pc + 3) ls (.ref q :: rest))) : W p l e R s m args below meth c H locs cells slots Q (F0 m pc ls (.int n :: rest)) := by
  obtain ⟨⟨hx, hb, -, hown, hts⟩, hK⟩ := hX
  obtain ⟨⟨ws, hP, hD, hcv⟩, hS, hA⟩ := hI
  refine va_newq hx hb hown (hts _ hclink) hover hK hP hD hS hA hn hN hbytes hcells hslots hdg (fun q c1 H1 hK1 hP1 hD1 hS1 => ?_)
  have h2 : c1 = cA := mp_RAu (hK1.2 tys.length (c1, .object C) (by simp)).2 (hK.2 t0 _ ht).2
  subst h2
  have h3 := hcv.push hD1
  exact kk q H1 h3.2 ⟨⟨_, hP1, hD1, h3.1⟩, hS1, hA⟩
end MPQ
abbrev ob_R (K : Nat → ClassId) (g : Nat → Option Nat) : va_E := .inl (K 3, 16, .inr (.inr (.inr (.inr g))))
/-- a new bench: its registers' array ra, the Terms and rows of L, its Workshop ws, its Text tx -/
def mk_r (K : Nat → ClassId) (w' : mp_W) (g : Nat → Option Nat) (L : List Nat) (i : Nat) : Prop := L.length = 2 * i ∧ ∀ j, j < i → ∃ t a, L[2 * j]? = some t ∧ L[2 * j + 1]? = some a ∧ g j = some t ∧ w' t = some (ob_T a 1) ∧ w' a = some (ob_I K 8 (fun _ => 0))
theorem mk_r.kp {K : Nat → ClassId} {w w' : mp_W} {g : Nat → Option Nat} {L : List Nat} {i : Nat} {S : List Nat} (h : mk_r K w g L i) (ho : ke S w w') (hS : ∀ q ∈ L, q ∉ S) : mk_r K w' g L i := by
  refine ⟨h.1, fun j hj => ?_⟩
  obtain ⟨t, a, h1, h2, h3, h4, h5⟩ := h.2 j hj
  exact ⟨t, a, h1, h2, h3, ho t _ h4 (hS t (List.mem_of_getElem? h1)), ho a _ h5 (hS a (List.mem_of_getElem? h2))⟩
def mk_B (K : Nat → ClassId) (w w' : mp_W) (x : Nat) : Prop := ∃ ra L ws t1 a1 t2 a2 k1 b1 k2 b2 k3 b3 tx by0 k4 b4 g, fz [x] (([ra] ++ L) ++ ([ws] ++ [t1, a1, t2, a2, k1, b1, k2, b2, k3, b3]) ++ ([tx] ++ [by0, k4, b4])) w w' ∧ w' x = some (.inr (4, [.ref ra, .ref ws, .ref tx])) ∧ w' ra = some (ob_R K g) ∧ mk_r K w' g L 16 ∧
  w' ws = some (.inr (3, [.ref t1, .ref t2, .ref k1, .ref k2, .ref k3])) ∧ w' t1 = some (ob_T a1 1) ∧ w' a1 = some (ob_I K 2000 (fun _ => 0)) ∧ w' t2 = some (ob_T a2 1) ∧ w' a2 = some (ob_I K 2000 (fun _ => 0)) ∧ pt_W K w' k1 b1 1 1 ([], 0) ∧ pt_W K w' k2 b2 0 1 ([], 0) ∧ pt_W K w' k3 b3 0 1 ([], 0) ∧
  w' tx = some (.inr (1, [.ref by0, .int 0, .ref k4])) ∧ w' by0 = some (ob_Y K 64 (fun _ => 0)) ∧ pt_W K w' k4 b4 1 0 ([], 0)
section KC3
variable {l : Launch} {n0 : Nat} {D : va_G} {K : Nat → ClassId} {w : mp_W}
set_option maxRecDepth 100000 in
set_option maxHeartbeats 2000000 in
theorem kB_init {x : Nat} (hB : w x = some (.inr (4, [.null, .null, .null]))) : cn_M l n0 D K yB_init (Cond.code yB_init cB_init 2 none) 3 120 48 4872 [.ref x] w (fun v w' => v = none ∧ mk_B K w w' x) := by
  refine cn_go (own := nm_B) (by decide) rfl (Nat.le_of_ble_eq_true rfl) ?_
  intro p e s m below meth c ls hX hE hI hr hk hn hl
  have hx := hE.1.1.1
  have hb := hE.1.1.2.1
  have hl : lv_has ls 2 [(0, .ref x)] := hl
  refine lv_aload_n hx hb dB_init_0 rfl (lv_at hl 0 rfl) ?_
  refine W.objInit hx hb hE.1.1.2.2.2.1 (ct_w hE gm_B1) (ct_w hE gi_O_init) (ct_w hE gc_O_init) rfl (by rw [hE.1.1.2.2.1]; exact hl.1) rfl dB_init_1 (Nat.le_of_ble_eq_true rfl) (Nat.le_of_ble_eq_true rfl) ?_
  show W _ _ _ _ _ _ _ _ _ _ _ _ _ _ _ (F0 _ _ _ [])
  refine lv_aload_n hx hb dB_init_4 rfl (lv_at hl 0 rfl) ?_
  refine lv_bipush (v := nI 16) hx hb dB_init_5 (by decide) ?_
  refine mp_newq (C := nm_T) hE.1 hI (List.mem_cons_of_mem _ gk_B9) hX.1 3 rfl (N' := 16) (nI_pos (by omega)) (nI_clamp (by omega)) (Nat.le_of_ble_eq_true rfl) (Nat.le_of_ble_eq_true rfl) (Nat.le_of_ble_eq_true rfl) dB_init_7 (fun ra H hq0 hI => ?_)
  obtain ⟨x1, hx1⟩ : ∃ z, mp_up w ra (ob_R K (fun _ => none)) = z := ⟨_, rfl⟩
  have hI : mp_I D cl_all (mp_A w s.heap.size) s.heap x1 H [] := by rw [← hx1]; exact hI
  have z1 : fz [x] [ra] w x1 := by rw [← hx1]; exact fz.one (mp_some hB) hq0
  have r1 : x1 ra = some (ob_R K (fun _ => none)) := by rw [← hx1]; exact mp_up_self ..
  have e1 : x1 x = some (.inr (4, [.null, .null, .null])) := by rw [← hx1, mp_up_ne _ _ (fun z => by rw [← z, hB] at hq0; cases hq0)]; exact hB
  have nra : ra ∉ [x] := by simp; intro z; rw [z, e1] at r1; cases r1
  refine mp_putF hE.1 hI e1 rfl gx_B ty_B to_B tn_B 0 (by decide) (List.mem_cons_of_mem _ gf_B11) rfl hn rfl rfl rfl (Nat.le_of_ble_eq_true rfl) dB_init_10 (fun H locs hI => ?_)
  obtain ⟨x2, hx2⟩ : ∃ z, mp_up x1 x (.inr (4, [.ref ra, .null, .null])) = z := ⟨_, rfl⟩
  have hI : mp_I D cl_all (mp_A w s.heap.size) s.heap x2 H locs := by rw [← hx2]; exact hI
  have z2 : fz [x] [] x1 x2 := by rw [← hx2]; exact fz.upd (mp_some e1) (by simp)
  have e2 : x2 x = some (.inr (4, [.ref ra, .null, .null])) := by rw [← hx2]; exact mp_up_self ..
  have r2 := z2.kp _ _ r1 nra
  have z02 := z1.tr z2 (fun q hq => Or.inl hq)
  refine lv_iconst (v := nI 0) hx hb dB_init_13 (by decide) ?_
  refine lv_istore_n hx hb dB_init_14 rfl hl (by decide) rfl (fun ls hl => ?_)
  have rest : ∀ (L : List Nat) (g : Nat → Option Nat) (w2 : mp_W) (ls : Array Slot) (H : Heap) (locs : List Loc), fz [x] ([ra] ++ L) w w2 → w2 x = some (.inr (4, [.ref ra, .null, .null])) → w2 ra = some (ob_R K g) → mk_r K w2 g L 16 → mp_I D cl_all (mp_A w s.heap.size) s.heap w2 H locs → lv_has ls 2 [(1, .int (nI 16)), (0, .ref x)] →
      W p l e { frames := 3, cells := 48, slots := 4872, locals := 120 } s m ([Value.ref x] : List Value).toArray below meth c H locs 33 176 (MQ below (ct_Q D w s.heap.size (fun v w' => v = none ∧ mk_B K w w' x)) ([Value.ref x] : List Value).toArray s 48 4872 (mp_A w s.heap.size)) (F0 m 42 ls []) := by
    intro L g w2 ls H locs z0 e0 r0 m0 hI hl
    have nL : ∀ q ∈ L, q ∉ [x] := fun q hq => by
      have h1 := (z0.2.1 q (List.mem_append_right _ hq)).1
      simp
      intro z
      rw [z, hB] at h1
      cases h1
    refine lv_aload_n hx hb dB_init_42 rfl (lv_at hl 1 rfl) ?_
    refine mp_new (ci := 3) (fs := [.null, .null, .null, .null, .null]) hE.1 hI rfl gx_S ty_S to_S (List.mem_cons_of_mem _ gk_B18) (List.mem_cons_of_mem _ gn_S) (List.mem_cons_of_mem _ gz_S) nd_S (Nat.le_of_ble_eq_true rfl) (Nat.le_of_ble_eq_true rfl) dB_init_43 (fun ws H hq0 hI => ?_)
    obtain ⟨y1, hy1⟩ : ∃ z, mp_up w2 ws (.inr (3, [.null, .null, .null, .null, .null])) = z := ⟨_, rfl⟩
    have hI : mp_I D cl_all (mp_A w s.heap.size) s.heap y1 H locs := by rw [← hy1]; exact hI
    have zn : fz [x] [ws] w2 y1 := by rw [← hy1]; exact fz.one (mp_some e0) hq0
    have ht : y1 ws = some (.inr (3, [.null, .null, .null, .null, .null])) := by rw [← hy1]; exact mp_up_self ..
    have hnn : x ≠ ws := fun z => by rw [← z, e0] at hq0; cases hq0
    have e1 : y1 x = some (.inr (4, [.ref ra, .null, .null])) := by rw [← hy1, mp_up_ne _ _ hnn]; exact e0
    have r1 := zn.kp _ _ r0 nra
    have m1 := m0.kp zn.kp nL
    refine lv_dup hx hb dB_init_46 rfl ?_
    refine ct_In (n := 0) hE hI (kS_init ht) rfl gm_B20 gi_S_init gz_S gc_S_init (by decide +kernel) ⟨Nat.le_of_ble_eq_true rfl, Nat.le_of_ble_eq_true rfl⟩ rfl hl.1 rfl (Nat.le_of_ble_eq_true rfl) dB_init_47 ⟨Nat.le_of_ble_eq_true rfl, Nat.le_of_ble_eq_true rfl⟩ (fun v y2 H locs hq hI => ?_)
    obtain ⟨rfl, t1, a1, t2, a2, k1, b1, k2, b2, k3, b3, zc, s0, s1, s2, s3, s4, s5, s6, s7⟩ := hq
    show W _ _ _ _ _ _ _ _ _ _ _ _ _ _ _ (F0 _ _ _ [.ref _, .ref _])
    have e2 := zc.kp _ _ e1 (by simp; exact hnn)
    have r2 := zc.kp _ _ r1 (by simp; intro z; rw [z, ht] at r1; cases r1)
    have m2 := m1.kp zc.kp (fun q hq => by
      simp
      intro z
      have h1 := (z0.2.1 q (List.mem_append_right _ hq)).2
      rw [z, hq0] at h1
      exact h1 rfl)
    refine mp_putF hE.1 hI e2 rfl gx_B ty_B to_B tn_B 1 (by decide) (List.mem_cons_of_mem _ gf_B21) rfl hn rfl rfl rfl (Nat.le_of_ble_eq_true rfl) dB_init_50 (fun H locs hI => ?_)
    obtain ⟨y3, hy3⟩ : ∃ z, mp_up y2 x (.inr (4, [.ref ra, .ref ws, .null])) = z := ⟨_, rfl⟩
    have hI : mp_I D cl_all (mp_A w s.heap.size) s.heap y3 H locs := by rw [← hy3]; exact hI
    have zp : fz [x] [] y2 y3 := by rw [← hy3]; exact fz.upd (mp_some e2) (by simp)
    have e3 : y3 x = some (.inr (4, [.ref ra, .ref ws, .null])) := by rw [← hy3]; exact mp_up_self ..
    have nc : ∀ q ∈ [t1, a1, t2, a2, k1, b1, k2, b2, k3, b3], q ∉ [x] := fun q hq => by
      have h1 := (zc.2.1 q hq).1
      simp
      intro z
      rw [z, e1] at h1
      cases h1
    have nw : ws ∉ [x] := by simp; exact Ne.symm hnn
    have r3 := zp.kp _ _ r2 nra
    have m3 := m2.kp zp.kp nL
    have s0 := zp.kp _ _ s0 nw
    have s1 := zp.kp _ _ s1 (nc _ (by simp))
    have s2 := zp.kp _ _ s2 (nc _ (by simp))
    have s3 := zp.kp _ _ s3 (nc _ (by simp))
    have s4 := zp.kp _ _ s4 (nc _ (by simp))
    have s5 := s5.kp zp.kp (nc _ (by simp)) (nc _ (by simp))
    have s6 := s6.kp zp.kp (nc _ (by simp)) (nc _ (by simp))
    have s7 := s7.kp zp.kp (nc _ (by simp)) (nc _ (by simp))
    have za := z0.tr ((zn.tr zc (fun q hq => Or.inr hq)).tr zp (fun q hq => Or.inl hq)) (fun q hq => Or.inl hq)
    clear hq0
    refine lv_aload_n hx hb dB_init_53 rfl (lv_at hl 1 rfl) ?_
    refine mp_new (ci := 1) (fs := [.null, .int 0, .null]) hE.1 hI rfl gx_X ty_X to_X (List.mem_cons_of_mem _ gk_B25) (List.mem_cons_of_mem _ gn_X) (List.mem_cons_of_mem _ gz_X) nd_X (Nat.le_of_ble_eq_true rfl) (Nat.le_of_ble_eq_true rfl) dB_init_54 (fun tx H hq0 hI => ?_)
    obtain ⟨y4, hy4⟩ : ∃ z, mp_up y3 tx (.inr (1, [.null, .int 0, .null])) = z := ⟨_, rfl⟩
    have hI : mp_I D cl_all (mp_A w s.heap.size) s.heap y4 H locs := by rw [← hy4]; exact hI
    have zm : fz [x] [tx] y3 y4 := by rw [← hy4]; exact fz.one (mp_some e3) hq0
    have ht4 : y4 tx = some (.inr (1, [.null, .int 0, .null])) := by rw [← hy4]; exact mp_up_self ..
    have ntx : ∀ q z, y3 q = some z → q ∉ [tx] := fun q z h => by
      simp
      intro e
      rw [e, hq0] at h
      cases h
    have e4 : y4 x = some (.inr (4, [.ref ra, .ref ws, .null])) := by rw [← hy4, mp_up_ne _ _ (fun z => by rw [← z, e3] at hq0; cases hq0)]; exact e3
    refine lv_dup hx hb dB_init_57 rfl ?_
    refine ct_In (n := 0) hE hI (kX_init ht4) rfl gm_B27 gi_X_init gz_X gc_X_init (by decide +kernel) ⟨Nat.le_of_ble_eq_true rfl, Nat.le_of_ble_eq_true rfl⟩ rfl hl.1 rfl (Nat.le_of_ble_eq_true rfl) dB_init_58 ⟨Nat.le_of_ble_eq_true rfl, Nat.le_of_ble_eq_true rfl⟩ (fun v y5 H locs hq hI => ?_)
    obtain ⟨rfl, by0, k4, b4, zx, q0, q1, q2⟩ := hq
    show W _ _ _ _ _ _ _ _ _ _ _ _ _ _ _ (F0 _ _ _ [.ref _, .ref _])
    have e5 := zx.kp _ _ e4 (ntx _ _ e3)
    refine mp_putF hE.1 hI e5 rfl gx_B ty_B to_B tn_B 2 (by decide) (List.mem_cons_of_mem _ gf_B28) rfl hn rfl rfl rfl (Nat.le_of_ble_eq_true rfl) dB_init_61 (fun H locs hI => ?_)
    have zq : fz [x] [] y5 (mp_up y5 x (.inr (4, [.ref ra, .ref ws, .ref tx]))) := fz.upd (mp_some e5) (by simp)
    have nx : ∀ q ∈ [by0, k4, b4], q ∉ [x] := fun q hq => by
      have h1 := (zx.2.1 q hq).1
      simp
      intro z
      rw [z, e4] at h1
      cases h1
    have kk : ∀ q z, y3 q = some z → q ∉ [x] → mp_up y5 x (.inr (4, [.ref ra, .ref ws, .ref tx])) q = some z := fun q z h hq => zq.kp _ _ (zx.kp _ _ (zm.kp _ _ h hq) (ntx _ _ h)) hq
    have kW : ∀ k b fa ff, pt_W K y3 k b fa ff ([], 0) → k ∉ [x] → b ∉ [x] → pt_W K (mp_up y5 x (.inr (4, [.ref ra, .ref ws, .ref tx]))) k b fa ff ([], 0) := fun k b fa ff h h1 h2 => by
      obtain ⟨f, a1, a2, a3⟩ := h
      exact ⟨f, kk _ _ a1 h1, kk _ _ a2 h2, a3⟩
    have zz := za.tr ((zm.tr zx (fun q hq => Or.inr hq)).tr zq (fun q hq => Or.inl hq)) (fun q hq => Or.inl hq)
    have nt : tx ∉ [x] := by simp; intro z; rw [z, e3] at hq0; cases hq0
    refine ct_vret hE hI hr hk ⟨rfl, ra, L, ws, t1, a1, t2, a2, k1, b1, k2, b2, k3, b3, tx, by0, k4, b4, g, ?_, mp_up_self .., kk _ _ r3 nra, ⟨m3.1, fun j hj => ?_⟩, kk _ _ s0 nw, kk _ _ s1 (nc _ (by simp)), kk _ _ s2 (nc _ (by simp)), kk _ _ s3 (nc _ (by simp)), kk _ _ s4 (nc _ (by simp)), kW _ _ _ _ s5 (nc _ (by simp)) (nc _ (by simp)), kW _ _ _ _ s6 (nc _ (by simp)) (nc _ (by simp)), kW _ _ _ _ s7 (nc _ (by simp)) (nc _ (by simp)), zq.kp _ _ q0 nt, zq.kp _ _ q1 (nx _ (by simp)), q2.kp zq.kp (nx _ (by simp)) (nx _ (by simp))⟩ (by decide) (by decide) dB_init_64
    · have : ([ws] ++ [t1, a1, t2, a2, k1, b1, k2, b2, k3, b3] ++ []) = ([ws] ++ [t1, a1, t2, a2, k1, b1, k2, b2, k3, b3]) := by simp
      rw [this] at zz
      have : ([tx] ++ [by0, k4, b4] ++ []) = ([tx] ++ [by0, k4, b4]) := by simp
      rw [this] at zz
      exact zz
    · obtain ⟨t, a, h1, h2, h3, h4, h5⟩ := m3.2 j hj
      exact ⟨t, a, h1, h2, h3, kk _ _ h4 (nL t (List.mem_of_getElem? h1)), kk _ _ h5 (nL a (List.mem_of_getElem? h2))⟩
  have loop : ∀ (k i : Nat) (L : List Nat) (g : Nat → Option Nat) (w2 : mp_W) (ls : Array Slot) (H : Heap) (locs : List Loc), i + k = 16 → fz [x] ([ra] ++ L) w w2 → w2 x = some (.inr (4, [.ref ra, .null, .null])) → w2 ra = some (ob_R K g) → mk_r K w2 g L i → mp_I D cl_all (mp_A w s.heap.size) s.heap w2 H locs → lv_has ls 2 [(1, .int (nI i)), (0, .ref x)] →
      W p l e { frames := 3, cells := 48, slots := 4872, locals := 120 } s m ([Value.ref x] : List Value).toArray below meth c H locs (1 + 2 * i) (16 + 10 * i) (MQ below (ct_Q D w s.heap.size (fun v w' => v = none ∧ mk_B K w w' x)) ([Value.ref x] : List Value).toArray s 48 4872 (mp_A w s.heap.size)) (F0 m 15 ls []) := by
    intro k
    induction k with
    | zero =>
      intro i L g w2 ls H locs hik z0 e0 r0 m0 hI hl
      have : i = 16 := by omega
      subst this
      refine lv_iload_n hx hb dB_init_15 rfl (lv_at hl 0 rfl) ?_
      refine lv_bipush (v := nI 16) hx hb dB_init_16 (by decide) ?_
      refine lv_icmp_ge (tgt := 42) hx hb dB_init_18 (by decide) (fun hq => ?_) (fun hq => ?_)
      · exact rest L g w2 ls H locs z0 e0 r0 m0 hI hl
      · exact absurd (nI_le (a := 16) (b := 16) (by omega) (by omega)) hq
    | succ k ih =>
      intro i L g w2 ls H locs hik z0 e0 r0 m0 hI hl
      have nL : ∀ q ∈ L, q ∉ [x] := fun q hq => by
        have h1 := (z0.2.1 q (List.mem_append_right _ hq)).1
        simp
        intro z
        rw [z, hB] at h1
        cases h1
      refine lv_iload_n hx hb dB_init_15 rfl (lv_at hl 0 rfl) ?_
      refine lv_bipush (v := nI 16) hx hb dB_init_16 (by decide) ?_
      refine lv_icmp_ge (tgt := 42) hx hb dB_init_18 (by decide) (fun hq => ?_) (fun hq => ?_)
      · exact absurd ((nI_leI (by omega) (by omega)).mp hq) (by omega)
      · skip
        refine lv_aload_n hx hb dB_init_21 rfl (lv_at hl 1 rfl) ?_
        refine mp_get hE.1 hI e0 rfl gx_B 0 (by decide) (List.mem_cons_of_mem _ gf_B11) rfl dB_init_22 ?_
        refine lv_iload_n hx hb dB_init_25 rfl (lv_at hl 0 rfl) ?_
        refine mp_new (ci := 0) (fs := [.null, .int 0]) hE.1 hI rfl gx_T ty_T to_T (List.mem_cons_of_mem _ gk_B9) (List.mem_cons_of_mem _ gn_T) (List.mem_cons_of_mem _ gz_T) nd_T (by show 1 + 2 * i + 1 ≤ 48; omega) (by show 16 + 10 * i + 2 ≤ 4872; omega) dB_init_26 (fun t H hq0 hI => ?_)
        obtain ⟨y1, hy1⟩ : ∃ z, mp_up w2 t (.inr (0, [.null, .int 0])) = z := ⟨_, rfl⟩
        have hI : mp_I D cl_all (mp_A w s.heap.size) s.heap y1 H locs := by rw [← hy1]; exact hI
        have zn : fz [x] [t] w2 y1 := by rw [← hy1]; exact fz.one (mp_some e0) hq0
        have ht : y1 t = some (.inr (0, [.null, .int 0])) := by rw [← hy1]; exact mp_up_self ..
        have nt : ∀ q z, w2 q = some z → q ∉ [t] := fun q z h => by
          simp
          intro e
          rw [e, hq0] at h
          cases h
        have e1 : y1 x = some (.inr (4, [.ref ra, .null, .null])) := by rw [← hy1, mp_up_ne _ _ (fun z => by rw [← z, e0] at hq0; cases hq0)]; exact e0
        have r1 := zn.kp _ _ r0 nra
        have m1 := m0.kp zn.kp nL
        refine lv_dup hx hb dB_init_29 rfl ?_
        refine lv_bipush (v := nI 8) hx hb dB_init_30 (by decide) ?_
        refine ct_In (n := 1) hE hI (kT_init (n := 8) ht (by decide)) rfl gm_B15 gi_T_init gz_T gc_T_init (by decide +kernel) ⟨Nat.le_of_ble_eq_true rfl, Nat.le_of_ble_eq_true rfl⟩ rfl hl.1 rfl (Nat.le_of_ble_eq_true rfl) dB_init_32 ⟨by show 1 + 2 * i + 1 + 1 ≤ 48; omega, by show 16 + 10 * i + 2 + 8 ≤ 4872; omega⟩ (fun v y2 H locs hq hI => ?_)
        obtain ⟨rfl, a, zc, hc1, hc2⟩ := hq
        show W _ _ _ _ _ _ _ _ _ _ _ _ _ _ _ (F0 _ _ _ [.ref _, .int _, .ref _])
        have e2 := zc.kp _ _ e1 (nt _ _ e0)
        have r2 := zc.kp _ _ r1 (nt _ _ r0)
        have m2 := m1.kp zc.kp (fun q hq => by
          simp
          intro z
          have h1 := (z0.2.1 q (List.mem_append_right _ hq)).2
          rw [z, hq0] at h1
          exact h1 rfl)
        refine mp_ast hE.1 hI r2 3 rfl hc1 (r := (nm_T, tf_T, 2)) rfl (vp_in_nI (by omega) (by omega)) dB_init_35 (fun H locs hI => ?_)
        rw [nI_clamp (by omega)] at hI
        obtain ⟨y3, hy3⟩ : ∃ z, mp_up y2 ra (ob_R K (va_up g i (some t))) = z := ⟨_, rfl⟩
        have hI : mp_I D cl_all (mp_A w s.heap.size) s.heap y3 H locs := by rw [← hy3]; exact hI
        have zp : fz [ra] [] y2 y3 := by rw [← hy3]; exact fz.upd (mp_some r2) (by simp)
        have e3 := zp.kp _ _ e2 (by simp; intro z; rw [← z, e2] at r2; cases r2)
        have r3 : y3 ra = some (ob_R K (va_up g i (some t))) := by rw [← hy3]; exact mp_up_self ..
        have nra2 : ∀ q z, y2 q = some z → (∀ f, z ≠ ob_R K f) → q ∉ [ra] := fun q z h hf => by
          simp
          intro e
          rw [e, r2] at h
          exact hf _ (Option.some.inj h).symm
        have hc1 := zp.kp _ _ hc1 (nra2 _ _ hc1 (fun f h => by cases h))
        have hc2 := zp.kp _ _ hc2 (nra2 _ _ hc2 (fun f h => absurd (show (8 : Nat) = 16 from congrArg (fun z : va_E => match z with | .inl q => q.2.1 | .inr _ => 0) h) (by decide)))
        have zz := (z0.tr (zn.tr zc (fun q hq => Or.inr hq)) (fun q hq => Or.inl hq)).tr zp (fun q hq => Or.inr (by simp at hq; subst hq; simp))
        have nrL : ra ∉ L := (List.nodup_cons.mp z0.1).1
        have m3 := m2.kp zp.kp (fun q hq => by
          simp
          intro e
          exact nrL (by rw [← e]; exact hq))
        have hm : mk_r K y3 (va_up g i (some t)) (L ++ [t, a]) (i + 1) := by
          have hlen := m3.1
          refine ⟨by simp; omega, fun j hj => ?_⟩
          by_cases hji : j = i
          · subst hji
            refine ⟨t, a, ?_, ?_, ?_, hc1, hc2⟩
            · rw [List.getElem?_append_right (by omega), hlen]; simp
            · rw [List.getElem?_append_right (by omega), hlen, show 2 * j + 1 - 2 * j = 1 by omega]; rfl
            · unfold va_up; rw [if_pos rfl]
          · obtain ⟨t', a', h1, h2, h3, h4, h5⟩ := m3.2 j (by omega)
            refine ⟨t', a', ?_, ?_, ?_, h4, h5⟩
            · rw [List.getElem?_append_left (by omega)]; exact h1
            · rw [List.getElem?_append_left (by omega)]; exact h2
            · unfold va_up; rw [if_neg hji]; exact h3
        refine lv_iinc (k := 0) (v := nI (i + 1)) hx hb dB_init_36 hl rfl (nI_1 i) (by decide) rfl (fun ls hl => ?_)
        refine lv_goto (tgt := 15) hx hb dB_init_39 (by decide) ?_
        refine W.widen (k := 1 + 2 * (i + 1)) (n := 16 + 10 * (i + 1)) (by omega) (by omega) ?_
        refine ih (i + 1) (L ++ [t, a]) _ y3 ls H locs (by omega) ?_ e3 r3 hm hI hl
        have hz : ([ra] ++ L) ++ ([t] ++ [a]) ++ [] = [ra] ++ (L ++ [t, a]) := by simp
        rw [hz] at zz
        exact zz
  exact loop 16 0 [] (fun _ => none) x2 ls H locs rfl (by simpa using z02) e2 r2 ⟨rfl, fun j hj => by omega⟩ hI hl
end KC3
