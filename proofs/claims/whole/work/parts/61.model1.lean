/-! the reference: its cells by the labels h: h 0 the object, h 1 the array of registers, h 2 the sizes, h 3 made, h 4 work, h 5 now, h 6 out, h 7 open, h 8 names, h (9 + i) the register i -/
abbrev mI : Type := Nat → Int32
abbrev mA : Type := Nat → Nat → Int32
def ml (k : Nat) : Nat := if k = 2 then 16 else if k < 6 then 2001 else if k = 6 then 310000 else if k = 7 then 2002 else if k = 8 then 8000 else 2000
def mcl (K : Nat → ClassId) (k : Nat) : ClassId := if k = 6 then K 1 else K 0
abbrev ob_A (K : Nat → ClassId) (k : Nat) (g : Nat → Int32) : va_E := .inl (mcl K k, ml k, .inl g)
abbrev ob_M (h : Nat → Nat) (I : mI) : va_E := .inr (5, [.int (I 0), .ref (h 1), .ref (h 2), .ref (h 3), .ref (h 4), .ref (h 5), .int (I 1), .int (I 2), .int (I 3), .ref (h 6), .int (I 4), .ref (h 7), .int (I 5), .int (I 6), .ref (h 8)])
abbrev ob_G (K : Nat → ClassId) (h : Nat → Nat) : va_E := .inl (K 4, 16, .inr (.inr (.inr (.inr (fun i => some (h (9 + i)))))))
def mv (K : Nat → ClassId) (w : mp_W) (h : Nat → Nat) (I : mI) (A : mA) : Prop := (∀ i j, i < 25 → j < 25 → h i = h j → i = j) ∧ w (h 0) = some (ob_M h I) ∧ w (h 1) = some (ob_G K h) ∧ ∀ k, 2 ≤ k → k < 25 → w (h k) = some (ob_A K k (A k))
abbrev iu (I : mI) (j : Nat) (v : Int32) : mI := fun i => if i = j then v else I i
abbrev au (A : mA) (k : Nat) (g : Nat → Int32) : mA := fun j => if j = k then g else A j
theorem iu_self {I : mI} {j : Nat} {v : Int32} : iu I j v j = v := if_pos rfl
theorem iu_ne {I : mI} {j i : Nat} {v : Int32} (h : i ≠ j) : iu I j v i = I i := if_neg h
theorem au_self {A : mA} {k : Nat} {g : Nat → Int32} : au A k g k = g := if_pos rfl
theorem au_ne {A : mA} {k i : Nat} {g : Nat → Int32} (h : i ≠ k) : au A k g i = A i := if_neg h
def eqI (S : List Nat) (I I' : mI) : Prop := ∀ j, j ∉ S → I' j = I j
def eqA (S : List Nat) (A A' : mA) : Prop := ∀ j, j ∉ S → A' j = A j
theorem eqI.rf (S : List Nat) (I : mI) : eqI S I I := fun _ _ => rfl
theorem eqA.rf (S : List Nat) (A : mA) : eqA S A A := fun _ _ => rfl
theorem eqI.tr {S : List Nat} {I I1 I2 : mI} (h : eqI S I I1) (h2 : eqI S I1 I2) : eqI S I I2 := fun j hj => (h2 j hj).trans (h j hj)
theorem eqA.tr {S : List Nat} {A A1 A2 : mA} (h : eqA S A A1) (h2 : eqA S A1 A2) : eqA S A A2 := fun j hj => (h2 j hj).trans (h j hj)
theorem eqI.mono {S S' : List Nat} {I I1 : mI} (h : eqI S I I1) (hs : ∀ q ∈ S, q ∈ S') : eqI S' I I1 := fun j hj => h j (fun z => hj (hs j z))
theorem eqA.mono {S S' : List Nat} {A A1 : mA} (h : eqA S A A1) (hs : ∀ q ∈ S, q ∈ S') : eqA S' A A1 := fun j hj => h j (fun z => hj (hs j z))
theorem eqI.up {S : List Nat} {I I1 : mI} (h : eqI S I I1) {j : Nat} (hj : j ∈ S) (v : Int32) : eqI S I (iu I1 j v) := fun i hi => by
  rw [iu_ne (fun e => hi (by rw [e]; exact hj))]
  exact h i hi
theorem eqA.up {S : List Nat} {A A1 : mA} (h : eqA S A A1) {j : Nat} (hj : j ∈ S) (g : Nat → Int32) : eqA S A (au A1 j g) := fun i hi => by
  rw [au_ne (fun e => hi (by rw [e]; exact hj))]
  exact h i hi
def fm (h : Nat → Nat) (w w' : mp_W) : Prop := ∀ q, (∀ j, j < 25 → q ≠ h j) → w' q = w q
theorem fm.rf (h : Nat → Nat) (w : mp_W) : fm h w w := fun _ _ => rfl
theorem fm.tr {h : Nat → Nat} {w w1 w2 : mp_W} (a : fm h w w1) (b : fm h w1 w2) : fm h w w2 := fun q hq => (b q hq).trans (a q hq)
theorem fm.up {h : Nat → Nat} {w w1 : mp_W} (a : fm h w w1) {k : Nat} (hk : k < 25) (x : va_E) : fm h w (mp_up w1 (h k) x) := fun q hq => by
  rw [mp_up_ne _ _ (hq k hk)]
  exact a q hq
theorem mv.upI {K : Nat → ClassId} {w : mp_W} {h : Nat → Nat} {I : mI} {A : mA} (a : mv K w h I A) (I' : mI) : mv K (mp_up w (h 0) (ob_M h I')) h I' A := by
  obtain ⟨h1, h2, h3, h4⟩ := a
  refine ⟨h1, mp_up_self .., ?_, fun k hk hk2 => ?_⟩
  · rw [mp_up_ne _ _ (fun e => absurd (h1 1 0 (by decide) (by decide) e) (by decide))]; exact h3
  · rw [mp_up_ne _ _ (fun e => absurd (h1 k 0 hk2 (by decide) e) (by omega))]; exact h4 k hk hk2
theorem mv.upA {K : Nat → ClassId} {w : mp_W} {h : Nat → Nat} {I : mI} {A : mA} (a : mv K w h I A) {k : Nat} (hk : 2 ≤ k) (hk2 : k < 25) (g : Nat → Int32) : mv K (mp_up w (h k) (ob_A K k g)) h I (au A k g) := by
  obtain ⟨h1, h2, h3, h4⟩ := a
  refine ⟨h1, ?_, ?_, fun j hj hj2 => ?_⟩
  · rw [mp_up_ne _ _ (fun e => absurd (h1 0 k (by decide) hk2 e) (by omega))]; exact h2
  · rw [mp_up_ne _ _ (fun e => absurd (h1 1 k (by decide) hk2 e) (by omega))]; exact h3
  · by_cases e : j = k
    · subst e
      rw [mp_up_self, au_self]
    · rw [mp_up_ne _ _ (fun z => e (h1 j k hj2 hk2 z)), au_ne e]; exact h4 j hj hj2
theorem ml_r {i : Nat} : ml (9 + i) = 2000 := by unfold ml; rw [if_neg (by omega), if_neg (by omega), if_neg (by omega), if_neg (by omega), if_neg (by omega)]
theorem mcl_r {K : Nat → ClassId} {i : Nat} : mcl K (9 + i) = K 0 := by unfold mcl; rw [if_neg (by omega)]
theorem mcl_ne {K : Nat → ClassId} {k : Nat} (h : k ≠ 6) : mcl K k = K 0 := by unfold mcl; rw [if_neg h]
theorem ml_pos {k : Nat} : 16 ≤ ml k ∧ ml k ≤ 310000 := by
  unfold ml
  split
  · decide
  · split
    · decide
    · split
      · decide
      · split
        · decide
        · split <;> decide
/-- aaload of an array of arrays -/
theorem mp_aldA {p : Program} {l : Launch} {e : Env} {R : Room} {s : State} {m : MethodId} {args : Array Value} {below : List Frame} {meth : Method} {c : Code} {H : Heap} {locs : List Loc} {cells slots : Nat} {Q : State → Prop} {D : va_G} {cl : List vw_C} {tys : List (ClassId × FieldType)} {A : Nat → Prop} {H0 : Heap} {w : mp_W} {cc : ByteArray} {nL pc : Nat} {Ts : List Cond} {own : String} {ls : Array Slot} {rest : List Value} {a : Nat} (hX : mp_X p m c cc nL s args Ts own D cl tys) (hI : mp_I D cl A H0 w H locs) {cA : ClassId} {t : FieldType} {n : Nat} {f : Nat → Option Nat} (ha : w a = some (.inl (cA, n, .inr (.inr (.inr (.inr f)))))) (t0 : Nat) (ht : tys[t0]? = some (cA, .array t)) {i : Int32} (hin : vp_in i n) (hdg : decode cc pc = .ok (.aaload, 1))
    (kk : W p l e R s m args below meth c H locs cells slots Q (F0 m (pc + 1) ls (va_rf (f i.toNatClampNeg) :: rest))) : W p l e R s m args below meth c H locs cells slots Q (F0 m pc ls (.int i :: .ref a :: rest)) := by
  obtain ⟨⟨hx, hb, -, hown, hts⟩, hK⟩ := hX
  obtain ⟨⟨ws, hP, hD, hcv⟩, -⟩ := hI
  obtain ⟨q0, hq⟩ := hcv.at ha
  have hlt : i.toNatClampNeg < n := Nat.not_le.mp fun q => hin (Or.inr q)
  exact W.aald (v := va_rf (f i.toNatClampNeg)) (ty := .array t) hx hb (hP q0 _ hq) ((hK.2 t0 _ ht).1 n (fun j => va_rf (f j))) rfl (fun q => by cases q) (by show ¬ (i < 0 ∨ (arrV _ _ _).slots.size ≤ _); rw [arrV_size]; exact hin) (by show (arrV _ _ _).slots[_]? = _; rw [arrV_read _ _ hlt]) rfl rfl hdg kk
abbrev mo (K : Nat → ClassId) (h : Nat → Nat) (w w' : mp_W) (I : mI) (A : mA) : Prop := mv K w' h I A ∧ fm h w w'
/-- the row M is being made -/
def mk_m (I : mI) (A : mA) (M : List Int) : Prop := I 1 = nI (min M.length 2000) ∧ I 3 = (if M.length ≤ 2000 then 0 else 1) ∧ pt_h (A 3) (M.take 2000)
section KM1
variable {l : Launch} {n0 : Nat} {D : va_G} {K : Nat → ClassId} {w : mp_W} {h : Nat → Nat} {I : mI} {A : mA}
set_option maxRecDepth 100000 in
theorem kM_thrown (hv : mv K w h I A) : ct_M l n0 D K yM_thrown (Cond.code yM_thrown cM_thrown 1 (some .int)) 0 0 0 0 [.ref (h 0)] w (fun v w' => w' = w ∧ v = some (.int (I 0))) := by
  have h0 := hv.2.1
  refine ct_go (own := nm_M) (by decide) rfl (Nat.le_of_ble_eq_true rfl) ?_
  intro p e s m below meth c ls hE hI hr hk hn hl
  have hx := hE.1.1.1
  have hb := hE.1.1.2.1
  have hl : lv_has ls 1 [(0, .ref (h 0))] := hl
  refine lv_aload_n hx hb dM_thrown_0 rfl (lv_at hl 0 rfl) ?_
  refine mp_get hE.1 hI h0 rfl gx_M 0 (by decide) (List.mem_cons_of_mem _ gf_M7) rfl dM_thrown_1 ?_
  exact ct_iret hE hI hr hk ⟨rfl, rfl⟩ (by decide) (by decide) dM_thrown_4
set_option maxRecDepth 100000 in
theorem kM_refuse (hv : mv K w h I A) (x b : Int32) (hb01 : b = 0 ∨ b = 1) : ct_M l n0 D K yM_refuse (Cond.code yM_refuse cM_refuse 3 (some .boolean)) 0 0 0 0 [.ref (h 0), .int x, .int b] w (fun v w' => v = some (.int b) ∧ mo K h w w' (if b = 0 then I else iu I 0 x) A) := by
  have h0 := hv.2.1
  refine ct_go (own := nm_M) (by decide) rfl (Nat.le_of_ble_eq_true rfl) ?_
  intro p e s m below meth c ls hE hI hr hk hn hl
  have hx := hE.1.1.1
  have hb := hE.1.1.2.1
  have hl : lv_has ls 3 [(0, .ref (h 0)), (1, .int x), (2, .int b)] := hl
  refine lv_iload_n hx hb dM_refuse_0 rfl (lv_at hl 2 rfl) ?_
  refine lv_if_eq (tgt := 9) hx hb dM_refuse_1 (by decide) (fun hq => ?_) (fun hq => ?_)
  · refine lv_iload_n hx hb dM_refuse_9 rfl (lv_at hl 2 rfl) ?_
    rw [if_pos hq]
    exact ct_zret hE hI hr hk hb01 ⟨rfl, hv, fm.rf _ _⟩ (by decide) (by decide) dM_refuse_10
  · refine lv_aload_n hx hb dM_refuse_4 rfl (lv_at hl 0 rfl) ?_
    refine lv_iload_n hx hb dM_refuse_5 rfl (lv_at hl 1 rfl) ?_
    refine mp_put hE.1 hI h0 rfl gx_M ty_M to_M tn_M 0 (by decide) (List.mem_cons_of_mem _ gf_M7) rfl rfl rfl (Nat.le_of_ble_eq_true rfl) dM_refuse_6 (fun H locs hI => ?_)
    refine lv_iload_n hx hb dM_refuse_9 rfl (lv_at hl 2 rfl) ?_
    rw [if_neg hq]
    exact ct_zret hE hI hr hk hb01 ⟨rfl, hv.upI (iu I 0 x), (fm.rf _ _).up (by decide) _⟩ (by decide) (by decide) dM_refuse_10
set_option maxRecDepth 100000 in
theorem kM_none (hv : mv K w h I A) (i : Int32) : ct_M l n0 D K yM_none (Cond.code yM_none cM_none 2 (some .boolean)) 1 30 0 0 [.ref (h 0), .int i] w (fun v w' => ∃ I', v = some (.int (if rk i = none then 1 else 0)) ∧ mo K h w w' I' A ∧ I' 0 = (if rk i = none then 1 else 0) ∧ eqI [0] I I') := by
  have h0 := hv.2.1
  have hi := ci_rng i
  have e0 : (0 : Int32).toInt = 0 := rfl
  have e15 : (15 : Int32).toInt = 15 := rfl
  refine ct_go (own := nm_M) (by decide) rfl (Nat.le_of_ble_eq_true rfl) ?_
  intro p e s m below meth c ls hE hI hr hk hn hl
  have hx := hE.1.1.1
  have hb := hE.1.1.2.1
  have hl : lv_has ls 2 [(0, .ref (h 0)), (1, .int i)] := hl
  refine lv_aload_n hx hb dM_none_0 rfl (lv_at hl 0 rfl) ?_
  refine lv_iconst (v := 0) hx hb dM_none_1 (by decide) ?_
  refine mp_put hE.1 hI h0 rfl gx_M ty_M to_M tn_M 0 (by decide) (List.mem_cons_of_mem _ gf_M7) rfl rfl rfl (Nat.le_of_ble_eq_true rfl) dM_none_2 (fun H locs hI => ?_)
  have hv1 := hv.upI (iu I 0 0)
  obtain ⟨w1, hw1⟩ : ∃ z, mp_up w (h 0) (ob_M h (iu I 0 0)) = z := ⟨_, rfl⟩
  rw [hw1] at hv1
  have hI : mp_I D cl_all (mp_A w s.heap.size) s.heap w1 H locs := by rw [← hw1]; exact hI
  have hf1 : fm h w w1 := by rw [← hw1]; exact (fm.rf _ _).up (by decide) _
  have h1 := hv1.2.1
  have fin : ∀ (b : Int32) (ls : Array Slot), b = (if rk i = none then 1 else 0) → lv_has ls 2 [(0, .ref (h 0)), (1, .int i)] → W p l e { frames := 1, cells := 0, slots := 0, locals := 30 } s m ([Value.ref (h 0), .int i] : List Value).toArray below meth c H locs 0 0 (MQ below (ct_Q D w s.heap.size (fun v w' => ∃ I', v = some (.int (if rk i = none then 1 else 0)) ∧ mo K h w w' I' A ∧ I' 0 = (if rk i = none then 1 else 0) ∧ eqI [0] I I')) ([Value.ref (h 0), .int i] : List Value).toArray s 0 0 (mp_A w s.heap.size)) (F0 m 22 ls [.int b, .int 1, .ref (h 0)]) := by
    intro b ls hbb hl
    have hb01 : b = 0 ∨ b = 1 := by rw [hbb]; split; exact Or.inr rfl; exact Or.inl rfl
    refine ct_V (n := 2) hE hI (kM_refuse hv1 1 b hb01) h1 rfl gm_M67 gi_M_refuse gs_M_M_refuse gz_M gc_M_refuse (by decide +kernel) ⟨Nat.le_of_ble_eq_true rfl, Nat.le_of_ble_eq_true rfl⟩ rfl hl.1 rfl (Nat.le_of_ble_eq_true rfl) dM_none_22 ⟨Nat.le_of_ble_eq_true rfl, Nat.le_of_ble_eq_true rfl⟩ (fun v w2 H locs hq hI => ?_)
    obtain ⟨rfl, hv2, hf2⟩ := hq
    show W _ _ _ _ _ _ _ _ _ _ _ _ _ _ _ (F0 _ _ _ [.int _])
    refine ct_zret hE hI hr hk hb01 ⟨_, by rw [hbb], ⟨hv2, hf1.tr hf2⟩, ?_, ?_⟩ (by decide) (by decide) dM_none_25
    · rcases hb01 with e | e
      · rw [if_pos e, ← hbb, e]; rfl
      · rw [if_neg (by rw [e]; decide), ← hbb, e]; rfl
    · split
      · exact (eqI.rf _ _).up (by simp) _
      · exact ((eqI.rf _ _).up (by simp) _).up (by simp) _
  refine lv_aload_n hx hb dM_none_5 rfl (lv_at hl 0 rfl) ?_
  refine lv_iconst (v := 1) hx hb dM_none_6 (by decide) ?_
  refine lv_iload_n hx hb dM_none_7 rfl (lv_at hl 1 rfl) ?_
  refine lv_if_lt (tgt := 17) hx hb dM_none_8 (by decide) (fun hq => ?_) (fun hq => ?_)
  · rw [Int32.lt_iff_toInt_lt] at hq
    refine lv_iconst (v := 1) hx hb dM_none_17 (by decide) ?_
    refine lv_goto (tgt := 22) hx hb dM_none_18 (by decide) ?_
    exact fin 1 ls (by rw [if_pos]; unfold rk; rw [if_neg (by omega)]) hl
  · rw [Int32.lt_iff_toInt_lt] at hq
    refine lv_iload_n hx hb dM_none_11 rfl (lv_at hl 1 rfl) ?_
    refine lv_bipush (v := 15) hx hb dM_none_12 (by decide) ?_
    refine lv_icmp_le (tgt := 21) hx hb dM_none_14 (by decide) (fun hq2 => ?_) (fun hq2 => ?_)
    · rw [Int32.le_iff_toInt_le] at hq2
      refine lv_iconst (v := 0) hx hb dM_none_21 (by decide) ?_
      exact fin 0 ls (by rw [if_neg]; unfold rk; rw [if_pos (by omega)]; simp) hl
    · rw [Int32.le_iff_toInt_le] at hq2
      refine lv_iconst (v := 1) hx hb dM_none_17 (by decide) ?_
      refine lv_goto (tgt := 22) hx hb dM_none_18 (by decide) ?_
      exact fin 1 ls (by rw [if_pos]; unfold rk; rw [if_neg (by omega)]) hl
set_option maxRecDepth 100000 in
theorem kM_begin (hv : mv K w h I A) : ct_M l n0 D K yM_begin (Cond.code yM_begin cM_begin 1 none) 0 0 0 0 [.ref (h 0)] w (fun v w' => v = none ∧ ∃ I', mo K h w w' I' A ∧ mk_m I' A [] ∧ eqI [1, 3] I I') := by
  have h0 := hv.2.1
  refine ct_go (own := nm_M) (by decide) rfl (Nat.le_of_ble_eq_true rfl) ?_
  intro p e s m below meth c ls hE hI hr hk hn hl
  have hx := hE.1.1.1
  have hb := hE.1.1.2.1
  have hl : lv_has ls 1 [(0, .ref (h 0))] := hl
  refine lv_aload_n hx hb dM_begin_0 rfl (lv_at hl 0 rfl) ?_
  refine lv_iconst (v := 0) hx hb dM_begin_1 (by decide) ?_
  refine mp_put hE.1 hI h0 rfl gx_M ty_M to_M tn_M 6 (by decide) (List.mem_cons_of_mem _ gf_M31) rfl rfl rfl (Nat.le_of_ble_eq_true rfl) dM_begin_2 (fun H locs hI => ?_)
  have hv1 := hv.upI (iu I 1 0)
  obtain ⟨w1, hw1⟩ : ∃ z, mp_up w (h 0) (ob_M h (iu I 1 0)) = z := ⟨_, rfl⟩
  rw [hw1] at hv1
  have hI : mp_I D cl_all (mp_A w s.heap.size) s.heap w1 H locs := by rw [← hw1]; exact hI
  have hf1 : fm h w w1 := by rw [← hw1]; exact (fm.rf _ _).up (by decide) _
  have h1 := hv1.2.1
  refine lv_aload_n hx hb dM_begin_5 rfl (lv_at hl 0 rfl) ?_
  refine lv_iconst (v := 0) hx hb dM_begin_6 (by decide) ?_
  refine mp_put hE.1 hI h1 rfl gx_M ty_M to_M tn_M 8 (by decide) (List.mem_cons_of_mem _ gf_M37) rfl rfl rfl (Nat.le_of_ble_eq_true rfl) dM_begin_7 (fun H locs hI => ?_)
  exact ct_vret hE hI hr hk ⟨rfl, iu (iu I 1 0) 3 0, ⟨hv1.upI (iu (iu I 1 0) 3 0), hf1.up (by decide) _⟩, ⟨rfl, rfl, fun i y hy => by simp at hy⟩, ((eqI.rf _ _).up (by simp) _).up (by simp) _⟩ (by decide) (by decide) dM_begin_10
set_option maxRecDepth 100000 in
theorem kM_add {M : List Int} {z : Int} (hv : mv K w h I A) (hm : mk_m I A M) : ct_M l n0 D K yM_add (Cond.code yM_add cM_add 2 none) 0 0 0 0 [.ref (h 0), .int (ci_i z)] w (fun v w' => v = none ∧ ∃ I' A', mo K h w w' I' A' ∧ mk_m I' A' (M ++ [z]) ∧ eqI [1, 3] I I' ∧ eqA [3] A A') := by
  have h0 := hv.2.1
  have h3 : w (h 3) = some (ob_I K 2001 (A 3)) := hv.2.2.2 3 (by decide) (by decide)
  obtain ⟨m1, m2, m3⟩ := hm
  refine ct_go (own := nm_M) (by decide) rfl (Nat.le_of_ble_eq_true rfl) ?_
  intro p e s m below meth c ls hE hI hr hk hn hl
  have hx := hE.1.1.1
  have hb := hE.1.1.2.1
  have hl : lv_has ls 2 [(0, .ref (h 0)), (1, .int (ci_i z))] := hl
  refine lv_aload_n hx hb dM_add_0 rfl (lv_at hl 0 rfl) ?_
  refine mp_get hE.1 hI h0 rfl gx_M 6 (by decide) (List.mem_cons_of_mem _ gf_M31) rfl dM_add_1 ?_
  refine lv_sipush (v := nI 2000) hx hb dM_add_4 (by decide) ?_
  rw [m1]
  refine lv_icmp_ne (tgt := 16) hx hb dM_add_7 (by decide) (fun hq => ?_) (fun hq => ?_)
  · have hlt : M.length < 2000 := Nat.lt_of_not_le (fun hh => hq (by rw [Nat.min_eq_right hh]))
    rw [Nat.min_eq_left (by omega)] at m1
    rw [List.take_of_length_le (by omega)] at m3
    refine lv_aload_n hx hb dM_add_16 rfl (lv_at hl 0 rfl) ?_
    refine mp_get hE.1 hI h0 rfl gx_M 3 (by decide) (List.mem_cons_of_mem _ gf_M22) rfl dM_add_17 ?_
    refine lv_aload_n hx hb dM_add_20 rfl (lv_at hl 0 rfl) ?_
    refine lv_dup hx hb dM_add_21 rfl ?_
    refine mp_get hE.1 hI h0 rfl gx_M 6 (by decide) (List.mem_cons_of_mem _ gf_M31) rfl dM_add_22 ?_
    refine lv_dup_x1 hx hb dM_add_25 rfl rfl ?_
    refine lv_iconst (v := nI 1) hx hb dM_add_26 (by decide) ?_
    refine lv_iadd hx hb dM_add_27 ?_
    rw [m1, show nI M.length + nI 1 = nI (M.length + 1) from (Int32.ofNat_add _ _).symm]
    refine mp_put hE.1 hI h0 rfl gx_M ty_M to_M tn_M 6 (by decide) (List.mem_cons_of_mem _ gf_M31) rfl rfl rfl (Nat.le_of_ble_eq_true rfl) dM_add_28 (fun H locs hI => ?_)
    have hv1 := hv.upI (iu I 1 (nI (M.length + 1)))
    obtain ⟨w1, hw1⟩ : ∃ z, mp_up w (h 0) (ob_M h (iu I 1 (nI (M.length + 1)))) = z := ⟨_, rfl⟩
    rw [hw1] at hv1
    have hI : mp_I D cl_all (mp_A w s.heap.size) s.heap w1 H locs := by rw [← hw1]; exact hI
    have hf1 : fm h w w1 := by rw [← hw1]; exact (fm.rf _ _).up (by decide) _
    have h31 : w1 (h 3) = some (ob_I K 2001 (A 3)) := hv1.2.2.2 3 (by decide) (by decide)
    refine lv_iload_n hx hb dM_add_31 rfl (lv_at hl 1 rfl) ?_
    refine mp_ist hE.1 hI h31 0 rfl (vp_in_nI (by omega) (by omega)) dM_add_32 (fun H locs hI => ?_)
    rw [nI_clamp (by omega)] at hI
    refine ct_vret hE hI hr hk ⟨rfl, iu I 1 (nI (M.length + 1)), au A 3 (upd (A 3) M.length (ci_i z)), ⟨hv1.upA (k := 3) (by decide) (by decide) _, hf1.up (k := 3) (by decide) _⟩, ⟨?_, ?_, ?_⟩, (eqI.rf _ _).up (by simp) _, (eqA.rf _ _).up (by simp) _⟩ (by decide) (by decide) dM_add_33
    · rw [iu_self, List.length_append, List.length_singleton, Nat.min_eq_left (by omega)]
    · rw [iu_ne (by decide), m2, List.length_append, List.length_singleton, if_pos (by omega), if_pos (by omega)]
    · rw [au_self, List.take_of_length_le (by rw [List.length_append, List.length_singleton]; omega)]
      exact pt_h_app m3
  · have hge : 2000 ≤ M.length := by
      have := congrArg Int32.toNatClampNeg hq
      rw [nI_clamp (by omega), nI_clamp (by omega)] at this
      omega
    refine lv_aload_n hx hb dM_add_10 rfl (lv_at hl 0 rfl) ?_
    refine lv_iconst (v := 1) hx hb dM_add_11 (by decide) ?_
    refine mp_put hE.1 hI h0 rfl gx_M ty_M to_M tn_M 8 (by decide) (List.mem_cons_of_mem _ gf_M37) rfl rfl rfl (Nat.le_of_ble_eq_true rfl) dM_add_12 (fun H locs hI => ?_)
    refine ct_vret hE hI hr hk ⟨rfl, iu I 3 1, A, ⟨hv.upI (iu I 3 1), (fm.rf _ _).up (by decide) _⟩, ⟨?_, ?_, ?_⟩, (eqI.rf _ _).up (by simp) _, eqA.rf _ _⟩ (by decide) (by decide) dM_add_15
    · rw [iu_ne (by decide), m1, List.length_append, List.length_singleton, Nat.min_eq_right (by omega), Nat.min_eq_right (by omega)]
    · rw [iu_self, List.length_append, List.length_singleton, if_neg (by omega)]
    · rw [List.take_append_of_le_length hge]
      exact m3
end KM1
