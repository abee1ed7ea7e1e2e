/-! the law's cases: the bench and the reference side by side -/
def LI (K : Nat → ClassId) (w : mp_W) (xb xm ja bc : Nat) : Prop := ∃ (f : Nat → Nat) (mi : Nat) (h : Nat → Nat) (I : mI) (A : mA) (σ : Nat → Std.Format) (O : List Int) (c : Nat) (g : Nat → Int64), iv_B K w f mi σ bc O ∧ st K h w w I A σ O c ∧ w ja = some (ob_J K g) ∧ f 0 = xb ∧ h 0 = xm ∧ (∀ i, i < 49 → ∀ j, j < 25 → f i ≠ h j) ∧ (∀ i, i < 49 → ja ≠ f i) ∧ ∀ j, j < 25 → ja ≠ h j
section LIA
variable {K : Nat → ClassId} {h : Nat → Nat} {w w0 w1 w2 : mp_W} {I I2 : mI} {A A2 : mA} {σ σ' : Nat → Std.Format} {O O' : List Int} {c c2 : Nat} {f : Nat → Nat} {ja bc' : Nat} {g1 : Nat → Int64}
theorem st.dom (a : st K h w0 w1 I A σ O c) : ∀ j, j < 25 → w1 (h j) ≠ none := by
  intro j hj
  rcases Nat.lt_or_ge j 2 with h2 | h2
  · have : j = 0 ∨ j = 1 := by omega
    rcases this with rfl | rfl
    · rw [a.1.1.2.1]; simp
    · rw [a.1.1.2.2.1]; simp
  · rw [a.1.1.2.2.2 j h2 hj]; simp
theorem st.fr (a : st K h w0 w1 I A σ O c) (he : ∀ j, j < 25 → w2 (h j) = w1 (h j)) : st K h w2 w2 I A σ O c := by
  obtain ⟨⟨⟨a1, a2, a3, a4⟩, -⟩, a5⟩ := a
  exact ⟨⟨⟨a1, by rw [he 0 (by decide)]; exact a2, by rw [he 1 (by decide)]; exact a3, fun k h2 h25 => by rw [he k h25]; exact a4 k h2 h25⟩, fm.rf _ _⟩, a5⟩
theorem st.aft (hM : st K h w w I A σ O c) (d1 : ∀ i, i < 49 → ∀ j, j < 25 → f i ≠ h j) (d3 : ∀ j, j < 25 → ja ≠ h j) (hlb : lb K w f ja w1 σ' bc' O') : st K h w1 w1 I A σ O c := by
  obtain ⟨f1, mi1, -, -, -, hk⟩ := hlb
  refine hM.fr (fun j hj => ?_)
  obtain ⟨x, hx⟩ := Option.ne_none_iff_exists'.mp (hM.dom j hj)
  rw [hx]
  exact hk _ x hx (fun i hi e => d1 i hi j hj e.symm) (fun e => d3 j hj e.symm)
theorem LI.mk (hM : st K h w w I A σ O c) (d1 : ∀ i, i < 49 → ∀ j, j < 25 → f i ≠ h j) (d2 : ∀ i, i < 49 → ja ≠ f i) (d3 : ∀ j, j < 25 → ja ≠ h j) (hlb : lb K w f ja w1 σ' bc' O') (hj1 : w1 ja = some (ob_J K g1)) (hM2 : st K h w1 w2 I2 A2 σ' O' c2) {g : Nat → Int64} (hj : w ja = some (ob_J K g) := by assumption) : LI K w2 (f 0) (h 0) ja bc' ∧ w2 ja = some (ob_J K g1) := by
  have hM1 := hM.aft d1 d3 hlb
  obtain ⟨f1, mi1, hB1, hf0, hf1, -⟩ := hlb
  have e1 : ∀ i, i < 49 → ∀ j, j < 25 → f1 i ≠ h j := by
    intro i hi j hj e
    rcases hf1 i hi with h1 | h1
    · exact d1 i hi j hj (h1.symm.trans e)
    · rw [e] at h1
      exact hM.dom j hj h1
  have e2 : ∀ i, i < 49 → ja ≠ f1 i := by
    intro i hi e
    rcases hf1 i hi with h1 | h1
    · exact d2 i hi (e.trans h1)
    · rw [← e, hj] at h1
      cases h1
  have hj2 : w2 ja = some (ob_J K g1) := by
    rw [hM2.1.2 ja d3]
    exact hj1
  refine ⟨⟨f1, mi1, h, I2, A2, σ', O', c2, g1, hB1.fr (fun i hi => hM2.1.2 _ (e1 i hi)), hM2.fr (fun _ _ => rfl), hj2, hf0, rfl, e1, e2, d3⟩, hj2⟩
theorem lb.self {g : Nat → Int64} (h : lb K w f (f 0) w1 σ' bc' O') (hj : w ja = some (ob_J K g)) (d2 : ∀ i, i < 49 → ja ≠ f i) : lb K w f ja w1 σ' bc' O' ∧ w1 ja = some (ob_J K g) := by
  obtain ⟨f1, mi1, h1, h2, h3, h4⟩ := h
  exact ⟨⟨f1, mi1, h1, h2, h3, fun q x hq hn _ => h4 q x hq hn (hn 0 (by decide))⟩, h4 ja _ hj d2 (d2 0 (by decide))⟩
end LIA
theorem cd_0 {k : Nat} (hk : k ≤ 3) (h : nI k = 0) : k = 0 := (nI_eq (by omega) (by omega)).mp (h.trans nI_0.symm)
theorem lg_same (x : Int64) : lg_cmp x x = 0 := by
  unfold lg_cmp
  simp
theorem wr_le2 {K : Nat → ClassId} {w : mp_W} {f : Nat → Nat} {mi bc : Nat} {σ : Nat → Std.Format} {out : List Int} (h : iv_B K w f mi σ bc out) (a : Int32) : 65 * wr_c σ bc a + bc ≤ 65 + wr_b σ bc a ∧ wr_s σ bc a + 2 * bc ≤ 6 + 2 * wr_b σ bc a ∧ wr_b σ bc a ≤ 1000000 := by
  refine ⟨?_, (wr_le h a).2⟩
  unfold wr_c wr_b
  cases hr : rk a with
  | none => exact Nat.le_refl _
  | some x =>
    have h1 := tx_pay (tx_ad (tm_db (σ x) []) ([], 0)) bc 0 h.2.2.2.2.2.2.2.1
    simp only []
    omega
def LC (p : Program) (l : Launch) (R : Room) (s : State) (m : MethodId) (c : Code) (args : Array Value) (D : va_G) (K : Nat → ClassId) (n0 : Nat) (w0 : mp_W) (A : Nat → Prop) (c0 : Cond) (b L : Nat) (xs : Nat → Int32) : Prop :=
  ct_E p m c cL_law 7 s args c0 nm_L D K n0 w0 A ∧ lx_X s ∧ l.stackTraces = false ∧ va_X b L xs s s.heap ∧ b < s.heap.size ∧ ¬ A b ∧ L < 100000 ∧ 200 ≤ R.frames ∧ 6000 ≤ R.locals
def LK (p : Program) (l : Launch) (e : Env) (R : Room) (s : State) (m : MethodId) (args : Array Value) (below : List Frame) (meth : Method) (c : Code) (Q : State → Prop) (D : va_G) (K : Nat → ClassId) (A : Nat → Prop) (b xb xm ja bc i cells slots : Nat) : Prop :=
  ∀ (w' : mp_W) (H' : Heap) (locs' : List Loc) (ls' : Array Slot) (cells' slots' bc' : Nat), LI K w' xb xm ja bc' → mp_I D cl_all A s.heap w' H' locs' → lv_has ls' 7 [(4, .int (nI i)), (0, .ref b), (1, .ref xb), (2, .ref xm), (3, .ref ja)] → 65 * cells' + bc ≤ 65 * cells + 19890 + bc' → slots' + 2 * bc ≤ slots + 6012 + 2 * bc' → W p l e R s m args below meth c H' locs' cells' slots' Q (F0 m 1098 ls' [])
section LW2
variable {p : Program} {l : Launch} {e : Env} {R : Room} {s : State} {m : MethodId} {args : Array Value} {below : List Frame} {meth : Method} {c : Code} {Q : State → Prop}
variable {n0 : Nat} {D : va_G} {K : Nat → ClassId} {A : Nat → Prop} {w0 w : mp_W} {c0 : Cond} {b L : Nat} {xs : Nat → Int32} {H : Heap} {locs : List Loc} {cells slots xb xm ja bc pc : Nat} {ls : Array Slot} {rest : List Value}
theorem lx_cell (C : LC p l R s m c args D K n0 w0 A c0 b L xs) (hI : mp_I D cl_all A s.heap w H locs) : va_X b L xs s H := by
  obtain ⟨-, -, -, hX, hbs, hA, -⟩ := C
  exact hX.kept (hI.2.1.2.1 b hbs hA)
theorem lx_ild (C : LC p l R s m c args D K n0 w0 A c0 b L xs) (hI : mp_I D cl_all A s.heap w H locs) {i : Nat} {v : Int32} (hi : i < L) (hv : v = nI i) (hdg : decode cL_law pc = .ok (.iaload, 1)) (kk : W p l e R s m args below meth c H locs cells slots Q (F0 m (pc + 1) ls (.int (xs i) :: rest))) : W p l e R s m args below meth c H locs cells slots Q (F0 m pc ls (.int v :: .ref b :: rest)) := by
  subst hv
  obtain ⟨scr, h1, h2, h3, h4, h5⟩ := lx_cell C hI
  have hL := C.2.2.2.2.2.2.1
  exact W.iald C.1.1.1.1 C.1.1.1.2.1 h1 h2 h3 (by rw [h4]; exact nI_in hi (by omega)) (by rw [nI_clamp (by omega)]; exact h5 i hi) rfl rfl hdg kk
theorem lx_len (C : LC p l R s m c args D K n0 w0 A c0 b L xs) (hI : mp_I D cl_all A s.heap w H locs) (hdg : decode cL_law pc = .ok (.arraylength, 1)) (kk : W p l e R s m args below meth c H locs cells slots Q (F0 m (pc + 1) ls (.int (nI L) :: rest))) : W p l e R s m args below meth c H locs cells slots Q (F0 m pc ls (.ref b :: rest)) := by
  obtain ⟨scr, h1, h2, h3, h4, h5⟩ := lx_cell C hI
  exact W.alen C.1.1.1.1 C.1.1.1.2.1 h1 h2 (by rw [h4]; rfl) rfl rfl hdg kk
set_option maxRecDepth 100000 in
set_option maxHeartbeats 2000000 in
theorem cs_free (C : LC p l R s m c args D K n0 w0 A c0 b L xs) (hI : mp_I D cl_all A s.heap w H locs) (hL : LI K w xb xm ja bc) {i : Nat} (hi : i + 5 ≤ L) (hl : lv_has ls 7 [(4, .int (nI i)), (0, .ref b), (1, .ref xb), (2, .ref xm), (3, .ref ja)]) (hrc : 65 * cells + 1019890 ≤ 65 * R.cells + bc) (hrs : slots + 2006012 ≤ R.slots + 2 * bc) (kk : LK p l e R s m args below meth c Q D K A b xb xm ja bc i cells slots) : W p l e R s m args below meth c H locs cells slots Q (F0 m 108 ls []) := by
  obtain ⟨f, mi, h, I, A1, σ, O, c1, g, hB, hM, hj, rfl, rfl, d1, d2, d3⟩ := hL
  have hE := C.1
  have hx := hE.1.1.1
  have hb := hE.1.1.2.1
  have hbc := hB.2.2.2.2.2.2.2.2
  obtain ⟨hLN, hRf, hRl⟩ := C.2.2.2.2.2.2
  refine lv_aload_n hx hb dL_law_108 rfl (lv_at hl 2 rfl) ?_
  refine lv_aload_n hx hb dL_law_109 rfl (lv_at hl 1 rfl) ?_
  refine lv_iload hx hb dL_law_110 (lv_at hl 0 rfl) ?_
  refine lv_iconst (v := nI 1) hx hb dL_law_112 (by decide) ?_
  refine lv_iadd hx hb dL_law_113 ?_
  refine lx_ild C hI (i := i + 1) (by omega) (nI_add _ _) dL_law_114 ?_
  refine lv_aload_n hx hb dL_law_115 rfl (lv_at hl 1 rfl) ?_
  refine lv_iload hx hb dL_law_116 (lv_at hl 0 rfl) ?_
  refine lv_iconst (v := nI 2) hx hb dL_law_118 (by decide) ?_
  refine lv_iadd hx hb dL_law_119 ?_
  refine lx_ild C hI (i := i + 2) (by omega) (nI_add _ _) dL_law_120 ?_
  refine lx_St (n := 3) C.2.1 hE hI (kL_free C.2.2.1 hB (ja := f 0) (xs (i + 1)) (xs (i + 2))) gm_L72 gt_L_free gz_L gc_L_free (by decide +kernel) ⟨by omega, by omega⟩ rfl hl.1 rfl (Nat.le_of_ble_eq_true rfl) dL_law_121 ⟨by omega, by omega⟩ (fun v w1 H locs hq hI => ?_)
  obtain ⟨rfl, hlb0⟩ := hq
  obtain ⟨hlb, hj1⟩ := hlb0.self hj d2
  show W _ _ _ _ _ _ _ _ _ _ _ _ _ _ _ (F0 _ _ _ [.int _])
  have hM1 := hM.aft d1 d3 hlb
  refine lv_istore hx hb dL_law_124 hl (by decide) rfl (fun ls hl => ?_)
  refine lv_aload_n hx hb dL_law_126 rfl (lv_at hl 4 rfl) ?_
  refine lv_aload_n hx hb dL_law_127 rfl (lv_at hl 2 rfl) ?_
  refine lv_iload hx hb dL_law_128 (lv_at hl 1 rfl) ?_
  refine lv_iconst (v := nI 1) hx hb dL_law_130 (by decide) ?_
  refine lv_iadd hx hb dL_law_131 ?_
  refine lx_ild C hI (i := i + 1) (by omega) (nI_add _ _) dL_law_132 ?_
  refine lv_aload_n hx hb dL_law_133 rfl (lv_at hl 2 rfl) ?_
  refine lv_iload hx hb dL_law_134 (lv_at hl 1 rfl) ?_
  refine lv_iconst (v := nI 2) hx hb dL_law_136 (by decide) ?_
  refine lv_iadd hx hb dL_law_137 ?_
  refine lx_ild C hI (i := i + 2) (by omega) (nI_add _ _) dL_law_138 ?_
  refine ct_V (n := 2) hE hI (kM_free hM1 (xs (i + 1)) (xs (i + 2))) hM1.o rfl gm_L77 gi_M_free gs_M_M_free gz_M gc_M_free (by decide +kernel) ⟨by omega, by omega⟩ rfl hl.1 rfl (Nat.le_of_ble_eq_true rfl) dL_law_139 ⟨by omega, by omega⟩ (fun v w2 H locs hq hI => ?_)
  obtain ⟨rfl, I2, A2, hM2⟩ := hq
  show W _ _ _ _ _ _ _ _ _ _ _ _ _ _ _ (F0 _ _ _ [])
  have hL2 := LI.mk hM d1 d2 d3 hlb hj1 hM2
  refine lv_aload_n hx hb dL_law_142 rfl (lv_at hl 4 rfl) ?_
  refine ct_V (n := 0) hE hI (kM_thrown hM2.1.1) hM2.o rfl gm_L78 gi_M_thrown gs_M_M_thrown gz_M gc_M_thrown (by decide +kernel) ⟨by omega, by omega⟩ rfl hl.1 rfl (Nat.le_of_ble_eq_true rfl) dL_law_143 ⟨by omega, by omega⟩ (fun v w3 H locs hq hI => ?_)
  obtain ⟨hw, rfl⟩ := hq
  subst w3
  show W _ _ _ _ _ _ _ _ _ _ _ _ _ _ _ (F0 _ _ _ [.int _])
  rw [hM2.2.2.2]
  refine lv_iload hx hb dL_law_146 (lv_at hl 0 rfl) ?_
  refine lv_icmp_eq (tgt := 153) hx hb dL_law_148 (by decide) (fun hq => ?_) (fun hq => ?_)
  · skip
    refine lv_goto (tgt := 1098) hx hb dL_law_153 (by decide) ?_
    exact kk w2 H locs ls _ _ _ hL2.1 hI (lv_sub hl [1, 2, 3, 4, 5] rfl) (by omega) (by omega)
  · exact absurd rfl hq
set_option maxRecDepth 100000 in
set_option maxHeartbeats 2000000 in
theorem cs_apply (C : LC p l R s m c args D K n0 w0 A c0 b L xs) (hI : mp_I D cl_all A s.heap w H locs) (hL : LI K w xb xm ja bc) {i : Nat} (hi : i + 5 ≤ L) (hl : lv_has ls 7 [(4, .int (nI i)), (0, .ref b), (1, .ref xb), (2, .ref xm), (3, .ref ja)]) (hrc : 65 * cells + 1019890 ≤ 65 * R.cells + bc) (hrs : slots + 2006012 ≤ R.slots + 2 * bc) (kk : LK p l e R s m args below meth c Q D K A b xb xm ja bc i cells slots) : W p l e R s m args below meth c H locs cells slots Q (F0 m 156 ls []) := by
  obtain ⟨f, mi, h, I, A1, σ, O, c1, g, hB, hM, hj, rfl, rfl, d1, d2, d3⟩ := hL
  have hE := C.1
  have hx := hE.1.1.1
  have hb := hE.1.1.2.1
  have hbc := hB.2.2.2.2.2.2.2.2
  obtain ⟨hLN, hRf, hRl⟩ := C.2.2.2.2.2.2
  refine lv_aload_n hx hb dL_law_156 rfl (lv_at hl 2 rfl) ?_
  refine lv_aload_n hx hb dL_law_157 rfl (lv_at hl 1 rfl) ?_
  refine lv_iload hx hb dL_law_158 (lv_at hl 0 rfl) ?_
  refine lv_iconst (v := nI 1) hx hb dL_law_160 (by decide) ?_
  refine lv_iadd hx hb dL_law_161 ?_
  refine lx_ild C hI (i := i + 1) (by omega) (nI_add _ _) dL_law_162 ?_
  refine lv_aload_n hx hb dL_law_163 rfl (lv_at hl 1 rfl) ?_
  refine lv_iload hx hb dL_law_164 (lv_at hl 0 rfl) ?_
  refine lv_iconst (v := nI 2) hx hb dL_law_166 (by decide) ?_
  refine lv_iadd hx hb dL_law_167 ?_
  refine lx_ild C hI (i := i + 2) (by omega) (nI_add _ _) dL_law_168 ?_
  refine lv_aload_n hx hb dL_law_169 rfl (lv_at hl 1 rfl) ?_
  refine lv_iload hx hb dL_law_170 (lv_at hl 0 rfl) ?_
  refine lv_iconst (v := nI 3) hx hb dL_law_172 (by decide) ?_
  refine lv_iadd hx hb dL_law_173 ?_
  refine lx_ild C hI (i := i + 3) (by omega) (nI_add _ _) dL_law_174 ?_
  refine lv_aload_n hx hb dL_law_175 rfl (lv_at hl 4 rfl) ?_
  refine lx_St (n := 5) C.2.1 hE hI (kL_apply C.2.2.1 hB hj d2 (xs (i + 1)) (xs (i + 2)) (xs (i + 3))) gm_L82 gt_L_apply gz_L gc_L_apply (by decide +kernel) ⟨by omega, by omega⟩ rfl hl.1 rfl (Nat.le_of_ble_eq_true rfl) dL_law_176 ⟨by omega, by omega⟩ (fun v w1 H locs hq hI => ?_)
  obtain ⟨rfl, hlb, g1, hj1, hg1⟩ := hq
  show W _ _ _ _ _ _ _ _ _ _ _ _ _ _ _ (F0 _ _ _ [.int _])
  have hM1 := hM.aft d1 d3 hlb
  refine lv_istore hx hb dL_law_179 hl (by decide) rfl (fun ls hl => ?_)
  refine lv_aload_n hx hb dL_law_181 rfl (lv_at hl 4 rfl) ?_
  refine lv_aload_n hx hb dL_law_182 rfl (lv_at hl 2 rfl) ?_
  refine lv_iload hx hb dL_law_183 (lv_at hl 1 rfl) ?_
  refine lv_iconst (v := nI 1) hx hb dL_law_185 (by decide) ?_
  refine lv_iadd hx hb dL_law_186 ?_
  refine lx_ild C hI (i := i + 1) (by omega) (nI_add _ _) dL_law_187 ?_
  refine lv_aload_n hx hb dL_law_188 rfl (lv_at hl 2 rfl) ?_
  refine lv_iload hx hb dL_law_189 (lv_at hl 1 rfl) ?_
  refine lv_iconst (v := nI 2) hx hb dL_law_191 (by decide) ?_
  refine lv_iadd hx hb dL_law_192 ?_
  refine lx_ild C hI (i := i + 2) (by omega) (nI_add _ _) dL_law_193 ?_
  refine lv_aload_n hx hb dL_law_194 rfl (lv_at hl 2 rfl) ?_
  refine lv_iload hx hb dL_law_195 (lv_at hl 1 rfl) ?_
  refine lv_iconst (v := nI 3) hx hb dL_law_197 (by decide) ?_
  refine lv_iadd hx hb dL_law_198 ?_
  refine lx_ild C hI (i := i + 3) (by omega) (nI_add _ _) dL_law_199 ?_
  refine ct_V (n := 3) hE hI (kM_apply hM1 (xs (i + 1)) (xs (i + 2)) (xs (i + 3))) hM1.o rfl gm_L85 gi_M_apply gs_M_M_apply gz_M gc_M_apply (by decide +kernel) ⟨by omega, by omega⟩ rfl hl.1 rfl (Nat.le_of_ble_eq_true rfl) dL_law_200 ⟨by omega, by omega⟩ (fun v w2 H locs hq hI => ?_)
  obtain ⟨rfl, I2, A2, hM2⟩ := hq
  show W _ _ _ _ _ _ _ _ _ _ _ _ _ _ _ (F0 _ _ _ [.int _])
  have hL2 := LI.mk hM d1 d2 d3 hlb hj1 hM2
  refine lv_istore hx hb dL_law_203 hl (by decide) rfl (fun ls hl => ?_)
  refine lv_aload_n hx hb dL_law_205 rfl (lv_at hl 5 rfl) ?_
  refine ct_V (n := 0) hE hI (kM_thrown hM2.1.1) hM2.o rfl gm_L78 gi_M_thrown gs_M_M_thrown gz_M gc_M_thrown (by decide +kernel) ⟨by omega, by omega⟩ rfl hl.1 rfl (Nat.le_of_ble_eq_true rfl) dL_law_206 ⟨by omega, by omega⟩ (fun v w3 H locs hq hI => ?_)
  obtain ⟨hw, rfl⟩ := hq
  subst w3
  show W _ _ _ _ _ _ _ _ _ _ _ _ _ _ _ (F0 _ _ _ [.int _])
  rw [hM2.2.2.2]
  refine lv_iload hx hb dL_law_209 (lv_at hl 1 rfl) ?_
  refine lv_icmp_eq (tgt := 216) hx hb dL_law_211 (by decide) (fun hq => ?_) (fun hq => ?_)
  · skip
    refine lv_iload hx hb dL_law_216 (lv_at hl 1 rfl) ?_
    refine lv_if_ne (tgt := 233) hx hb dL_law_218 (by decide) (fun hq2 => ?_) (fun hq2 => ?_)
    · skip
      refine lv_goto (tgt := 1098) hx hb dL_law_233 (by decide) ?_
      exact kk w2 H locs ls _ _ _ hL2.1 hI (lv_sub hl [2, 3, 4, 5, 6] rfl) (by omega) (by omega)
    · have hr0 : (op_apply σ (xs (i + 1)) (xs (i + 2)) (xs (i + 3))).1 = 0 := by
        have hle := op_apply_le σ (xs (i + 1)) (xs (i + 2)) (xs (i + 3))
        exact cd_0 (by omega) hq2
      refine lv_aload_n hx hb dL_law_221 rfl (lv_at hl 6 rfl) ?_
      refine lv_iconst (v := nI 0) hx hb dL_law_222 (by decide) ?_
      refine mp_lld hE.1 hI hL2.2 2 rfl (vp_in_nI (by omega) (by omega)) dL_law_223 ?_
      rw [nI_clamp (by omega), hg1 hr0]
      refine lv_iload hx hb dL_law_224 (lv_at hl 0 rfl) ?_
      refine lv_i2l hx hb dL_law_226 rfl ?_
      refine W.lcmp hx hb dL_law_227 ?_
      rw [lg_same]
      refine lv_if_eq (tgt := 233) hx hb dL_law_228 (by decide) (fun hq3 => ?_) (fun hq3 => ?_)
      · skip
        refine lv_goto (tgt := 1098) hx hb dL_law_233 (by decide) ?_
        exact kk w2 H locs ls _ _ _ hL2.1 hI (lv_sub hl [2, 3, 4, 5, 6] rfl) (by omega) (by omega)
      · exact absurd rfl hq3
  · exact absurd rfl hq
set_option maxRecDepth 100000 in
set_option maxHeartbeats 2000000 in
theorem cs_bind (C : LC p l R s m c args D K n0 w0 A c0 b L xs) (hI : mp_I D cl_all A s.heap w H locs) (hL : LI K w xb xm ja bc) {i : Nat} (hi : i + 5 ≤ L) (hl : lv_has ls 7 [(4, .int (nI i)), (0, .ref b), (1, .ref xb), (2, .ref xm), (3, .ref ja)]) (hrc : 65 * cells + 1019890 ≤ 65 * R.cells + bc) (hrs : slots + 2006012 ≤ R.slots + 2 * bc) (kk : LK p l e R s m args below meth c Q D K A b xb xm ja bc i cells slots) : W p l e R s m args below meth c H locs cells slots Q (F0 m 236 ls []) := by
  obtain ⟨f, mi, h, I, A1, σ, O, c1, g, hB, hM, hj, rfl, rfl, d1, d2, d3⟩ := hL
  have hE := C.1
  have hx := hE.1.1.1
  have hb := hE.1.1.2.1
  have hbc := hB.2.2.2.2.2.2.2.2
  obtain ⟨hLN, hRf, hRl⟩ := C.2.2.2.2.2.2
  refine lv_aload_n hx hb dL_law_236 rfl (lv_at hl 2 rfl) ?_
  refine lv_aload_n hx hb dL_law_237 rfl (lv_at hl 1 rfl) ?_
  refine lv_iload hx hb dL_law_238 (lv_at hl 0 rfl) ?_
  refine lv_iconst (v := nI 1) hx hb dL_law_240 (by decide) ?_
  refine lv_iadd hx hb dL_law_241 ?_
  refine lx_ild C hI (i := i + 1) (by omega) (nI_add _ _) dL_law_242 ?_
  refine lv_aload_n hx hb dL_law_243 rfl (lv_at hl 1 rfl) ?_
  refine lv_iload hx hb dL_law_244 (lv_at hl 0 rfl) ?_
  refine lv_iconst (v := nI 2) hx hb dL_law_246 (by decide) ?_
  refine lv_iadd hx hb dL_law_247 ?_
  refine lx_ild C hI (i := i + 2) (by omega) (nI_add _ _) dL_law_248 ?_
  refine lv_aload_n hx hb dL_law_249 rfl (lv_at hl 1 rfl) ?_
  refine lv_iload hx hb dL_law_250 (lv_at hl 0 rfl) ?_
  refine lv_iconst (v := nI 3) hx hb dL_law_252 (by decide) ?_
  refine lv_iadd hx hb dL_law_253 ?_
  refine lx_ild C hI (i := i + 3) (by omega) (nI_add _ _) dL_law_254 ?_
  refine lv_aload_n hx hb dL_law_255 rfl (lv_at hl 4 rfl) ?_
  refine lx_St (n := 5) C.2.1 hE hI (kL_bind C.2.2.1 hB hj d2 (xs (i + 1)) (xs (i + 2)) (xs (i + 3))) gm_L86 gt_L_bind gz_L gc_L_bind (by decide +kernel) ⟨by omega, by omega⟩ rfl hl.1 rfl (Nat.le_of_ble_eq_true rfl) dL_law_256 ⟨by omega, by omega⟩ (fun v w1 H locs hq hI => ?_)
  obtain ⟨rfl, hlb, g1, hj1, hg1⟩ := hq
  show W _ _ _ _ _ _ _ _ _ _ _ _ _ _ _ (F0 _ _ _ [.int _])
  have hM1 := hM.aft d1 d3 hlb
  refine lv_istore hx hb dL_law_259 hl (by decide) rfl (fun ls hl => ?_)
  refine lv_aload_n hx hb dL_law_261 rfl (lv_at hl 4 rfl) ?_
  refine lv_aload_n hx hb dL_law_262 rfl (lv_at hl 2 rfl) ?_
  refine lv_iload hx hb dL_law_263 (lv_at hl 1 rfl) ?_
  refine lv_iconst (v := nI 1) hx hb dL_law_265 (by decide) ?_
  refine lv_iadd hx hb dL_law_266 ?_
  refine lx_ild C hI (i := i + 1) (by omega) (nI_add _ _) dL_law_267 ?_
  refine lv_aload_n hx hb dL_law_268 rfl (lv_at hl 2 rfl) ?_
  refine lv_iload hx hb dL_law_269 (lv_at hl 1 rfl) ?_
  refine lv_iconst (v := nI 2) hx hb dL_law_271 (by decide) ?_
  refine lv_iadd hx hb dL_law_272 ?_
  refine lx_ild C hI (i := i + 2) (by omega) (nI_add _ _) dL_law_273 ?_
  refine lv_aload_n hx hb dL_law_274 rfl (lv_at hl 2 rfl) ?_
  refine lv_iload hx hb dL_law_275 (lv_at hl 1 rfl) ?_
  refine lv_iconst (v := nI 3) hx hb dL_law_277 (by decide) ?_
  refine lv_iadd hx hb dL_law_278 ?_
  refine lx_ild C hI (i := i + 3) (by omega) (nI_add _ _) dL_law_279 ?_
  refine ct_V (n := 3) hE hI (kM_bind hM1 (xs (i + 1)) (xs (i + 2)) (xs (i + 3))) hM1.o rfl gm_L88 gi_M_bind gs_M_M_bind gz_M gc_M_bind (by decide +kernel) ⟨by omega, by omega⟩ rfl hl.1 rfl (Nat.le_of_ble_eq_true rfl) dL_law_280 ⟨by omega, by omega⟩ (fun v w2 H locs hq hI => ?_)
  obtain ⟨rfl, I2, A2, hM2⟩ := hq
  show W _ _ _ _ _ _ _ _ _ _ _ _ _ _ _ (F0 _ _ _ [.int _])
  have hL2 := LI.mk hM d1 d2 d3 hlb hj1 hM2
  refine lv_istore hx hb dL_law_283 hl (by decide) rfl (fun ls hl => ?_)
  refine lv_aload_n hx hb dL_law_285 rfl (lv_at hl 5 rfl) ?_
  refine ct_V (n := 0) hE hI (kM_thrown hM2.1.1) hM2.o rfl gm_L78 gi_M_thrown gs_M_M_thrown gz_M gc_M_thrown (by decide +kernel) ⟨by omega, by omega⟩ rfl hl.1 rfl (Nat.le_of_ble_eq_true rfl) dL_law_286 ⟨by omega, by omega⟩ (fun v w3 H locs hq hI => ?_)
  obtain ⟨hw, rfl⟩ := hq
  subst w3
  show W _ _ _ _ _ _ _ _ _ _ _ _ _ _ _ (F0 _ _ _ [.int _])
  rw [hM2.2.2.2]
  refine lv_iload hx hb dL_law_289 (lv_at hl 1 rfl) ?_
  refine lv_icmp_eq (tgt := 296) hx hb dL_law_291 (by decide) (fun hq => ?_) (fun hq => ?_)
  · skip
    refine lv_iload hx hb dL_law_296 (lv_at hl 1 rfl) ?_
    refine lv_if_ne (tgt := 313) hx hb dL_law_298 (by decide) (fun hq2 => ?_) (fun hq2 => ?_)
    · skip
      refine lv_goto (tgt := 1098) hx hb dL_law_313 (by decide) ?_
      exact kk w2 H locs ls _ _ _ hL2.1 hI (lv_sub hl [2, 3, 4, 5, 6] rfl) (by omega) (by omega)
    · have hr0 : (op_bind σ (xs (i + 1)) (xs (i + 2)) (xs (i + 3))).1 = 0 := by
        have hle := op_bind_le σ (xs (i + 1)) (xs (i + 2)) (xs (i + 3))
        exact cd_0 (by omega) hq2
      refine lv_aload_n hx hb dL_law_301 rfl (lv_at hl 6 rfl) ?_
      refine lv_iconst (v := nI 0) hx hb dL_law_302 (by decide) ?_
      refine mp_lld hE.1 hI hL2.2 2 rfl (vp_in_nI (by omega) (by omega)) dL_law_303 ?_
      rw [nI_clamp (by omega), hg1 hr0]
      refine lv_iload hx hb dL_law_304 (lv_at hl 0 rfl) ?_
      refine lv_i2l hx hb dL_law_306 rfl ?_
      refine W.lcmp hx hb dL_law_307 ?_
      rw [lg_same]
      refine lv_if_eq (tgt := 313) hx hb dL_law_308 (by decide) (fun hq3 => ?_) (fun hq3 => ?_)
      · skip
        refine lv_goto (tgt := 1098) hx hb dL_law_313 (by decide) ?_
        exact kk w2 H locs ls _ _ _ hL2.1 hI (lv_sub hl [2, 3, 4, 5, 6] rfl) (by omega) (by omega)
      · exact absurd rfl hq3
  · exact absurd rfl hq
set_option maxRecDepth 100000 in
set_option maxHeartbeats 2000000 in
theorem cs_put (C : LC p l R s m c args D K n0 w0 A c0 b L xs) (hI : mp_I D cl_all A s.heap w H locs) (hL : LI K w xb xm ja bc) {i : Nat} (hi : i + 5 ≤ L) (hl : lv_has ls 7 [(4, .int (nI i)), (0, .ref b), (1, .ref xb), (2, .ref xm), (3, .ref ja)]) (hrc : 65 * cells + 1019890 ≤ 65 * R.cells + bc) (hrs : slots + 2006012 ≤ R.slots + 2 * bc) (kk : LK p l e R s m args below meth c Q D K A b xb xm ja bc i cells slots) : W p l e R s m args below meth c H locs cells slots Q (F0 m 316 ls []) := by
  obtain ⟨f, mi, h, I, A1, σ, O, c1, g, hB, hM, hj, rfl, rfl, d1, d2, d3⟩ := hL
  have hE := C.1
  have hx := hE.1.1.1
  have hb := hE.1.1.2.1
  have hbc := hB.2.2.2.2.2.2.2.2
  obtain ⟨hLN, hRf, hRl⟩ := C.2.2.2.2.2.2
  refine lv_aload_n hx hb dL_law_316 rfl (lv_at hl 2 rfl) ?_
  refine lv_aload_n hx hb dL_law_317 rfl (lv_at hl 1 rfl) ?_
  refine lv_iload hx hb dL_law_318 (lv_at hl 0 rfl) ?_
  refine lv_iconst (v := nI 1) hx hb dL_law_320 (by decide) ?_
  refine lv_iadd hx hb dL_law_321 ?_
  refine lx_ild C hI (i := i + 1) (by omega) (nI_add _ _) dL_law_322 ?_
  refine lv_aload_n hx hb dL_law_323 rfl (lv_at hl 1 rfl) ?_
  refine lv_iload hx hb dL_law_324 (lv_at hl 0 rfl) ?_
  refine lv_iconst (v := nI 2) hx hb dL_law_326 (by decide) ?_
  refine lv_iadd hx hb dL_law_327 ?_
  refine lx_ild C hI (i := i + 2) (by omega) (nI_add _ _) dL_law_328 ?_
  refine lv_aload_n hx hb dL_law_329 rfl (lv_at hl 1 rfl) ?_
  refine lv_iload hx hb dL_law_330 (lv_at hl 0 rfl) ?_
  refine lv_iconst (v := nI 3) hx hb dL_law_332 (by decide) ?_
  refine lv_iadd hx hb dL_law_333 ?_
  refine lx_ild C hI (i := i + 3) (by omega) (nI_add _ _) dL_law_334 ?_
  refine lv_aload_n hx hb dL_law_335 rfl (lv_at hl 1 rfl) ?_
  refine lv_iload hx hb dL_law_336 (lv_at hl 0 rfl) ?_
  refine lv_iconst (v := nI 4) hx hb dL_law_338 (by decide) ?_
  refine lv_iadd hx hb dL_law_339 ?_
  refine lx_ild C hI (i := i + 4) (by omega) (nI_add _ _) dL_law_340 ?_
  refine lv_aload_n hx hb dL_law_341 rfl (lv_at hl 4 rfl) ?_
  refine lx_St (n := 6) C.2.1 hE hI (kL_put C.2.2.1 hB hj d2 (xs (i + 1)) (xs (i + 2)) (xs (i + 3)) (xs (i + 4))) gm_L89 gt_L_put gz_L gc_L_put (by decide +kernel) ⟨by omega, by omega⟩ rfl hl.1 rfl (Nat.le_of_ble_eq_true rfl) dL_law_342 ⟨by omega, by omega⟩ (fun v w1 H locs hq hI => ?_)
  obtain ⟨rfl, hlb, g1, hj1, hg1⟩ := hq
  show W _ _ _ _ _ _ _ _ _ _ _ _ _ _ _ (F0 _ _ _ [.int _])
  have hM1 := hM.aft d1 d3 hlb
  refine lv_istore hx hb dL_law_345 hl (by decide) rfl (fun ls hl => ?_)
  refine lv_aload_n hx hb dL_law_347 rfl (lv_at hl 4 rfl) ?_
  refine lv_aload_n hx hb dL_law_348 rfl (lv_at hl 2 rfl) ?_
  refine lv_iload hx hb dL_law_349 (lv_at hl 1 rfl) ?_
  refine lv_iconst (v := nI 1) hx hb dL_law_351 (by decide) ?_
  refine lv_iadd hx hb dL_law_352 ?_
  refine lx_ild C hI (i := i + 1) (by omega) (nI_add _ _) dL_law_353 ?_
  refine lv_aload_n hx hb dL_law_354 rfl (lv_at hl 2 rfl) ?_
  refine lv_iload hx hb dL_law_355 (lv_at hl 1 rfl) ?_
  refine lv_iconst (v := nI 2) hx hb dL_law_357 (by decide) ?_
  refine lv_iadd hx hb dL_law_358 ?_
  refine lx_ild C hI (i := i + 2) (by omega) (nI_add _ _) dL_law_359 ?_
  refine lv_aload_n hx hb dL_law_360 rfl (lv_at hl 2 rfl) ?_
  refine lv_iload hx hb dL_law_361 (lv_at hl 1 rfl) ?_
  refine lv_iconst (v := nI 3) hx hb dL_law_363 (by decide) ?_
  refine lv_iadd hx hb dL_law_364 ?_
  refine lx_ild C hI (i := i + 3) (by omega) (nI_add _ _) dL_law_365 ?_
  refine lv_aload_n hx hb dL_law_366 rfl (lv_at hl 2 rfl) ?_
  refine lv_iload hx hb dL_law_367 (lv_at hl 1 rfl) ?_
  refine lv_iconst (v := nI 4) hx hb dL_law_369 (by decide) ?_
  refine lv_iadd hx hb dL_law_370 ?_
  refine lx_ild C hI (i := i + 4) (by omega) (nI_add _ _) dL_law_371 ?_
  refine ct_V (n := 4) hE hI (kM_put hM1 (xs (i + 1)) (xs (i + 2)) (xs (i + 3)) (xs (i + 4))) hM1.o rfl gm_L92 gi_M_put gs_M_M_put gz_M gc_M_put (by decide +kernel) ⟨by omega, by omega⟩ rfl hl.1 rfl (Nat.le_of_ble_eq_true rfl) dL_law_372 ⟨by omega, by omega⟩ (fun v w2 H locs hq hI => ?_)
  obtain ⟨rfl, I2, A2, hM2⟩ := hq
  show W _ _ _ _ _ _ _ _ _ _ _ _ _ _ _ (F0 _ _ _ [.int _])
  have hL2 := LI.mk hM d1 d2 d3 hlb hj1 hM2
  refine lv_istore hx hb dL_law_375 hl (by decide) rfl (fun ls hl => ?_)
  refine lv_aload_n hx hb dL_law_377 rfl (lv_at hl 5 rfl) ?_
  refine ct_V (n := 0) hE hI (kM_thrown hM2.1.1) hM2.o rfl gm_L78 gi_M_thrown gs_M_M_thrown gz_M gc_M_thrown (by decide +kernel) ⟨by omega, by omega⟩ rfl hl.1 rfl (Nat.le_of_ble_eq_true rfl) dL_law_378 ⟨by omega, by omega⟩ (fun v w3 H locs hq hI => ?_)
  obtain ⟨hw, rfl⟩ := hq
  subst w3
  show W _ _ _ _ _ _ _ _ _ _ _ _ _ _ _ (F0 _ _ _ [.int _])
  rw [hM2.2.2.2]
  refine lv_iload hx hb dL_law_381 (lv_at hl 1 rfl) ?_
  refine lv_icmp_eq (tgt := 388) hx hb dL_law_383 (by decide) (fun hq => ?_) (fun hq => ?_)
  · skip
    refine lv_iload hx hb dL_law_388 (lv_at hl 1 rfl) ?_
    refine lv_if_ne (tgt := 405) hx hb dL_law_390 (by decide) (fun hq2 => ?_) (fun hq2 => ?_)
    · skip
      refine lv_goto (tgt := 1098) hx hb dL_law_405 (by decide) ?_
      exact kk w2 H locs ls _ _ _ hL2.1 hI (lv_sub hl [2, 3, 4, 5, 6] rfl) (by omega) (by omega)
    · have hr0 : (op_put σ (xs (i + 1)) (xs (i + 2)) (xs (i + 3)) (xs (i + 4))).1 = 0 := by
        have hle := op_put_le σ (xs (i + 1)) (xs (i + 2)) (xs (i + 3)) (xs (i + 4))
        exact cd_0 (by omega) hq2
      refine lv_aload_n hx hb dL_law_393 rfl (lv_at hl 6 rfl) ?_
      refine lv_iconst (v := nI 0) hx hb dL_law_394 (by decide) ?_
      refine mp_lld hE.1 hI hL2.2 2 rfl (vp_in_nI (by omega) (by omega)) dL_law_395 ?_
      rw [nI_clamp (by omega), hg1 hr0]
      refine lv_iload hx hb dL_law_396 (lv_at hl 0 rfl) ?_
      refine lv_i2l hx hb dL_law_398 rfl ?_
      refine W.lcmp hx hb dL_law_399 ?_
      rw [lg_same]
      refine lv_if_eq (tgt := 405) hx hb dL_law_400 (by decide) (fun hq3 => ?_) (fun hq3 => ?_)
      · skip
        refine lv_goto (tgt := 1098) hx hb dL_law_405 (by decide) ?_
        exact kk w2 H locs ls _ _ _ hL2.1 hI (lv_sub hl [2, 3, 4, 5, 6] rfl) (by omega) (by omega)
      · exact absurd rfl hq3
  · exact absurd rfl hq
set_option maxRecDepth 100000 in
set_option maxHeartbeats 2000000 in
theorem cs_open (C : LC p l R s m c args D K n0 w0 A c0 b L xs) (hI : mp_I D cl_all A s.heap w H locs) (hL : LI K w xb xm ja bc) {i : Nat} (hi : i + 5 ≤ L) (hl : lv_has ls 7 [(4, .int (nI i)), (0, .ref b), (1, .ref xb), (2, .ref xm), (3, .ref ja)]) (hrc : 65 * cells + 1019890 ≤ 65 * R.cells + bc) (hrs : slots + 2006012 ≤ R.slots + 2 * bc) (kk : LK p l e R s m args below meth c Q D K A b xb xm ja bc i cells slots) : W p l e R s m args below meth c H locs cells slots Q (F0 m 408 ls []) := by
  obtain ⟨f, mi, h, I, A1, σ, O, c1, g, hB, hM, hj, rfl, rfl, d1, d2, d3⟩ := hL
  have hE := C.1
  have hx := hE.1.1.1
  have hb := hE.1.1.2.1
  have hbc := hB.2.2.2.2.2.2.2.2
  obtain ⟨hLN, hRf, hRl⟩ := C.2.2.2.2.2.2
  refine lv_aload_n hx hb dL_law_408 rfl (lv_at hl 2 rfl) ?_
  refine lv_aload_n hx hb dL_law_409 rfl (lv_at hl 1 rfl) ?_
  refine lv_iload hx hb dL_law_410 (lv_at hl 0 rfl) ?_
  refine lv_iconst (v := nI 1) hx hb dL_law_412 (by decide) ?_
  refine lv_iadd hx hb dL_law_413 ?_
  refine lx_ild C hI (i := i + 1) (by omega) (nI_add _ _) dL_law_414 ?_
  refine lv_aload_n hx hb dL_law_415 rfl (lv_at hl 1 rfl) ?_
  refine lv_iload hx hb dL_law_416 (lv_at hl 0 rfl) ?_
  refine lv_iconst (v := nI 2) hx hb dL_law_418 (by decide) ?_
  refine lv_iadd hx hb dL_law_419 ?_
  refine lx_ild C hI (i := i + 2) (by omega) (nI_add _ _) dL_law_420 ?_
  refine lv_aload_n hx hb dL_law_421 rfl (lv_at hl 1 rfl) ?_
  refine lv_iload hx hb dL_law_422 (lv_at hl 0 rfl) ?_
  refine lv_iconst (v := nI 3) hx hb dL_law_424 (by decide) ?_
  refine lv_iadd hx hb dL_law_425 ?_
  refine lx_ild C hI (i := i + 3) (by omega) (nI_add _ _) dL_law_426 ?_
  refine lv_aload_n hx hb dL_law_427 rfl (lv_at hl 4 rfl) ?_
  refine lx_St (n := 5) C.2.1 hE hI (kL_open C.2.2.1 hB hj d2 (xs (i + 1)) (xs (i + 2)) (xs (i + 3))) gm_L93 gt_L_open gz_L gc_L_open (by decide +kernel) ⟨by omega, by omega⟩ rfl hl.1 rfl (Nat.le_of_ble_eq_true rfl) dL_law_428 ⟨by omega, by omega⟩ (fun v w1 H locs hq hI => ?_)
  obtain ⟨rfl, hlb, g1, hj1, hg1⟩ := hq
  show W _ _ _ _ _ _ _ _ _ _ _ _ _ _ _ (F0 _ _ _ [.int _])
  have hM1 := hM.aft d1 d3 hlb
  refine lv_istore hx hb dL_law_431 hl (by decide) rfl (fun ls hl => ?_)
  refine lv_aload_n hx hb dL_law_433 rfl (lv_at hl 4 rfl) ?_
  refine lv_aload_n hx hb dL_law_434 rfl (lv_at hl 2 rfl) ?_
  refine lv_iload hx hb dL_law_435 (lv_at hl 1 rfl) ?_
  refine lv_iconst (v := nI 1) hx hb dL_law_437 (by decide) ?_
  refine lv_iadd hx hb dL_law_438 ?_
  refine lx_ild C hI (i := i + 1) (by omega) (nI_add _ _) dL_law_439 ?_
  refine lv_aload_n hx hb dL_law_440 rfl (lv_at hl 2 rfl) ?_
  refine lv_iload hx hb dL_law_441 (lv_at hl 1 rfl) ?_
  refine lv_iconst (v := nI 2) hx hb dL_law_443 (by decide) ?_
  refine lv_iadd hx hb dL_law_444 ?_
  refine lx_ild C hI (i := i + 2) (by omega) (nI_add _ _) dL_law_445 ?_
  refine lv_aload_n hx hb dL_law_446 rfl (lv_at hl 2 rfl) ?_
  refine lv_iload hx hb dL_law_447 (lv_at hl 1 rfl) ?_
  refine lv_iconst (v := nI 3) hx hb dL_law_449 (by decide) ?_
  refine lv_iadd hx hb dL_law_450 ?_
  refine lx_ild C hI (i := i + 3) (by omega) (nI_add _ _) dL_law_451 ?_
  refine ct_V (n := 3) hE hI (kM_open hM1 (xs (i + 1)) (xs (i + 2)) (xs (i + 3))) hM1.o rfl gm_L95 gi_M_open gs_M_M_open gz_M gc_M_open (by decide +kernel) ⟨by omega, by omega⟩ rfl hl.1 rfl (Nat.le_of_ble_eq_true rfl) dL_law_452 ⟨by omega, by omega⟩ (fun v w2 H locs hq hI => ?_)
  obtain ⟨rfl, I2, A2, hM2⟩ := hq
  show W _ _ _ _ _ _ _ _ _ _ _ _ _ _ _ (F0 _ _ _ [.int _])
  have hL2 := LI.mk hM d1 d2 d3 hlb hj1 hM2
  refine lv_istore hx hb dL_law_455 hl (by decide) rfl (fun ls hl => ?_)
  refine lv_aload_n hx hb dL_law_457 rfl (lv_at hl 5 rfl) ?_
  refine ct_V (n := 0) hE hI (kM_thrown hM2.1.1) hM2.o rfl gm_L78 gi_M_thrown gs_M_M_thrown gz_M gc_M_thrown (by decide +kernel) ⟨by omega, by omega⟩ rfl hl.1 rfl (Nat.le_of_ble_eq_true rfl) dL_law_458 ⟨by omega, by omega⟩ (fun v w3 H locs hq hI => ?_)
  obtain ⟨hw, rfl⟩ := hq
  subst w3
  show W _ _ _ _ _ _ _ _ _ _ _ _ _ _ _ (F0 _ _ _ [.int _])
  rw [hM2.2.2.2]
  refine lv_iload hx hb dL_law_461 (lv_at hl 1 rfl) ?_
  refine lv_icmp_eq (tgt := 468) hx hb dL_law_463 (by decide) (fun hq => ?_) (fun hq => ?_)
  · skip
    refine lv_iload hx hb dL_law_468 (lv_at hl 1 rfl) ?_
    refine lv_if_ne (tgt := 485) hx hb dL_law_470 (by decide) (fun hq2 => ?_) (fun hq2 => ?_)
    · skip
      refine lv_goto (tgt := 1098) hx hb dL_law_485 (by decide) ?_
      exact kk w2 H locs ls _ _ _ hL2.1 hI (lv_sub hl [2, 3, 4, 5, 6] rfl) (by omega) (by omega)
    · have hr0 : (op_open σ (xs (i + 1)) (xs (i + 2)) (xs (i + 3))).1 = 0 := by
        have hle := op_open_le σ (xs (i + 1)) (xs (i + 2)) (xs (i + 3))
        exact cd_0 (by omega) hq2
      refine lv_aload_n hx hb dL_law_473 rfl (lv_at hl 6 rfl) ?_
      refine lv_iconst (v := nI 0) hx hb dL_law_474 (by decide) ?_
      refine mp_lld hE.1 hI hL2.2 2 rfl (vp_in_nI (by omega) (by omega)) dL_law_475 ?_
      rw [nI_clamp (by omega), hg1 hr0]
      refine lv_iload hx hb dL_law_476 (lv_at hl 0 rfl) ?_
      refine lv_i2l hx hb dL_law_478 rfl ?_
      refine W.lcmp hx hb dL_law_479 ?_
      rw [lg_same]
      refine lv_if_eq (tgt := 485) hx hb dL_law_480 (by decide) (fun hq3 => ?_) (fun hq3 => ?_)
      · skip
        refine lv_goto (tgt := 1098) hx hb dL_law_485 (by decide) ?_
        exact kk w2 H locs ls _ _ _ hL2.1 hI (lv_sub hl [2, 3, 4, 5, 6] rfl) (by omega) (by omega)
      · exact absurd rfl hq3
  · exact absurd rfl hq
set_option maxRecDepth 100000 in
set_option maxHeartbeats 2000000 in
theorem cs_part (C : LC p l R s m c args D K n0 w0 A c0 b L xs) (hI : mp_I D cl_all A s.heap w H locs) (hL : LI K w xb xm ja bc) {i : Nat} (hi : i + 5 ≤ L) (hl : lv_has ls 7 [(4, .int (nI i)), (0, .ref b), (1, .ref xb), (2, .ref xm), (3, .ref ja)]) (hrc : 65 * cells + 1019890 ≤ 65 * R.cells + bc) (hrs : slots + 2006012 ≤ R.slots + 2 * bc) (kk : LK p l e R s m args below meth c Q D K A b xb xm ja bc i cells slots) : W p l e R s m args below meth c H locs cells slots Q (F0 m 488 ls []) := by
  obtain ⟨f, mi, h, I, A1, σ, O, c1, g, hB, hM, hj, rfl, rfl, d1, d2, d3⟩ := hL
  have hE := C.1
  have hx := hE.1.1.1
  have hb := hE.1.1.2.1
  have hbc := hB.2.2.2.2.2.2.2.2
  obtain ⟨hLN, hRf, hRl⟩ := C.2.2.2.2.2.2
  refine lv_aload_n hx hb dL_law_488 rfl (lv_at hl 2 rfl) ?_
  refine lv_aload_n hx hb dL_law_489 rfl (lv_at hl 1 rfl) ?_
  refine lv_iload hx hb dL_law_490 (lv_at hl 0 rfl) ?_
  refine lv_iconst (v := nI 1) hx hb dL_law_492 (by decide) ?_
  refine lv_iadd hx hb dL_law_493 ?_
  refine lx_ild C hI (i := i + 1) (by omega) (nI_add _ _) dL_law_494 ?_
  refine lv_aload_n hx hb dL_law_495 rfl (lv_at hl 1 rfl) ?_
  refine lv_iload hx hb dL_law_496 (lv_at hl 0 rfl) ?_
  refine lv_iconst (v := nI 2) hx hb dL_law_498 (by decide) ?_
  refine lv_iadd hx hb dL_law_499 ?_
  refine lx_ild C hI (i := i + 2) (by omega) (nI_add _ _) dL_law_500 ?_
  refine lv_aload_n hx hb dL_law_501 rfl (lv_at hl 1 rfl) ?_
  refine lv_iload hx hb dL_law_502 (lv_at hl 0 rfl) ?_
  refine lv_iconst (v := nI 3) hx hb dL_law_504 (by decide) ?_
  refine lv_iadd hx hb dL_law_505 ?_
  refine lx_ild C hI (i := i + 3) (by omega) (nI_add _ _) dL_law_506 ?_
  refine W_jn (F0 m 515 ls [.int (if xs (i + 3) = 0 then 0 else 1), .int (xs (i + 2)), .int (xs (i + 1)), .ref (f 0)]) (fun jn => ?_) ?_
  · refine lv_if_eq (tgt := 514) hx hb dL_law_507 (by decide) (fun hq => ?_) (fun hq => ?_)
    · refine lv_iconst (v := 0) hx hb dL_law_514 (by decide) ?_
      rw [if_pos hq] at jn
      exact jn
    · refine lv_iconst (v := 1) hx hb dL_law_510 (by decide) ?_
      refine lv_goto (tgt := 515) hx hb dL_law_511 (by decide) ?_
      rw [if_neg hq] at jn
      exact jn
  refine lx_St (n := 4) C.2.1 hE hI (kL_part C.2.2.1 hB (ja := f 0) (xs (i + 1)) (xs (i + 2)) (if xs (i + 3) = 0 then 0 else 1)) gm_L96 gt_L_part gz_L gc_L_part (by decide +kernel) ⟨by omega, by omega⟩ rfl hl.1 rfl (Nat.le_of_ble_eq_true rfl) dL_law_515 ⟨by omega, by omega⟩ (fun v w1 H locs hq hI => ?_)
  obtain ⟨rfl, hlb0⟩ := hq
  obtain ⟨hlb, hj1⟩ := hlb0.self hj d2
  show W _ _ _ _ _ _ _ _ _ _ _ _ _ _ _ (F0 _ _ _ [.int _])
  have hM1 := hM.aft d1 d3 hlb
  refine lv_istore hx hb dL_law_518 hl (by decide) rfl (fun ls hl => ?_)
  refine lv_aload_n hx hb dL_law_520 rfl (lv_at hl 4 rfl) ?_
  refine lv_aload_n hx hb dL_law_521 rfl (lv_at hl 2 rfl) ?_
  refine lv_iload hx hb dL_law_522 (lv_at hl 1 rfl) ?_
  refine lv_iconst (v := nI 1) hx hb dL_law_524 (by decide) ?_
  refine lv_iadd hx hb dL_law_525 ?_
  refine lx_ild C hI (i := i + 1) (by omega) (nI_add _ _) dL_law_526 ?_
  refine lv_aload_n hx hb dL_law_527 rfl (lv_at hl 2 rfl) ?_
  refine lv_iload hx hb dL_law_528 (lv_at hl 1 rfl) ?_
  refine lv_iconst (v := nI 2) hx hb dL_law_530 (by decide) ?_
  refine lv_iadd hx hb dL_law_531 ?_
  refine lx_ild C hI (i := i + 2) (by omega) (nI_add _ _) dL_law_532 ?_
  refine lv_aload_n hx hb dL_law_533 rfl (lv_at hl 2 rfl) ?_
  refine lv_iload hx hb dL_law_534 (lv_at hl 1 rfl) ?_
  refine lv_iconst (v := nI 3) hx hb dL_law_536 (by decide) ?_
  refine lv_iadd hx hb dL_law_537 ?_
  refine lx_ild C hI (i := i + 3) (by omega) (nI_add _ _) dL_law_538 ?_
  refine W_jn (F0 m 547 ls [.int (if xs (i + 3) = 0 then 0 else 1), .int (xs (i + 2)), .int (xs (i + 1)), .ref (h 0)]) (fun jn => ?_) ?_
  · refine lv_if_eq (tgt := 546) hx hb dL_law_539 (by decide) (fun hq => ?_) (fun hq => ?_)
    · refine lv_iconst (v := 0) hx hb dL_law_546 (by decide) ?_
      rw [if_pos hq] at jn
      exact jn
    · refine lv_iconst (v := 1) hx hb dL_law_542 (by decide) ?_
      refine lv_goto (tgt := 547) hx hb dL_law_543 (by decide) ?_
      rw [if_neg hq] at jn
      exact jn
  refine ct_V (n := 3) hE hI (kM_part hM1 (xs (i + 1)) (xs (i + 2)) (if xs (i + 3) = 0 then 0 else 1)) hM1.o rfl gm_L99 gi_M_part gs_M_M_part gz_M gc_M_part (by decide +kernel) ⟨by omega, by omega⟩ rfl hl.1 rfl (Nat.le_of_ble_eq_true rfl) dL_law_547 ⟨by omega, by omega⟩ (fun v w2 H locs hq hI => ?_)
  obtain ⟨rfl, I2, A2, hM2⟩ := hq
  show W _ _ _ _ _ _ _ _ _ _ _ _ _ _ _ (F0 _ _ _ [])
  have hL2 := LI.mk hM d1 d2 d3 hlb hj1 hM2
  refine lv_aload_n hx hb dL_law_550 rfl (lv_at hl 4 rfl) ?_
  refine ct_V (n := 0) hE hI (kM_thrown hM2.1.1) hM2.o rfl gm_L78 gi_M_thrown gs_M_M_thrown gz_M gc_M_thrown (by decide +kernel) ⟨by omega, by omega⟩ rfl hl.1 rfl (Nat.le_of_ble_eq_true rfl) dL_law_551 ⟨by omega, by omega⟩ (fun v w3 H locs hq hI => ?_)
  obtain ⟨hw, rfl⟩ := hq
  subst w3
  show W _ _ _ _ _ _ _ _ _ _ _ _ _ _ _ (F0 _ _ _ [.int _])
  rw [hM2.2.2.2]
  refine lv_iload hx hb dL_law_554 (lv_at hl 0 rfl) ?_
  refine lv_icmp_eq (tgt := 561) hx hb dL_law_556 (by decide) (fun hq => ?_) (fun hq => ?_)
  · skip
    refine lv_goto (tgt := 1098) hx hb dL_law_561 (by decide) ?_
    exact kk w2 H locs ls _ _ _ hL2.1 hI (lv_sub hl [1, 2, 3, 4, 5] rfl) (by omega) (by omega)
  · exact absurd rfl hq
set_option maxRecDepth 100000 in
set_option maxHeartbeats 2000000 in
theorem cs_step (C : LC p l R s m c args D K n0 w0 A c0 b L xs) (hI : mp_I D cl_all A s.heap w H locs) (hL : LI K w xb xm ja bc) {i : Nat} (hi : i + 5 ≤ L) (hl : lv_has ls 7 [(4, .int (nI i)), (0, .ref b), (1, .ref xb), (2, .ref xm), (3, .ref ja)]) (hrc : 65 * cells + 1019890 ≤ 65 * R.cells + bc) (hrs : slots + 2006012 ≤ R.slots + 2 * bc) (kk : LK p l e R s m args below meth c Q D K A b xb xm ja bc i cells slots) : W p l e R s m args below meth c H locs cells slots Q (F0 m 564 ls []) := by
  obtain ⟨f, mi, h, I, A1, σ, O, c1, g, hB, hM, hj, rfl, rfl, d1, d2, d3⟩ := hL
  have hE := C.1
  have hx := hE.1.1.1
  have hb := hE.1.1.2.1
  have hbc := hB.2.2.2.2.2.2.2.2
  obtain ⟨hLN, hRf, hRl⟩ := C.2.2.2.2.2.2
  refine lv_aload_n hx hb dL_law_564 rfl (lv_at hl 2 rfl) ?_
  refine lv_aload_n hx hb dL_law_565 rfl (lv_at hl 1 rfl) ?_
  refine lv_iload hx hb dL_law_566 (lv_at hl 0 rfl) ?_
  refine lv_iconst (v := nI 1) hx hb dL_law_568 (by decide) ?_
  refine lv_iadd hx hb dL_law_569 ?_
  refine lx_ild C hI (i := i + 1) (by omega) (nI_add _ _) dL_law_570 ?_
  refine lv_aload_n hx hb dL_law_571 rfl (lv_at hl 1 rfl) ?_
  refine lv_iload hx hb dL_law_572 (lv_at hl 0 rfl) ?_
  refine lv_iconst (v := nI 2) hx hb dL_law_574 (by decide) ?_
  refine lv_iadd hx hb dL_law_575 ?_
  refine lx_ild C hI (i := i + 2) (by omega) (nI_add _ _) dL_law_576 ?_
  refine lv_aload_n hx hb dL_law_577 rfl (lv_at hl 4 rfl) ?_
  refine lx_St (n := 4) C.2.1 hE hI (kL_step C.2.2.1 hB hj d2 (xs (i + 1)) (xs (i + 2))) gm_L100 gt_L_step gz_L gc_L_step (by decide +kernel) ⟨by omega, by omega⟩ rfl hl.1 rfl (Nat.le_of_ble_eq_true rfl) dL_law_578 ⟨by omega, by omega⟩ (fun v w1 H locs hq hI => ?_)
  obtain ⟨rfl, hlb, g1, hj1, hg1⟩ := hq
  show W _ _ _ _ _ _ _ _ _ _ _ _ _ _ _ (F0 _ _ _ [.int _])
  have hM1 := hM.aft d1 d3 hlb
  refine lv_istore hx hb dL_law_581 hl (by decide) rfl (fun ls hl => ?_)
  refine lv_aload_n hx hb dL_law_583 rfl (lv_at hl 4 rfl) ?_
  refine lv_aload_n hx hb dL_law_584 rfl (lv_at hl 2 rfl) ?_
  refine lv_iload hx hb dL_law_585 (lv_at hl 1 rfl) ?_
  refine lv_iconst (v := nI 1) hx hb dL_law_587 (by decide) ?_
  refine lv_iadd hx hb dL_law_588 ?_
  refine lx_ild C hI (i := i + 1) (by omega) (nI_add _ _) dL_law_589 ?_
  refine lv_aload_n hx hb dL_law_590 rfl (lv_at hl 2 rfl) ?_
  refine lv_iload hx hb dL_law_591 (lv_at hl 1 rfl) ?_
  refine lv_iconst (v := nI 2) hx hb dL_law_593 (by decide) ?_
  refine lv_iadd hx hb dL_law_594 ?_
  refine lx_ild C hI (i := i + 2) (by omega) (nI_add _ _) dL_law_595 ?_
  refine ct_V (n := 2) hE hI (kM_step hM1 (xs (i + 1)) (xs (i + 2))) hM1.o rfl gm_L103 gi_M_step gs_M_M_step gz_M gc_M_step (by decide +kernel) ⟨by omega, by omega⟩ rfl hl.1 rfl (Nat.le_of_ble_eq_true rfl) dL_law_596 ⟨by omega, by omega⟩ (fun v w2 H locs hq hI => ?_)
  obtain ⟨rfl, I2, A2, hM2⟩ := hq
  show W _ _ _ _ _ _ _ _ _ _ _ _ _ _ _ (F0 _ _ _ [.int _])
  have hL2 := LI.mk hM d1 d2 d3 hlb hj1 hM2
  refine lv_istore hx hb dL_law_599 hl (by decide) rfl (fun ls hl => ?_)
  refine lv_aload_n hx hb dL_law_601 rfl (lv_at hl 5 rfl) ?_
  refine ct_V (n := 0) hE hI (kM_thrown hM2.1.1) hM2.o rfl gm_L78 gi_M_thrown gs_M_M_thrown gz_M gc_M_thrown (by decide +kernel) ⟨by omega, by omega⟩ rfl hl.1 rfl (Nat.le_of_ble_eq_true rfl) dL_law_602 ⟨by omega, by omega⟩ (fun v w3 H locs hq hI => ?_)
  obtain ⟨hw, rfl⟩ := hq
  subst w3
  show W _ _ _ _ _ _ _ _ _ _ _ _ _ _ _ (F0 _ _ _ [.int _])
  rw [hM2.2.2.2]
  refine lv_iload hx hb dL_law_605 (lv_at hl 1 rfl) ?_
  refine lv_icmp_eq (tgt := 612) hx hb dL_law_607 (by decide) (fun hq => ?_) (fun hq => ?_)
  · skip
    refine lv_iload hx hb dL_law_612 (lv_at hl 1 rfl) ?_
    refine lv_if_ne (tgt := 636) hx hb dL_law_614 (by decide) (fun hq2 => ?_) (fun hq2 => ?_)
    · skip
      refine lv_goto (tgt := 1098) hx hb dL_law_636 (by decide) ?_
      exact kk w2 H locs ls _ _ _ hL2.1 hI (lv_sub hl [2, 3, 4, 5, 6] rfl) (by omega) (by omega)
    · have hr0 : (op_step σ (xs (i + 1)) (xs (i + 2))).1 = 0 := by
        have hle := op_step_le σ (xs (i + 1)) (xs (i + 2))
        exact cd_0 (by omega) hq2
      refine lv_aload_n hx hb dL_law_617 rfl (lv_at hl 6 rfl) ?_
      refine lv_iconst (v := nI 0) hx hb dL_law_618 (by decide) ?_
      refine mp_lld hE.1 hI hL2.2 2 rfl (vp_in_nI (by omega) (by omega)) dL_law_619 ?_
      rw [nI_clamp (by omega), hg1 hr0]
      refine lv_iload hx hb dL_law_620 (lv_at hl 0 rfl) ?_
      rcases op_step_01 σ (xs (i + 1)) (xs (i + 2)) with e9 | e9
      · rw [e9]
        refine lv_if_eq (tgt := 629) hx hb dL_law_622 (by decide) (fun hq4 => ?_) (fun hq4 => ?_)
        · refine lv_lconst (v := 0) hx hb dL_law_629 (by decide) ?_
          refine W.lcmp hx hb dL_law_630 ?_
          rw [show (nI 0).toInt64 = 0 by decide, lg_same]
          refine lv_if_eq (tgt := 636) hx hb dL_law_631 (by decide) (fun hq3 => ?_) (fun hq3 => ?_)
          · skip
            refine lv_goto (tgt := 1098) hx hb dL_law_636 (by decide) ?_
            exact kk w2 H locs ls _ _ _ hL2.1 hI (lv_sub hl [2, 3, 4, 5, 6] rfl) (by omega) (by omega)
          · exact absurd rfl hq3
        · exact absurd rfl hq4
      · rw [e9]
        refine lv_if_eq (tgt := 629) hx hb dL_law_622 (by decide) (fun hq4 => ?_) (fun hq4 => ?_)
        · exact absurd hq4 (by decide)
        · refine lv_lconst (v := 1) hx hb dL_law_625 (by decide) ?_
          refine lv_goto (tgt := 630) hx hb dL_law_626 (by decide) ?_
          refine W.lcmp hx hb dL_law_630 ?_
          rw [show (nI 1).toInt64 = 1 by decide, lg_same]
          refine lv_if_eq (tgt := 636) hx hb dL_law_631 (by decide) (fun hq3 => ?_) (fun hq3 => ?_)
          · skip
            refine lv_goto (tgt := 1098) hx hb dL_law_636 (by decide) ?_
            exact kk w2 H locs ls _ _ _ hL2.1 hI (lv_sub hl [2, 3, 4, 5, 6] rfl) (by omega) (by omega)
          · exact absurd rfl hq3
  · exact absurd rfl hq
set_option maxRecDepth 100000 in
set_option maxHeartbeats 2000000 in
theorem cs_head (C : LC p l R s m c args D K n0 w0 A c0 b L xs) (hI : mp_I D cl_all A s.heap w H locs) (hL : LI K w xb xm ja bc) {i : Nat} (hi : i + 5 ≤ L) (hl : lv_has ls 7 [(4, .int (nI i)), (0, .ref b), (1, .ref xb), (2, .ref xm), (3, .ref ja)]) (hrc : 65 * cells + 1019890 ≤ 65 * R.cells + bc) (hrs : slots + 2006012 ≤ R.slots + 2 * bc) (kk : LK p l e R s m args below meth c Q D K A b xb xm ja bc i cells slots) : W p l e R s m args below meth c H locs cells slots Q (F0 m 639 ls []) := by
  obtain ⟨f, mi, h, I, A1, σ, O, c1, g, hB, hM, hj, rfl, rfl, d1, d2, d3⟩ := hL
  have hE := C.1
  have hx := hE.1.1.1
  have hb := hE.1.1.2.1
  have hbc := hB.2.2.2.2.2.2.2.2
  obtain ⟨hLN, hRf, hRl⟩ := C.2.2.2.2.2.2
  refine lv_aload_n hx hb dL_law_639 rfl (lv_at hl 2 rfl) ?_
  refine lv_aload_n hx hb dL_law_640 rfl (lv_at hl 1 rfl) ?_
  refine lv_iload hx hb dL_law_641 (lv_at hl 0 rfl) ?_
  refine lv_iconst (v := nI 1) hx hb dL_law_643 (by decide) ?_
  refine lv_iadd hx hb dL_law_644 ?_
  refine lx_ild C hI (i := i + 1) (by omega) (nI_add _ _) dL_law_645 ?_
  refine lv_aload_n hx hb dL_law_646 rfl (lv_at hl 1 rfl) ?_
  refine lv_iload hx hb dL_law_647 (lv_at hl 0 rfl) ?_
  refine lv_iconst (v := nI 2) hx hb dL_law_649 (by decide) ?_
  refine lv_iadd hx hb dL_law_650 ?_
  refine lx_ild C hI (i := i + 2) (by omega) (nI_add _ _) dL_law_651 ?_
  refine lv_aload_n hx hb dL_law_652 rfl (lv_at hl 4 rfl) ?_
  refine lx_St (n := 4) C.2.1 hE hI (kL_head C.2.2.1 hB hj d2 (xs (i + 1)) (xs (i + 2))) gm_L104 gt_L_head gz_L gc_L_head (by decide +kernel) ⟨by omega, by omega⟩ rfl hl.1 rfl (Nat.le_of_ble_eq_true rfl) dL_law_653 ⟨by omega, by omega⟩ (fun v w1 H locs hq hI => ?_)
  obtain ⟨rfl, hlb, g1, hj1, hg1⟩ := hq
  show W _ _ _ _ _ _ _ _ _ _ _ _ _ _ _ (F0 _ _ _ [.int _])
  have hM1 := hM.aft d1 d3 hlb
  refine lv_istore hx hb dL_law_656 hl (by decide) rfl (fun ls hl => ?_)
  refine lv_aload_n hx hb dL_law_658 rfl (lv_at hl 4 rfl) ?_
  refine lv_aload_n hx hb dL_law_659 rfl (lv_at hl 2 rfl) ?_
  refine lv_iload hx hb dL_law_660 (lv_at hl 1 rfl) ?_
  refine lv_iconst (v := nI 1) hx hb dL_law_662 (by decide) ?_
  refine lv_iadd hx hb dL_law_663 ?_
  refine lx_ild C hI (i := i + 1) (by omega) (nI_add _ _) dL_law_664 ?_
  refine lv_aload_n hx hb dL_law_665 rfl (lv_at hl 2 rfl) ?_
  refine lv_iload hx hb dL_law_666 (lv_at hl 1 rfl) ?_
  refine lv_iconst (v := nI 2) hx hb dL_law_668 (by decide) ?_
  refine lv_iadd hx hb dL_law_669 ?_
  refine lx_ild C hI (i := i + 2) (by omega) (nI_add _ _) dL_law_670 ?_
  refine ct_V (n := 2) hE hI (kM_head hM1 (xs (i + 1)) (xs (i + 2))) hM1.o rfl gm_L106 gi_M_head gs_M_M_head gz_M gc_M_head (by decide +kernel) ⟨by omega, by omega⟩ rfl hl.1 rfl (Nat.le_of_ble_eq_true rfl) dL_law_671 ⟨by omega, by omega⟩ (fun v w2 H locs hq hI => ?_)
  obtain ⟨rfl, I2, A2, hM2⟩ := hq
  show W _ _ _ _ _ _ _ _ _ _ _ _ _ _ _ (F0 _ _ _ [.int _])
  have hL2 := LI.mk hM d1 d2 d3 hlb hj1 hM2
  refine lv_istore hx hb dL_law_674 hl (by decide) rfl (fun ls hl => ?_)
  refine lv_aload_n hx hb dL_law_676 rfl (lv_at hl 5 rfl) ?_
  refine ct_V (n := 0) hE hI (kM_thrown hM2.1.1) hM2.o rfl gm_L78 gi_M_thrown gs_M_M_thrown gz_M gc_M_thrown (by decide +kernel) ⟨by omega, by omega⟩ rfl hl.1 rfl (Nat.le_of_ble_eq_true rfl) dL_law_677 ⟨by omega, by omega⟩ (fun v w3 H locs hq hI => ?_)
  obtain ⟨hw, rfl⟩ := hq
  subst w3
  show W _ _ _ _ _ _ _ _ _ _ _ _ _ _ _ (F0 _ _ _ [.int _])
  rw [hM2.2.2.2]
  refine lv_iload hx hb dL_law_680 (lv_at hl 1 rfl) ?_
  refine lv_icmp_eq (tgt := 687) hx hb dL_law_682 (by decide) (fun hq => ?_) (fun hq => ?_)
  · skip
    refine lv_iload hx hb dL_law_687 (lv_at hl 1 rfl) ?_
    refine lv_if_ne (tgt := 704) hx hb dL_law_689 (by decide) (fun hq2 => ?_) (fun hq2 => ?_)
    · skip
      refine lv_goto (tgt := 1098) hx hb dL_law_704 (by decide) ?_
      exact kk w2 H locs ls _ _ _ hL2.1 hI (lv_sub hl [2, 3, 4, 5, 6] rfl) (by omega) (by omega)
    · have hr0 : (op_all true σ (xs (i + 1)) (xs (i + 2))).1 = 0 := by
        have hle := op_all_le true σ (xs (i + 1)) (xs (i + 2))
        exact cd_0 (by omega) hq2
      refine lv_aload_n hx hb dL_law_692 rfl (lv_at hl 6 rfl) ?_
      refine lv_iconst (v := nI 0) hx hb dL_law_693 (by decide) ?_
      refine mp_lld hE.1 hI hL2.2 2 rfl (vp_in_nI (by omega) (by omega)) dL_law_694 ?_
      rw [nI_clamp (by omega), hg1 hr0]
      refine lv_iload hx hb dL_law_695 (lv_at hl 0 rfl) ?_
      refine lv_i2l hx hb dL_law_697 rfl ?_
      refine W.lcmp hx hb dL_law_698 ?_
      rw [lg_same]
      refine lv_if_eq (tgt := 704) hx hb dL_law_699 (by decide) (fun hq3 => ?_) (fun hq3 => ?_)
      · skip
        refine lv_goto (tgt := 1098) hx hb dL_law_704 (by decide) ?_
        exact kk w2 H locs ls _ _ _ hL2.1 hI (lv_sub hl [2, 3, 4, 5, 6] rfl) (by omega) (by omega)
      · exact absurd rfl hq3
  · exact absurd rfl hq
set_option maxRecDepth 100000 in
set_option maxHeartbeats 2000000 in
theorem cs_normal (C : LC p l R s m c args D K n0 w0 A c0 b L xs) (hI : mp_I D cl_all A s.heap w H locs) (hL : LI K w xb xm ja bc) {i : Nat} (hi : i + 5 ≤ L) (hl : lv_has ls 7 [(4, .int (nI i)), (0, .ref b), (1, .ref xb), (2, .ref xm), (3, .ref ja)]) (hrc : 65 * cells + 1019890 ≤ 65 * R.cells + bc) (hrs : slots + 2006012 ≤ R.slots + 2 * bc) (kk : LK p l e R s m args below meth c Q D K A b xb xm ja bc i cells slots) : W p l e R s m args below meth c H locs cells slots Q (F0 m 707 ls []) := by
  obtain ⟨f, mi, h, I, A1, σ, O, c1, g, hB, hM, hj, rfl, rfl, d1, d2, d3⟩ := hL
  have hE := C.1
  have hx := hE.1.1.1
  have hb := hE.1.1.2.1
  have hbc := hB.2.2.2.2.2.2.2.2
  obtain ⟨hLN, hRf, hRl⟩ := C.2.2.2.2.2.2
  refine lv_aload_n hx hb dL_law_707 rfl (lv_at hl 2 rfl) ?_
  refine lv_aload_n hx hb dL_law_708 rfl (lv_at hl 1 rfl) ?_
  refine lv_iload hx hb dL_law_709 (lv_at hl 0 rfl) ?_
  refine lv_iconst (v := nI 1) hx hb dL_law_711 (by decide) ?_
  refine lv_iadd hx hb dL_law_712 ?_
  refine lx_ild C hI (i := i + 1) (by omega) (nI_add _ _) dL_law_713 ?_
  refine lv_aload_n hx hb dL_law_714 rfl (lv_at hl 1 rfl) ?_
  refine lv_iload hx hb dL_law_715 (lv_at hl 0 rfl) ?_
  refine lv_iconst (v := nI 2) hx hb dL_law_717 (by decide) ?_
  refine lv_iadd hx hb dL_law_718 ?_
  refine lx_ild C hI (i := i + 2) (by omega) (nI_add _ _) dL_law_719 ?_
  refine lv_aload_n hx hb dL_law_720 rfl (lv_at hl 4 rfl) ?_
  refine lx_St (n := 4) C.2.1 hE hI (kL_normal C.2.2.1 hB hj d2 (xs (i + 1)) (xs (i + 2))) gm_L107 gt_L_normal gz_L gc_L_normal (by decide +kernel) ⟨by omega, by omega⟩ rfl hl.1 rfl (Nat.le_of_ble_eq_true rfl) dL_law_721 ⟨by omega, by omega⟩ (fun v w1 H locs hq hI => ?_)
  obtain ⟨rfl, hlb, g1, hj1, hg1⟩ := hq
  show W _ _ _ _ _ _ _ _ _ _ _ _ _ _ _ (F0 _ _ _ [.int _])
  have hM1 := hM.aft d1 d3 hlb
  refine lv_istore hx hb dL_law_724 hl (by decide) rfl (fun ls hl => ?_)
  refine lv_aload_n hx hb dL_law_726 rfl (lv_at hl 4 rfl) ?_
  refine lv_aload_n hx hb dL_law_727 rfl (lv_at hl 2 rfl) ?_
  refine lv_iload hx hb dL_law_728 (lv_at hl 1 rfl) ?_
  refine lv_iconst (v := nI 1) hx hb dL_law_730 (by decide) ?_
  refine lv_iadd hx hb dL_law_731 ?_
  refine lx_ild C hI (i := i + 1) (by omega) (nI_add _ _) dL_law_732 ?_
  refine lv_aload_n hx hb dL_law_733 rfl (lv_at hl 2 rfl) ?_
  refine lv_iload hx hb dL_law_734 (lv_at hl 1 rfl) ?_
  refine lv_iconst (v := nI 2) hx hb dL_law_736 (by decide) ?_
  refine lv_iadd hx hb dL_law_737 ?_
  refine lx_ild C hI (i := i + 2) (by omega) (nI_add _ _) dL_law_738 ?_
  refine ct_V (n := 2) hE hI (kM_normal hM1 (xs (i + 1)) (xs (i + 2))) hM1.o rfl gm_L109 gi_M_normal gs_M_M_normal gz_M gc_M_normal (by decide +kernel) ⟨by omega, by omega⟩ rfl hl.1 rfl (Nat.le_of_ble_eq_true rfl) dL_law_739 ⟨by omega, by omega⟩ (fun v w2 H locs hq hI => ?_)
  obtain ⟨rfl, I2, A2, hM2⟩ := hq
  show W _ _ _ _ _ _ _ _ _ _ _ _ _ _ _ (F0 _ _ _ [.int _])
  have hL2 := LI.mk hM d1 d2 d3 hlb hj1 hM2
  refine lv_istore hx hb dL_law_742 hl (by decide) rfl (fun ls hl => ?_)
  refine lv_aload_n hx hb dL_law_744 rfl (lv_at hl 5 rfl) ?_
  refine ct_V (n := 0) hE hI (kM_thrown hM2.1.1) hM2.o rfl gm_L78 gi_M_thrown gs_M_M_thrown gz_M gc_M_thrown (by decide +kernel) ⟨by omega, by omega⟩ rfl hl.1 rfl (Nat.le_of_ble_eq_true rfl) dL_law_745 ⟨by omega, by omega⟩ (fun v w3 H locs hq hI => ?_)
  obtain ⟨hw, rfl⟩ := hq
  subst w3
  show W _ _ _ _ _ _ _ _ _ _ _ _ _ _ _ (F0 _ _ _ [.int _])
  rw [hM2.2.2.2]
  refine lv_iload hx hb dL_law_748 (lv_at hl 1 rfl) ?_
  refine lv_icmp_eq (tgt := 755) hx hb dL_law_750 (by decide) (fun hq => ?_) (fun hq => ?_)
  · skip
    refine lv_iload hx hb dL_law_755 (lv_at hl 1 rfl) ?_
    refine lv_if_ne (tgt := 772) hx hb dL_law_757 (by decide) (fun hq2 => ?_) (fun hq2 => ?_)
    · skip
      refine lv_goto (tgt := 1098) hx hb dL_law_772 (by decide) ?_
      exact kk w2 H locs ls _ _ _ hL2.1 hI (lv_sub hl [2, 3, 4, 5, 6] rfl) (by omega) (by omega)
    · have hr0 : (op_all false σ (xs (i + 1)) (xs (i + 2))).1 = 0 := by
        have hle := op_all_le false σ (xs (i + 1)) (xs (i + 2))
        exact cd_0 (by omega) hq2
      refine lv_aload_n hx hb dL_law_760 rfl (lv_at hl 6 rfl) ?_
      refine lv_iconst (v := nI 0) hx hb dL_law_761 (by decide) ?_
      refine mp_lld hE.1 hI hL2.2 2 rfl (vp_in_nI (by omega) (by omega)) dL_law_762 ?_
      rw [nI_clamp (by omega), hg1 hr0]
      refine lv_iload hx hb dL_law_763 (lv_at hl 0 rfl) ?_
      refine lv_i2l hx hb dL_law_765 rfl ?_
      refine W.lcmp hx hb dL_law_766 ?_
      rw [lg_same]
      refine lv_if_eq (tgt := 772) hx hb dL_law_767 (by decide) (fun hq3 => ?_) (fun hq3 => ?_)
      · skip
        refine lv_goto (tgt := 1098) hx hb dL_law_772 (by decide) ?_
        exact kk w2 H locs ls _ _ _ hL2.1 hI (lv_sub hl [2, 3, 4, 5, 6] rfl) (by omega) (by omega)
      · exact absurd rfl hq3
  · exact absurd rfl hq
set_option maxRecDepth 100000 in
set_option maxHeartbeats 2000000 in
theorem cs_same (C : LC p l R s m c args D K n0 w0 A c0 b L xs) (hI : mp_I D cl_all A s.heap w H locs) (hL : LI K w xb xm ja bc) {i : Nat} (hi : i + 5 ≤ L) (hl : lv_has ls 7 [(4, .int (nI i)), (0, .ref b), (1, .ref xb), (2, .ref xm), (3, .ref ja)]) (hrc : 65 * cells + 1019890 ≤ 65 * R.cells + bc) (hrs : slots + 2006012 ≤ R.slots + 2 * bc) (kk : LK p l e R s m args below meth c Q D K A b xb xm ja bc i cells slots) : W p l e R s m args below meth c H locs cells slots Q (F0 m 775 ls []) := by
  obtain ⟨f, mi, h, I, A1, σ, O, c1, g, hB, hM, hj, rfl, rfl, d1, d2, d3⟩ := hL
  have hE := C.1
  have hx := hE.1.1.1
  have hb := hE.1.1.2.1
  have hbc := hB.2.2.2.2.2.2.2.2
  obtain ⟨hLN, hRf, hRl⟩ := C.2.2.2.2.2.2
  refine lv_aload_n hx hb dL_law_775 rfl (lv_at hl 2 rfl) ?_
  refine lv_aload_n hx hb dL_law_776 rfl (lv_at hl 1 rfl) ?_
  refine lv_iload hx hb dL_law_777 (lv_at hl 0 rfl) ?_
  refine lv_iconst (v := nI 1) hx hb dL_law_779 (by decide) ?_
  refine lv_iadd hx hb dL_law_780 ?_
  refine lx_ild C hI (i := i + 1) (by omega) (nI_add _ _) dL_law_781 ?_
  refine lv_aload_n hx hb dL_law_782 rfl (lv_at hl 1 rfl) ?_
  refine lv_iload hx hb dL_law_783 (lv_at hl 0 rfl) ?_
  refine lv_iconst (v := nI 2) hx hb dL_law_785 (by decide) ?_
  refine lv_iadd hx hb dL_law_786 ?_
  refine lx_ild C hI (i := i + 2) (by omega) (nI_add _ _) dL_law_787 ?_
  refine lv_aload_n hx hb dL_law_788 rfl (lv_at hl 4 rfl) ?_
  refine lx_St (n := 4) C.2.1 hE hI (kL_same C.2.2.1 hB hj d2 (xs (i + 1)) (xs (i + 2))) gm_L110 gt_L_same gz_L gc_L_same (by decide +kernel) ⟨by omega, by omega⟩ rfl hl.1 rfl (Nat.le_of_ble_eq_true rfl) dL_law_789 ⟨by omega, by omega⟩ (fun v w1 H locs hq hI => ?_)
  obtain ⟨rfl, hlb, g1, hj1, hg1⟩ := hq
  show W _ _ _ _ _ _ _ _ _ _ _ _ _ _ _ (F0 _ _ _ [.int _])
  have hM1 := hM.aft d1 d3 hlb
  refine lv_istore hx hb dL_law_792 hl (by decide) rfl (fun ls hl => ?_)
  refine lv_aload_n hx hb dL_law_794 rfl (lv_at hl 4 rfl) ?_
  refine lv_aload_n hx hb dL_law_795 rfl (lv_at hl 2 rfl) ?_
  refine lv_iload hx hb dL_law_796 (lv_at hl 1 rfl) ?_
  refine lv_iconst (v := nI 1) hx hb dL_law_798 (by decide) ?_
  refine lv_iadd hx hb dL_law_799 ?_
  refine lx_ild C hI (i := i + 1) (by omega) (nI_add _ _) dL_law_800 ?_
  refine lv_aload_n hx hb dL_law_801 rfl (lv_at hl 2 rfl) ?_
  refine lv_iload hx hb dL_law_802 (lv_at hl 1 rfl) ?_
  refine lv_iconst (v := nI 2) hx hb dL_law_804 (by decide) ?_
  refine lv_iadd hx hb dL_law_805 ?_
  refine lx_ild C hI (i := i + 2) (by omega) (nI_add _ _) dL_law_806 ?_
  refine ct_V (n := 2) hE hI (kM_same hM1 (xs (i + 1)) (xs (i + 2))) hM1.o rfl gm_L112 gi_M_same gs_M_M_same gz_M gc_M_same (by decide +kernel) ⟨by omega, by omega⟩ rfl hl.1 rfl (Nat.le_of_ble_eq_true rfl) dL_law_807 ⟨by omega, by omega⟩ (fun v w2 H locs hq hI => ?_)
  obtain ⟨rfl, I2, A2, hM2⟩ := hq
  show W _ _ _ _ _ _ _ _ _ _ _ _ _ _ _ (F0 _ _ _ [.int _])
  have hL2 := LI.mk hM d1 d2 d3 hlb hj1 hM2
  refine lv_istore hx hb dL_law_810 hl (by decide) rfl (fun ls hl => ?_)
  refine lv_aload_n hx hb dL_law_812 rfl (lv_at hl 5 rfl) ?_
  refine ct_V (n := 0) hE hI (kM_thrown hM2.1.1) hM2.o rfl gm_L78 gi_M_thrown gs_M_M_thrown gz_M gc_M_thrown (by decide +kernel) ⟨by omega, by omega⟩ rfl hl.1 rfl (Nat.le_of_ble_eq_true rfl) dL_law_813 ⟨by omega, by omega⟩ (fun v w3 H locs hq hI => ?_)
  obtain ⟨hw, rfl⟩ := hq
  subst w3
  show W _ _ _ _ _ _ _ _ _ _ _ _ _ _ _ (F0 _ _ _ [.int _])
  rw [hM2.2.2.2]
  refine lv_iload hx hb dL_law_816 (lv_at hl 1 rfl) ?_
  refine lv_icmp_eq (tgt := 823) hx hb dL_law_818 (by decide) (fun hq => ?_) (fun hq => ?_)
  · skip
    refine lv_iload hx hb dL_law_823 (lv_at hl 1 rfl) ?_
    refine lv_if_ne (tgt := 847) hx hb dL_law_825 (by decide) (fun hq2 => ?_) (fun hq2 => ?_)
    · skip
      refine lv_goto (tgt := 1098) hx hb dL_law_847 (by decide) ?_
      exact kk w2 H locs ls _ _ _ hL2.1 hI (lv_sub hl [2, 3, 4, 5, 6] rfl) (by omega) (by omega)
    · have hr0 : (op_same σ (xs (i + 1)) (xs (i + 2))).1 = 0 := by
        have hle := op_same_le σ (xs (i + 1)) (xs (i + 2))
        exact cd_0 (by omega) hq2
      refine lv_aload_n hx hb dL_law_828 rfl (lv_at hl 6 rfl) ?_
      refine lv_iconst (v := nI 0) hx hb dL_law_829 (by decide) ?_
      refine mp_lld hE.1 hI hL2.2 2 rfl (vp_in_nI (by omega) (by omega)) dL_law_830 ?_
      rw [nI_clamp (by omega), hg1 hr0]
      refine lv_iload hx hb dL_law_831 (lv_at hl 0 rfl) ?_
      rcases op_same_01 σ (xs (i + 1)) (xs (i + 2)) with e9 | e9
      · rw [e9]
        refine lv_if_eq (tgt := 840) hx hb dL_law_833 (by decide) (fun hq4 => ?_) (fun hq4 => ?_)
        · refine lv_lconst (v := 0) hx hb dL_law_840 (by decide) ?_
          refine W.lcmp hx hb dL_law_841 ?_
          rw [show (nI 0).toInt64 = 0 by decide, lg_same]
          refine lv_if_eq (tgt := 847) hx hb dL_law_842 (by decide) (fun hq3 => ?_) (fun hq3 => ?_)
          · skip
            refine lv_goto (tgt := 1098) hx hb dL_law_847 (by decide) ?_
            exact kk w2 H locs ls _ _ _ hL2.1 hI (lv_sub hl [2, 3, 4, 5, 6] rfl) (by omega) (by omega)
          · exact absurd rfl hq3
        · exact absurd rfl hq4
      · rw [e9]
        refine lv_if_eq (tgt := 840) hx hb dL_law_833 (by decide) (fun hq4 => ?_) (fun hq4 => ?_)
        · exact absurd hq4 (by decide)
        · refine lv_lconst (v := 1) hx hb dL_law_836 (by decide) ?_
          refine lv_goto (tgt := 841) hx hb dL_law_837 (by decide) ?_
          refine W.lcmp hx hb dL_law_841 ?_
          rw [show (nI 1).toInt64 = 1 by decide, lg_same]
          refine lv_if_eq (tgt := 847) hx hb dL_law_842 (by decide) (fun hq3 => ?_) (fun hq3 => ?_)
          · skip
            refine lv_goto (tgt := 1098) hx hb dL_law_847 (by decide) ?_
            exact kk w2 H locs ls _ _ _ hL2.1 hI (lv_sub hl [2, 3, 4, 5, 6] rfl) (by omega) (by omega)
          · exact absurd rfl hq3
  · exact absurd rfl hq
set_option maxRecDepth 100000 in
set_option maxHeartbeats 2000000 in
theorem cs_about (C : LC p l R s m c args D K n0 w0 A c0 b L xs) (hI : mp_I D cl_all A s.heap w H locs) (hL : LI K w xb xm ja bc) {i : Nat} (hi : i + 5 ≤ L) (hl : lv_has ls 7 [(4, .int (nI i)), (0, .ref b), (1, .ref xb), (2, .ref xm), (3, .ref ja)]) (hrc : 65 * cells + 1019890 ≤ 65 * R.cells + bc) (hrs : slots + 2006012 ≤ R.slots + 2 * bc) (kk : LK p l e R s m args below meth c Q D K A b xb xm ja bc i cells slots) : W p l e R s m args below meth c H locs cells slots Q (F0 m 850 ls []) := by
  obtain ⟨f, mi, h, I, A1, σ, O, c1, g, hB, hM, hj, rfl, rfl, d1, d2, d3⟩ := hL
  have hE := C.1
  have hx := hE.1.1.1
  have hb := hE.1.1.2.1
  have hbc := hB.2.2.2.2.2.2.2.2
  obtain ⟨hLN, hRf, hRl⟩ := C.2.2.2.2.2.2
  refine lv_aload_n hx hb dL_law_850 rfl (lv_at hl 2 rfl) ?_
  refine lv_aload_n hx hb dL_law_851 rfl (lv_at hl 1 rfl) ?_
  refine lv_iload hx hb dL_law_852 (lv_at hl 0 rfl) ?_
  refine lv_iconst (v := nI 1) hx hb dL_law_854 (by decide) ?_
  refine lv_iadd hx hb dL_law_855 ?_
  refine lx_ild C hI (i := i + 1) (by omega) (nI_add _ _) dL_law_856 ?_
  refine lv_aload_n hx hb dL_law_857 rfl (lv_at hl 1 rfl) ?_
  refine lv_iload hx hb dL_law_858 (lv_at hl 0 rfl) ?_
  refine lv_iconst (v := nI 2) hx hb dL_law_860 (by decide) ?_
  refine lv_iadd hx hb dL_law_861 ?_
  refine lx_ild C hI (i := i + 2) (by omega) (nI_add _ _) dL_law_862 ?_
  refine lv_aload_n hx hb dL_law_863 rfl (lv_at hl 4 rfl) ?_
  refine lx_St (n := 4) C.2.1 hE hI (kL_about C.2.2.1 hB hj d2 (xs (i + 1)) (xs (i + 2))) gm_L113 gt_L_about gz_L gc_L_about (by decide +kernel) ⟨by omega, by omega⟩ rfl hl.1 rfl (Nat.le_of_ble_eq_true rfl) dL_law_864 ⟨by omega, by omega⟩ (fun v w1 H locs hq hI => ?_)
  obtain ⟨rfl, hlb, g1, hj1, hg1⟩ := hq
  show W _ _ _ _ _ _ _ _ _ _ _ _ _ _ _ (F0 _ _ _ [.int _])
  have hM1 := hM.aft d1 d3 hlb
  refine lv_istore hx hb dL_law_867 hl (by decide) rfl (fun ls hl => ?_)
  refine lv_aload_n hx hb dL_law_869 rfl (lv_at hl 4 rfl) ?_
  refine lv_aload_n hx hb dL_law_870 rfl (lv_at hl 2 rfl) ?_
  refine lv_iload hx hb dL_law_871 (lv_at hl 1 rfl) ?_
  refine lv_iconst (v := nI 1) hx hb dL_law_873 (by decide) ?_
  refine lv_iadd hx hb dL_law_874 ?_
  refine lx_ild C hI (i := i + 1) (by omega) (nI_add _ _) dL_law_875 ?_
  refine lv_aload_n hx hb dL_law_876 rfl (lv_at hl 2 rfl) ?_
  refine lv_iload hx hb dL_law_877 (lv_at hl 1 rfl) ?_
  refine lv_iconst (v := nI 2) hx hb dL_law_879 (by decide) ?_
  refine lv_iadd hx hb dL_law_880 ?_
  refine lx_ild C hI (i := i + 2) (by omega) (nI_add _ _) dL_law_881 ?_
  refine ct_V (n := 2) hE hI (kM_about hM1 (xs (i + 1)) (xs (i + 2))) hM1.o rfl gm_L115 gi_M_about gs_M_M_about gz_M gc_M_about (by decide +kernel) ⟨by omega, by omega⟩ rfl hl.1 rfl (Nat.le_of_ble_eq_true rfl) dL_law_882 ⟨by omega, by omega⟩ (fun v w2 H locs hq hI => ?_)
  obtain ⟨rfl, I2, A2, hM2⟩ := hq
  show W _ _ _ _ _ _ _ _ _ _ _ _ _ _ _ (F0 _ _ _ [.int _])
  have hL2 := LI.mk hM d1 d2 d3 hlb hj1 hM2
  refine lv_istore hx hb dL_law_885 hl (by decide) rfl (fun ls hl => ?_)
  refine lv_aload_n hx hb dL_law_887 rfl (lv_at hl 5 rfl) ?_
  refine ct_V (n := 0) hE hI (kM_thrown hM2.1.1) hM2.o rfl gm_L78 gi_M_thrown gs_M_M_thrown gz_M gc_M_thrown (by decide +kernel) ⟨by omega, by omega⟩ rfl hl.1 rfl (Nat.le_of_ble_eq_true rfl) dL_law_888 ⟨by omega, by omega⟩ (fun v w3 H locs hq hI => ?_)
  obtain ⟨hw, rfl⟩ := hq
  subst w3
  show W _ _ _ _ _ _ _ _ _ _ _ _ _ _ _ (F0 _ _ _ [.int _])
  rw [hM2.2.2.2]
  refine lv_iload hx hb dL_law_891 (lv_at hl 1 rfl) ?_
  refine lv_icmp_eq (tgt := 898) hx hb dL_law_893 (by decide) (fun hq => ?_) (fun hq => ?_)
  · skip
    refine lv_iload hx hb dL_law_898 (lv_at hl 1 rfl) ?_
    refine lv_if_ne (tgt := 915) hx hb dL_law_900 (by decide) (fun hq2 => ?_) (fun hq2 => ?_)
    · skip
      refine lv_goto (tgt := 1098) hx hb dL_law_915 (by decide) ?_
      exact kk w2 H locs ls _ _ _ hL2.1 hI (lv_sub hl [2, 3, 4, 5, 6] rfl) (by omega) (by omega)
    · have hr0 : (op_about σ (xs (i + 1)) (xs (i + 2))).1 = 0 := by
        have hle := op_about_le σ (xs (i + 1)) (xs (i + 2))
        exact cd_0 (by omega) hq2
      refine lv_aload_n hx hb dL_law_903 rfl (lv_at hl 6 rfl) ?_
      refine lv_iconst (v := nI 0) hx hb dL_law_904 (by decide) ?_
      refine mp_lld hE.1 hI hL2.2 2 rfl (vp_in_nI (by omega) (by omega)) dL_law_905 ?_
      rw [nI_clamp (by omega), hg1 hr0]
      refine lv_iload hx hb dL_law_906 (lv_at hl 0 rfl) ?_
      refine lv_i2l hx hb dL_law_908 rfl ?_
      refine W.lcmp hx hb dL_law_909 ?_
      rw [lg_same]
      refine lv_if_eq (tgt := 915) hx hb dL_law_910 (by decide) (fun hq3 => ?_) (fun hq3 => ?_)
      · skip
        refine lv_goto (tgt := 1098) hx hb dL_law_915 (by decide) ?_
        exact kk w2 H locs ls _ _ _ hL2.1 hI (lv_sub hl [2, 3, 4, 5, 6] rfl) (by omega) (by omega)
      · exact absurd rfl hq3
  · exact absurd rfl hq
set_option maxRecDepth 100000 in
set_option maxHeartbeats 2000000 in
theorem cs_has (C : LC p l R s m c args D K n0 w0 A c0 b L xs) (hI : mp_I D cl_all A s.heap w H locs) (hL : LI K w xb xm ja bc) {i : Nat} (hi : i + 5 ≤ L) (hl : lv_has ls 7 [(4, .int (nI i)), (0, .ref b), (1, .ref xb), (2, .ref xm), (3, .ref ja)]) (hrc : 65 * cells + 1019890 ≤ 65 * R.cells + bc) (hrs : slots + 2006012 ≤ R.slots + 2 * bc) (kk : LK p l e R s m args below meth c Q D K A b xb xm ja bc i cells slots) : W p l e R s m args below meth c H locs cells slots Q (F0 m 918 ls []) := by
  obtain ⟨f, mi, h, I, A1, σ, O, c1, g, hB, hM, hj, rfl, rfl, d1, d2, d3⟩ := hL
  have hE := C.1
  have hx := hE.1.1.1
  have hb := hE.1.1.2.1
  have hbc := hB.2.2.2.2.2.2.2.2
  obtain ⟨hLN, hRf, hRl⟩ := C.2.2.2.2.2.2
  refine lv_aload_n hx hb dL_law_918 rfl (lv_at hl 2 rfl) ?_
  refine lv_aload_n hx hb dL_law_919 rfl (lv_at hl 1 rfl) ?_
  refine lv_iload hx hb dL_law_920 (lv_at hl 0 rfl) ?_
  refine lv_iconst (v := nI 1) hx hb dL_law_922 (by decide) ?_
  refine lv_iadd hx hb dL_law_923 ?_
  refine lx_ild C hI (i := i + 1) (by omega) (nI_add _ _) dL_law_924 ?_
  refine lv_aload_n hx hb dL_law_925 rfl (lv_at hl 1 rfl) ?_
  refine lv_iload hx hb dL_law_926 (lv_at hl 0 rfl) ?_
  refine lv_iconst (v := nI 2) hx hb dL_law_928 (by decide) ?_
  refine lv_iadd hx hb dL_law_929 ?_
  refine lx_ild C hI (i := i + 2) (by omega) (nI_add _ _) dL_law_930 ?_
  refine lv_aload_n hx hb dL_law_931 rfl (lv_at hl 4 rfl) ?_
  refine lx_St (n := 4) C.2.1 hE hI (kL_has C.2.2.1 hB hj d2 (xs (i + 1)) (xs (i + 2))) gm_L116 gt_L_has gz_L gc_L_has (by decide +kernel) ⟨by omega, by omega⟩ rfl hl.1 rfl (Nat.le_of_ble_eq_true rfl) dL_law_932 ⟨by omega, by omega⟩ (fun v w1 H locs hq hI => ?_)
  obtain ⟨rfl, hlb, g1, hj1, hg1⟩ := hq
  show W _ _ _ _ _ _ _ _ _ _ _ _ _ _ _ (F0 _ _ _ [.int _])
  have hM1 := hM.aft d1 d3 hlb
  refine lv_istore hx hb dL_law_935 hl (by decide) rfl (fun ls hl => ?_)
  refine lv_aload_n hx hb dL_law_937 rfl (lv_at hl 4 rfl) ?_
  refine lv_aload_n hx hb dL_law_938 rfl (lv_at hl 2 rfl) ?_
  refine lv_iload hx hb dL_law_939 (lv_at hl 1 rfl) ?_
  refine lv_iconst (v := nI 1) hx hb dL_law_941 (by decide) ?_
  refine lv_iadd hx hb dL_law_942 ?_
  refine lx_ild C hI (i := i + 1) (by omega) (nI_add _ _) dL_law_943 ?_
  refine lv_aload_n hx hb dL_law_944 rfl (lv_at hl 2 rfl) ?_
  refine lv_iload hx hb dL_law_945 (lv_at hl 1 rfl) ?_
  refine lv_iconst (v := nI 2) hx hb dL_law_947 (by decide) ?_
  refine lv_iadd hx hb dL_law_948 ?_
  refine lx_ild C hI (i := i + 2) (by omega) (nI_add _ _) dL_law_949 ?_
  refine ct_V (n := 2) hE hI (kM_has hM1 (xs (i + 1)) (xs (i + 2))) hM1.o rfl gm_L118 gi_M_has gs_M_M_has gz_M gc_M_has (by decide +kernel) ⟨by omega, by omega⟩ rfl hl.1 rfl (Nat.le_of_ble_eq_true rfl) dL_law_950 ⟨by omega, by omega⟩ (fun v w2 H locs hq hI => ?_)
  obtain ⟨rfl, I2, A2, hM2⟩ := hq
  show W _ _ _ _ _ _ _ _ _ _ _ _ _ _ _ (F0 _ _ _ [.int _])
  have hL2 := LI.mk hM d1 d2 d3 hlb hj1 hM2
  refine lv_istore hx hb dL_law_953 hl (by decide) rfl (fun ls hl => ?_)
  refine lv_aload_n hx hb dL_law_955 rfl (lv_at hl 5 rfl) ?_
  refine ct_V (n := 0) hE hI (kM_thrown hM2.1.1) hM2.o rfl gm_L78 gi_M_thrown gs_M_M_thrown gz_M gc_M_thrown (by decide +kernel) ⟨by omega, by omega⟩ rfl hl.1 rfl (Nat.le_of_ble_eq_true rfl) dL_law_956 ⟨by omega, by omega⟩ (fun v w3 H locs hq hI => ?_)
  obtain ⟨hw, rfl⟩ := hq
  subst w3
  show W _ _ _ _ _ _ _ _ _ _ _ _ _ _ _ (F0 _ _ _ [.int _])
  rw [hM2.2.2.2]
  refine lv_iload hx hb dL_law_959 (lv_at hl 1 rfl) ?_
  refine lv_icmp_eq (tgt := 966) hx hb dL_law_961 (by decide) (fun hq => ?_) (fun hq => ?_)
  · skip
    refine lv_iload hx hb dL_law_966 (lv_at hl 1 rfl) ?_
    refine lv_if_ne (tgt := 983) hx hb dL_law_968 (by decide) (fun hq2 => ?_) (fun hq2 => ?_)
    · skip
      refine lv_goto (tgt := 1098) hx hb dL_law_983 (by decide) ?_
      exact kk w2 H locs ls _ _ _ hL2.1 hI (lv_sub hl [2, 3, 4, 5, 6] rfl) (by omega) (by omega)
    · have hr0 : (op_has σ (xs (i + 1)) (xs (i + 2))).1 = 0 := by
        have hle := op_has_le σ (xs (i + 1)) (xs (i + 2))
        exact cd_0 (by omega) hq2
      refine lv_aload_n hx hb dL_law_971 rfl (lv_at hl 6 rfl) ?_
      refine lv_iconst (v := nI 0) hx hb dL_law_972 (by decide) ?_
      refine mp_lld hE.1 hI hL2.2 2 rfl (vp_in_nI (by omega) (by omega)) dL_law_973 ?_
      rw [nI_clamp (by omega), hg1 hr0]
      refine lv_iload hx hb dL_law_974 (lv_at hl 0 rfl) ?_
      refine lv_i2l hx hb dL_law_976 rfl ?_
      refine W.lcmp hx hb dL_law_977 ?_
      rw [lg_same]
      refine lv_if_eq (tgt := 983) hx hb dL_law_978 (by decide) (fun hq3 => ?_) (fun hq3 => ?_)
      · skip
        refine lv_goto (tgt := 1098) hx hb dL_law_983 (by decide) ?_
        exact kk w2 H locs ls _ _ _ hL2.1 hI (lv_sub hl [2, 3, 4, 5, 6] rfl) (by omega) (by omega)
      · exact absurd rfl hq3
  · exact absurd rfl hq
set_option maxRecDepth 100000 in
set_option maxHeartbeats 2000000 in
theorem cs_write (C : LC p l R s m c args D K n0 w0 A c0 b L xs) (hI : mp_I D cl_all A s.heap w H locs) (hL : LI K w xb xm ja bc) {i : Nat} (hi : i + 5 ≤ L) (hl : lv_has ls 7 [(4, .int (nI i)), (0, .ref b), (1, .ref xb), (2, .ref xm), (3, .ref ja)]) (hrc : 65 * cells + 1019890 ≤ 65 * R.cells + bc) (hrs : slots + 2006012 ≤ R.slots + 2 * bc) (kk : LK p l e R s m args below meth c Q D K A b xb xm ja bc i cells slots) : W p l e R s m args below meth c H locs cells slots Q (F0 m 986 ls []) := by
  obtain ⟨f, mi, h, I, A1, σ, O, c1, g, hB, hM, hj, rfl, rfl, d1, d2, d3⟩ := hL
  have hE := C.1
  have hx := hE.1.1.1
  have hb := hE.1.1.2.1
  have hbc := hB.2.2.2.2.2.2.2.2
  obtain ⟨hLN, hRf, hRl⟩ := C.2.2.2.2.2.2
  refine lv_aload_n hx hb dL_law_986 rfl (lv_at hl 2 rfl) ?_
  refine lv_aload_n hx hb dL_law_987 rfl (lv_at hl 1 rfl) ?_
  refine lv_iload hx hb dL_law_988 (lv_at hl 0 rfl) ?_
  refine lv_iconst (v := nI 1) hx hb dL_law_990 (by decide) ?_
  refine lv_iadd hx hb dL_law_991 ?_
  refine lx_ild C hI (i := i + 1) (by omega) (nI_add _ _) dL_law_992 ?_
  refine lv_aload_n hx hb dL_law_993 rfl (lv_at hl 4 rfl) ?_
  have hwl := wr_le2 hB (xs (i + 1))
  refine lx_St (n := 3) C.2.1 hE hI (kL_write C.2.2.1 hB hj d2 (xs (i + 1))) gm_L119 gt_L_write gz_L gc_L_write (by decide +kernel) ⟨by omega, by omega⟩ rfl hl.1 rfl (Nat.le_of_ble_eq_true rfl) dL_law_994 ⟨by omega, by omega⟩ (fun v w1 H locs hq hI => ?_)
  obtain ⟨rfl, hlb, g1, hj1, hg1⟩ := hq
  show W _ _ _ _ _ _ _ _ _ _ _ _ _ _ _ (F0 _ _ _ [.int _])
  have hM1 := hM.aft d1 d3 hlb
  refine lv_istore hx hb dL_law_997 hl (by decide) rfl (fun ls hl => ?_)
  refine lv_aload_n hx hb dL_law_999 rfl (lv_at hl 4 rfl) ?_
  refine lv_aload_n hx hb dL_law_1000 rfl (lv_at hl 2 rfl) ?_
  refine lv_iload hx hb dL_law_1001 (lv_at hl 1 rfl) ?_
  refine lv_iconst (v := nI 1) hx hb dL_law_1003 (by decide) ?_
  refine lv_iadd hx hb dL_law_1004 ?_
  refine lx_ild C hI (i := i + 1) (by omega) (nI_add _ _) dL_law_1005 ?_
  refine ct_V (n := 1) hE hI (kM_write hM1 (xs (i + 1))) hM1.o rfl gm_L122 gi_M_write gs_M_M_write gz_M gc_M_write (by decide +kernel) ⟨by omega, by omega⟩ rfl hl.1 rfl (Nat.le_of_ble_eq_true rfl) dL_law_1006 ⟨by omega, by omega⟩ (fun v w2 H locs hq hI => ?_)
  obtain ⟨⟨x2, rfl, hx2⟩, I2, A2, hM2⟩ := hq
  show W _ _ _ _ _ _ _ _ _ _ _ _ _ _ _ (F0 _ _ _ [.int _])
  have hL2 := LI.mk hM d1 d2 d3 hlb hj1 hM2
  refine lv_istore hx hb dL_law_1009 hl (by decide) rfl (fun ls hl => ?_)
  refine lv_aload_n hx hb dL_law_1011 rfl (lv_at hl 5 rfl) ?_
  refine ct_V (n := 0) hE hI (kM_thrown hM2.1.1) hM2.o rfl gm_L78 gi_M_thrown gs_M_M_thrown gz_M gc_M_thrown (by decide +kernel) ⟨by omega, by omega⟩ rfl hl.1 rfl (Nat.le_of_ble_eq_true rfl) dL_law_1012 ⟨by omega, by omega⟩ (fun v w3 H locs hq hI => ?_)
  obtain ⟨hw, rfl⟩ := hq
  subst w3
  show W _ _ _ _ _ _ _ _ _ _ _ _ _ _ _ (F0 _ _ _ [.int _])
  rw [hM2.2.2.2]
  refine lv_iload hx hb dL_law_1015 (lv_at hl 1 rfl) ?_
  refine lv_icmp_eq (tgt := 1022) hx hb dL_law_1017 (by decide) (fun hq => ?_) (fun hq => ?_)
  · skip
    refine lv_iload hx hb dL_law_1022 (lv_at hl 1 rfl) ?_
    refine lv_if_ne (tgt := 1039) hx hb dL_law_1024 (by decide) (fun hq2 => ?_) (fun hq2 => ?_)
    · skip
      refine lv_goto (tgt := 1098) hx hb dL_law_1039 (by decide) ?_
      exact kk w2 H locs ls _ _ _ hL2.1 hI (lv_sub hl [2, 3, 4, 5, 6] rfl) (by omega) (by omega)
    · have hr0 : rk (xs (i + 1)) ≠ none := fun hz => by
        rw [if_pos hz] at hq2
        exact absurd hq2 (by decide)
      refine lv_aload_n hx hb dL_law_1027 rfl (lv_at hl 6 rfl) ?_
      refine lv_iconst (v := nI 0) hx hb dL_law_1028 (by decide) ?_
      refine mp_lld hE.1 hI hL2.2 2 rfl (vp_in_nI (by omega) (by omega)) dL_law_1029 ?_
      rw [nI_clamp (by omega), hg1 hr0]
      refine lv_iload hx hb dL_law_1030 (lv_at hl 0 rfl) ?_
      refine lv_i2l hx hb dL_law_1032 rfl ?_
      refine W.lcmp hx hb dL_law_1033 ?_
      rw [hx2 hr0, lg_same]
      refine lv_if_eq (tgt := 1039) hx hb dL_law_1034 (by decide) (fun hq3 => ?_) (fun hq3 => ?_)
      · skip
        refine lv_goto (tgt := 1098) hx hb dL_law_1039 (by decide) ?_
        exact kk w2 H locs ls _ _ _ hL2.1 hI (lv_sub hl [2, 3, 4, 5, 6] rfl) (by omega) (by omega)
      · exact absurd rfl hq3
  · exact absurd rfl hq
set_option maxRecDepth 100000 in
set_option maxHeartbeats 2000000 in
theorem cs_out (C : LC p l R s m c args D K n0 w0 A c0 b L xs) (hI : mp_I D cl_all A s.heap w H locs) (hL : LI K w xb xm ja bc) {i : Nat} (hi : i + 5 ≤ L) (hl : lv_has ls 7 [(4, .int (nI i)), (0, .ref b), (1, .ref xb), (2, .ref xm), (3, .ref ja)]) (hrc : 65 * cells + 1019890 ≤ 65 * R.cells + bc) (hrs : slots + 2006012 ≤ R.slots + 2 * bc) (kk : LK p l e R s m args below meth c Q D K A b xb xm ja bc i cells slots) : W p l e R s m args below meth c H locs cells slots Q (F0 m 1042 ls []) := by
  obtain ⟨f, mi, h, I, A1, σ, O, c1, g, hB, hM, hj, rfl, rfl, d1, d2, d3⟩ := hL
  have hE := C.1
  have hx := hE.1.1.1
  have hb := hE.1.1.2.1
  have hbc := hB.2.2.2.2.2.2.2.2
  obtain ⟨hLN, hRf, hRl⟩ := C.2.2.2.2.2.2
  refine lv_aload_n hx hb dL_law_1042 rfl (lv_at hl 2 rfl) ?_
  refine lv_aload_n hx hb dL_law_1043 rfl (lv_at hl 1 rfl) ?_
  refine lv_iload hx hb dL_law_1044 (lv_at hl 0 rfl) ?_
  refine lv_iconst (v := nI 1) hx hb dL_law_1046 (by decide) ?_
  refine lv_iadd hx hb dL_law_1047 ?_
  refine lx_ild C hI (i := i + 1) (by omega) (nI_add _ _) dL_law_1048 ?_
  refine lv_aload_n hx hb dL_law_1049 rfl (lv_at hl 4 rfl) ?_
  refine lx_St (n := 3) C.2.1 hE hI (kL_out C.2.2.1 hB hj d2 (xs (i + 1))) gm_L123 gt_L_out gz_L gc_L_out (by decide +kernel) ⟨by omega, by omega⟩ rfl hl.1 rfl (Nat.le_of_ble_eq_true rfl) dL_law_1050 ⟨by omega, by omega⟩ (fun v w1 H locs hq hI => ?_)
  obtain ⟨hlb, g1, hj1, hv⟩ := hq
  have hM1 := hM.aft d1 d3 hlb
  rcases hv with ⟨rfl, k1, x1, e1, e2, e3, e4⟩ | ⟨rfl, hbad⟩
  · show W _ _ _ _ _ _ _ _ _ _ _ _ _ _ _ (F0 _ _ _ [.int _])
    refine lv_istore hx hb dL_law_1053 hl (by decide) rfl (fun ls hl => ?_)
    refine lv_aload_n hx hb dL_law_1055 rfl (lv_at hl 4 rfl) ?_
    refine lv_aload_n hx hb dL_law_1056 rfl (lv_at hl 2 rfl) ?_
    refine lv_iload hx hb dL_law_1057 (lv_at hl 1 rfl) ?_
    refine lv_iconst (v := nI 1) hx hb dL_law_1059 (by decide) ?_
    refine lv_iadd hx hb dL_law_1060 ?_
    refine lx_ild C hI (i := i + 1) (by omega) (nI_add _ _) dL_law_1061 ?_
    refine ct_V (n := 1) hE hI (kM_out hM1 (xs (i + 1))) hM1.o rfl gm_L125 gi_M_out gs_M_M_out gz_M gc_M_out (by decide +kernel) ⟨by omega, by omega⟩ rfl hl.1 rfl (Nat.le_of_ble_eq_true rfl) dL_law_1062 ⟨by omega, by omega⟩ (fun v w2 H locs hq hI => ?_)
    rcases hq with ⟨⟨k2, x2, a1, a2, a3, rfl⟩, I2, A2, hM2⟩ | ⟨hbad2, rfl, I2, A2, hM2⟩
    · have ek : k2 = k1 := (nI_eq (by omega) (by omega)).mp (a1.symm.trans e1)
      subst ek
      have ex : x2 = x1 := Option.some.inj (a3.symm.trans e3)
      subst ex
      show W _ _ _ _ _ _ _ _ _ _ _ _ _ _ _ (F0 _ _ _ [.int _])
      have hL2 := LI.mk hM d1 d2 d3 hlb hj1 hM2
      refine lv_istore hx hb dL_law_1065 hl (by decide) rfl (fun ls hl => ?_)
      refine lv_aload_n hx hb dL_law_1067 rfl (lv_at hl 5 rfl) ?_
      refine ct_V (n := 0) hE hI (kM_thrown hM2.1.1) hM2.o rfl gm_L78 gi_M_thrown gs_M_M_thrown gz_M gc_M_thrown (by decide +kernel) ⟨by omega, by omega⟩ rfl hl.1 rfl (Nat.le_of_ble_eq_true rfl) dL_law_1068 ⟨by omega, by omega⟩ (fun v w3 H locs hq hI => ?_)
      obtain ⟨hw, rfl⟩ := hq
      subst w3
      show W _ _ _ _ _ _ _ _ _ _ _ _ _ _ _ (F0 _ _ _ [.int _])
      rw [hM2.2.2.2]
      refine lv_iload hx hb dL_law_1071 (lv_at hl 1 rfl) ?_
      refine lv_icmp_eq (tgt := 1078) hx hb dL_law_1073 (by decide) (fun hq => ?_) (fun hq => ?_)
      · skip
        refine lv_iload hx hb dL_law_1078 (lv_at hl 1 rfl) ?_
        refine lv_if_ne (tgt := 1095) hx hb dL_law_1080 (by decide) (fun hq2 => ?_) (fun hq2 => ?_)
        · exact absurd rfl hq2
        · skip
          refine lv_aload_n hx hb dL_law_1083 rfl (lv_at hl 6 rfl) ?_
          refine lv_iconst (v := nI 0) hx hb dL_law_1084 (by decide) ?_
          refine mp_lld hE.1 hI hL2.2 2 rfl (vp_in_nI (by omega) (by omega)) dL_law_1085 ?_
          rw [nI_clamp (by omega), e4]
          refine lv_iload hx hb dL_law_1086 (lv_at hl 0 rfl) ?_
          refine lv_i2l hx hb dL_law_1088 rfl ?_
          refine W.lcmp hx hb dL_law_1089 ?_
          rw [lg_same]
          refine lv_if_eq (tgt := 1095) hx hb dL_law_1090 (by decide) (fun hq3 => ?_) (fun hq3 => ?_)
          · skip
            refine lv_goto (tgt := 1098) hx hb dL_law_1095 (by decide) ?_
            exact kk w2 H locs ls _ _ _ hL2.1 hI (lv_sub hl [2, 3, 4, 5, 6] rfl) (by omega) (by omega)
          · exact absurd rfl hq3
      · exact absurd rfl hq
    · exfalso
      have hkl := (List.getElem?_eq_some_iff.mp e3).1
      rw [e1, nI_toInt (by omega)] at hbad2
      omega
  · show W _ _ _ _ _ _ _ _ _ _ _ _ _ _ _ (F0 _ _ _ [.int _])
    refine lv_istore hx hb dL_law_1053 hl (by decide) rfl (fun ls hl => ?_)
    refine lv_aload_n hx hb dL_law_1055 rfl (lv_at hl 4 rfl) ?_
    refine lv_aload_n hx hb dL_law_1056 rfl (lv_at hl 2 rfl) ?_
    refine lv_iload hx hb dL_law_1057 (lv_at hl 1 rfl) ?_
    refine lv_iconst (v := nI 1) hx hb dL_law_1059 (by decide) ?_
    refine lv_iadd hx hb dL_law_1060 ?_
    refine lx_ild C hI (i := i + 1) (by omega) (nI_add _ _) dL_law_1061 ?_
    refine ct_V (n := 1) hE hI (kM_out hM1 (xs (i + 1))) hM1.o rfl gm_L125 gi_M_out gs_M_M_out gz_M gc_M_out (by decide +kernel) ⟨by omega, by omega⟩ rfl hl.1 rfl (Nat.le_of_ble_eq_true rfl) dL_law_1062 ⟨by omega, by omega⟩ (fun v w2 H locs hq hI => ?_)
    rcases hq with ⟨⟨k2, x2, a1, a2, a3, rfl⟩, I2, A2, hM2⟩ | ⟨hbad2, rfl, I2, A2, hM2⟩
    · exfalso
      have hkl := (List.getElem?_eq_some_iff.mp a3).1
      rw [a1, nI_toInt (by omega)] at hbad
      omega
    · skip
      show W _ _ _ _ _ _ _ _ _ _ _ _ _ _ _ (F0 _ _ _ [.int _])
      have hL2 := LI.mk hM d1 d2 d3 hlb hj1 hM2
      refine lv_istore hx hb dL_law_1065 hl (by decide) rfl (fun ls hl => ?_)
      refine lv_aload_n hx hb dL_law_1067 rfl (lv_at hl 5 rfl) ?_
      refine ct_V (n := 0) hE hI (kM_thrown hM2.1.1) hM2.o rfl gm_L78 gi_M_thrown gs_M_M_thrown gz_M gc_M_thrown (by decide +kernel) ⟨by omega, by omega⟩ rfl hl.1 rfl (Nat.le_of_ble_eq_true rfl) dL_law_1068 ⟨by omega, by omega⟩ (fun v w3 H locs hq hI => ?_)
      obtain ⟨hw, rfl⟩ := hq
      subst w3
      show W _ _ _ _ _ _ _ _ _ _ _ _ _ _ _ (F0 _ _ _ [.int _])
      rw [hM2.2.2.2]
      refine lv_iload hx hb dL_law_1071 (lv_at hl 1 rfl) ?_
      refine lv_icmp_eq (tgt := 1078) hx hb dL_law_1073 (by decide) (fun hq => ?_) (fun hq => ?_)
      · skip
        refine lv_iload hx hb dL_law_1078 (lv_at hl 1 rfl) ?_
        refine lv_if_ne (tgt := 1095) hx hb dL_law_1080 (by decide) (fun hq2 => ?_) (fun hq2 => ?_)
        · skip
          refine lv_goto (tgt := 1098) hx hb dL_law_1095 (by decide) ?_
          exact kk w2 H locs ls _ _ _ hL2.1 hI (lv_sub hl [2, 3, 4, 5, 6] rfl) (by omega) (by omega)
        · exact absurd hq2 (by decide)
      · exact absurd rfl hq
end LW2
