section
/-! terms as trees: an (a b) is .append a b; FUNCTION of the name j is .tag j a; all else is a leaf, whose token is tm_val (FREE n: n; the VARIABLE of the name j: -1 - j) -/
def tm_leaf : Std.Format → Bool
  | .append _ _ => false
  | .tag _ _ => false
  | _ => true
def tm_val : Std.Format → Int
  | .nest n _ => n
  | _ => 0
theorem tm_ind {P : Std.Format → Prop} (hl : ∀ t, tm_leaf t = true → P t) (hf : ∀ j a, P a → P (.tag j a)) (ha : ∀ a b, P a → P b → P (.append a b)) (t : Std.Format) : P t := by
  induction t with
  | append a b iha ihb => exact ha a b iha ihb
  | tag j a ih => exact hf j a ih
  | nil => exact hl _ rfl
  | line => exact hl _ rfl
  | align b => exact hl _ rfl
  | text s => exact hl _ rfl
  | nest n f _ => exact hl _ rfl
  | group f b _ => exact hl _ rfl
def tm_sz : Std.Format → Nat
  | .append a b => 1 + tm_sz a + tm_sz b
  | .tag _ a => 1 + tm_sz a
  | _ => 1
def tm_dp : Std.Format → Nat
  | .append a b => 1 + max (tm_dp a) (tm_dp b)
  | .tag _ a => 1 + tm_dp a
  | _ => 1
def tm_nf : Std.Format → Nat
  | .append a b => tm_nf a + tm_nf b
  | .tag _ a => 1 + tm_nf a
  | _ => 0
def tm_fn : Std.Format → List Nat
  | .append a b => tm_fn a ++ tm_fn b
  | .tag j a => j :: tm_fn a
  | _ => []
/-- a term as a row, in the order in which it is written; E: the names of the FUNCTIONS around, the innermost first -/
def tm_ln (fa : Int) (ff : Nat → Int) (fl : List Nat → Int → Int) : Std.Format → List Nat → List Int
  | .append a b, E => fa :: (tm_ln fa ff fl a E ++ tm_ln fa ff fl b E)
  | .tag j a, E => ff j :: tm_ln fa ff fl a (j :: E)
  | t, E => [fl E (tm_val t)]
theorem tm_sz_leaf {t : Std.Format} (h : tm_leaf t = true) : tm_sz t = 1 := by cases t <;> first | rfl | cases h
theorem tm_dp_leaf {t : Std.Format} (h : tm_leaf t = true) : tm_dp t = 1 := by cases t <;> first | rfl | cases h
theorem tm_nf_leaf {t : Std.Format} (h : tm_leaf t = true) : tm_nf t = 0 := by cases t <;> first | rfl | cases h
theorem tm_fn_leaf {t : Std.Format} (h : tm_leaf t = true) : tm_fn t = [] := by cases t <;> first | rfl | cases h
theorem tm_ln_leaf {fa : Int} {ff : Nat → Int} {fl : List Nat → Int → Int} {t : Std.Format} (h : tm_leaf t = true) (E : List Nat) : tm_ln fa ff fl t E = [fl E (tm_val t)] := by cases t <;> first | rfl | cases h
theorem tm_ln_app {fa : Int} {ff : Nat → Int} {fl : List Nat → Int → Int} (a b : Std.Format) (E : List Nat) : tm_ln fa ff fl (.append a b) E = fa :: (tm_ln fa ff fl a E ++ tm_ln fa ff fl b E) := rfl
theorem tm_ln_fun {fa : Int} {ff : Nat → Int} {fl : List Nat → Int → Int} (j : Nat) (a : Std.Format) (E : List Nat) : tm_ln fa ff fl (.tag j a) E = ff j :: tm_ln fa ff fl a (j :: E) := rfl
theorem tm_ln_len {fa : Int} {ff : Nat → Int} {fl : List Nat → Int → Int} (t : Std.Format) : ∀ E, (tm_ln fa ff fl t E).length = tm_sz t := by
  induction t using tm_ind with
  | hl t h => intro E; rw [tm_ln_leaf h, tm_sz_leaf h]; rfl
  | hf j a ih => intro E; rw [tm_ln_fun, List.length_cons, ih]; show _ = 1 + tm_sz a; omega
  | ha a b iha ihb => intro E; rw [tm_ln_app, List.length_cons, List.length_append, iha, ihb]; show _ = 1 + tm_sz a + tm_sz b; omega
theorem tm_sz_pos (t : Std.Format) : 1 ≤ tm_sz t := by
  induction t using tm_ind with
  | hl t h => rw [tm_sz_leaf h]; omega
  | hf j a ih => show 1 ≤ 1 + tm_sz a; omega
  | ha a b iha ihb => show 1 ≤ 1 + tm_sz a + tm_sz b; omega
theorem tm_dp_pos (t : Std.Format) : 1 ≤ tm_dp t := by
  induction t using tm_ind with
  | hl t h => rw [tm_dp_leaf h]; omega
  | hf j a ih => show 1 ≤ 1 + tm_dp a; omega
  | ha a b iha ihb => show 1 ≤ 1 + max (tm_dp a) (tm_dp b); omega
theorem tm_dp_sz (t : Std.Format) : tm_dp t ≤ tm_sz t := by
  induction t using tm_ind with
  | hl t h => rw [tm_sz_leaf h, tm_dp_leaf h]; omega
  | hf j a ih => show 1 + tm_dp a ≤ 1 + tm_sz a; omega
  | ha a b iha ihb => show 1 + max (tm_dp a) (tm_dp b) ≤ 1 + tm_sz a + tm_sz b; omega
theorem tm_nf_sz (t : Std.Format) : tm_nf t + 1 ≤ tm_sz t := by
  induction t using tm_ind with
  | hl t h => rw [tm_sz_leaf h, tm_nf_leaf h]; omega
  | hf j a ih => show 1 + tm_nf a + 1 ≤ 1 + tm_sz a; omega
  | ha a b iha ihb => show tm_nf a + tm_nf b + 1 ≤ 1 + tm_sz a + tm_sz b; omega
/-- the place of a name among those around -/
def tm_ix (v : Nat) : List Nat → Nat
  | [] => 0
  | k :: E => if k = v then 0 else tm_ix v E + 1
theorem tm_ix_in {v : Nat} {E : List Nat} (h : v ∈ E) : tm_ix v E < E.length := by
  induction E with
  | nil => cases h
  | cons k E ih =>
    by_cases hk : k = v
    · simp [tm_ix, hk]
    · have h2 : v ∈ E := by
        rcases List.mem_cons.mp h with h | h
        · exact absurd h.symm hk
        · exact h
      have := ih h2
      simp [tm_ix, hk]
      omega
theorem tm_ix_at {v : Nat} {E : List Nat} (h : v ∈ E) : E[tm_ix v E]? = some v := by
  induction E with
  | nil => cases h
  | cons k E ih =>
    by_cases hk : k = v
    · simp [tm_ix, hk]
    · have h2 : v ∈ E := by
        rcases List.mem_cons.mp h with h | h
        · exact absurd h.symm hk
        · exact h
      simp [tm_ix, hk, ih h2]
theorem tm_ix_left {v : Nat} {F : List Nat} (h : v ∈ F) (E : List Nat) : tm_ix v (F ++ E) = tm_ix v F := by
  induction F with
  | nil => cases h
  | cons k F ih =>
    by_cases hk : k = v
    · simp [tm_ix, hk]
    · have h2 : v ∈ F := by
        rcases List.mem_cons.mp h with h | h
        · exact absurd h.symm hk
        · exact h
      simp [tm_ix, hk, ih h2]
theorem tm_ix_right {v : Nat} {F : List Nat} (h : v ∉ F) (E : List Nat) : tm_ix v (F ++ E) = F.length + tm_ix v E := by
  induction F with
  | nil => simp
  | cons k F ih =>
    have hk : k ≠ v := fun q => h (by simp [q])
    have h2 : v ∉ F := fun q => h (by simp [q])
    simp [tm_ix, hk, ih h2]
    omega
/-- a leaf's cell in the class -/
def tm_lc (E : List Nat) (n : Int) : Int := if 0 ≤ n then n else 100 + (tm_ix (-1 - n).toNat E : Int)
theorem tm_lc_nn (E : List Nat) (n : Int) : 0 ≤ tm_lc E n := by
  unfold tm_lc
  split <;> omega
theorem tm_lc_free {E : List Nat} {n : Int} (h : 0 ≤ n) : tm_lc E n = n := by simp [tm_lc, h]
theorem tm_lc_var {E : List Nat} {n : Int} (h : n < 0) : tm_lc E n = 100 + (tm_ix (-1 - n).toNat E : Int) := by
  have : ¬ 0 ≤ n := by omega
  simp [tm_lc, this]
/-- the class's row, the reference's, and the kinds ((a b) 2, FUNCTION 1, a leaf 0) -/
def tm_db (t : Std.Format) (E : List Nat) : List Int := tm_ln (-1) (fun _ => -2) tm_lc t E
def tm_row (t : Std.Format) : List Int := tm_ln 1000 (fun j => 2000 + (j : Int)) (fun _ n => n) t []
def tm_ks (t : Std.Format) : List Int := tm_ln 2 (fun _ => 1) (fun _ _ => 0) t []
theorem tm_db_leaf {t : Std.Format} (h : tm_leaf t = true) (E : List Nat) : tm_db t E = [tm_lc E (tm_val t)] := tm_ln_leaf h E
theorem tm_db_app (a b : Std.Format) (E : List Nat) : tm_db (.append a b) E = -1 :: (tm_db a E ++ tm_db b E) := rfl
theorem tm_db_fun (j : Nat) (a : Std.Format) (E : List Nat) : tm_db (.tag j a) E = -2 :: tm_db a (j :: E) := rfl
theorem tm_db_len (t : Std.Format) (E : List Nat) : (tm_db t E).length = tm_sz t := tm_ln_len t E
theorem tm_ln_env {fa : Int} {ff : Nat → Int} {g : Int → Int} (t : Std.Format) : ∀ E, tm_ln fa ff (fun _ n => g n) t E = tm_ln fa ff (fun _ n => g n) t [] := by
  induction t using tm_ind with
  | hl t h => intro E; rw [tm_ln_leaf h, tm_ln_leaf h]
  | hf j a ih => intro E; rw [tm_ln_fun, tm_ln_fun, ih (j :: E), ih [j]]
  | ha a b iha ihb => intro E; rw [tm_ln_app, tm_ln_app, iha E, ihb E]
theorem tm_row_leaf {t : Std.Format} (h : tm_leaf t = true) : tm_row t = [tm_val t] := tm_ln_leaf h []
theorem tm_row_app (a b : Std.Format) : tm_row (.append a b) = 1000 :: (tm_row a ++ tm_row b) := rfl
theorem tm_row_fun (j : Nat) (a : Std.Format) : tm_row (.tag j a) = (2000 + (j : Int)) :: tm_row a := by
  show _ :: tm_ln _ _ _ a [j] = _
  rw [tm_ln_env (g := fun n => n) a [j]]
  rfl
theorem tm_row_len (t : Std.Format) : (tm_row t).length = tm_sz t := tm_ln_len t []
theorem tm_ks_leaf {t : Std.Format} (h : tm_leaf t = true) : tm_ks t = [0] := tm_ln_leaf h []
theorem tm_ks_app (a b : Std.Format) : tm_ks (.append a b) = 2 :: (tm_ks a ++ tm_ks b) := rfl
theorem tm_ks_fun (j : Nat) (a : Std.Format) : tm_ks (.tag j a) = 1 :: tm_ks a := by
  show _ :: tm_ln _ _ _ a [j] = _
  rw [tm_ln_env (g := fun _ => 0) a [j]]
  rfl
theorem tm_ks_len (t : Std.Format) : (tm_ks t).length = tm_sz t := tm_ln_len t []
/-- every VARIABLE has its FUNCTION around it; every FREE one is of 0 .. 99 -/
def tm_sc : Std.Format → List Nat → Prop
  | .append a b, E => tm_sc a E ∧ tm_sc b E
  | .tag j a, E => tm_sc a (j :: E)
  | t, E => (0 ≤ tm_val t ∧ tm_val t ≤ 99) ∨ (tm_val t < 0 ∧ (-1 - tm_val t).toNat ∈ E)
theorem tm_sc_leaf {t : Std.Format} (h : tm_leaf t = true) (E : List Nat) : tm_sc t E = ((0 ≤ tm_val t ∧ tm_val t ≤ 99) ∨ (tm_val t < 0 ∧ (-1 - tm_val t).toNat ∈ E)) := by cases t <;> first | rfl | cases h
theorem tm_sc_mono (t : Std.Format) : ∀ E E', (∀ v ∈ E, v ∈ E') → tm_sc t E → tm_sc t E' := by
  induction t using tm_ind with
  | hl t h =>
    intro E E' hE hs
    rw [tm_sc_leaf h] at hs ⊢
    rcases hs with hs | ⟨h1, h2⟩
    · exact Or.inl hs
    · exact Or.inr ⟨h1, hE _ h2⟩
  | hf j a ih =>
    intro E E' hE hs
    refine ih (j :: E) (j :: E') (fun v hv => ?_) hs
    rcases List.mem_cons.mp hv with h | h
    · exact h ▸ List.mem_cons_self
    · exact List.mem_cons_of_mem _ (hE v h)
  | ha a b iha ihb => intro E E' hE hs; exact ⟨iha E E' hE hs.1, ihb E E' hE hs.2⟩
/-- the FUNCTIONS are numbered in the order of the row, from k on -/
def tm_cn : Std.Format → Nat → Prop
  | .append a b, k => tm_cn a k ∧ tm_cn b (k + tm_nf a)
  | .tag j a, k => j = k ∧ tm_cn a (k + 1)
  | _, _ => True
theorem tm_cn_leaf {t : Std.Format} (h : tm_leaf t = true) (k : Nat) : tm_cn t k = True := by cases t <;> first | rfl | cases h
theorem tm_cn_fn (t : Std.Format) : ∀ k, tm_cn t k → ∀ n ∈ tm_fn t, k ≤ n ∧ n < k + tm_nf t := by
  induction t using tm_ind with
  | hl t h => intro k _ n hn; rw [tm_fn_leaf h] at hn; cases hn
  | hf j a ih =>
    intro k hc n hn
    obtain ⟨rfl, hc⟩ := hc
    show j ≤ n ∧ n < j + (1 + tm_nf a)
    rcases List.mem_cons.mp hn with h | h
    · omega
    · have := ih _ hc n h
      omega
  | ha a b iha ihb =>
    intro k hc n hn
    show k ≤ n ∧ n < k + (tm_nf a + tm_nf b)
    rcases List.mem_append.mp hn with h | h
    · have := iha _ hc.1 n h
      omega
    · have := ihb _ hc.2 n h
      omega
theorem tm_db_cl (t : Std.Format) : ∀ G E, tm_sc t G → tm_db t (G ++ E) = tm_db t G := by
  induction t using tm_ind with
  | hl t h =>
    intro G E hs
    rw [tm_db_leaf h, tm_db_leaf h]
    rw [tm_sc_leaf h] at hs
    rcases hs with ⟨h1, h2⟩ | ⟨h1, h2⟩
    · rw [tm_lc_free h1, tm_lc_free h1]
    · rw [tm_lc_var h1, tm_lc_var h1, tm_ix_left h2]
  | hf j a ih =>
    intro G E hs
    rw [tm_db_fun, tm_db_fun]
    exact congrArg _ (ih (j :: G) E hs)
  | ha a b iha ihb => intro G E hs; rw [tm_db_app, tm_db_app, iha G E hs.1, ihb G E hs.2]
/-- the walk along a class's row: what waits (150 at most), and the count; p for an (a b), q for a FUNCTION -/
def tm_pop : List Nat → List Nat × Nat
  | [] => ([], 0)
  | y :: h => (h, y)
def tm_wk (p q : Nat) (s : List Nat × Nat) (x : Int) : List Nat × Nat :=
  if x = -1 then (if s.1.length < 150 then (s.2 + p) :: s.1 else s.1, s.2 + p) else if x = -2 then (s.1, s.2 + q) else tm_pop s.1
theorem tm_wk_a (p q : Nat) {h : List Nat} (hh : h.length < 150) (c : Nat) : tm_wk p q (h, c) (-1) = ((c + p) :: h, c + p) := by simp [tm_wk, hh]
theorem tm_wk_f (p q : Nat) (h : List Nat) (c : Nat) : tm_wk p q (h, c) (-2) = (h, c + q) := rfl
theorem tm_wk_l (p q : Nat) (s : List Nat × Nat) {x : Int} (hx : 0 ≤ x) : tm_wk p q s x = tm_pop s.1 := by
  have h1 : ¬ x = -1 := by omega
  have h2 : ¬ x = -2 := by omega
  simp [tm_wk, h1, h2]
def tm_ws (p q : Nat) (s : List Nat × Nat) (L : List Int) : List Nat × Nat := L.foldl (tm_wk p q) s
theorem tm_ws_app (p q : Nat) (s : List Nat × Nat) (L M : List Int) : tm_ws p q s (L ++ M) = tm_ws p q (tm_ws p q s L) M := List.foldl_append ..
theorem tm_ws_cons (p q : Nat) (s : List Nat × Nat) (x : Int) (M : List Int) : tm_ws p q s (x :: M) = tm_ws p q (tm_wk p q s x) M := rfl
theorem tm_dp_f (j : Nat) (a : Std.Format) : tm_dp (.tag j a) = 1 + tm_dp a := rfl
theorem tm_dp_a (a b : Std.Format) : tm_dp (.append a b) = 1 + max (tm_dp a) (tm_dp b) := rfl
theorem tm_ws_db (p q : Nat) (t : Std.Format) : ∀ E h c, h.length + tm_dp t ≤ 151 → tm_ws p q (h, c) (tm_db t E) = tm_pop h := by
  induction t using tm_ind with
  | hl t h => intro E s c _; rw [tm_db_leaf h, tm_ws_cons, tm_wk_l _ _ _ (tm_lc_nn _ _)]; rfl
  | hf j a ih =>
    intro E s c hh
    rw [tm_dp_f] at hh
    rw [tm_db_fun, tm_ws_cons, tm_wk_f, ih _ _ _ (by omega)]
  | ha a b iha ihb =>
    intro E s c hh
    rw [tm_dp_a] at hh
    have h1 := tm_dp_pos a
    rw [tm_db_app, tm_ws_cons, tm_wk_a _ _ (by omega), tm_ws_app, iha _ _ _ (by simp; omega)]
    show tm_ws p q (s, c + p) _ = _
    rw [ihb _ _ _ (by omega)]
/-- what a walk writes -/
def tm_fl (p q : Nat) (g : Int → Nat → List Int) : List Int → List Nat × Nat → List Int
  | [], _ => []
  | x :: L, s => g x s.2 ++ tm_fl p q g L (tm_wk p q s x)
theorem tm_fl_app (p q : Nat) (g : Int → Nat → List Int) (L M : List Int) : ∀ s, tm_fl p q g (L ++ M) s = tm_fl p q g L s ++ tm_fl p q g M (tm_ws p q s L) := by
  induction L with
  | nil => intro s; rfl
  | cons x L ih => intro s; show g x s.2 ++ tm_fl p q g (L ++ M) _ = (g x s.2 ++ tm_fl p q g L _) ++ _; rw [ih, List.append_assoc]; rfl
theorem tm_fl_cons (p q : Nat) (g : Int → Nat → List Int) (x : Int) (L : List Int) (s : List Nat × Nat) : tm_fl p q g (x :: L) s = g x s.2 ++ tm_fl p q g L (tm_wk p q s x) := rfl
/-- raised by m -/
def tm_gr (m : Nat) (x : Int) (c : Nat) : List Int := [if 99 + (c : Int) < x then x + m else x]
theorem tm_raise (m : Nat) (b : Std.Format) (F E : List Nat) (hF : F.length = m) (hd : ∀ v ∈ E, v ∉ F) : ∀ G h, h.length + tm_dp b ≤ 151 → tm_sc b (G ++ E) → tm_fl 0 1 (tm_gr m) (tm_db b (G ++ E)) (h, G.length) = tm_db b (G ++ (F ++ E)) := by
  induction b using tm_ind with
  | hl t hl =>
    intro G h _ hs
    rw [tm_db_leaf hl, tm_db_leaf hl, tm_fl_cons]
    rw [tm_sc_leaf hl] at hs
    show tm_gr m _ _ ++ [] = _
    rw [List.append_nil]
    unfold tm_gr
    rcases hs with ⟨h1, h2⟩ | ⟨h1, h2⟩
    · rw [tm_lc_free h1, tm_lc_free h1, if_neg (by show ¬ 99 + ((G.length : Nat) : Int) < _; omega)]
    · rw [tm_lc_var h1, tm_lc_var h1]
      by_cases hG : (-1 - tm_val t).toNat ∈ G
      · have h3 := tm_ix_in hG
        rw [tm_ix_left hG, tm_ix_left hG, if_neg (by show ¬ 99 + ((G.length : Nat) : Int) < _; omega)]
      · have hE : (-1 - tm_val t).toNat ∈ E := by
          rcases List.mem_append.mp h2 with q | q
          · exact absurd q hG
          · exact q
        rw [tm_ix_right hG, tm_ix_right hG, tm_ix_right (hd _ hE), if_pos (by show 99 + ((G.length : Nat) : Int) < _; omega), hF]
        congr 1
        omega
  | hf j a ih =>
    intro G h hh hs
    rw [tm_dp_f] at hh
    rw [tm_db_fun, tm_db_fun, tm_fl_cons]
    have h1 := ih (j :: G) h (by omega) hs
    show [if _ then _ else _] ++ tm_fl 0 1 _ _ (h, G.length + 1) = _
    rw [if_neg (by show ¬ 99 + ((G.length : Nat) : Int) < _; omega)]
    exact congrArg _ h1
  | ha x y iha ihb =>
    intro G h hh hs
    rw [tm_dp_a] at hh
    have hx := tm_dp_pos x
    rw [tm_db_app, tm_db_app, tm_fl_cons, tm_wk_a _ _ (by omega), tm_fl_app, tm_ws_db _ _ _ _ _ _ (by simp; omega)]
    show [if _ then _ else _] ++ (tm_fl 0 1 _ _ (G.length :: h, G.length) ++ tm_fl 0 1 _ _ (h, G.length)) = _
    rw [if_neg (by show ¬ 99 + ((G.length : Nat) : Int) < _; omega), iha G _ (by simp; omega) hs.1, ihb G _ (by omega) hs.2]
    rfl
/-- PUT: b for the leaves of the token n -/
def tm_sub (n : Int) (b : Std.Format) : Std.Format → Std.Format
  | .append x y => .append (tm_sub n b x) (tm_sub n b y)
  | .tag j x => .tag j (tm_sub n b x)
  | t => if tm_val t = n then b else t
theorem tm_sub_leaf (n : Int) (b : Std.Format) {t : Std.Format} (h : tm_leaf t = true) : tm_sub n b t = if tm_val t = n then b else t := by cases t <;> first | rfl | cases h
theorem tm_row_sub {n : Int} (hn : n < 1000) (b a : Std.Format) : tm_row (tm_sub n b a) = (tm_row a).flatMap (fun x => if x = n then tm_row b else [x]) := by
  induction a using tm_ind with
  | hl t h =>
    rw [tm_sub_leaf n b h, tm_row_leaf h]
    by_cases hv : tm_val t = n
    · simp [hv]
    · simp [hv, tm_row_leaf h]
  | hf j a ih =>
    show tm_row (.tag j (tm_sub n b a)) = _
    have h1 : ¬ (2000 + (j : Int)) = n := by omega
    rw [tm_row_fun, tm_row_fun, ih, List.flatMap_cons, if_neg h1]
    rfl
  | ha x y iha ihb =>
    show tm_row (.append (tm_sub n b x) (tm_sub n b y)) = _
    have h1 : ¬ (1000 : Int) = n := by omega
    rw [tm_row_app, tm_row_app, iha, ihb, List.flatMap_cons, if_neg h1, List.flatMap_append]
    rfl
/-- the inside of a FUNCTION, filled: RB c is what goes in below c FUNCTIONS -/
def tm_gf (RB : Nat → List Int) (x : Int) (c : Nat) : List Int := if x = 100 + (c : Int) then RB c else [if 100 + (c : Int) < x then x - 1 else x]
theorem tm_fill (RB : Nat → List Int) (b : Std.Format) (j : Nat) (E : List Nat) (hR : ∀ F : List Nat, (∀ v ∈ E, v ∉ F) → RB F.length = tm_db b (F ++ E)) (a : Std.Format) : ∀ F h, h.length + tm_dp a ≤ 151 → tm_sc a (F ++ j :: E) → j ∉ F → (∀ v ∈ E, v ∉ F) → (∀ n ∈ tm_fn a, n ≠ j ∧ n ∉ E) →
    tm_fl 0 1 (tm_gf RB) (tm_db a (F ++ j :: E)) (h, F.length) = tm_db (tm_sub (-1 - (j : Int)) b a) (F ++ E) := by
  induction a using tm_ind with
  | hl t hl =>
    intro F h _ hs hj hE _
    rw [tm_db_leaf hl, tm_fl_cons, tm_sub_leaf _ _ hl]
    rw [tm_sc_leaf hl] at hs
    show tm_gf RB _ F.length ++ [] = _
    rw [List.append_nil]
    unfold tm_gf
    rcases hs with ⟨h1, h2⟩ | ⟨h1, h2⟩
    · rw [tm_lc_free h1, if_neg (by omega), if_neg (by omega), if_neg (by omega), tm_db_leaf hl, tm_lc_free h1]
    · rw [tm_lc_var h1]
      generalize hv : (-1 - tm_val t).toNat = v at h2 ⊢
      by_cases hvj : v = j
      · subst hvj
        rw [tm_ix_right hj]
        have h3 : tm_ix v (v :: E) = 0 := by simp [tm_ix]
        rw [h3, if_pos (by omega), if_pos (by omega), hR F hE]
      · rw [if_neg (show ¬ tm_val t = -1 - (j : Int) by omega), tm_db_leaf hl, tm_lc_var h1, hv]
        by_cases hF : v ∈ F
        · have h3 := tm_ix_in hF
          rw [tm_ix_left hF, tm_ix_left hF, if_neg (by omega), if_neg (by omega)]
        · have h3 : tm_ix v (j :: E) = tm_ix v E + 1 := by simp [tm_ix, Ne.symm hvj]
          rw [tm_ix_right hF, tm_ix_right hF, h3, if_neg (by omega), if_pos (by omega)]
          congr 1
          omega
  | hf i a ih =>
    intro F h hh hs hj hE hn
    rw [tm_dp_f] at hh
    rw [tm_db_fun, tm_fl_cons]
    have hi := hn i (List.mem_cons_self ..)
    have h1 := ih (i :: F) h (by omega) hs (fun q => by
      rcases List.mem_cons.mp q with q | q
      · exact hi.1 q.symm
      · exact hj q) (fun v hv q => by
      rcases List.mem_cons.mp q with q | q
      · exact hi.2 (q ▸ hv)
      · exact hE v hv q) (fun n q => hn n (List.mem_cons_of_mem _ q))
    show tm_gf RB (-2) F.length ++ tm_fl 0 1 _ _ (h, F.length + 1) = tm_db (.tag i (tm_sub _ b a)) (F ++ E)
    unfold tm_gf
    rw [if_neg (by omega), if_neg (by omega), tm_db_fun]
    exact congrArg _ h1
  | ha x y iha ihb =>
    intro F h hh hs hj hE hn
    rw [tm_dp_a] at hh
    have hx := tm_dp_pos x
    rw [tm_db_app, tm_fl_cons, tm_wk_a _ _ (by omega), tm_fl_app, tm_ws_db _ _ _ _ _ _ (by simp; omega)]
    show tm_gf RB (-1) F.length ++ (tm_fl 0 1 _ _ (F.length :: h, F.length) ++ tm_fl 0 1 _ _ (h, F.length)) = tm_db (.append (tm_sub _ b x) (tm_sub _ b y)) (F ++ E)
    rw [iha F _ (by simp; omega) hs.1 hj hE (fun n q => hn n (List.mem_append_left _ q)), ihb F _ (by omega) hs.2 hj hE (fun n q => hn n (List.mem_append_right _ q))]
    unfold tm_gf
    rw [if_neg (by omega), if_neg (by omega), tm_db_app]
    rfl
end
section
/-! terms, second part: bind, put, new names, the same, a place in a term -/
def tm_gb (n : Int) (x : Int) (c : Nat) : List Int := [if x = n then 100 + (c : Int) else x]
theorem tm_close {n : Int} (h0 : 0 ≤ n) (h9 : n ≤ 99) (z : Nat) (a : Std.Format) : ∀ F h, h.length + tm_dp a ≤ 151 → tm_sc a F → z ∉ F → z ∉ tm_fn a →
    tm_fl 0 1 (tm_gb n) (tm_db a F) (h, F.length) = tm_db (tm_sub n (.nest (-1 - (z : Int)) .nil) a) (F ++ [z]) := by
  induction a using tm_ind with
  | hl t hl =>
    intro F h _ hs hz _
    rw [tm_db_leaf hl, tm_fl_cons, tm_sub_leaf _ _ hl]
    rw [tm_sc_leaf hl] at hs
    show tm_gb n _ F.length ++ [] = _
    rw [List.append_nil]
    unfold tm_gb
    rcases hs with ⟨h1, h2⟩ | ⟨h1, h2⟩
    · rw [tm_lc_free h1]
      by_cases hv : tm_val t = n
      · rw [if_pos hv, if_pos hv]
        show _ = [tm_lc (F ++ [z]) (-1 - (z : Int))]
        rw [tm_lc_var (by omega), show (-1 - (-1 - (z : Int))).toNat = z by omega, tm_ix_right hz]
        simp [tm_ix]
      · rw [if_neg hv, if_neg hv, tm_db_leaf hl, tm_lc_free h1]
    · rw [tm_lc_var h1, if_neg (by omega), if_neg (by omega), tm_db_leaf hl, tm_lc_var h1, tm_ix_left h2]
  | hf i a ih =>
    intro F h hh hs hz hn
    rw [tm_dp_f] at hh
    rw [tm_db_fun, tm_fl_cons]
    have h1 := ih (i :: F) h (by omega) hs (fun q => by
      rcases List.mem_cons.mp q with q | q
      · exact hn (q ▸ List.mem_cons_self)
      · exact hz q) (fun q => hn (List.mem_cons_of_mem _ q))
    show tm_gb n (-2) F.length ++ tm_fl 0 1 _ _ (h, F.length + 1) = tm_db (.tag i (tm_sub _ _ a)) (F ++ [z])
    unfold tm_gb
    rw [if_neg (by omega), tm_db_fun]
    exact congrArg _ h1
  | ha x y iha ihb =>
    intro F h hh hs hz hn
    rw [tm_dp_a] at hh
    have hx := tm_dp_pos x
    rw [tm_db_app, tm_fl_cons, tm_wk_a _ _ (by omega), tm_fl_app, tm_ws_db _ _ _ _ _ _ (by simp; omega)]
    show tm_gb n (-1) F.length ++ (tm_fl 0 1 _ _ (F.length :: h, F.length) ++ tm_fl 0 1 _ _ (h, F.length)) = tm_db (.append (tm_sub _ _ x) (tm_sub _ _ y)) (F ++ [z])
    rw [iha F _ (by simp; omega) hs.1 hz (fun q => hn (List.mem_append_left _ q)), ihb F _ (by omega) hs.2 hz (fun q => hn (List.mem_append_right _ q))]
    unfold tm_gb
    rw [if_neg (by omega), tm_db_app]
    rfl
theorem tm_putdb {n : Int} (h0 : 0 ≤ n) (h9 : n ≤ 99) (b : Std.Format) (hb : tm_sc b []) (a : Std.Format) : ∀ E, tm_sc a E → tm_db (tm_sub n b a) E = (tm_db a E).flatMap (fun x => if x = n then tm_db b [] else [x]) := by
  induction a using tm_ind with
  | hl t hl =>
    intro E hs
    rw [tm_sub_leaf _ _ hl, tm_db_leaf hl]
    rw [tm_sc_leaf hl] at hs
    rcases hs with ⟨h1, h2⟩ | ⟨h1, h2⟩
    · rw [tm_lc_free h1]
      by_cases hv : tm_val t = n
      · have h3 := tm_db_cl b [] E hb
        rw [List.nil_append] at h3
        simp [hv, h3]
      · simp [hv, tm_db_leaf hl, tm_lc_free h1]
    · have h3 : ¬ tm_lc E (tm_val t) = n := by rw [tm_lc_var h1]; omega
      rw [if_neg (by omega), tm_db_leaf hl]
      simp [h3]
  | hf j a ih =>
    intro E hs
    show tm_db (.tag j (tm_sub n b a)) E = _
    have h1 : ¬ (-2 : Int) = n := by omega
    rw [tm_db_fun, tm_db_fun, ih _ hs, List.flatMap_cons, if_neg h1]
    rfl
  | ha x y iha ihb =>
    intro E hs
    show tm_db (.append (tm_sub n b x) (tm_sub n b y)) E = _
    have h1 : ¬ (-1 : Int) = n := by omega
    rw [tm_db_app, tm_db_app, iha _ hs.1, ihb _ hs.2, List.flatMap_cons, if_neg h1, List.flatMap_append]
    rfl
theorem tm_sub_sc (n : Int) (b : Std.Format) (E : List Nat) (hb : tm_sc b E) (D : List Nat) (hD : ∀ v ∈ D, v ∈ E ∨ -1 - (v : Int) = n) (a : Std.Format) : ∀ F, tm_sc a (F ++ D) → tm_sc (tm_sub n b a) (F ++ E) := by
  induction a using tm_ind with
  | hl t hl =>
    intro F hs
    rw [tm_sub_leaf _ _ hl]
    by_cases hv : tm_val t = n
    · rw [if_pos hv]
      exact tm_sc_mono b E _ (fun v q => List.mem_append_right _ q) hb
    · rw [if_neg hv, tm_sc_leaf hl]
      rw [tm_sc_leaf hl] at hs
      rcases hs with hs | ⟨h1, h2⟩
      · exact Or.inl hs
      · refine Or.inr ⟨h1, ?_⟩
        rcases List.mem_append.mp h2 with q | q
        · exact List.mem_append_left _ q
        · rcases hD _ q with q | q
          · exact List.mem_append_right _ q
          · exact absurd (by omega) hv
  | hf j a ih => intro F hs; exact ih (j :: F) hs
  | ha x y iha ihb => intro F hs; exact ⟨iha F hs.1, ihb F hs.2⟩
/-- new names, in the order of the row, from k on -/
def tm_rn : Std.Format → (Nat → Nat) → Nat → Std.Format
  | .append a b, f, k => .append (tm_rn a f k) (tm_rn b f (k + tm_nf a))
  | .tag j a, f, k => .tag k (tm_rn a (fun v => if v = j then k else f v) (k + 1))
  | t, f, _ => if tm_val t < 0 then .nest (-1 - (f (-1 - tm_val t).toNat : Int)) .nil else t
theorem tm_rn_leaf {t : Std.Format} (h : tm_leaf t = true) (f : Nat → Nat) (k : Nat) : tm_rn t f k = if tm_val t < 0 then .nest (-1 - (f (-1 - tm_val t).toNat : Int)) .nil else t := by cases t <;> first | rfl | cases h
theorem tm_rn_lleaf {t : Std.Format} (h : tm_leaf t = true) (f : Nat → Nat) (k : Nat) : tm_leaf (tm_rn t f k) = true := by
  rw [tm_rn_leaf h]
  split
  · rfl
  · exact h
theorem tm_rn_sz (t : Std.Format) : ∀ f k, tm_sz (tm_rn t f k) = tm_sz t := by
  induction t using tm_ind with
  | hl t h => intro f k; rw [tm_sz_leaf (tm_rn_lleaf h f k), tm_sz_leaf h]
  | hf j a ih => intro f k; show 1 + tm_sz _ = 1 + tm_sz a; rw [ih]
  | ha a b iha ihb => intro f k; show 1 + tm_sz _ + tm_sz _ = 1 + tm_sz a + tm_sz b; rw [iha, ihb]
theorem tm_rn_dp (t : Std.Format) : ∀ f k, tm_dp (tm_rn t f k) = tm_dp t := by
  induction t using tm_ind with
  | hl t h => intro f k; rw [tm_dp_leaf (tm_rn_lleaf h f k), tm_dp_leaf h]
  | hf j a ih => intro f k; show 1 + tm_dp _ = 1 + tm_dp a; rw [ih]
  | ha a b iha ihb => intro f k; show 1 + max (tm_dp _) (tm_dp _) = 1 + max (tm_dp a) (tm_dp b); rw [iha, ihb]
theorem tm_rn_nf (t : Std.Format) : ∀ f k, tm_nf (tm_rn t f k) = tm_nf t := by
  induction t using tm_ind with
  | hl t h => intro f k; rw [tm_nf_leaf (tm_rn_lleaf h f k), tm_nf_leaf h]
  | hf j a ih => intro f k; show 1 + tm_nf _ = 1 + tm_nf a; rw [ih]
  | ha a b iha ihb => intro f k; show tm_nf _ + tm_nf _ = tm_nf a + tm_nf b; rw [iha, ihb]
theorem tm_rn_cn (t : Std.Format) : ∀ f k, tm_cn (tm_rn t f k) k := by
  induction t using tm_ind with
  | hl t h => intro f k; rw [tm_cn_leaf (tm_rn_lleaf h f k)]; trivial
  | hf j a ih => intro f k; exact ⟨rfl, ih _ _⟩
  | ha a b iha ihb => intro f k; refine ⟨iha _ _, ?_⟩; rw [tm_rn_nf]; exact ihb _ _
theorem tm_rn_sc (t : Std.Format) : ∀ f k E E', tm_sc t E → (∀ v ∈ E, f v ∈ E') → tm_sc (tm_rn t f k) E' := by
  induction t using tm_ind with
  | hl t h =>
    intro f k E E' hs hE
    rw [tm_sc_leaf h] at hs
    rw [tm_rn_leaf h]
    rcases hs with hs | ⟨h1, h2⟩
    · rw [if_neg (by omega), tm_sc_leaf h]
      exact Or.inl hs
    · rw [if_pos h1]
      refine Or.inr ⟨?_, ?_⟩
      · show -1 - ((f _ : Nat) : Int) < 0
        omega
      · show (-1 - (-1 - ((f _ : Nat) : Int))).toNat ∈ E'
        rw [show ∀ z : Nat, (-1 - (-1 - (z : Int))).toNat = z from fun z => by omega]
        exact hE _ h2
  | hf j a ih =>
    intro f k E E' hs hE
    refine ih _ _ (j :: E) (k :: E') hs (fun v hv => ?_)
    show (if v = j then k else f v) ∈ k :: E'
    by_cases q : v = j
    · rw [if_pos q]; exact List.mem_cons_self
    · rw [if_neg q]
      rcases List.mem_cons.mp hv with h | h
      · exact absurd h q
      · exact List.mem_cons_of_mem _ (hE v h)
  | ha a b iha ihb => intro f k E E' hs hE; exact ⟨iha _ _ E E' hs.1 hE, ihb _ _ E E' hs.2 hE⟩
theorem tm_rn_db (t : Std.Format) : ∀ f k E E', tm_sc t E → (∀ v ∈ E, tm_ix (f v) E' = tm_ix v E ∧ f v < k) → tm_db (tm_rn t f k) E' = tm_db t E := by
  induction t using tm_ind with
  | hl t h =>
    intro f k E E' hs hE
    rw [tm_db_leaf (tm_rn_lleaf h f k), tm_db_leaf h]
    rw [tm_sc_leaf h] at hs
    rw [tm_rn_leaf h]
    rcases hs with hs | ⟨h1, h2⟩
    · rw [if_neg (by omega), tm_lc_free hs.1, tm_lc_free hs.1]
    · rw [if_pos h1, tm_lc_var h1]
      show [tm_lc E' (-1 - ((f _ : Nat) : Int))] = _
      rw [tm_lc_var (by omega), show ∀ z : Nat, (-1 - (-1 - (z : Int))).toNat = z from fun z => by omega, (hE _ h2).1]
  | hf j a ih =>
    intro f k E E' hs hE
    show tm_db (.tag k (tm_rn a _ (k + 1))) E' = _
    rw [tm_db_fun, tm_db_fun]
    refine congrArg _ (ih _ _ (j :: E) (k :: E') hs (fun v hv => ?_))
    show tm_ix (if v = j then k else f v) (k :: E') = tm_ix v (j :: E) ∧ (if v = j then k else f v) < k + 1
    by_cases q : v = j
    · subst q
      simp [tm_ix]
    · rw [if_neg q]
      rcases List.mem_cons.mp hv with h | h
      · exact absurd h q
      · have h1 := hE v h
        have h2 : ¬ k = f v := by omega
        have h3 : ¬ j = v := fun z => q z.symm
        simp only [tm_ix, if_neg h2, if_neg h3, h1.1]
        exact ⟨trivial, by omega⟩
  | ha a b iha ihb =>
    intro f k E E' hs hE
    show tm_db (.append (tm_rn a f k) (tm_rn b f (k + tm_nf a))) E' = _
    rw [tm_db_app, tm_db_app, iha _ _ E E' hs.1 hE, ihb _ _ E E' hs.2 (fun v hv => ⟨(hE v hv).1, by have := (hE v hv).2; omega⟩)]
/-- the term with its names put in order -/
def tm_can (t : Std.Format) : Std.Format := tm_rn t (fun v => v) 0
theorem tm_can_db {t : Std.Format} (h : tm_sc t []) : tm_db (tm_can t) [] = tm_db t [] := tm_rn_db t _ 0 [] [] h (fun _ q => by cases q)
theorem tm_can_sc {t : Std.Format} (h : tm_sc t []) : tm_sc (tm_can t) [] := tm_rn_sc t _ 0 [] [] h (fun _ q => by cases q)
/-- the names do not matter for a term without VARIABLES from outside -/
theorem tm_rn_irr (t : Std.Format) : ∀ f g k E, tm_sc t E → (∀ v ∈ E, f v = g v) → tm_rn t f k = tm_rn t g k := by
  induction t using tm_ind with
  | hl t h =>
    intro f g k E hs hE
    rw [tm_sc_leaf h] at hs
    rw [tm_rn_leaf h, tm_rn_leaf h]
    rcases hs with hs | ⟨h1, h2⟩
    · rw [if_neg (by omega), if_neg (by omega)]
    · rw [if_pos h1, if_pos h1, hE _ h2]
  | hf j a ih =>
    intro f g k E hs hE
    show Std.Format.tag k _ = Std.Format.tag k _
    rw [ih _ (fun v => if v = j then k else g v) (k + 1) (j :: E) hs (fun v hv => ?_)]
    show (if v = j then k else f v) = if v = j then k else g v
    by_cases q : v = j
    · rw [if_pos q, if_pos q]
    · rw [if_neg q, if_neg q]
      rcases List.mem_cons.mp hv with h | h
      · exact absurd h q
      · exact hE v h
  | ha a b iha ihb =>
    intro f g k E hs hE
    show Std.Format.append _ _ = Std.Format.append _ _
    rw [iha f g k E hs.1 hE, ihb f g _ E hs.2 hE]
theorem tm_cases (t : Std.Format) : tm_leaf t = true ∨ (∃ j a, t = .tag j a) ∨ ∃ a b, t = .append a b := by
  cases t <;> first | exact Or.inl rfl | exact Or.inr (Or.inl ⟨_, _, rfl⟩) | exact Or.inr (Or.inr ⟨_, _, rfl⟩)
/-- rows without names are the same just where the rows with names in order are -/
theorem tm_same1 (t : Std.Format) : ∀ u E k r r', tm_cn t k → tm_cn u k → tm_sc t E → tm_sc u E → tm_db t E ++ r = tm_db u E ++ r' → tm_row t = tm_row u ∧ tm_nf t = tm_nf u ∧ r = r' := by
  induction t using tm_ind with
  | hl t h =>
    intro u E k r r' _ _ hs hs' he
    rw [tm_sc_leaf h] at hs
    rw [tm_db_leaf h] at he
    rcases tm_cases u with hu | ⟨j, a, rfl⟩ | ⟨a, b, rfl⟩
    · rw [tm_db_leaf hu] at he
      rw [tm_sc_leaf hu] at hs'
      have he1 : tm_lc E (tm_val t) = tm_lc E (tm_val u) := (List.cons.inj he).1
      have he2 : r = r' := (List.cons.inj he).2
      refine ⟨?_, by rw [tm_nf_leaf h, tm_nf_leaf hu], he2⟩
      rw [tm_row_leaf h, tm_row_leaf hu]
      rcases hs with hs | ⟨h1, h2⟩ <;> rcases hs' with hs' | ⟨h3, h4⟩
      · rw [tm_lc_free hs.1, tm_lc_free hs'.1] at he1; rw [he1]
      · rw [tm_lc_free hs.1, tm_lc_var h3] at he1; omega
      · rw [tm_lc_var h1, tm_lc_free hs'.1] at he1; omega
      · rw [tm_lc_var h1, tm_lc_var h3] at he1
        have h5 : tm_ix (-1 - tm_val t).toNat E = tm_ix (-1 - tm_val u).toNat E := by omega
        have h6 := tm_ix_at h2
        rw [h5, tm_ix_at h4] at h6
        have h7 := Option.some.inj h6
        congr 1
        omega
    · rw [tm_db_fun] at he
      have := (List.cons.inj he).1
      have h9 := tm_lc_nn E (tm_val t)
      omega
    · rw [tm_db_app] at he
      have := (List.cons.inj he).1
      have h9 := tm_lc_nn E (tm_val t)
      omega
  | hf j a ih =>
    intro u E k r r' hc hc' hs hs' he
    rw [tm_db_fun] at he
    rcases tm_cases u with hu | ⟨i, b, rfl⟩ | ⟨x, y, rfl⟩
    · rw [tm_db_leaf hu] at he
      have := (List.cons.inj he).1
      have h9 := tm_lc_nn E (tm_val u)
      omega
    · obtain ⟨rfl, hc⟩ := hc
      obtain ⟨rfl, hc'⟩ := hc'
      rw [tm_db_fun] at he
      obtain ⟨h1, h2, h3⟩ := ih b (i :: E) _ r r' hc hc' hs hs' (List.cons.inj he).2
      refine ⟨?_, ?_, h3⟩
      · rw [tm_row_fun, tm_row_fun, h1]
      · show 1 + tm_nf a = 1 + tm_nf b
        rw [h2]
    · rw [tm_db_app] at he
      have := (List.cons.inj he).1
      omega
  | ha a b iha ihb =>
    intro u E k r r' hc hc' hs hs' he
    rw [tm_db_app] at he
    rcases tm_cases u with hu | ⟨i, z, rfl⟩ | ⟨x, y, rfl⟩
    · rw [tm_db_leaf hu] at he
      have := (List.cons.inj he).1
      have h9 := tm_lc_nn E (tm_val u)
      omega
    · rw [tm_db_fun] at he
      have := (List.cons.inj he).1
      omega
    · rw [tm_db_app] at he
      have h0 : (tm_db a E ++ tm_db b E) ++ r = (tm_db x E ++ tm_db y E) ++ r' := (List.cons.inj he).2
      rw [List.append_assoc, List.append_assoc] at h0
      obtain ⟨h1, h2, h3⟩ := iha x E k _ _ hc.1 hc'.1 hs.1 hs'.1 h0
      have hcb := hc.2
      rw [h2] at hcb
      obtain ⟨h4, h5, h6⟩ := ihb y E _ _ _ hcb hc'.2 hs.2 hs'.2 h3
      refine ⟨?_, ?_, h6⟩
      · rw [tm_row_app, tm_row_app, h1, h4]
      · show tm_nf a + tm_nf b = tm_nf x + tm_nf y
        rw [h2, h5]
theorem tm_same2 (t : Std.Format) : ∀ u E r r', tm_sc t E → tm_sc u E → tm_row t ++ r = tm_row u ++ r' → tm_db t E = tm_db u E ∧ r = r' := by
  induction t using tm_ind with
  | hl t h =>
    intro u E r r' hs hs' he
    rw [tm_sc_leaf h] at hs
    rw [tm_row_leaf h] at he
    rcases tm_cases u with hu | ⟨j, a, rfl⟩ | ⟨a, b, rfl⟩
    · rw [tm_row_leaf hu] at he
      refine ⟨?_, (List.cons.inj he).2⟩
      rw [tm_db_leaf h, tm_db_leaf hu, (List.cons.inj he).1]
    · rw [tm_row_fun] at he
      have := (List.cons.inj he).1
      omega
    · rw [tm_row_app] at he
      have := (List.cons.inj he).1
      omega
  | hf j a ih =>
    intro u E r r' hs hs' he
    rw [tm_row_fun] at he
    rcases tm_cases u with hu | ⟨i, b, rfl⟩ | ⟨x, y, rfl⟩
    · rw [tm_row_leaf hu] at he
      rw [tm_sc_leaf hu] at hs'
      have := (List.cons.inj he).1
      omega
    · rw [tm_row_fun] at he
      have h0 := (List.cons.inj he).1
      have h00 : j = i := by omega
      subst h00
      obtain ⟨h1, h2⟩ := ih b (j :: E) r r' hs hs' (List.cons.inj he).2
      exact ⟨by rw [tm_db_fun, tm_db_fun, h1], h2⟩
    · rw [tm_row_app] at he
      have := (List.cons.inj he).1
      omega
  | ha a b iha ihb =>
    intro u E r r' hs hs' he
    rw [tm_row_app] at he
    rcases tm_cases u with hu | ⟨i, z, rfl⟩ | ⟨x, y, rfl⟩
    · rw [tm_row_leaf hu] at he
      rw [tm_sc_leaf hu] at hs'
      have := (List.cons.inj he).1
      omega
    · rw [tm_row_fun] at he
      have := (List.cons.inj he).1
      omega
    · rw [tm_row_app] at he
      have h0 : (tm_row a ++ tm_row b) ++ r = (tm_row x ++ tm_row y) ++ r' := (List.cons.inj he).2
      rw [List.append_assoc, List.append_assoc] at h0
      obtain ⟨h1, h2⟩ := iha x E _ _ hs.1 hs'.1 h0
      obtain ⟨h3, h4⟩ := ihb y E _ _ hs.2 hs'.2 h2
      exact ⟨by rw [tm_db_app, tm_db_app, h1, h3], h4⟩
theorem tm_same {t u : Std.Format} (hc : tm_cn t 0) (hc' : tm_cn u 0) (hs : tm_sc t []) (hs' : tm_sc u []) : tm_db t [] = tm_db u [] ↔ tm_row t = tm_row u := by
  constructor
  · intro h
    exact (tm_same1 t u [] 0 [] [] hc hc' hs hs' (by rw [h])).1
  · intro h
    exact (tm_same2 t u [] [] [] hs hs' (by rw [h])).1
/-- the STEP at the place p -/
def tm_ct : Std.Format → Nat → Std.Format
  | .append x y, p => if p = 0 then (match x with
      | .tag j a => tm_sub (-1 - (j : Int)) y a
      | _ => .append x y) else if p - 1 < tm_sz x then .append (tm_ct x (p - 1)) y else .append x (tm_ct y (p - 1 - tm_sz x))
  | .tag j x, p => .tag j (tm_ct x (p - 1))
  | t, _ => t
theorem tm_ct_0 (j : Nat) (a b : Std.Format) : tm_ct (.append (.tag j a) b) 0 = tm_sub (-1 - (j : Int)) b a := rfl
theorem tm_ct_l (x y : Std.Format) {p : Nat} (h : p < tm_sz x) : tm_ct (.append x y) (p + 1) = .append (tm_ct x p) y := by
  show (if p + 1 = 0 then _ else if p + 1 - 1 < tm_sz x then _ else _) = _
  rw [if_neg (by omega), if_pos (by omega)]
  rfl
theorem tm_ct_r (x y : Std.Format) {p : Nat} : tm_ct (.append x y) (tm_sz x + p + 1) = .append x (tm_ct y p) := by
  show (if tm_sz x + p + 1 = 0 then _ else if tm_sz x + p + 1 - 1 < tm_sz x then _ else _) = _
  rw [if_neg (by omega), if_neg (by omega), show tm_sz x + p + 1 - 1 - tm_sz x = p by omega]
theorem tm_ct_f (j : Nat) (x : Std.Format) (p : Nat) : tm_ct (.tag j x) (p + 1) = .tag j (tm_ct x p) := rfl
theorem tm_hole (t : Std.Format) : ∀ p, p < tm_sz t → ∃ (u : Std.Format) (C : Std.Format → Std.Format) (F : List Nat), C u = t ∧ (p + tm_sz u ≤ tm_sz t ∧ tm_dp u ≤ tm_dp t) ∧
    (∀ fa ff fl z E, tm_ln fa ff fl (C z) E = (tm_ln fa ff fl t E).take p ++ (tm_ln fa ff fl z (F ++ E) ++ (tm_ln fa ff fl t E).drop (p + tm_sz u))) ∧
    (∀ E, tm_sc t E → tm_sc u (F ++ E) ∧ ∀ z, tm_sc z (F ++ E) → tm_sc (C z) E) ∧
    (∀ k, tm_cn t k → ∃ k', k ≤ k' ∧ tm_cn u k' ∧ ∀ v ∈ F, k ≤ v ∧ v < k') ∧
    (∀ j a b, u = .append (.tag j a) b → tm_ct t p = C (tm_sub (-1 - (j : Int)) b a)) := by
  have top : ∀ t : Std.Format, ∃ (u : Std.Format) (C : Std.Format → Std.Format) (F : List Nat), C u = t ∧ (0 + tm_sz u ≤ tm_sz t ∧ tm_dp u ≤ tm_dp t) ∧
    (∀ fa ff fl z E, tm_ln fa ff fl (C z) E = (tm_ln fa ff fl t E).take 0 ++ (tm_ln fa ff fl z (F ++ E) ++ (tm_ln fa ff fl t E).drop (0 + tm_sz u))) ∧
    (∀ E, tm_sc t E → tm_sc u (F ++ E) ∧ ∀ z, tm_sc z (F ++ E) → tm_sc (C z) E) ∧
    (∀ k, tm_cn t k → ∃ k', k ≤ k' ∧ tm_cn u k' ∧ ∀ v ∈ F, k ≤ v ∧ v < k') ∧
    (∀ j a b, u = .append (.tag j a) b → tm_ct t 0 = C (tm_sub (-1 - (j : Int)) b a)) := by
    intro t
    refine ⟨t, fun z => z, [], rfl, ⟨by omega, Nat.le_refl _⟩, fun fa ff fl z E => ?_, fun E h => ⟨h, fun z h => h⟩, fun k h => ⟨k, Nat.le_refl _, h, fun v q => by cases q⟩, fun j a b h => by rw [h]; rfl⟩
    have h1 : (tm_ln fa ff fl t E).drop (0 + tm_sz t) = [] := by
      apply List.drop_eq_nil_of_le
      rw [tm_ln_len]
      omega
    rw [h1]
    simp
  induction t using tm_ind with
  | hl t h =>
    intro p hp
    rw [tm_sz_leaf h] at hp
    have : p = 0 := by omega
    subst this
    exact top t
  | hf j a ih =>
    intro p hp
    cases p with
    | zero => exact top _
    | succ p =>
      have hp : p + 1 < 1 + tm_sz a := hp
      obtain ⟨u, C, F, h1, ⟨h2, hdp⟩, h3, h4, h5, h6⟩ := ih p (by omega)
      refine ⟨u, fun z => .tag j (C z), F ++ [j], by show _ = _; simp only [h1], ⟨by show p + 1 + tm_sz u ≤ 1 + tm_sz a; omega, by rw [tm_dp_f]; omega⟩, fun fa ff fl z E => ?_, fun E h => ?_, fun k h => ?_, fun i x y h => ?_⟩
      · rw [tm_ln_fun, tm_ln_fun, h3, List.append_assoc F [j] E, show p + 1 + tm_sz u = (p + tm_sz u) + 1 by omega, List.take_succ_cons, List.drop_succ_cons]
        rfl
      · rw [List.append_assoc F [j] E]
        exact h4 (j :: E) h
      · obtain ⟨rfl, h⟩ := h
        obtain ⟨k', q1, q2, q3⟩ := h5 _ h
        refine ⟨k', by omega, q2, fun v hv => ?_⟩
        rcases List.mem_append.mp hv with q | q
        · have := q3 v q
          omega
        · have : v = j := by simpa using q
          omega
      · rw [tm_ct_f, h6 i x y h]
  | ha a b iha ihb =>
    intro p hp
    cases p with
    | zero => exact top _
    | succ p =>
      have hp : p + 1 < 1 + tm_sz a + tm_sz b := hp
      by_cases hpa : p < tm_sz a
      · obtain ⟨u, C, F, h1, ⟨h2, hdp⟩, h3, h4, h5, h6⟩ := iha p hpa
        refine ⟨u, fun z => .append (C z) b, F, by show _ = _; simp only [h1], ⟨by show p + 1 + tm_sz u ≤ 1 + tm_sz a + tm_sz b; omega, by rw [tm_dp_a]; omega⟩, fun fa ff fl z E => ?_, fun E h => ?_, fun k h => ?_, fun i x y h => ?_⟩
        · have hlen := tm_ln_len (fa := fa) (ff := ff) (fl := fl) a E
          rw [tm_ln_app, tm_ln_app, h3, show p + 1 + tm_sz u = (p + tm_sz u) + 1 by omega, List.take_succ_cons, List.drop_succ_cons, List.take_append_of_le_length (by omega), List.drop_append_of_le_length (by omega)]
          simp [List.append_assoc]
        · exact ⟨(h4 E h.1).1, fun z hz => ⟨(h4 E h.1).2 z hz, h.2⟩⟩
        · exact h5 k h.1
        · rw [tm_ct_l _ _ hpa, h6 i x y h]
      · obtain ⟨q, rfl⟩ : ∃ q, p = tm_sz a + q := ⟨p - tm_sz a, by omega⟩
        obtain ⟨u, C, F, h1, ⟨h2, hdp⟩, h3, h4, h5, h6⟩ := ihb q (by omega)
        refine ⟨u, fun z => .append a (C z), F, by show _ = _; simp only [h1], ⟨by show tm_sz a + q + 1 + tm_sz u ≤ 1 + tm_sz a + tm_sz b; omega, by rw [tm_dp_a]; omega⟩, fun fa ff fl z E => ?_, fun E h => ?_, fun k h => ?_, fun i x y h => ?_⟩
        · have hlen := tm_ln_len (fa := fa) (ff := ff) (fl := fl) a E
          rw [tm_ln_app, tm_ln_app, h3, show tm_sz a + q + 1 + tm_sz u = (tm_sz a + (q + tm_sz u)) + 1 by omega, List.take_succ_cons, List.drop_succ_cons, ← hlen, List.take_length_add_append, List.drop_length_add_append]
          simp [List.append_assoc]
        · exact ⟨(h4 E h.2).1, fun z hz => ⟨h.1, (h4 E h.2).2 z hz⟩⟩
        · obtain ⟨k', q1, q2, q3⟩ := h5 _ h.2
          exact ⟨k', by omega, q2, fun v hv => by have := q3 v hv; omega⟩
        · rw [tm_ct_r, h6 i x y h]
end
section
/-! terms, third part: kinds, ends, depth, counts, the text -/
def tm_kc (x : Int) : Int := if x = -1 then 2 else if x = -2 then 1 else 0
def tm_kr (x : Int) : Int := if x = 1000 then 2 else if 2000 ≤ x then 1 else 0
theorem tm_kc_leaf {x : Int} (h : 0 ≤ x) : tm_kc x = 0 := by
  have h1 : ¬ x = -1 := by omega
  have h2 : ¬ x = -2 := by omega
  simp [tm_kc, h1, h2]
theorem tm_db_ks (t : Std.Format) : ∀ E, (tm_db t E).map tm_kc = tm_ks t := by
  induction t using tm_ind with
  | hl t h => intro E; rw [tm_db_leaf h, tm_ks_leaf h]; simp [tm_kc_leaf (tm_lc_nn _ _)]
  | hf j a ih => intro E; rw [tm_db_fun, tm_ks_fun, List.map_cons, ih]; rfl
  | ha a b iha ihb => intro E; rw [tm_db_app, tm_ks_app, List.map_cons, List.map_append, iha, ihb]; rfl
theorem tm_row_ks (t : Std.Format) : ∀ E, tm_sc t E → (tm_row t).map tm_kr = tm_ks t := by
  induction t using tm_ind with
  | hl t h =>
    intro E hs
    rw [tm_sc_leaf h] at hs
    rw [tm_row_leaf h, tm_ks_leaf h]
    have h1 : ¬ tm_val t = 1000 := by omega
    have h2 : ¬ 2000 ≤ tm_val t := by omega
    simp [tm_kr, h1, h2]
  | hf j a ih =>
    intro E hs
    rw [tm_row_fun, tm_ks_fun, List.map_cons, ih _ hs]
    have h1 : ¬ (2000 + (j : Int)) = 1000 := by omega
    have h2 : 2000 ≤ 2000 + (j : Int) := by omega
    simp [tm_kr, h1, h2]
  | ha a b iha ihb => intro E hs; rw [tm_row_app, tm_ks_app, List.map_cons, List.map_append, iha _ hs.1, ihb _ hs.2]; rfl
/-- how far the part goes that begins here -/
def tm_en (f : Int → Int) : List Int → Nat → Nat
  | [], _ => 0
  | _ :: _, 0 => 0
  | x :: L, d + 1 => 1 + tm_en f L (d + (f x).toNat)
theorem tm_en_0 (f : Int → Int) (L : List Int) : tm_en f L 0 = 0 := by cases L <;> rfl
theorem tm_en_map (f : Int → Int) (L : List Int) : ∀ d, tm_en f L d = tm_en (fun x => x) (L.map f) d := by
  induction L with
  | nil => intro d; rfl
  | cons x L ih =>
    intro d
    cases d with
    | zero => rfl
    | succ d => show 1 + _ = 1 + _; rw [ih]
theorem tm_en_ks (t : Std.Format) : ∀ r d, tm_en (fun x => x) (tm_ks t ++ r) (d + 1) = tm_sz t + tm_en (fun x => x) r d := by
  induction t using tm_ind with
  | hl t h => intro r d; rw [tm_ks_leaf h, tm_sz_leaf h]; rfl
  | hf j a ih =>
    intro r d
    rw [tm_ks_fun]
    show 1 + tm_en _ (tm_ks a ++ r) (d + 1) = 1 + tm_sz a + _
    rw [ih]
    omega
  | ha a b iha ihb =>
    intro r d
    rw [tm_ks_app]
    show 1 + tm_en _ ((tm_ks a ++ tm_ks b) ++ r) (d + 1 + 1) = 1 + tm_sz a + tm_sz b + _
    rw [List.append_assoc, iha, ihb]
    omega
theorem tm_en_db (t : Std.Format) (E : List Nat) (r : List Int) : tm_en tm_kc (tm_db t E ++ r) 1 = tm_sz t := by
  rw [tm_en_map, List.map_append, tm_db_ks, tm_en_ks, tm_en_0]
  omega
theorem tm_en_row {t : Std.Format} {E : List Nat} (hs : tm_sc t E) (r : List Int) : tm_en tm_kr (tm_row t ++ r) 1 = tm_sz t := by
  rw [tm_en_map, List.map_append, tm_row_ks t E hs, tm_en_ks, tm_en_0]
  omega
/-- the class's depth -/
def tm_dd : List Int → List Nat × Nat → Nat → Nat
  | [], _, d => d
  | x :: L, s, d => if d < 150 then tm_dd L (tm_wk 1 1 s x) (max d s.2) else d
theorem tm_dd_ge (L : List Int) : ∀ s d, d ≤ tm_dd L s d := by
  induction L with
  | nil => intro s d; exact Nat.le_refl _
  | cons x L ih =>
    intro s d
    show d ≤ if _ then _ else _
    split
    · have := ih (tm_wk 1 1 s x) (max d s.2)
      omega
    · omega
theorem tm_dd_cons (x : Int) (L : List Int) (s : List Nat × Nat) {d : Nat} (h : d < 150) : tm_dd (x :: L) s d = tm_dd L (tm_wk 1 1 s x) (max d s.2) := if_pos h
theorem tm_dd_db (t : Std.Format) : ∀ E h c d r, h.length ≤ c → d < 150 → (c + tm_dp t ≤ 150 → tm_dd (tm_db t E ++ r) (h, c) d = tm_dd r (tm_pop h) (max d (c + tm_dp t - 1))) ∧ (150 < c + tm_dp t → 150 ≤ tm_dd (tm_db t E ++ r) (h, c) d) := by
  induction t using tm_ind with
  | hl t hl =>
    intro E h c d r hh hd
    rw [tm_db_leaf hl, tm_dp_leaf hl]
    show (_ → tm_dd (_ :: r) _ _ = _) ∧ (_ → _ ≤ tm_dd (_ :: r) _ _)
    rw [tm_dd_cons _ _ _ hd, tm_wk_l _ _ _ (tm_lc_nn _ _)]
    refine ⟨fun _ => ?_, fun q => ?_⟩
    · rfl
    · have := tm_dd_ge r (tm_pop h) (max d c)
      show 150 ≤ tm_dd r (tm_pop h) (max d c)
      omega
  | hf j a ih =>
    intro E h c d r hh hd
    rw [tm_db_fun, tm_dp_f]
    show (_ → tm_dd (_ :: (tm_db a (j :: E) ++ r)) _ _ = _) ∧ (_ → _ ≤ tm_dd (_ :: (tm_db a (j :: E) ++ r)) _ _)
    rw [tm_dd_cons _ _ _ hd, tm_wk_f]
    show (_ → tm_dd _ (h, c + 1) (max d c) = _) ∧ (_ → _ ≤ tm_dd _ (h, c + 1) (max d c))
    by_cases hc : c < 150
    · have h1 := ih (j :: E) h (c + 1) (max d c) r (by omega) (by omega)
      have h2 := tm_dp_pos a
      refine ⟨fun q => ?_, fun q => h1.2 (by omega)⟩
      rw [h1.1 (by omega)]
      congr 1
      omega
    · have h2 := tm_dp_pos a
      refine ⟨fun q => by omega, fun q => ?_⟩
      have := tm_dd_ge (tm_db a (j :: E) ++ r) (h, c + 1) (max d c)
      omega
  | ha a b iha ihb =>
    intro E h c d r hh hd
    have ha2 := tm_dp_pos a
    have hb2 := tm_dp_pos b
    rw [tm_db_app, tm_dp_a]
    show (_ → tm_dd (_ :: ((tm_db a E ++ tm_db b E) ++ r)) _ _ = _) ∧ (_ → _ ≤ tm_dd (_ :: ((tm_db a E ++ tm_db b E) ++ r)) _ _)
    rw [tm_dd_cons _ _ _ hd]
    by_cases hc : c < 150
    · rw [tm_wk_a _ _ (by omega), List.append_assoc]
      show (_ → tm_dd _ ((c + 1) :: h, c + 1) (max d c) = _) ∧ (_ → _ ≤ tm_dd _ ((c + 1) :: h, c + 1) (max d c))
      have h1 := iha E ((c + 1) :: h) (c + 1) (max d c) (tm_db b E ++ r) (by simp; omega) (by omega)
      by_cases hca : c + 1 + tm_dp a ≤ 150
      · rw [h1.1 hca]
        show (_ → tm_dd _ (h, c + 1) _ = _) ∧ (_ → _ ≤ tm_dd _ (h, c + 1) _)
        have h3 := ihb E h (c + 1) (max (max d c) (c + 1 + tm_dp a - 1)) r (by omega) (by omega)
        refine ⟨fun q => ?_, fun q => h3.2 (by omega)⟩
        rw [h3.1 (by omega)]
        congr 1
        omega
      · exact ⟨fun q => by omega, fun q => h1.2 (by omega)⟩
    · refine ⟨fun q => by omega, fun q => ?_⟩
      have := tm_dd_ge ((tm_db a E ++ tm_db b E) ++ r) (tm_wk 1 1 (h, c) (-1)) (max d c)
      show 150 ≤ tm_dd _ _ (max d c)
      omega
theorem tm_dd_dp (t : Std.Format) (E : List Nat) : (tm_dp t ≤ 150 → tm_dd (tm_db t E) ([], 0) 0 + 1 = tm_dp t) ∧ (150 < tm_dp t → 150 < tm_dd (tm_db t E) ([], 0) 0 + 1) := by
  have h := tm_dd_db t E [] 0 0 [] (Nat.le_refl _) (by omega)
  have h1 := tm_dp_pos t
  rw [List.append_nil] at h
  refine ⟨fun q => ?_, fun q => ?_⟩
  · rw [h.1 (by omega)]
    show max 0 (0 + tm_dp t - 1) + 1 = _
    omega
  · have := h.2 (by omega)
    omega
/-- the text -/
def tm_dg (n : Int) : List Int := (if 10 ≤ n then [48 + n / 10] else []) ++ [48 + n % 10]
def tm_tx : Std.Format → List Nat → List Int
  | .append a b, E => 40 :: (tm_tx a E ++ 32 :: (tm_tx b E ++ [41]))
  | .tag j a, E => 46 :: tm_tx a (j :: E)
  | t, E => if 0 ≤ tm_val t then tm_dg (tm_val t) else List.replicate (tm_ix (-1 - tm_val t).toNat E + 1) 39
theorem tm_tx_leaf {t : Std.Format} (h : tm_leaf t = true) (E : List Nat) : tm_tx t E = if 0 ≤ tm_val t then tm_dg (tm_val t) else List.replicate (tm_ix (-1 - tm_val t).toNat E + 1) 39 := by cases t <;> first | rfl | cases h
theorem tm_tx_app (a b : Std.Format) (E : List Nat) : tm_tx (.append a b) E = 40 :: (tm_tx a E ++ 32 :: (tm_tx b E ++ [41])) := rfl
theorem tm_tx_fun (j : Nat) (a : Std.Format) (E : List Nat) : tm_tx (.tag j a) E = 46 :: tm_tx a (j :: E) := rfl
def tm_lf (x : Int) : List Int := if 99 < x then List.replicate (x - 99).toNat 39 else tm_dg x
def tm_s1 (x : Int) (k : Nat) (last : Bool) : List Int := if x = -1 then [40] else if x = -2 then [46] else tm_lf x ++ (List.replicate k 41 ++ if last = true then [] else [32])
def tm_sh : List Int → List Nat × Nat → List Int
  | [], _ => []
  | x :: L, s => tm_s1 x (s.2 - (tm_wk 1 0 s x).2) L.isEmpty ++ tm_sh L (tm_wk 1 0 s x)
theorem tm_sh_cons (x : Int) (L : List Int) (s : List Nat × Nat) : tm_sh (x :: L) s = tm_s1 x (s.2 - (tm_wk 1 0 s x).2) L.isEmpty ++ tm_sh L (tm_wk 1 0 s x) := rfl
theorem tm_s1_leaf {x : Int} (h : 0 ≤ x) (k : Nat) (last : Bool) : tm_s1 x k last = tm_lf x ++ (List.replicate k 41 ++ if last = true then [] else [32]) := by
  have h1 : ¬ x = -1 := by omega
  have h2 : ¬ x = -2 := by omega
  simp [tm_s1, h1, h2]
theorem tm_lf_lc (t : Std.Format) (h : tm_leaf t = true) (E : List Nat) (hs : tm_sc t E) : tm_lf (tm_lc E (tm_val t)) = tm_tx t E := by
  rw [tm_tx_leaf h]
  rw [tm_sc_leaf h] at hs
  unfold tm_lf
  rcases hs with hs | ⟨h1, h2⟩
  · rw [tm_lc_free hs.1, if_neg (by omega), if_pos hs.1]
  · rw [tm_lc_var h1, if_pos (by omega), if_neg (by omega)]
    congr 1
    omega
theorem tm_db_ne (t : Std.Format) (E : List Nat) (r : List Int) : (tm_db t E ++ r).isEmpty = false := by
  have h1 := tm_db_len t E
  have h2 := tm_sz_pos t
  cases hd : tm_db t E with
  | nil => rw [hd] at h1; simp at h1; omega
  | cons x L => rfl
theorem tm_sh_db (t : Std.Format) : ∀ E h c r, h.length + tm_dp t ≤ 151 → tm_sc t E → (tm_pop h).2 ≤ c →
    tm_sh (tm_db t E ++ r) (h, c) = tm_tx t E ++ (List.replicate (c - (tm_pop h).2) 41 ++ ((if r.isEmpty = true then [] else [32]) ++ tm_sh r (tm_pop h))) := by
  induction t using tm_ind with
  | hl t hl =>
    intro E h c r hh hs hc
    rw [tm_db_leaf hl]
    show tm_sh (_ :: r) _ = _
    rw [tm_sh_cons, tm_wk_l _ _ _ (tm_lc_nn _ _), tm_s1_leaf (tm_lc_nn _ _), tm_lf_lc t hl E hs]
    simp [List.append_assoc]
  | hf j a ih =>
    intro E h c r hh hs hc
    rw [tm_dp_f] at hh
    rw [tm_db_fun, tm_tx_fun]
    show tm_sh (_ :: (tm_db a (j :: E) ++ r)) _ = _
    rw [tm_sh_cons, tm_wk_f]
    show tm_s1 (-2) _ _ ++ tm_sh _ (h, c) = _
    rw [ih (j :: E) h c r (by omega) hs hc]
    rfl
  | ha a b iha ihb =>
    intro E h c r hh hs hc
    rw [tm_dp_a] at hh
    have hx := tm_dp_pos a
    rw [tm_db_app, tm_tx_app]
    show tm_sh (_ :: ((tm_db a E ++ tm_db b E) ++ r)) _ = _
    rw [tm_sh_cons, tm_wk_a _ _ (by omega), List.append_assoc, iha E ((c + 1) :: h) (c + 1) (tm_db b E ++ r) (by simp; omega) hs.1 (Nat.le_refl _)]
    show tm_s1 (-1) _ _ ++ (tm_tx a E ++ (List.replicate (c + 1 - (c + 1)) 41 ++ (_ ++ tm_sh (tm_db b E ++ r) (h, c + 1)))) = _
    rw [ihb E h (c + 1) r (by omega) hs.2 (by omega), tm_db_ne b E r, Nat.sub_self, show c + 1 - (tm_pop h).2 = (c - (tm_pop h).2) + 1 by omega, List.replicate_succ]
    show [40] ++ _ = _
    simp [List.append_assoc]
theorem tm_sh_tx {t : Std.Format} (hd : tm_dp t ≤ 150) (hs : tm_sc t []) : tm_sh (tm_db t []) ([], 0) = tm_tx t [] := by
  have h := tm_sh_db t [] [] 0 [] (by simp; omega) hs (Nat.le_refl _)
  rw [List.append_nil] at h
  rw [h]
  simp [tm_sh, tm_pop]
theorem tm_tx_len (t : Std.Format) : ∀ E, E.length + tm_dp t ≤ 150 → tm_sc t E → (tm_tx t E).length ≤ tm_sz t * 150 := by
  induction t using tm_ind with
  | hl t hl =>
    intro E hE hs
    rw [tm_dp_leaf hl] at hE
    rw [tm_tx_leaf hl, tm_sz_leaf hl]
    rw [tm_sc_leaf hl] at hs
    rcases hs with hs | ⟨h1, h2⟩
    · rw [if_pos hs.1]
      unfold tm_dg
      split <;> simp
    · rw [if_neg (by omega), List.length_replicate]
      have := tm_ix_in h2
      omega
  | hf j a ih =>
    intro E hE hs
    rw [tm_dp_f] at hE
    rw [tm_tx_fun]
    have h1 := ih (j :: E) (by simp; omega) hs
    show _ + 1 ≤ (1 + tm_sz a) * 150
    omega
  | ha a b iha ihb =>
    intro E hE hs
    rw [tm_dp_a] at hE
    rw [tm_tx_app]
    have h1 := iha E (by omega) hs.1
    have h2 := ihb E (by omega) hs.2
    show (tm_tx a E ++ 32 :: (tm_tx b E ++ [41])).length + 1 ≤ (1 + tm_sz a + tm_sz b) * 150
    simp only [List.length_append, List.length_cons, List.length_nil]
    omega
theorem tm_count (n : Int) (h0 : 0 ≤ n) (h9 : n ≤ 99) (t : Std.Format) : ∀ E, tm_sc t E → (tm_db t E).count n = (tm_row t).count n := by
  induction t using tm_ind with
  | hl t hl =>
    intro E hs
    rw [tm_db_leaf hl, tm_row_leaf hl]
    rw [tm_sc_leaf hl] at hs
    rcases hs with hs | ⟨h1, h2⟩
    · rw [tm_lc_free hs.1]
    · have h3 : ¬ tm_lc E (tm_val t) = n := by rw [tm_lc_var h1]; omega
      have h4 : ¬ tm_val t = n := by omega
      simp [List.count_cons, h3, h4]
  | hf j a ih =>
    intro E hs
    have h1 : ¬ (-2 : Int) = n := by omega
    have h2 : ¬ (2000 + (j : Int)) = n := by omega
    rw [tm_db_fun, tm_row_fun, List.count_cons, List.count_cons, ih _ hs]
    simp [h1, h2]
  | ha a b iha ihb =>
    intro E hs
    have h1 : ¬ (-1 : Int) = n := by omega
    have h2 : ¬ (1000 : Int) = n := by omega
    rw [tm_db_app, tm_row_app, List.count_cons, List.count_cons, List.count_append, List.count_append, iha _ hs.1, ihb _ hs.2]
    simp [h1, h2]
end
section
/-! terms, fourth part: what the calls make of terms -/
def tm_ok (t : Std.Format) : Prop := tm_sc t [] ∧ tm_cn t 0 ∧ tm_sz t ≤ 2000 ∧ tm_dp t ≤ 150
def tm_chk (X : Std.Format) : Option Std.Format := if tm_sz X ≤ 2000 ∧ tm_dp X ≤ 150 then some (tm_can X) else none
theorem tm_chk_ok {X t : Std.Format} (hs : tm_sc X []) (h : tm_chk X = some t) : tm_ok t ∧ tm_db t [] = tm_db X [] ∧ t = tm_can X ∧ tm_sz X ≤ 2000 ∧ tm_dp X ≤ 150 := by
  unfold tm_chk at h
  by_cases hc : tm_sz X ≤ 2000 ∧ tm_dp X ≤ 150
  · rw [if_pos hc] at h
    have h1 := (Option.some.inj h).symm
    subst h1
    refine ⟨⟨tm_can_sc hs, tm_rn_cn X _ 0, ?_, ?_⟩, tm_can_db hs, rfl, hc⟩
    · show tm_sz (tm_rn X _ 0) ≤ 2000
      rw [tm_rn_sz]; exact hc.1
    · show tm_dp (tm_rn X _ 0) ≤ 150
      rw [tm_rn_dp]; exact hc.2
  · rw [if_neg hc] at h
    cases h
theorem tm_chk_no {X : Std.Format} (h : tm_chk X = none) : 2000 < tm_sz X ∨ 150 < tm_dp X := by
  unfold tm_chk at h
  by_cases hc : tm_sz X ≤ 2000 ∧ tm_dp X ≤ 150
  · rw [if_pos hc] at h
    cases h
  · omega
/-- a place where there is a STEP -/
def tm_rx (t : Std.Format) (p : Nat) : Prop := (tm_ks t)[p]? = some 2 ∧ (tm_ks t)[p + 1]? = some 1
theorem tm_rx_lt {t : Std.Format} {p : Nat} (h : tm_rx t p) : p + 1 < tm_sz t := by
  have := (List.getElem?_eq_some_iff.mp h.2).1
  rw [tm_ks_len] at this
  exact this
theorem tm_kc_2 {x : Int} (h : tm_kc x = 2) : x = -1 := by
  unfold tm_kc at h
  split at h
  · assumption
  · split at h <;> omega
theorem tm_kc_1 {x : Int} (h : tm_kc x = 1) : x = -2 := by
  unfold tm_kc at h
  split at h
  · omega
  · split at h
    · assumption
    · omega
theorem tm_kr_2 {x : Int} (h : tm_kr x = 2) : x = 1000 := by
  unfold tm_kr at h
  split at h
  · assumption
  · split at h <;> omega
theorem tm_kr_1 {x : Int} (h : tm_kr x = 1) : 2000 ≤ x := by
  unfold tm_kr at h
  split at h
  · omega
  · split at h
    · assumption
    · omega
theorem tm_rx_db (t : Std.Format) (E : List Nat) (p : Nat) : tm_rx t p ↔ ((tm_db t E)[p]? = some (-1) ∧ (tm_db t E)[p + 1]? = some (-2)) := by
  unfold tm_rx
  rw [← tm_db_ks t E, List.getElem?_map, List.getElem?_map]
  constructor
  · rintro ⟨h1, h2⟩
    cases ha : (tm_db t E)[p]? with
    | none => rw [ha] at h1; cases h1
    | some x =>
      cases hb : (tm_db t E)[p + 1]? with
      | none => rw [hb] at h2; cases h2
      | some z =>
        rw [ha] at h1
        rw [hb] at h2
        have e1 := tm_kc_2 (Option.some.inj h1)
        have e2 := tm_kc_1 (Option.some.inj h2)
        exact ⟨by rw [e1], by rw [e2]⟩
  · rintro ⟨h1, h2⟩
    rw [h1, h2]
    exact ⟨rfl, rfl⟩
theorem tm_rx_row (t : Std.Format) {E : List Nat} (hs : tm_sc t E) (p : Nat) : tm_rx t p ↔ ((tm_row t)[p]? = some 1000 ∧ ∃ x, (tm_row t)[p + 1]? = some x ∧ 2000 ≤ x) := by
  unfold tm_rx
  rw [← tm_row_ks t E hs, List.getElem?_map, List.getElem?_map]
  constructor
  · rintro ⟨h1, h2⟩
    cases ha : (tm_row t)[p]? with
    | none => rw [ha] at h1; cases h1
    | some x =>
      cases hb : (tm_row t)[p + 1]? with
      | none => rw [hb] at h2; cases h2
      | some z =>
        rw [ha] at h1
        rw [hb] at h2
        have e1 := tm_kr_2 (Option.some.inj h1)
        have e2 := tm_kr_1 (Option.some.inj h2)
        exact ⟨by rw [e1], z, rfl, e2⟩
  · rintro ⟨h1, x, h2, h3⟩
    rw [h1, h2]
    refine ⟨rfl, ?_⟩
    have h4 : ¬ x = 1000 := by omega
    show some (tm_kr x) = some 1
    simp [tm_kr, h4, h3]
theorem tm_head2 {u : Std.Format} {E : List Nat} {r : List Int} (h1 : (tm_db u E ++ r)[0]? = some (-1)) (h2 : (tm_db u E ++ r)[1]? = some (-2)) : ∃ j a b, u = .append (.tag j a) b := by
  rcases tm_cases u with hu | ⟨j, a, rfl⟩ | ⟨a, b, rfl⟩
  · rw [tm_db_leaf hu] at h1
    have h3 := tm_lc_nn E (tm_val u)
    have : tm_lc E (tm_val u) = -1 := by simpa using h1
    omega
  · rw [tm_db_fun] at h1
    have : (-2 : Int) = -1 := by simpa using h1
    omega
  · rw [tm_db_app] at h2
    rcases tm_cases a with ha | ⟨j, x, rfl⟩ | ⟨x, y, rfl⟩
    · rw [tm_db_leaf ha] at h2
      have h3 := tm_lc_nn E (tm_val a)
      have : tm_lc E (tm_val a) = -2 := by simpa using h2
      omega
    · exact ⟨j, x, b, rfl⟩
    · rw [tm_db_app] at h2
      have : (-1 : Int) = -2 := by simpa using h2
      omega
/-- the STEP, in the class's rows and in the reference's -/
theorem tm_step {t : Std.Format} (hok : tm_ok t) {p : Nat} (hp : tm_rx t p) : ∃ (j : Nat) (a b : Std.Format) (F : List Nat) (pre post pre' post' : List Int),
    pre.length = p ∧ pre'.length = p ∧
    tm_db t [] = pre ++ (-1 :: -2 :: (tm_db a (j :: F) ++ (tm_db b F ++ post))) ∧
    tm_row t = pre' ++ (1000 :: (2000 + (j : Int)) :: (tm_row a ++ (tm_row b ++ post'))) ∧
    tm_db (tm_ct t p) [] = pre ++ (tm_fl 0 1 (tm_gf (fun c => tm_fl 0 1 (tm_gr c) (tm_db b F) ([], 0))) (tm_db a (j :: F)) ([], 0) ++ post) ∧
    tm_row (tm_ct t p) = pre' ++ ((tm_row a).flatMap (fun x => if x = -1 - (j : Int) then tm_row b else [x]) ++ post') ∧
    tm_sc (tm_ct t p) [] ∧ tm_sc a (j :: F) ∧ tm_sc b F ∧ tm_dp a ≤ 148 ∧ tm_dp b ≤ 149 := by
  obtain ⟨hs, hc, hz, hd⟩ := hok
  have hlt := tm_rx_lt hp
  obtain ⟨u, C, F, h1, ⟨h2, hdp⟩, h3, h4, h5, h6⟩ := tm_hole t p (by omega)
  have hdb : ∀ z, tm_db (C z) [] = (tm_db t []).take p ++ (tm_db z F ++ (tm_db t []).drop (p + tm_sz u)) := fun z => by
    have := h3 (-1) (fun _ => -2) tm_lc z []
    rw [List.append_nil] at this
    exact this
  have hrw : ∀ z, tm_row (C z) = (tm_row t).take p ++ (tm_row z ++ (tm_row t).drop (p + tm_sz u)) := fun z => by
    have := h3 1000 (fun j => 2000 + (j : Int)) (fun _ n => n) z []
    rw [List.append_nil, tm_ln_env (g := fun n => n) z F] at this
    exact this
  have hlen : ((tm_db t []).take p).length = p := by
    rw [List.length_take, tm_db_len]
    omega
  have hlen' : ((tm_row t).take p).length = p := by
    rw [List.length_take, tm_row_len]
    omega
  obtain ⟨q1, q2⟩ := (tm_rx_db t [] p).mp hp
  have hu := hdb u
  rw [h1] at hu
  rw [hu, List.getElem?_append_right (by omega), hlen, Nat.sub_self] at q1
  rw [hu, List.getElem?_append_right (by omega), hlen, Nat.add_sub_cancel_left] at q2
  obtain ⟨j, a, b, rfl⟩ := tm_head2 q1 q2
  have hsc := (h4 [] hs).1
  rw [List.append_nil] at hsc
  obtain ⟨hsa, hsb⟩ := hsc
  have hsa : tm_sc a (j :: F) := hsa
  obtain ⟨k', k1, k2, k3⟩ := h5 0 hc
  obtain ⟨⟨rfl, kca⟩, kcb⟩ := k2
  have hfn := tm_cn_fn a _ kca
  rw [tm_dp_a, tm_dp_f] at hdp
  have hsub : tm_db (tm_sub (-1 - (j : Int)) b a) F = tm_fl 0 1 (tm_gf (fun c => tm_fl 0 1 (tm_gr c) (tm_db b F) ([], 0))) (tm_db a (j :: F)) ([], 0) := by
    have h8 := tm_fill (fun c => tm_fl 0 1 (tm_gr c) (tm_db b F) ([], 0)) b j F (fun G hG => ?_) a [] [] (by simp; omega) hsa (by simp) (by simp) (fun n hn => ?_)
    · rw [List.nil_append] at h8
      exact h8.symm
    · have h9 := tm_raise G.length b G F rfl hG [] [] (by simp; omega) hsb
      exact h9
    · have := hfn n hn
      refine ⟨by omega, fun q => ?_⟩
      have := k3 n q
      omega
  refine ⟨j, a, b, F, (tm_db t []).take p, (tm_db t []).drop (p + tm_sz (.append (.tag j a) b)), (tm_row t).take p, (tm_row t).drop (p + tm_sz (.append (.tag j a) b)), hlen, hlen', ?_, ?_, ?_, ?_, ?_, hsa, hsb, by omega, by omega⟩
  · refine hu.trans ?_
    rw [tm_db_app, tm_db_fun]
    simp [List.append_assoc]
  · have hr := hrw (.append (.tag j a) b)
    rw [h1] at hr
    refine hr.trans ?_
    rw [tm_row_app, tm_row_fun]
    simp [List.append_assoc]
  · rw [h6 j a b rfl, hdb, hsub]
  · rw [h6 j a b rfl, hrw, tm_row_sub (by omega)]
  · rw [h6 j a b rfl]
    refine (h4 [] hs).2 _ ?_
    rw [List.append_nil]
    have := tm_sub_sc (-1 - (j : Int)) b F hsb (j :: F) (fun v hv => ?_) a [] hsa
    · exact this
    · rcases List.mem_cons.mp hv with q | q
      · exact Or.inr (by rw [q])
      · exact Or.inl q
/-- the first STEP's place; that of the HEAD -/
def tm_f1 : List Int → Option Nat
  | x :: y :: L => if x = 2 ∧ y = 1 then some 0 else (tm_f1 (y :: L)).map (· + 1)
  | _ => none
def tm_h1 : List Int → Option Nat
  | x :: y :: L => if x = 2 then (if y = 1 then some 0 else (tm_h1 (y :: L)).map (· + 1)) else none
  | _ => none
theorem tm_f1_some (K : List Int) : ∀ p, tm_f1 K = some p → (K[p]? = some 2 ∧ K[p + 1]? = some 1) ∧ ∀ q, q < p → ¬ (K[q]? = some 2 ∧ K[q + 1]? = some 1) := by
  induction K with
  | nil => intro p h; cases h
  | cons x K ih =>
    intro p h
    cases K with
    | nil => cases h
    | cons y L =>
      have h : (if x = 2 ∧ y = 1 then some 0 else (tm_f1 (y :: L)).map (· + 1)) = some p := h
      by_cases hc : x = 2 ∧ y = 1
      · rw [if_pos hc] at h
        have := Option.some.inj h
        subst this
        exact ⟨by simp [hc.1, hc.2], fun q hq => by omega⟩
      · rw [if_neg hc] at h
        cases hf : tm_f1 (y :: L) with
        | none => rw [hf] at h; cases h
        | some p' =>
          rw [hf] at h
          have hp : p = p' + 1 := (Option.some.inj h).symm
          subst hp
          obtain ⟨h1, h2⟩ := ih p' hf
          refine ⟨by simpa using h1, fun q hq => ?_⟩
          cases q with
          | zero => simpa using hc
          | succ q => simpa using h2 q (by omega)
theorem tm_f1_none (K : List Int) : tm_f1 K = none → ∀ q : Nat, ¬ (K[q]? = some 2 ∧ K[q + 1]? = some 1) := by
  induction K with
  | nil => intro _ q; simp
  | cons x K ih =>
    intro h q
    cases K with
    | nil => simp
    | cons y L =>
      have h : (if x = 2 ∧ y = 1 then some 0 else (tm_f1 (y :: L)).map (· + 1)) = none := h
      by_cases hc : x = 2 ∧ y = 1
      · rw [if_pos hc] at h; cases h
      · rw [if_neg hc] at h
        cases hf : tm_f1 (y :: L) with
        | some p' => rw [hf] at h; cases h
        | none =>
          cases q with
          | zero => simpa using hc
          | succ q => simpa using ih hf q
theorem tm_h1_some (K : List Int) : ∀ p, tm_h1 K = some p → (K[p]? = some 2 ∧ K[p + 1]? = some 1) ∧ ∀ q, q < p → K[q]? = some 2 ∧ ¬ K[q + 1]? = some 1 := by
  induction K with
  | nil => intro p h; cases h
  | cons x K ih =>
    intro p h
    cases K with
    | nil => cases h
    | cons y L =>
      have h : (if x = 2 then (if y = 1 then some 0 else (tm_h1 (y :: L)).map (· + 1)) else none) = some p := h
      by_cases hx : x = 2
      · rw [if_pos hx] at h
        by_cases hy : y = 1
        · rw [if_pos hy] at h
          have := Option.some.inj h
          subst this
          exact ⟨by simp [hx, hy], fun q hq => by omega⟩
        · rw [if_neg hy] at h
          cases hf : tm_h1 (y :: L) with
          | none => rw [hf] at h; cases h
          | some p' =>
            rw [hf] at h
            have hp : p = p' + 1 := (Option.some.inj h).symm
            subst hp
            obtain ⟨h1, h2⟩ := ih p' hf
            refine ⟨by simpa using h1, fun q hq => ?_⟩
            cases q with
            | zero => simp [hx, hy]
            | succ q => simpa using h2 q (by omega)
      · rw [if_neg hx] at h; cases h
theorem tm_h1_none (K : List Int) : tm_h1 K = none → ∀ q : Nat, (∀ r : Nat, r < q → K[r]? = some 2 ∧ ¬ K[r + 1]? = some 1) → ¬ (K[q]? = some 2 ∧ K[q + 1]? = some 1) := by
  induction K with
  | nil => intro _ q; simp
  | cons x K ih =>
    intro h q hr
    cases K with
    | nil => simp
    | cons y L =>
      have h : (if x = 2 then (if y = 1 then some 0 else (tm_h1 (y :: L)).map (· + 1)) else none) = none := h
      by_cases hx : x = 2
      · rw [if_pos hx] at h
        by_cases hy : y = 1
        · rw [if_pos hy] at h; cases h
        · rw [if_neg hy] at h
          cases hf : tm_h1 (y :: L) with
          | some p' => rw [hf] at h; cases h
          | none =>
            cases q with
            | zero => simp [hy]
            | succ q => simpa using ih hf q (fun r hrq => by simpa using hr (r + 1) (by omega))
      · cases q with
        | zero => simp [hx]
        | succ q =>
          have := (hr 0 (by omega)).1
          simp [hx] at this
/-- all STEPS, or those of the HEAD: none where one is beyond, some none where there are too many -/
def tm_rd (hd : Bool) : Nat → Nat → Std.Format → Option (Option (Nat × Std.Format))
  | 0, _, _ => some none
  | f + 1, n, t => match (if hd = true then tm_h1 (tm_ks t) else tm_f1 (tm_ks t)) with
    | none => some (some (n, t))
    | some p => match tm_chk (tm_ct t p) with
      | none => none
      | some u => tm_rd hd f (n + 1) u
end
